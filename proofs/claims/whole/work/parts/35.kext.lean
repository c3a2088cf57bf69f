set_option maxHeartbeats 4000000 in
set_option maxRecDepth 100000 in
theorem c_k_isx (l : Launch) (dC : Nat → ClassId) (dI : Nat → Nat → Nat) (cI cB cJ cZ : ClassId) (k0 a1 a2 a3 a4 a5 a6 a7 a8 a9 : Nat) (co : Int32) (nB : Nat) (dn wr lf : Int32) (E : Nat) (ch : Int32) (t : Nat) (x : Int32) : ey_Mi l y_K_isExtent w_K_isExtent { frames := 0, cells := 0, slots := 0, locals := 0 } (dC, dI) vwCl (ey_kt cI cB cJ cZ) [.ref k0, .int x] [(k0, .inr (4, [.int co, .int (nI nB), .int dn, .int wr, .int lf, .int (nI E), .ref a1, .ref a2, .ref a3, .ref a4, .ref a5, .int ch, .ref a6, .ref a7, .ref a8, .int (nI t), .ref a9]))] (fun (r : Int32) (u : Unit) => r = ek_isx dn E x) (fun (u : Unit) => [(k0, .inr (4, [.int co, .int (nI nB), .int dn, .int wr, .int lf, .int (nI E), .ref a1, .ref a2, .ref a3, .ref a4, .ref a5, .int ch, .ref a6, .ref a7, .ref a8, .int (nI t), .ref a9]))]) 0 0 := by
  intro sz
  refine Met.ofW (cc := b_K_isExtent) (maxL := 2) (ret := (some .boolean)) (by decide) rfl ?_
  intro p e s m args below meth c s₁ B hml hv
  obtain ⟨rfl, hsz, hP, hK, hG, hD0⟩ := hv
  have hx := B.exec
  have hb := B.bytes
  have hr := B.returns
  have hts := fun (w : Cond) (h : w ∈ ew_T) => atoms_spec (ws := w_K_isExtent) B.pre w (List.mem_cons_of_mem _ h)
  have hown : s.vm.findClass R_K = some m.cls := findClass_of_methodNamed B.named
  have hlocks := B.notSynchronized
  subst hsz
  have hD := hD0.self (sz := s.heap.size)
  generalize hAe : va_A [(k0, .inr (4, [.int co, .int (nI nB), .int dn, .int wr, .int lf, .int (nI E), .ref a1, .ref a2, .ref a3, .ref a4, .ref a5, .int ch, .ref a6, .ref a7, .ref a8, .int (nI t), .ref a9]))] s.heap.size = A at hD ⊢
  have hA : ∀ q : Nat, s.heap.size ≤ q → A q := fun q h => by rw [← hAe]; exact Or.inr h
  have hS : va_S A s.heap s.heap [] := va_S.rf
  have hP : va_P (dC, dI) vwCl [(k0, .inr (4, [.int co, .int (nI nB), .int dn, .int wr, .int lf, .int (nI E), .ref a1, .ref a2, .ref a3, .ref a4, .ref a5, .int ch, .ref a6, .ref a7, .ref a8, .int (nI t), .ref a9]))] s.heap := hP
  have hl := lv_entry ([.ref k0, .int x]) (n := 2) (Nat.le_of_ble_eq_true rfl)
  rw [lg_entry_eq]
  generalize (lg_sl ([.ref k0, .int x]) ++ List.replicate (2 - (lg_sl ([.ref k0, .int x])).length) Slot.unset).toArray = ls at hl ⊢
  have hl : lv_has ls 2 [(0, .ref k0), (1, .int x)] := hl
  refine lv_aload_n hx hb d_K_isExtent_0 rfl (lv_at hl 0 rfl) ?_
  refine va_get (D := (dC, dI)) (ci := 4) (v := .int dn) (C := R_K) (T := T_K) (N := 17) hx hb hts in_K hown hK hP 0 rfl rfl 2 (by decide) (hts _ ew_421) (fun _ h9 => h9) rfl d_K_isExtent_1 ?_
  refine lv_if_ne (tgt := 23) hx hb d_K_isExtent_4 (by decide) (fun c_4 => ?_) (fun c_4 => ?_)
  · refine lv_iconst (v := 0) hx hb d_K_isExtent_23 (by decide) ?_
    exact ey_zret (W1 := fun (u : Unit) => [(k0, .inr (4, [.int co, .int (nI nB), .int dn, .int wr, .int lf, .int (nI E), .ref a1, .ref a2, .ref a3, .ref a4, .ref a5, .int ch, .ref a6, .ref a7, .ref a8, .int (nI t), .ref a9]))]) hx hb hr hlocks hP hD hS () [0] rfl (by decide) (by rw [ek_isx, if_pos c_4]) d_K_isExtent_24 (Nat.le_of_ble_eq_true rfl) (Nat.le_of_ble_eq_true rfl) rfl
  · refine lv_iload_n hx hb d_K_isExtent_7 rfl (lv_at hl 1 rfl) ?_
    refine lv_if_lt (tgt := 23) hx hb d_K_isExtent_8 (by decide) (fun c_8 => ?_) (fun c_8 => ?_)
    · refine lv_iconst (v := 0) hx hb d_K_isExtent_23 (by decide) ?_
      exact ey_zret (W1 := fun (u : Unit) => [(k0, .inr (4, [.int co, .int (nI nB), .int dn, .int wr, .int lf, .int (nI E), .ref a1, .ref a2, .ref a3, .ref a4, .ref a5, .int ch, .ref a6, .ref a7, .ref a8, .int (nI t), .ref a9]))]) hx hb hr hlocks hP hD hS () [0] rfl (by decide) (by rw [ek_isx, if_neg (fun h9 => h9 c_4), if_pos c_8]) d_K_isExtent_24 (Nat.le_of_ble_eq_true rfl) (Nat.le_of_ble_eq_true rfl) rfl
    · refine lv_iload_n hx hb d_K_isExtent_11 rfl (lv_at hl 1 rfl) ?_
      refine lv_aload_n hx hb d_K_isExtent_12 rfl (lv_at hl 0 rfl) ?_
      refine va_get (D := (dC, dI)) (ci := 4) (v := .int (nI E)) (C := R_K) (T := T_K) (N := 17) hx hb hts in_K hown hK hP 0 rfl rfl 5 (by decide) (hts _ ew_424) (fun _ h9 => h9) rfl d_K_isExtent_13 ?_
      refine lv_icmp_ge (tgt := 23) hx hb d_K_isExtent_16 (by decide) (fun c_16 => ?_) (fun c_16 => ?_)
      · refine lv_iconst (v := 0) hx hb d_K_isExtent_23 (by decide) ?_
        exact ey_zret (W1 := fun (u : Unit) => [(k0, .inr (4, [.int co, .int (nI nB), .int dn, .int wr, .int lf, .int (nI E), .ref a1, .ref a2, .ref a3, .ref a4, .ref a5, .int ch, .ref a6, .ref a7, .ref a8, .int (nI t), .ref a9]))]) hx hb hr hlocks hP hD hS () [0] rfl (by decide) (by rw [ek_isx, if_neg (fun h9 => h9 c_4), if_neg c_8, if_pos c_16]) d_K_isExtent_24 (Nat.le_of_ble_eq_true rfl) (Nat.le_of_ble_eq_true rfl) rfl
      · refine lv_iconst (v := 1) hx hb d_K_isExtent_19 (by decide) ?_
        refine lv_goto (tgt := 24) hx hb d_K_isExtent_20 (by decide) ?_
        exact ey_zret (W1 := fun (u : Unit) => [(k0, .inr (4, [.int co, .int (nI nB), .int dn, .int wr, .int lf, .int (nI E), .ref a1, .ref a2, .ref a3, .ref a4, .ref a5, .int ch, .ref a6, .ref a7, .ref a8, .int (nI t), .ref a9]))]) hx hb hr hlocks hP hD hS () [0] rfl (by decide) (by rw [ek_isx, if_neg (fun h9 => h9 c_4), if_neg c_8, if_neg c_16]) d_K_isExtent_24 (Nat.le_of_ble_eq_true rfl) (Nat.le_of_ble_eq_true rfl) rfl
set_option maxHeartbeats 4000000 in
set_option maxRecDepth 100000 in
theorem c_k_extent (l : Launch) (dC : Nat → ClassId) (dI : Nat → Nat → Nat) (cI cB cJ cZ : ClassId) (k0 a1 a2 a3 a4 a5 a6 a7 a8 a9 : Nat) (co : Int32) (nB : Nat) (dn wr lf : Int32) (E : Nat) (ch : Int32) (t : Nat) (la fi ma sz : ep_F) (x y : Int32) (hE : E ≤ 199) : ey_Mi l y_K_extent w_K_extent { frames := 1, cells := 0, slots := 0, locals := 21 } (dC, dI) vwCl (ey_kt cI cB cJ cZ) [.ref k0, .int x, .int y] [(k0, .inr (4, [.int co, .int (nI nB), .int dn, .int wr, .int lf, .int (nI E), .ref a1, .ref a2, .ref a3, .ref a4, .ref a5, .int ch, .ref a6, .ref a7, .ref a8, .int (nI t), .ref a9])), (a1, .inl (cI, 200, .inl la)), (a2, .inl (cI, 200, .inl fi)), (a3, .inl (cI, 200, .inl ma)), (a4, .inl (cI, 200, .inl sz))] (fun (r : Int32) (u : Int32) => (r, u) = ek_extent dn E la fi ma sz x y) (fun (u : Int32) => [(k0, .inr (4, [.int u, .int (nI nB), .int dn, .int wr, .int lf, .int (nI E), .ref a1, .ref a2, .ref a3, .ref a4, .ref a5, .int ch, .ref a6, .ref a7, .ref a8, .int (nI t), .ref a9])), (a1, .inl (cI, 200, .inl la)), (a2, .inl (cI, 200, .inl fi)), (a3, .inl (cI, 200, .inl ma)), (a4, .inl (cI, 200, .inl sz))]) 0 0 := by
  intro sz
  refine Met.ofW (cc := b_K_extent) (maxL := 3) (ret := (some .int)) (by decide) rfl ?_
  intro p e s m args below meth c s₁ B hml hv
  obtain ⟨rfl, hsz, hP, hK, hG, hD0⟩ := hv
  have hx := B.exec
  have hb := B.bytes
  have hr := B.returns
  have hts := fun (w : Cond) (h : w ∈ ew_T) => atoms_spec (ws := w_K_extent) B.pre w (List.mem_cons_of_mem _ h)
  have hown : s.vm.findClass R_K = some m.cls := findClass_of_methodNamed B.named
  have hlocks := B.notSynchronized
  subst hsz
  have hD := hD0.self (sz := s.heap.size)
  generalize hAe : va_A [(k0, .inr (4, [.int co, .int (nI nB), .int dn, .int wr, .int lf, .int (nI E), .ref a1, .ref a2, .ref a3, .ref a4, .ref a5, .int ch, .ref a6, .ref a7, .ref a8, .int (nI t), .ref a9])), (a1, .inl (cI, 200, .inl la)), (a2, .inl (cI, 200, .inl fi)), (a3, .inl (cI, 200, .inl ma)), (a4, .inl (cI, 200, .inl sz))] s.heap.size = A at hD ⊢
  have hA : ∀ q : Nat, s.heap.size ≤ q → A q := fun q h => by rw [← hAe]; exact Or.inr h
  have hS : va_S A s.heap s.heap [] := va_S.rf
  have hP : va_P (dC, dI) vwCl [(k0, .inr (4, [.int co, .int (nI nB), .int dn, .int wr, .int lf, .int (nI E), .ref a1, .ref a2, .ref a3, .ref a4, .ref a5, .int ch, .ref a6, .ref a7, .ref a8, .int (nI t), .ref a9])), (a1, .inl (cI, 200, .inl la)), (a2, .inl (cI, 200, .inl fi)), (a3, .inl (cI, 200, .inl ma)), (a4, .inl (cI, 200, .inl sz))] s.heap := hP
  have hl := lv_entry ([.ref k0, .int x, .int y]) (n := 3) (Nat.le_of_ble_eq_true rfl)
  rw [lg_entry_eq]
  generalize (lg_sl ([.ref k0, .int x, .int y]) ++ List.replicate (3 - (lg_sl ([.ref k0, .int x, .int y])).length) Slot.unset).toArray = ls at hl ⊢
  have hl : lv_has ls 3 [(0, .ref k0), (1, .int x), (2, .int y)] := hl
  refine lv_aload_n hx hb d_K_extent_0 rfl (lv_at hl 0 rfl) ?_
  refine lv_aload_n hx hb d_K_extent_1 rfl (lv_at hl 0 rfl) ?_
  refine lv_iload_n hx hb d_K_extent_2 rfl (lv_at hl 1 rfl) ?_
  refine ey_Vi (Wc := [(k0, .inr (4, [.int co, .int (nI nB), .int dn, .int wr, .int lf, .int (nI E), .ref a1, .ref a2, .ref a3, .ref a4, .ref a5, .int ch, .ref a6, .ref a7, .ref a8, .int (nI t), .ref a9]))]) (wr := [(a1, .inl (cI, 200, .inl la)), (a2, .inl (cI, 200, .inl fi)), (a3, .inl (cI, 200, .inl ma)), (a4, .inl (cI, 200, .inl sz))]) (As := [.int x]) (rest := [.ref k0]) ⟨hx, hb, hml, hown, hts⟩ (c_k_isx l dC dI cI cB cJ cZ k0 a1 a2 a3 a4 a5 a6 a7 a8 a9 co nB dn wr lf E ch t x) (cwV 1 hts (ew_V ew_525 ew_527 ew_11 ew_18 g_K_isExtent) rfl rfl rfl (by decide +kernel) ⟨Nat.le_of_ble_eq_true rfl, Nat.le_of_ble_eq_true rfl⟩) hK hG hP hD hS hA [0] [1, 2, 3, 4] rfl rfl (by decide) (by decide) (by decide) (ci := 4) (q0 := 0) rfl rfl rfl hl.1 rfl (Nat.le_of_ble_eq_true rfl) d_K_extent_3 ⟨Nat.le_of_ble_eq_true rfl, Nat.le_of_ble_eq_true rfl⟩ (fun r_1 u_2 H locs e_3 hP hD hS => ?_)
  have hP : va_P (dC, dI) vwCl [(a1, .inl (cI, 200, .inl la)), (a2, .inl (cI, 200, .inl fi)), (a3, .inl (cI, 200, .inl ma)), (a4, .inl (cI, 200, .inl sz)), (k0, .inr (4, [.int co, .int (nI nB), .int dn, .int wr, .int lf, .int (nI E), .ref a1, .ref a2, .ref a3, .ref a4, .ref a5, .int ch, .ref a6, .ref a7, .ref a8, .int (nI t), .ref a9]))] H := hP
  have hD : va_D A [(a1, .inl (cI, 200, .inl la)), (a2, .inl (cI, 200, .inl fi)), (a3, .inl (cI, 200, .inl ma)), (a4, .inl (cI, 200, .inl sz)), (k0, .inr (4, [.int co, .int (nI nB), .int dn, .int wr, .int lf, .int (nI E), .ref a1, .ref a2, .ref a3, .ref a4, .ref a5, .int ch, .ref a6, .ref a7, .ref a8, .int (nI t), .ref a9]))] := hD
  subst e_3
  refine lv_if_eq (tgt := 22) hx hb d_K_extent_6 (by decide) (fun c_6 => ?_) (fun c_6 => ?_)
  · refine lv_iconst (v := 1) hx hb d_K_extent_22 (by decide) ?_
    refine va_put (D := (dC, dI)) (ci := 4) (v := .int 1) (ty := .int) (C := R_K) (T := T_K) (N := 17) hx hb hts in_K t_K t_K_ok n_K hown hK hP hD hS 4 rfl rfl 0 (by decide) (hts _ ew_419) (fun _ h9 => h9) rfl (by decide +kernel) rfl rfl (Nat.le_of_ble_eq_true rfl) d_K_extent_23 (fun H locs hP hD hS => ?_)
    have hP : va_P (dC, dI) vwCl [(a1, .inl (cI, 200, .inl la)), (a2, .inl (cI, 200, .inl fi)), (a3, .inl (cI, 200, .inl ma)), (a4, .inl (cI, 200, .inl sz)), (k0, .inr (4, [.int 1, .int (nI nB), .int dn, .int wr, .int lf, .int (nI E), .ref a1, .ref a2, .ref a3, .ref a4, .ref a5, .int ch, .ref a6, .ref a7, .ref a8, .int (nI t), .ref a9]))] H := hP
    have hD : va_D A [(a1, .inl (cI, 200, .inl la)), (a2, .inl (cI, 200, .inl fi)), (a3, .inl (cI, 200, .inl ma)), (a4, .inl (cI, 200, .inl sz)), (k0, .inr (4, [.int 1, .int (nI nB), .int dn, .int wr, .int lf, .int (nI E), .ref a1, .ref a2, .ref a3, .ref a4, .ref a5, .int ch, .ref a6, .ref a7, .ref a8, .int (nI t), .ref a9]))] := hD
    refine lv_aload_n hx hb d_K_extent_26 rfl (lv_at hl 0 rfl) ?_
    refine va_get (D := (dC, dI)) (ci := 4) (v := .int 1) (C := R_K) (T := T_K) (N := 17) hx hb hts in_K hown hK hP 4 rfl rfl 0 (by decide) (hts _ ew_419) (fun _ h9 => h9) rfl d_K_extent_27 ?_
    refine lv_if_le (tgt := 35) hx hb d_K_extent_30 (by decide) (fun c_30 => ?_) (fun c_30 => ?_)
    · exact absurd c_30 (by decide)
    · refine lv_iconst (v := 0) hx hb d_K_extent_33 (by decide) ?_
      exact ey_iret (W1 := fun (u : Int32) => [(k0, .inr (4, [.int u, .int (nI nB), .int dn, .int wr, .int lf, .int (nI E), .ref a1, .ref a2, .ref a3, .ref a4, .ref a5, .int ch, .ref a6, .ref a7, .ref a8, .int (nI t), .ref a9])), (a1, .inl (cI, 200, .inl la)), (a2, .inl (cI, 200, .inl fi)), (a3, .inl (cI, 200, .inl ma)), (a4, .inl (cI, 200, .inl sz))]) hx hb hr hlocks hP hD hS 1 [4, 0, 1, 2, 3] rfl (by decide) (by rw [ek_extent, show ek_kext dn E x y = 1 from by rw [ek_kext, if_pos c_6], if_neg (by decide)]) d_K_extent_34 (Nat.le_of_ble_eq_true rfl) (Nat.le_of_ble_eq_true rfl)
  · refine lv_iload_n hx hb d_K_extent_9 rfl (lv_at hl 2 rfl) ?_
    refine lv_if_lt (tgt := 22) hx hb d_K_extent_10 (by decide) (fun c_10 => ?_) (fun c_10 => ?_)
    · refine lv_iconst (v := 1) hx hb d_K_extent_22 (by decide) ?_
      refine va_put (D := (dC, dI)) (ci := 4) (v := .int 1) (ty := .int) (C := R_K) (T := T_K) (N := 17) hx hb hts in_K t_K t_K_ok n_K hown hK hP hD hS 4 rfl rfl 0 (by decide) (hts _ ew_419) (fun _ h9 => h9) rfl (by decide +kernel) rfl rfl (Nat.le_of_ble_eq_true rfl) d_K_extent_23 (fun H locs hP hD hS => ?_)
      have hP : va_P (dC, dI) vwCl [(a1, .inl (cI, 200, .inl la)), (a2, .inl (cI, 200, .inl fi)), (a3, .inl (cI, 200, .inl ma)), (a4, .inl (cI, 200, .inl sz)), (k0, .inr (4, [.int 1, .int (nI nB), .int dn, .int wr, .int lf, .int (nI E), .ref a1, .ref a2, .ref a3, .ref a4, .ref a5, .int ch, .ref a6, .ref a7, .ref a8, .int (nI t), .ref a9]))] H := hP
      have hD : va_D A [(a1, .inl (cI, 200, .inl la)), (a2, .inl (cI, 200, .inl fi)), (a3, .inl (cI, 200, .inl ma)), (a4, .inl (cI, 200, .inl sz)), (k0, .inr (4, [.int 1, .int (nI nB), .int dn, .int wr, .int lf, .int (nI E), .ref a1, .ref a2, .ref a3, .ref a4, .ref a5, .int ch, .ref a6, .ref a7, .ref a8, .int (nI t), .ref a9]))] := hD
      refine lv_aload_n hx hb d_K_extent_26 rfl (lv_at hl 0 rfl) ?_
      refine va_get (D := (dC, dI)) (ci := 4) (v := .int 1) (C := R_K) (T := T_K) (N := 17) hx hb hts in_K hown hK hP 4 rfl rfl 0 (by decide) (hts _ ew_419) (fun _ h9 => h9) rfl d_K_extent_27 ?_
      refine lv_if_le (tgt := 35) hx hb d_K_extent_30 (by decide) (fun c_30 => ?_) (fun c_30 => ?_)
      · exact absurd c_30 (by decide)
      · refine lv_iconst (v := 0) hx hb d_K_extent_33 (by decide) ?_
        exact ey_iret (W1 := fun (u : Int32) => [(k0, .inr (4, [.int u, .int (nI nB), .int dn, .int wr, .int lf, .int (nI E), .ref a1, .ref a2, .ref a3, .ref a4, .ref a5, .int ch, .ref a6, .ref a7, .ref a8, .int (nI t), .ref a9])), (a1, .inl (cI, 200, .inl la)), (a2, .inl (cI, 200, .inl fi)), (a3, .inl (cI, 200, .inl ma)), (a4, .inl (cI, 200, .inl sz))]) hx hb hr hlocks hP hD hS 1 [4, 0, 1, 2, 3] rfl (by decide) (by rw [ek_extent, show ek_kext dn E x y = 1 from by rw [ek_kext, if_neg c_6, if_pos c_10], if_neg (by decide)]) d_K_extent_34 (Nat.le_of_ble_eq_true rfl) (Nat.le_of_ble_eq_true rfl)
    · refine lv_iload_n hx hb d_K_extent_13 rfl (lv_at hl 2 rfl) ?_
      refine lv_iconst (v := 3) hx hb d_K_extent_14 (by decide) ?_
      refine lv_icmp_gt (tgt := 22) hx hb d_K_extent_15 (by decide) (fun c_15 => ?_) (fun c_15 => ?_)
      · refine lv_iconst (v := 1) hx hb d_K_extent_22 (by decide) ?_
        refine va_put (D := (dC, dI)) (ci := 4) (v := .int 1) (ty := .int) (C := R_K) (T := T_K) (N := 17) hx hb hts in_K t_K t_K_ok n_K hown hK hP hD hS 4 rfl rfl 0 (by decide) (hts _ ew_419) (fun _ h9 => h9) rfl (by decide +kernel) rfl rfl (Nat.le_of_ble_eq_true rfl) d_K_extent_23 (fun H locs hP hD hS => ?_)
        have hP : va_P (dC, dI) vwCl [(a1, .inl (cI, 200, .inl la)), (a2, .inl (cI, 200, .inl fi)), (a3, .inl (cI, 200, .inl ma)), (a4, .inl (cI, 200, .inl sz)), (k0, .inr (4, [.int 1, .int (nI nB), .int dn, .int wr, .int lf, .int (nI E), .ref a1, .ref a2, .ref a3, .ref a4, .ref a5, .int ch, .ref a6, .ref a7, .ref a8, .int (nI t), .ref a9]))] H := hP
        have hD : va_D A [(a1, .inl (cI, 200, .inl la)), (a2, .inl (cI, 200, .inl fi)), (a3, .inl (cI, 200, .inl ma)), (a4, .inl (cI, 200, .inl sz)), (k0, .inr (4, [.int 1, .int (nI nB), .int dn, .int wr, .int lf, .int (nI E), .ref a1, .ref a2, .ref a3, .ref a4, .ref a5, .int ch, .ref a6, .ref a7, .ref a8, .int (nI t), .ref a9]))] := hD
        refine lv_aload_n hx hb d_K_extent_26 rfl (lv_at hl 0 rfl) ?_
        refine va_get (D := (dC, dI)) (ci := 4) (v := .int 1) (C := R_K) (T := T_K) (N := 17) hx hb hts in_K hown hK hP 4 rfl rfl 0 (by decide) (hts _ ew_419) (fun _ h9 => h9) rfl d_K_extent_27 ?_
        refine lv_if_le (tgt := 35) hx hb d_K_extent_30 (by decide) (fun c_30 => ?_) (fun c_30 => ?_)
        · exact absurd c_30 (by decide)
        · refine lv_iconst (v := 0) hx hb d_K_extent_33 (by decide) ?_
          exact ey_iret (W1 := fun (u : Int32) => [(k0, .inr (4, [.int u, .int (nI nB), .int dn, .int wr, .int lf, .int (nI E), .ref a1, .ref a2, .ref a3, .ref a4, .ref a5, .int ch, .ref a6, .ref a7, .ref a8, .int (nI t), .ref a9])), (a1, .inl (cI, 200, .inl la)), (a2, .inl (cI, 200, .inl fi)), (a3, .inl (cI, 200, .inl ma)), (a4, .inl (cI, 200, .inl sz))]) hx hb hr hlocks hP hD hS 1 [4, 0, 1, 2, 3] rfl (by decide) (by rw [ek_extent, show ek_kext dn E x y = 1 from by rw [ek_kext, if_neg c_6, if_neg c_10, if_pos c_15], if_neg (by decide)]) d_K_extent_34 (Nat.le_of_ble_eq_true rfl) (Nat.le_of_ble_eq_true rfl)
      · refine lv_iconst (v := 0) hx hb d_K_extent_18 (by decide) ?_
        refine lv_goto (tgt := 23) hx hb d_K_extent_19 (by decide) ?_
        refine va_put (D := (dC, dI)) (ci := 4) (v := .int 0) (ty := .int) (C := R_K) (T := T_K) (N := 17) hx hb hts in_K t_K t_K_ok n_K hown hK hP hD hS 4 rfl rfl 0 (by decide) (hts _ ew_419) (fun _ h9 => h9) rfl (by decide +kernel) rfl rfl (Nat.le_of_ble_eq_true rfl) d_K_extent_23 (fun H locs hP hD hS => ?_)
        have hP : va_P (dC, dI) vwCl [(a1, .inl (cI, 200, .inl la)), (a2, .inl (cI, 200, .inl fi)), (a3, .inl (cI, 200, .inl ma)), (a4, .inl (cI, 200, .inl sz)), (k0, .inr (4, [.int 0, .int (nI nB), .int dn, .int wr, .int lf, .int (nI E), .ref a1, .ref a2, .ref a3, .ref a4, .ref a5, .int ch, .ref a6, .ref a7, .ref a8, .int (nI t), .ref a9]))] H := hP
        have hD : va_D A [(a1, .inl (cI, 200, .inl la)), (a2, .inl (cI, 200, .inl fi)), (a3, .inl (cI, 200, .inl ma)), (a4, .inl (cI, 200, .inl sz)), (k0, .inr (4, [.int 0, .int (nI nB), .int dn, .int wr, .int lf, .int (nI E), .ref a1, .ref a2, .ref a3, .ref a4, .ref a5, .int ch, .ref a6, .ref a7, .ref a8, .int (nI t), .ref a9]))] := hD
        refine lv_aload_n hx hb d_K_extent_26 rfl (lv_at hl 0 rfl) ?_
        refine va_get (D := (dC, dI)) (ci := 4) (v := .int 0) (C := R_K) (T := T_K) (N := 17) hx hb hts in_K hown hK hP 4 rfl rfl 0 (by decide) (hts _ ew_419) (fun _ h9 => h9) rfl d_K_extent_27 ?_
        refine lv_if_le (tgt := 35) hx hb d_K_extent_30 (by decide) (fun c_30 => ?_) (fun c_30 => ?_)
        · refine lv_iload_n hx hb d_K_extent_35 rfl (lv_at hl 2 rfl) ?_
          refine lv_if_ne (tgt := 48) hx hb d_K_extent_36 (by decide) (fun c_36 => ?_) (fun c_36 => ?_)
          · refine lv_iload_n hx hb d_K_extent_48 rfl (lv_at hl 2 rfl) ?_
            refine lv_iconst (v := 1) hx hb d_K_extent_49 (by decide) ?_
            refine lv_icmp_ne (tgt := 62) hx hb d_K_extent_50 (by decide) (fun c_50 => ?_) (fun c_50 => ?_)
            · refine lv_iload_n hx hb d_K_extent_62 rfl (lv_at hl 2 rfl) ?_
              refine lv_iconst (v := 2) hx hb d_K_extent_63 (by decide) ?_
              refine lv_icmp_ne (tgt := 76) hx hb d_K_extent_64 (by decide) (fun c_64 => ?_) (fun c_64 => ?_)
              · refine lv_aload_n hx hb d_K_extent_76 rfl (lv_at hl 0 rfl) ?_
                refine va_get (D := (dC, dI)) (ci := 4) (v := .ref a4) (C := R_K) (T := T_K) (N := 17) hx hb hts in_K hown hK hP 4 rfl rfl 9 (by decide) (hts _ ew_428) (fun _ h9 => h9) rfl d_K_extent_77 ?_
                refine lv_iload_n hx hb d_K_extent_80 rfl (lv_at hl 1 rfl) ?_
                refine va_iald hx hb hK hP 3 0 rfl rfl (ek_isx_in hE c_6) d_K_extent_81 ?_
                exact ey_iret (W1 := fun (u : Int32) => [(k0, .inr (4, [.int u, .int (nI nB), .int dn, .int wr, .int lf, .int (nI E), .ref a1, .ref a2, .ref a3, .ref a4, .ref a5, .int ch, .ref a6, .ref a7, .ref a8, .int (nI t), .ref a9])), (a1, .inl (cI, 200, .inl la)), (a2, .inl (cI, 200, .inl fi)), (a3, .inl (cI, 200, .inl ma)), (a4, .inl (cI, 200, .inl sz))]) hx hb hr hlocks hP hD hS 0 [4, 0, 1, 2, 3] rfl (by decide) (by rw [ek_extent, show ek_kext dn E x y = 0 from by rw [ek_kext, if_neg c_6, if_neg c_10, if_neg c_15], if_pos rfl, if_pos c_36, if_pos c_50, if_pos c_64]) d_K_extent_82 (Nat.le_of_ble_eq_true rfl) (Nat.le_of_ble_eq_true rfl)
              · refine lv_aload_n hx hb d_K_extent_67 rfl (lv_at hl 0 rfl) ?_
                refine va_get (D := (dC, dI)) (ci := 4) (v := .ref a3) (C := R_K) (T := T_K) (N := 17) hx hb hts in_K hown hK hP 4 rfl rfl 8 (by decide) (hts _ ew_427) (fun _ h9 => h9) rfl d_K_extent_68 ?_
                refine lv_iload_n hx hb d_K_extent_71 rfl (lv_at hl 1 rfl) ?_
                refine va_iald hx hb hK hP 2 0 rfl rfl (ek_isx_in hE c_6) d_K_extent_72 ?_
                refine lv_goto (tgt := 82) hx hb d_K_extent_73 (by decide) ?_
                exact ey_iret (W1 := fun (u : Int32) => [(k0, .inr (4, [.int u, .int (nI nB), .int dn, .int wr, .int lf, .int (nI E), .ref a1, .ref a2, .ref a3, .ref a4, .ref a5, .int ch, .ref a6, .ref a7, .ref a8, .int (nI t), .ref a9])), (a1, .inl (cI, 200, .inl la)), (a2, .inl (cI, 200, .inl fi)), (a3, .inl (cI, 200, .inl ma)), (a4, .inl (cI, 200, .inl sz))]) hx hb hr hlocks hP hD hS 0 [4, 0, 1, 2, 3] rfl (by decide) (by rw [ek_extent, show ek_kext dn E x y = 0 from by rw [ek_kext, if_neg c_6, if_neg c_10, if_neg c_15], if_pos rfl, if_pos c_36, if_pos c_50, if_neg (fun h9 => h9 c_64)]) d_K_extent_82 (Nat.le_of_ble_eq_true rfl) (Nat.le_of_ble_eq_true rfl)
            · refine lv_aload_n hx hb d_K_extent_53 rfl (lv_at hl 0 rfl) ?_
              refine va_get (D := (dC, dI)) (ci := 4) (v := .ref a2) (C := R_K) (T := T_K) (N := 17) hx hb hts in_K hown hK hP 4 rfl rfl 7 (by decide) (hts _ ew_426) (fun _ h9 => h9) rfl d_K_extent_54 ?_
              refine lv_iload_n hx hb d_K_extent_57 rfl (lv_at hl 1 rfl) ?_
              refine va_iald hx hb hK hP 1 0 rfl rfl (ek_isx_in hE c_6) d_K_extent_58 ?_
              refine lv_goto (tgt := 82) hx hb d_K_extent_59 (by decide) ?_
              exact ey_iret (W1 := fun (u : Int32) => [(k0, .inr (4, [.int u, .int (nI nB), .int dn, .int wr, .int lf, .int (nI E), .ref a1, .ref a2, .ref a3, .ref a4, .ref a5, .int ch, .ref a6, .ref a7, .ref a8, .int (nI t), .ref a9])), (a1, .inl (cI, 200, .inl la)), (a2, .inl (cI, 200, .inl fi)), (a3, .inl (cI, 200, .inl ma)), (a4, .inl (cI, 200, .inl sz))]) hx hb hr hlocks hP hD hS 0 [4, 0, 1, 2, 3] rfl (by decide) (by rw [ek_extent, show ek_kext dn E x y = 0 from by rw [ek_kext, if_neg c_6, if_neg c_10, if_neg c_15], if_pos rfl, if_pos c_36, if_neg (fun h9 => h9 c_50)]) d_K_extent_82 (Nat.le_of_ble_eq_true rfl) (Nat.le_of_ble_eq_true rfl)
          · refine lv_aload_n hx hb d_K_extent_39 rfl (lv_at hl 0 rfl) ?_
            refine va_get (D := (dC, dI)) (ci := 4) (v := .ref a1) (C := R_K) (T := T_K) (N := 17) hx hb hts in_K hown hK hP 4 rfl rfl 6 (by decide) (hts _ ew_425) (fun _ h9 => h9) rfl d_K_extent_40 ?_
            refine lv_iload_n hx hb d_K_extent_43 rfl (lv_at hl 1 rfl) ?_
            refine va_iald hx hb hK hP 0 0 rfl rfl (ek_isx_in hE c_6) d_K_extent_44 ?_
            refine lv_goto (tgt := 82) hx hb d_K_extent_45 (by decide) ?_
            exact ey_iret (W1 := fun (u : Int32) => [(k0, .inr (4, [.int u, .int (nI nB), .int dn, .int wr, .int lf, .int (nI E), .ref a1, .ref a2, .ref a3, .ref a4, .ref a5, .int ch, .ref a6, .ref a7, .ref a8, .int (nI t), .ref a9])), (a1, .inl (cI, 200, .inl la)), (a2, .inl (cI, 200, .inl fi)), (a3, .inl (cI, 200, .inl ma)), (a4, .inl (cI, 200, .inl sz))]) hx hb hr hlocks hP hD hS 0 [4, 0, 1, 2, 3] rfl (by decide) (by rw [ek_extent, show ek_kext dn E x y = 0 from by rw [ek_kext, if_neg c_6, if_neg c_10, if_neg c_15], if_pos rfl, if_neg (fun h9 => h9 c_36)]) d_K_extent_82 (Nat.le_of_ble_eq_true rfl) (Nat.le_of_ble_eq_true rfl)
        · exact absurd c_30 (by decide)
set_option maxHeartbeats 4000000 in
set_option maxRecDepth 100000 in
theorem c_k_byte (l : Launch) (dC : Nat → ClassId) (dI : Nat → Nat → Nat) (cI cB cJ cZ : ClassId) (k0 a1 a2 a3 a4 a5 a6 a7 a8 a9 : Nat) (co : Int32) (nB : Nat) (dn wr lf : Int32) (E : Nat) (ch : Int32) (t : Nat) (fi ma sz dk : ep_F) (x y : Int32) (hB : nB ≤ 128) (hE : E ≤ 199) (hok : ek_ok nB fi ma sz E) : ey_Mi l y_K_byteAt w_K_byteAt { frames := 1, cells := 0, slots := 0, locals := 21 } (dC, dI) vwCl (ey_kt cI cB cJ cZ) [.ref k0, .int x, .int y] [(k0, .inr (4, [.int co, .int (nI nB), .int dn, .int wr, .int lf, .int (nI E), .ref a1, .ref a2, .ref a3, .ref a4, .ref a5, .int ch, .ref a6, .ref a7, .ref a8, .int (nI t), .ref a9])), (a2, .inl (cI, 200, .inl fi)), (a3, .inl (cI, 200, .inl ma)), (a4, .inl (cI, 200, .inl sz)), (a6, .inl (cB, 524288, .inl dk))] (fun (r : Int32) (u : Int32) => (r, u) = ek_byte dn E fi sz dk x y) (fun (u : Int32) => [(k0, .inr (4, [.int u, .int (nI nB), .int dn, .int wr, .int lf, .int (nI E), .ref a1, .ref a2, .ref a3, .ref a4, .ref a5, .int ch, .ref a6, .ref a7, .ref a8, .int (nI t), .ref a9])), (a2, .inl (cI, 200, .inl fi)), (a3, .inl (cI, 200, .inl ma)), (a4, .inl (cI, 200, .inl sz)), (a6, .inl (cB, 524288, .inl dk))]) 0 0 := by
  intro sz
  refine Met.ofW (cc := b_K_byteAt) (maxL := 3) (ret := (some .int)) (by decide) rfl ?_
  intro p e s m args below meth c s₁ B hml hv
  obtain ⟨rfl, hsz, hP, hK, hG, hD0⟩ := hv
  have hx := B.exec
  have hb := B.bytes
  have hr := B.returns
  have hts := fun (w : Cond) (h : w ∈ ew_T) => atoms_spec (ws := w_K_byteAt) B.pre w (List.mem_cons_of_mem _ h)
  have hown : s.vm.findClass R_K = some m.cls := findClass_of_methodNamed B.named
  have hlocks := B.notSynchronized
  subst hsz
  have hD := hD0.self (sz := s.heap.size)
  generalize hAe : va_A [(k0, .inr (4, [.int co, .int (nI nB), .int dn, .int wr, .int lf, .int (nI E), .ref a1, .ref a2, .ref a3, .ref a4, .ref a5, .int ch, .ref a6, .ref a7, .ref a8, .int (nI t), .ref a9])), (a2, .inl (cI, 200, .inl fi)), (a3, .inl (cI, 200, .inl ma)), (a4, .inl (cI, 200, .inl sz)), (a6, .inl (cB, 524288, .inl dk))] s.heap.size = A at hD ⊢
  have hA : ∀ q : Nat, s.heap.size ≤ q → A q := fun q h => by rw [← hAe]; exact Or.inr h
  have hS : va_S A s.heap s.heap [] := va_S.rf
  have hP : va_P (dC, dI) vwCl [(k0, .inr (4, [.int co, .int (nI nB), .int dn, .int wr, .int lf, .int (nI E), .ref a1, .ref a2, .ref a3, .ref a4, .ref a5, .int ch, .ref a6, .ref a7, .ref a8, .int (nI t), .ref a9])), (a2, .inl (cI, 200, .inl fi)), (a3, .inl (cI, 200, .inl ma)), (a4, .inl (cI, 200, .inl sz)), (a6, .inl (cB, 524288, .inl dk))] s.heap := hP
  have hl := lv_entry ([.ref k0, .int x, .int y]) (n := 3) (Nat.le_of_ble_eq_true rfl)
  rw [lg_entry_eq]
  generalize (lg_sl ([.ref k0, .int x, .int y]) ++ List.replicate (3 - (lg_sl ([.ref k0, .int x, .int y])).length) Slot.unset).toArray = ls at hl ⊢
  have hl : lv_has ls 3 [(0, .ref k0), (1, .int x), (2, .int y)] := hl
  refine lv_aload_n hx hb d_K_byteAt_0 rfl (lv_at hl 0 rfl) ?_
  refine lv_aload_n hx hb d_K_byteAt_1 rfl (lv_at hl 0 rfl) ?_
  refine lv_iload_n hx hb d_K_byteAt_2 rfl (lv_at hl 1 rfl) ?_
  refine ey_Vi (Wc := [(k0, .inr (4, [.int co, .int (nI nB), .int dn, .int wr, .int lf, .int (nI E), .ref a1, .ref a2, .ref a3, .ref a4, .ref a5, .int ch, .ref a6, .ref a7, .ref a8, .int (nI t), .ref a9]))]) (wr := [(a2, .inl (cI, 200, .inl fi)), (a3, .inl (cI, 200, .inl ma)), (a4, .inl (cI, 200, .inl sz)), (a6, .inl (cB, 524288, .inl dk))]) (As := [.int x]) (rest := [.ref k0]) ⟨hx, hb, hml, hown, hts⟩ (c_k_isx l dC dI cI cB cJ cZ k0 a1 a2 a3 a4 a5 a6 a7 a8 a9 co nB dn wr lf E ch t x) (cwV 1 hts (ew_V ew_525 ew_527 ew_11 ew_18 g_K_isExtent) rfl rfl rfl (by decide +kernel) ⟨Nat.le_of_ble_eq_true rfl, Nat.le_of_ble_eq_true rfl⟩) hK hG hP hD hS hA [0] [1, 2, 3, 4] rfl rfl (by decide) (by decide) (by decide) (ci := 4) (q0 := 0) rfl rfl rfl hl.1 rfl (Nat.le_of_ble_eq_true rfl) d_K_byteAt_3 ⟨Nat.le_of_ble_eq_true rfl, Nat.le_of_ble_eq_true rfl⟩ (fun r_1 u_2 H locs e_3 hP hD hS => ?_)
  have hP : va_P (dC, dI) vwCl [(a2, .inl (cI, 200, .inl fi)), (a3, .inl (cI, 200, .inl ma)), (a4, .inl (cI, 200, .inl sz)), (a6, .inl (cB, 524288, .inl dk)), (k0, .inr (4, [.int co, .int (nI nB), .int dn, .int wr, .int lf, .int (nI E), .ref a1, .ref a2, .ref a3, .ref a4, .ref a5, .int ch, .ref a6, .ref a7, .ref a8, .int (nI t), .ref a9]))] H := hP
  have hD : va_D A [(a2, .inl (cI, 200, .inl fi)), (a3, .inl (cI, 200, .inl ma)), (a4, .inl (cI, 200, .inl sz)), (a6, .inl (cB, 524288, .inl dk)), (k0, .inr (4, [.int co, .int (nI nB), .int dn, .int wr, .int lf, .int (nI E), .ref a1, .ref a2, .ref a3, .ref a4, .ref a5, .int ch, .ref a6, .ref a7, .ref a8, .int (nI t), .ref a9]))] := hD
  subst e_3
  refine lv_if_eq (tgt := 27) hx hb d_K_byteAt_6 (by decide) (fun c_6 => ?_) (fun c_6 => ?_)
  · refine lv_iconst (v := 1) hx hb d_K_byteAt_27 (by decide) ?_
    refine va_put (D := (dC, dI)) (ci := 4) (v := .int 1) (ty := .int) (C := R_K) (T := T_K) (N := 17) hx hb hts in_K t_K t_K_ok n_K hown hK hP hD hS 4 rfl rfl 0 (by decide) (hts _ ew_419) (fun _ h9 => h9) rfl (by decide +kernel) rfl rfl (Nat.le_of_ble_eq_true rfl) d_K_byteAt_28 (fun H locs hP hD hS => ?_)
    have hP : va_P (dC, dI) vwCl [(a2, .inl (cI, 200, .inl fi)), (a3, .inl (cI, 200, .inl ma)), (a4, .inl (cI, 200, .inl sz)), (a6, .inl (cB, 524288, .inl dk)), (k0, .inr (4, [.int 1, .int (nI nB), .int dn, .int wr, .int lf, .int (nI E), .ref a1, .ref a2, .ref a3, .ref a4, .ref a5, .int ch, .ref a6, .ref a7, .ref a8, .int (nI t), .ref a9]))] H := hP
    have hD : va_D A [(a2, .inl (cI, 200, .inl fi)), (a3, .inl (cI, 200, .inl ma)), (a4, .inl (cI, 200, .inl sz)), (a6, .inl (cB, 524288, .inl dk)), (k0, .inr (4, [.int 1, .int (nI nB), .int dn, .int wr, .int lf, .int (nI E), .ref a1, .ref a2, .ref a3, .ref a4, .ref a5, .int ch, .ref a6, .ref a7, .ref a8, .int (nI t), .ref a9]))] := hD
    refine lv_aload_n hx hb d_K_byteAt_31 rfl (lv_at hl 0 rfl) ?_
    refine va_get (D := (dC, dI)) (ci := 4) (v := .int 1) (C := R_K) (T := T_K) (N := 17) hx hb hts in_K hown hK hP 4 rfl rfl 0 (by decide) (hts _ ew_419) (fun _ h9 => h9) rfl d_K_byteAt_32 ?_
    refine lv_if_le (tgt := 42) hx hb d_K_byteAt_35 (by decide) (fun c_35 => ?_) (fun c_35 => ?_)
    · exact absurd c_35 (by decide)
    · refine lv_iconst (v := 0) hx hb d_K_byteAt_38 (by decide) ?_
      refine lv_goto (tgt := 63) hx hb d_K_byteAt_39 (by decide) ?_
      exact ey_iret (W1 := fun (u : Int32) => [(k0, .inr (4, [.int u, .int (nI nB), .int dn, .int wr, .int lf, .int (nI E), .ref a1, .ref a2, .ref a3, .ref a4, .ref a5, .int ch, .ref a6, .ref a7, .ref a8, .int (nI t), .ref a9])), (a2, .inl (cI, 200, .inl fi)), (a3, .inl (cI, 200, .inl ma)), (a4, .inl (cI, 200, .inl sz)), (a6, .inl (cB, 524288, .inl dk))]) hx hb hr hlocks hP hD hS 1 [4, 0, 1, 2, 3] rfl (by decide) (by rw [ek_byte, show ek_kbyte dn E sz x y = 1 from by rw [ek_kbyte, if_pos c_6], if_neg (by decide)]) d_K_byteAt_63 (Nat.le_of_ble_eq_true rfl) (Nat.le_of_ble_eq_true rfl)
  · refine lv_iload_n hx hb d_K_byteAt_9 rfl (lv_at hl 2 rfl) ?_
    refine lv_if_lt (tgt := 27) hx hb d_K_byteAt_10 (by decide) (fun c_10 => ?_) (fun c_10 => ?_)
    · refine lv_iconst (v := 1) hx hb d_K_byteAt_27 (by decide) ?_
      refine va_put (D := (dC, dI)) (ci := 4) (v := .int 1) (ty := .int) (C := R_K) (T := T_K) (N := 17) hx hb hts in_K t_K t_K_ok n_K hown hK hP hD hS 4 rfl rfl 0 (by decide) (hts _ ew_419) (fun _ h9 => h9) rfl (by decide +kernel) rfl rfl (Nat.le_of_ble_eq_true rfl) d_K_byteAt_28 (fun H locs hP hD hS => ?_)
      have hP : va_P (dC, dI) vwCl [(a2, .inl (cI, 200, .inl fi)), (a3, .inl (cI, 200, .inl ma)), (a4, .inl (cI, 200, .inl sz)), (a6, .inl (cB, 524288, .inl dk)), (k0, .inr (4, [.int 1, .int (nI nB), .int dn, .int wr, .int lf, .int (nI E), .ref a1, .ref a2, .ref a3, .ref a4, .ref a5, .int ch, .ref a6, .ref a7, .ref a8, .int (nI t), .ref a9]))] H := hP
      have hD : va_D A [(a2, .inl (cI, 200, .inl fi)), (a3, .inl (cI, 200, .inl ma)), (a4, .inl (cI, 200, .inl sz)), (a6, .inl (cB, 524288, .inl dk)), (k0, .inr (4, [.int 1, .int (nI nB), .int dn, .int wr, .int lf, .int (nI E), .ref a1, .ref a2, .ref a3, .ref a4, .ref a5, .int ch, .ref a6, .ref a7, .ref a8, .int (nI t), .ref a9]))] := hD
      refine lv_aload_n hx hb d_K_byteAt_31 rfl (lv_at hl 0 rfl) ?_
      refine va_get (D := (dC, dI)) (ci := 4) (v := .int 1) (C := R_K) (T := T_K) (N := 17) hx hb hts in_K hown hK hP 4 rfl rfl 0 (by decide) (hts _ ew_419) (fun _ h9 => h9) rfl d_K_byteAt_32 ?_
      refine lv_if_le (tgt := 42) hx hb d_K_byteAt_35 (by decide) (fun c_35 => ?_) (fun c_35 => ?_)
      · exact absurd c_35 (by decide)
      · refine lv_iconst (v := 0) hx hb d_K_byteAt_38 (by decide) ?_
        refine lv_goto (tgt := 63) hx hb d_K_byteAt_39 (by decide) ?_
        exact ey_iret (W1 := fun (u : Int32) => [(k0, .inr (4, [.int u, .int (nI nB), .int dn, .int wr, .int lf, .int (nI E), .ref a1, .ref a2, .ref a3, .ref a4, .ref a5, .int ch, .ref a6, .ref a7, .ref a8, .int (nI t), .ref a9])), (a2, .inl (cI, 200, .inl fi)), (a3, .inl (cI, 200, .inl ma)), (a4, .inl (cI, 200, .inl sz)), (a6, .inl (cB, 524288, .inl dk))]) hx hb hr hlocks hP hD hS 1 [4, 0, 1, 2, 3] rfl (by decide) (by rw [ek_byte, show ek_kbyte dn E sz x y = 1 from by rw [ek_kbyte, if_neg c_6, if_pos c_10], if_neg (by decide)]) d_K_byteAt_63 (Nat.le_of_ble_eq_true rfl) (Nat.le_of_ble_eq_true rfl)
    · refine lv_iload_n hx hb d_K_byteAt_13 rfl (lv_at hl 2 rfl) ?_
      refine lv_aload_n hx hb d_K_byteAt_14 rfl (lv_at hl 0 rfl) ?_
      refine va_get (D := (dC, dI)) (ci := 4) (v := .ref a4) (C := R_K) (T := T_K) (N := 17) hx hb hts in_K hown hK hP 4 rfl rfl 9 (by decide) (hts _ ew_428) (fun _ h9 => h9) rfl d_K_byteAt_15 ?_
      refine lv_iload_n hx hb d_K_byteAt_18 rfl (lv_at hl 1 rfl) ?_
      refine va_iald hx hb hK hP 2 0 rfl rfl (ek_isx_in hE c_6) d_K_byteAt_19 ?_
      refine lv_icmp_ge (tgt := 27) hx hb d_K_byteAt_20 (by decide) (fun c_20 => ?_) (fun c_20 => ?_)
      · refine lv_iconst (v := 1) hx hb d_K_byteAt_27 (by decide) ?_
        refine va_put (D := (dC, dI)) (ci := 4) (v := .int 1) (ty := .int) (C := R_K) (T := T_K) (N := 17) hx hb hts in_K t_K t_K_ok n_K hown hK hP hD hS 4 rfl rfl 0 (by decide) (hts _ ew_419) (fun _ h9 => h9) rfl (by decide +kernel) rfl rfl (Nat.le_of_ble_eq_true rfl) d_K_byteAt_28 (fun H locs hP hD hS => ?_)
        have hP : va_P (dC, dI) vwCl [(a2, .inl (cI, 200, .inl fi)), (a3, .inl (cI, 200, .inl ma)), (a4, .inl (cI, 200, .inl sz)), (a6, .inl (cB, 524288, .inl dk)), (k0, .inr (4, [.int 1, .int (nI nB), .int dn, .int wr, .int lf, .int (nI E), .ref a1, .ref a2, .ref a3, .ref a4, .ref a5, .int ch, .ref a6, .ref a7, .ref a8, .int (nI t), .ref a9]))] H := hP
        have hD : va_D A [(a2, .inl (cI, 200, .inl fi)), (a3, .inl (cI, 200, .inl ma)), (a4, .inl (cI, 200, .inl sz)), (a6, .inl (cB, 524288, .inl dk)), (k0, .inr (4, [.int 1, .int (nI nB), .int dn, .int wr, .int lf, .int (nI E), .ref a1, .ref a2, .ref a3, .ref a4, .ref a5, .int ch, .ref a6, .ref a7, .ref a8, .int (nI t), .ref a9]))] := hD
        refine lv_aload_n hx hb d_K_byteAt_31 rfl (lv_at hl 0 rfl) ?_
        refine va_get (D := (dC, dI)) (ci := 4) (v := .int 1) (C := R_K) (T := T_K) (N := 17) hx hb hts in_K hown hK hP 4 rfl rfl 0 (by decide) (hts _ ew_419) (fun _ h9 => h9) rfl d_K_byteAt_32 ?_
        refine lv_if_le (tgt := 42) hx hb d_K_byteAt_35 (by decide) (fun c_35 => ?_) (fun c_35 => ?_)
        · exact absurd c_35 (by decide)
        · refine lv_iconst (v := 0) hx hb d_K_byteAt_38 (by decide) ?_
          refine lv_goto (tgt := 63) hx hb d_K_byteAt_39 (by decide) ?_
          exact ey_iret (W1 := fun (u : Int32) => [(k0, .inr (4, [.int u, .int (nI nB), .int dn, .int wr, .int lf, .int (nI E), .ref a1, .ref a2, .ref a3, .ref a4, .ref a5, .int ch, .ref a6, .ref a7, .ref a8, .int (nI t), .ref a9])), (a2, .inl (cI, 200, .inl fi)), (a3, .inl (cI, 200, .inl ma)), (a4, .inl (cI, 200, .inl sz)), (a6, .inl (cB, 524288, .inl dk))]) hx hb hr hlocks hP hD hS 1 [4, 0, 1, 2, 3] rfl (by decide) (by rw [ek_byte, show ek_kbyte dn E sz x y = 1 from by rw [ek_kbyte, if_neg c_6, if_neg c_10, if_pos c_20], if_neg (by decide)]) d_K_byteAt_63 (Nat.le_of_ble_eq_true rfl) (Nat.le_of_ble_eq_true rfl)
      · refine lv_iconst (v := 0) hx hb d_K_byteAt_23 (by decide) ?_
        refine lv_goto (tgt := 28) hx hb d_K_byteAt_24 (by decide) ?_
        refine va_put (D := (dC, dI)) (ci := 4) (v := .int 0) (ty := .int) (C := R_K) (T := T_K) (N := 17) hx hb hts in_K t_K t_K_ok n_K hown hK hP hD hS 4 rfl rfl 0 (by decide) (hts _ ew_419) (fun _ h9 => h9) rfl (by decide +kernel) rfl rfl (Nat.le_of_ble_eq_true rfl) d_K_byteAt_28 (fun H locs hP hD hS => ?_)
        have hP : va_P (dC, dI) vwCl [(a2, .inl (cI, 200, .inl fi)), (a3, .inl (cI, 200, .inl ma)), (a4, .inl (cI, 200, .inl sz)), (a6, .inl (cB, 524288, .inl dk)), (k0, .inr (4, [.int 0, .int (nI nB), .int dn, .int wr, .int lf, .int (nI E), .ref a1, .ref a2, .ref a3, .ref a4, .ref a5, .int ch, .ref a6, .ref a7, .ref a8, .int (nI t), .ref a9]))] H := hP
        have hD : va_D A [(a2, .inl (cI, 200, .inl fi)), (a3, .inl (cI, 200, .inl ma)), (a4, .inl (cI, 200, .inl sz)), (a6, .inl (cB, 524288, .inl dk)), (k0, .inr (4, [.int 0, .int (nI nB), .int dn, .int wr, .int lf, .int (nI E), .ref a1, .ref a2, .ref a3, .ref a4, .ref a5, .int ch, .ref a6, .ref a7, .ref a8, .int (nI t), .ref a9]))] := hD
        refine lv_aload_n hx hb d_K_byteAt_31 rfl (lv_at hl 0 rfl) ?_
        refine va_get (D := (dC, dI)) (ci := 4) (v := .int 0) (C := R_K) (T := T_K) (N := 17) hx hb hts in_K hown hK hP 4 rfl rfl 0 (by decide) (hts _ ew_419) (fun _ h9 => h9) rfl d_K_byteAt_32 ?_
        refine lv_if_le (tgt := 42) hx hb d_K_byteAt_35 (by decide) (fun c_35 => ?_) (fun c_35 => ?_)
        · refine lv_aload_n hx hb d_K_byteAt_42 rfl (lv_at hl 0 rfl) ?_
          refine va_get (D := (dC, dI)) (ci := 4) (v := .ref a6) (C := R_K) (T := T_K) (N := 17) hx hb hts in_K hown hK hP 4 rfl rfl 12 (by decide) (hts _ ew_431) (fun _ h9 => h9) rfl d_K_byteAt_43 ?_
          refine lv_sipush (v := 4096) hx hb d_K_byteAt_46 (by decide) ?_
          refine lv_aload_n hx hb d_K_byteAt_49 rfl (lv_at hl 0 rfl) ?_
          refine va_get (D := (dC, dI)) (ci := 4) (v := .ref a2) (C := R_K) (T := T_K) (N := 17) hx hb hts in_K hown hK hP 4 rfl rfl 7 (by decide) (hts _ ew_426) (fun _ h9 => h9) rfl d_K_byteAt_50 ?_
          refine lv_iload_n hx hb d_K_byteAt_53 rfl (lv_at hl 1 rfl) ?_
          refine va_iald hx hb hK hP 0 0 rfl rfl (ek_isx_in hE c_6) d_K_byteAt_54 ?_
          refine lv_imul hx hb d_K_byteAt_55 ?_
          refine lv_iload_n hx hb d_K_byteAt_56 rfl (lv_at hl 2 rfl) ?_
          refine lv_iadd hx hb d_K_byteAt_57 ?_
          refine va_bald hx hb hK hP 3 1 rfl rfl (ek_byte_in hB hE hok c_6 c_10 c_20) d_K_byteAt_58 ?_
          refine lv_sipush (v := 255) hx hb d_K_byteAt_59 (by decide) ?_
          refine lv_iand hx hb d_K_byteAt_62 ?_
          exact ey_iret (W1 := fun (u : Int32) => [(k0, .inr (4, [.int u, .int (nI nB), .int dn, .int wr, .int lf, .int (nI E), .ref a1, .ref a2, .ref a3, .ref a4, .ref a5, .int ch, .ref a6, .ref a7, .ref a8, .int (nI t), .ref a9])), (a2, .inl (cI, 200, .inl fi)), (a3, .inl (cI, 200, .inl ma)), (a4, .inl (cI, 200, .inl sz)), (a6, .inl (cB, 524288, .inl dk))]) hx hb hr hlocks hP hD hS 0 [4, 0, 1, 2, 3] rfl (by decide) (by rw [ek_byte, show ek_kbyte dn E sz x y = 0 from by rw [ek_kbyte, if_neg c_6, if_neg c_10, if_neg c_20], if_pos rfl]) d_K_byteAt_63 (Nat.le_of_ble_eq_true rfl) (Nat.le_of_ble_eq_true rfl)
        · exact absurd c_35 (by decide)
set_option maxHeartbeats 4000000 in
set_option maxRecDepth 100000 in
theorem c_k_crash (l : Launch) (dC : Nat → ClassId) (dI : Nat → Nat → Nat) (cI cB cJ cZ : ClassId) (k0 a1 a2 a3 a4 a5 a6 a7 a8 a9 : Nat) (co : Int32) (nB : Nat) (dn wr lf : Int32) (E : Nat) (ch : Int32) (t : Nat) (x : Int32) : ey_Mv l y_K_crash w_K_crash { frames := 1, cells := 0, slots := 0, locals := 20 } (dC, dI) vwCl (ey_kt cI cB cJ cZ) [.ref k0, .int x] [(k0, .inr (4, [.int co, .int (nI nB), .int dn, .int wr, .int lf, .int (nI E), .ref a1, .ref a2, .ref a3, .ref a4, .ref a5, .int ch, .ref a6, .ref a7, .ref a8, .int (nI t), .ref a9]))] (fun (u : Int32 × Int32 × Int32 × Nat) => u = ek_crash dn lf x t) (fun (u : Int32 × Int32 × Int32 × Nat) => [(k0, .inr (4, [.int u.1, .int (nI nB), .int u.2.1, .int wr, .int u.2.2.1, .int (nI E), .ref a1, .ref a2, .ref a3, .ref a4, .ref a5, .int ch, .ref a6, .ref a7, .ref a8, .int (nI u.2.2.2), .ref a9]))]) 0 0 := by
  intro sz
  refine Met.ofW (cc := b_K_crash) (maxL := 2) (ret := none) (by decide) rfl ?_
  intro p e s m args below meth c s₁ B hml hv
  obtain ⟨rfl, hsz, hP, hK, hG, hD0⟩ := hv
  have hx := B.exec
  have hb := B.bytes
  have hr := B.returns
  have hts := fun (w : Cond) (h : w ∈ ew_T) => atoms_spec (ws := w_K_crash) B.pre w (List.mem_cons_of_mem _ h)
  have hown : s.vm.findClass R_K = some m.cls := findClass_of_methodNamed B.named
  have hlocks := B.notSynchronized
  subst hsz
  have hD := hD0.self (sz := s.heap.size)
  generalize hAe : va_A [(k0, .inr (4, [.int co, .int (nI nB), .int dn, .int wr, .int lf, .int (nI E), .ref a1, .ref a2, .ref a3, .ref a4, .ref a5, .int ch, .ref a6, .ref a7, .ref a8, .int (nI t), .ref a9]))] s.heap.size = A at hD ⊢
  have hA : ∀ q : Nat, s.heap.size ≤ q → A q := fun q h => by rw [← hAe]; exact Or.inr h
  have hS : va_S A s.heap s.heap [] := va_S.rf
  have hP : va_P (dC, dI) vwCl [(k0, .inr (4, [.int co, .int (nI nB), .int dn, .int wr, .int lf, .int (nI E), .ref a1, .ref a2, .ref a3, .ref a4, .ref a5, .int ch, .ref a6, .ref a7, .ref a8, .int (nI t), .ref a9]))] s.heap := hP
  have hl := lv_entry ([.ref k0, .int x]) (n := 2) (Nat.le_of_ble_eq_true rfl)
  rw [lg_entry_eq]
  generalize (lg_sl ([.ref k0, .int x]) ++ List.replicate (2 - (lg_sl ([.ref k0, .int x])).length) Slot.unset).toArray = ls at hl ⊢
  have hl : lv_has ls 2 [(0, .ref k0), (1, .int x)] := hl
  refine lv_aload_n hx hb d_K_crash_0 rfl (lv_at hl 0 rfl) ?_
  refine lv_iload_n hx hb d_K_crash_1 rfl (lv_at hl 1 rfl) ?_
  refine lv_iconst (v := (-1)) hx hb d_K_crash_2 (by decide) ?_
  refine lv_icmp_lt (tgt := 13) hx hb d_K_crash_3 (by decide) (fun c_3 => ?_) (fun c_3 => ?_)
  · refine lv_iconst (v := 1) hx hb d_K_crash_13 (by decide) ?_
    refine lv_goto (tgt := 29) hx hb d_K_crash_14 (by decide) ?_
    refine va_put (D := (dC, dI)) (ci := 4) (v := .int 1) (ty := .int) (C := R_K) (T := T_K) (N := 17) hx hb hts in_K t_K t_K_ok n_K hown hK hP hD hS 0 rfl rfl 0 (by decide) (hts _ ew_419) (fun _ h9 => h9) rfl (by decide +kernel) rfl rfl (Nat.le_of_ble_eq_true rfl) d_K_crash_29 (fun H locs hP hD hS => ?_)
    have hP : va_P (dC, dI) vwCl [(k0, .inr (4, [.int 1, .int (nI nB), .int dn, .int wr, .int lf, .int (nI E), .ref a1, .ref a2, .ref a3, .ref a4, .ref a5, .int ch, .ref a6, .ref a7, .ref a8, .int (nI t), .ref a9]))] H := hP
    have hD : va_D A [(k0, .inr (4, [.int 1, .int (nI nB), .int dn, .int wr, .int lf, .int (nI E), .ref a1, .ref a2, .ref a3, .ref a4, .ref a5, .int ch, .ref a6, .ref a7, .ref a8, .int (nI t), .ref a9]))] := hD
    refine lv_aload_n hx hb d_K_crash_32 rfl (lv_at hl 0 rfl) ?_
    refine va_get (D := (dC, dI)) (ci := 4) (v := .int 1) (C := R_K) (T := T_K) (N := 17) hx hb hts in_K hown hK hP 0 rfl rfl 0 (by decide) (hts _ ew_419) (fun _ h9 => h9) rfl d_K_crash_33 ?_
    refine lv_if_ne (tgt := 52) hx hb d_K_crash_36 (by decide) (fun c_36 => ?_) (fun c_36 => ?_)
    · exact ey_vret (W1 := fun (u : Int32 × Int32 × Int32 × Nat) => [(k0, .inr (4, [.int u.1, .int (nI nB), .int u.2.1, .int wr, .int u.2.2.1, .int (nI E), .ref a1, .ref a2, .ref a3, .ref a4, .ref a5, .int ch, .ref a6, .ref a7, .ref a8, .int (nI u.2.2.2), .ref a9]))]) hx hb hr hlocks hP hD hS (1, dn, lf, t) [0] rfl (by decide) (by rw [ek_crash, show ek_kcrash dn x = 1 from by rw [ek_kcrash, if_pos c_3], if_neg (by decide)]) d_K_crash_52 (Nat.le_of_ble_eq_true rfl) (Nat.le_of_ble_eq_true rfl)
    · exact absurd c_36 (by decide)
  · refine lv_iload_n hx hb d_K_crash_6 rfl (lv_at hl 1 rfl) ?_
    refine lv_sipush (v := 1000) hx hb d_K_crash_7 (by decide) ?_
    refine lv_icmp_le (tgt := 17) hx hb d_K_crash_10 (by decide) (fun c_10 => ?_) (fun c_10 => ?_)
    · refine lv_aload_n hx hb d_K_crash_17 rfl (lv_at hl 0 rfl) ?_
      refine va_get (D := (dC, dI)) (ci := 4) (v := .int dn) (C := R_K) (T := T_K) (N := 17) hx hb hts in_K hown hK hP 0 rfl rfl 2 (by decide) (hts _ ew_421) (fun _ h9 => h9) rfl d_K_crash_18 ?_
      refine lv_if_eq (tgt := 28) hx hb d_K_crash_21 (by decide) (fun c_21 => ?_) (fun c_21 => ?_)
      · refine lv_iconst (v := 0) hx hb d_K_crash_28 (by decide) ?_
        refine va_put (D := (dC, dI)) (ci := 4) (v := .int 0) (ty := .int) (C := R_K) (T := T_K) (N := 17) hx hb hts in_K t_K t_K_ok n_K hown hK hP hD hS 0 rfl rfl 0 (by decide) (hts _ ew_419) (fun _ h9 => h9) rfl (by decide +kernel) rfl rfl (Nat.le_of_ble_eq_true rfl) d_K_crash_29 (fun H locs hP hD hS => ?_)
        have hP : va_P (dC, dI) vwCl [(k0, .inr (4, [.int 0, .int (nI nB), .int dn, .int wr, .int lf, .int (nI E), .ref a1, .ref a2, .ref a3, .ref a4, .ref a5, .int ch, .ref a6, .ref a7, .ref a8, .int (nI t), .ref a9]))] H := hP
        have hD : va_D A [(k0, .inr (4, [.int 0, .int (nI nB), .int dn, .int wr, .int lf, .int (nI E), .ref a1, .ref a2, .ref a3, .ref a4, .ref a5, .int ch, .ref a6, .ref a7, .ref a8, .int (nI t), .ref a9]))] := hD
        refine lv_aload_n hx hb d_K_crash_32 rfl (lv_at hl 0 rfl) ?_
        refine va_get (D := (dC, dI)) (ci := 4) (v := .int 0) (C := R_K) (T := T_K) (N := 17) hx hb hts in_K hown hK hP 0 rfl rfl 0 (by decide) (hts _ ew_419) (fun _ h9 => h9) rfl d_K_crash_33 ?_
        refine lv_if_ne (tgt := 52) hx hb d_K_crash_36 (by decide) (fun c_36 => ?_) (fun c_36 => ?_)
        · exact absurd rfl c_36
        · refine lv_aload_n hx hb d_K_crash_39 rfl (lv_at hl 0 rfl) ?_
          refine lv_iload_n hx hb d_K_crash_40 rfl (lv_at hl 1 rfl) ?_
          refine va_put (D := (dC, dI)) (ci := 4) (v := .int x) (ty := .int) (C := R_K) (T := T_K) (N := 17) hx hb hts in_K t_K t_K_ok n_K hown hK hP hD hS 0 rfl rfl 4 (by decide) (hts _ ew_423) (fun _ h9 => h9) rfl (by decide +kernel) rfl rfl (Nat.le_of_ble_eq_true rfl) d_K_crash_41 (fun H locs hP hD hS => ?_)
          have hP : va_P (dC, dI) vwCl [(k0, .inr (4, [.int 0, .int (nI nB), .int dn, .int wr, .int x, .int (nI E), .ref a1, .ref a2, .ref a3, .ref a4, .ref a5, .int ch, .ref a6, .ref a7, .ref a8, .int (nI t), .ref a9]))] H := hP
          have hD : va_D A [(k0, .inr (4, [.int 0, .int (nI nB), .int dn, .int wr, .int x, .int (nI E), .ref a1, .ref a2, .ref a3, .ref a4, .ref a5, .int ch, .ref a6, .ref a7, .ref a8, .int (nI t), .ref a9]))] := hD
          refine lv_iload_n hx hb d_K_crash_44 rfl (lv_at hl 1 rfl) ?_
          refine lv_if_ne (tgt := 52) hx hb d_K_crash_45 (by decide) (fun c_45 => ?_) (fun c_45 => ?_)
          · exact ey_vret (W1 := fun (u : Int32 × Int32 × Int32 × Nat) => [(k0, .inr (4, [.int u.1, .int (nI nB), .int u.2.1, .int wr, .int u.2.2.1, .int (nI E), .ref a1, .ref a2, .ref a3, .ref a4, .ref a5, .int ch, .ref a6, .ref a7, .ref a8, .int (nI u.2.2.2), .ref a9]))]) hx hb hr hlocks hP hD hS (0, dn, x, t) [0] rfl (by decide) (by rw [ek_crash, show ek_kcrash dn x = 0 from by rw [ek_kcrash, if_neg c_3, if_pos c_10, if_pos c_21], if_pos rfl, if_pos c_45]) d_K_crash_52 (Nat.le_of_ble_eq_true rfl) (Nat.le_of_ble_eq_true rfl)
          · refine lv_aload_n hx hb d_K_crash_48 rfl (lv_at hl 0 rfl) ?_
            refine ey_Vv (Wc := [(k0, .inr (4, [.int 0, .int (nI nB), .int dn, .int wr, .int x, .int (nI E), .ref a1, .ref a2, .ref a3, .ref a4, .ref a5, .int ch, .ref a6, .ref a7, .ref a8, .int (nI t), .ref a9]))]) (wr := []) (As := []) (rest := []) ⟨hx, hb, hml, hown, hts⟩ (c_k_fail l dC dI cI cB cJ cZ k0 a1 a2 a3 a4 a5 a6 a7 a8 a9 0 nB dn wr x E ch t) (cwV 0 hts (ew_V ew_517 ew_519 ew_10 ew_18 g_K_fail) rfl rfl rfl (by decide +kernel) ⟨Nat.le_of_ble_eq_true rfl, Nat.le_of_ble_eq_true rfl⟩) hK hG hP hD hS hA [0] [] rfl rfl (by decide) (by decide) (by decide) (ci := 4) (q0 := 0) rfl rfl rfl hl.1 rfl (Nat.le_of_ble_eq_true rfl) d_K_crash_49 ⟨Nat.le_of_ble_eq_true rfl, Nat.le_of_ble_eq_true rfl⟩ (fun u_2 H locs e_3 hP hD hS => ?_)
            have hP : va_P (dC, dI) vwCl [(k0, .inr (4, [.int 0, .int (nI nB), .int 1, .int wr, .int (-1), .int (nI E), .ref a1, .ref a2, .ref a3, .ref a4, .ref a5, .int ch, .ref a6, .ref a7, .ref a8, .int (nI 0), .ref a9]))] H := hP
            have hD : va_D A [(k0, .inr (4, [.int 0, .int (nI nB), .int 1, .int wr, .int (-1), .int (nI E), .ref a1, .ref a2, .ref a3, .ref a4, .ref a5, .int ch, .ref a6, .ref a7, .ref a8, .int (nI 0), .ref a9]))] := hD
            exact ey_vret (W1 := fun (u : Int32 × Int32 × Int32 × Nat) => [(k0, .inr (4, [.int u.1, .int (nI nB), .int u.2.1, .int wr, .int u.2.2.1, .int (nI E), .ref a1, .ref a2, .ref a3, .ref a4, .ref a5, .int ch, .ref a6, .ref a7, .ref a8, .int (nI u.2.2.2), .ref a9]))]) hx hb hr hlocks hP hD hS (0, 1, -1, 0) [0] rfl (by decide) (by rw [ek_crash, show ek_kcrash dn x = 0 from by rw [ek_kcrash, if_neg c_3, if_pos c_10, if_pos c_21], if_pos rfl, if_neg (fun h9 => h9 c_45)]) d_K_crash_52 (Nat.le_of_ble_eq_true rfl) (Nat.le_of_ble_eq_true rfl)
      · refine lv_iconst (v := 2) hx hb d_K_crash_24 (by decide) ?_
        refine lv_goto (tgt := 29) hx hb d_K_crash_25 (by decide) ?_
        refine va_put (D := (dC, dI)) (ci := 4) (v := .int 2) (ty := .int) (C := R_K) (T := T_K) (N := 17) hx hb hts in_K t_K t_K_ok n_K hown hK hP hD hS 0 rfl rfl 0 (by decide) (hts _ ew_419) (fun _ h9 => h9) rfl (by decide +kernel) rfl rfl (Nat.le_of_ble_eq_true rfl) d_K_crash_29 (fun H locs hP hD hS => ?_)
        have hP : va_P (dC, dI) vwCl [(k0, .inr (4, [.int 2, .int (nI nB), .int dn, .int wr, .int lf, .int (nI E), .ref a1, .ref a2, .ref a3, .ref a4, .ref a5, .int ch, .ref a6, .ref a7, .ref a8, .int (nI t), .ref a9]))] H := hP
        have hD : va_D A [(k0, .inr (4, [.int 2, .int (nI nB), .int dn, .int wr, .int lf, .int (nI E), .ref a1, .ref a2, .ref a3, .ref a4, .ref a5, .int ch, .ref a6, .ref a7, .ref a8, .int (nI t), .ref a9]))] := hD
        refine lv_aload_n hx hb d_K_crash_32 rfl (lv_at hl 0 rfl) ?_
        refine va_get (D := (dC, dI)) (ci := 4) (v := .int 2) (C := R_K) (T := T_K) (N := 17) hx hb hts in_K hown hK hP 0 rfl rfl 0 (by decide) (hts _ ew_419) (fun _ h9 => h9) rfl d_K_crash_33 ?_
        refine lv_if_ne (tgt := 52) hx hb d_K_crash_36 (by decide) (fun c_36 => ?_) (fun c_36 => ?_)
        · exact ey_vret (W1 := fun (u : Int32 × Int32 × Int32 × Nat) => [(k0, .inr (4, [.int u.1, .int (nI nB), .int u.2.1, .int wr, .int u.2.2.1, .int (nI E), .ref a1, .ref a2, .ref a3, .ref a4, .ref a5, .int ch, .ref a6, .ref a7, .ref a8, .int (nI u.2.2.2), .ref a9]))]) hx hb hr hlocks hP hD hS (2, dn, lf, t) [0] rfl (by decide) (by rw [ek_crash, show ek_kcrash dn x = 2 from by rw [ek_kcrash, if_neg c_3, if_pos c_10, if_neg c_21], if_neg (by decide)]) d_K_crash_52 (Nat.le_of_ble_eq_true rfl) (Nat.le_of_ble_eq_true rfl)
        · exact absurd c_36 (by decide)
    · refine lv_iconst (v := 1) hx hb d_K_crash_13 (by decide) ?_
      refine lv_goto (tgt := 29) hx hb d_K_crash_14 (by decide) ?_
      refine va_put (D := (dC, dI)) (ci := 4) (v := .int 1) (ty := .int) (C := R_K) (T := T_K) (N := 17) hx hb hts in_K t_K t_K_ok n_K hown hK hP hD hS 0 rfl rfl 0 (by decide) (hts _ ew_419) (fun _ h9 => h9) rfl (by decide +kernel) rfl rfl (Nat.le_of_ble_eq_true rfl) d_K_crash_29 (fun H locs hP hD hS => ?_)
      have hP : va_P (dC, dI) vwCl [(k0, .inr (4, [.int 1, .int (nI nB), .int dn, .int wr, .int lf, .int (nI E), .ref a1, .ref a2, .ref a3, .ref a4, .ref a5, .int ch, .ref a6, .ref a7, .ref a8, .int (nI t), .ref a9]))] H := hP
      have hD : va_D A [(k0, .inr (4, [.int 1, .int (nI nB), .int dn, .int wr, .int lf, .int (nI E), .ref a1, .ref a2, .ref a3, .ref a4, .ref a5, .int ch, .ref a6, .ref a7, .ref a8, .int (nI t), .ref a9]))] := hD
      refine lv_aload_n hx hb d_K_crash_32 rfl (lv_at hl 0 rfl) ?_
      refine va_get (D := (dC, dI)) (ci := 4) (v := .int 1) (C := R_K) (T := T_K) (N := 17) hx hb hts in_K hown hK hP 0 rfl rfl 0 (by decide) (hts _ ew_419) (fun _ h9 => h9) rfl d_K_crash_33 ?_
      refine lv_if_ne (tgt := 52) hx hb d_K_crash_36 (by decide) (fun c_36 => ?_) (fun c_36 => ?_)
      · exact ey_vret (W1 := fun (u : Int32 × Int32 × Int32 × Nat) => [(k0, .inr (4, [.int u.1, .int (nI nB), .int u.2.1, .int wr, .int u.2.2.1, .int (nI E), .ref a1, .ref a2, .ref a3, .ref a4, .ref a5, .int ch, .ref a6, .ref a7, .ref a8, .int (nI u.2.2.2), .ref a9]))]) hx hb hr hlocks hP hD hS (1, dn, lf, t) [0] rfl (by decide) (by rw [ek_crash, show ek_kcrash dn x = 1 from by rw [ek_kcrash, if_neg c_3, if_neg c_10], if_neg (by decide)]) d_K_crash_52 (Nat.le_of_ble_eq_true rfl) (Nat.le_of_ble_eq_true rfl)
      · exact absurd c_36 (by decide)
