set_option maxHeartbeats 4000000 in
set_option maxRecDepth 100000 in
theorem c_mf_clear (l : Launch) (dC : Nat → ClassId) (dI : Nat → Nat → Nat) (cI cB cJ cZ : ClassId) (h0 h1 h2 h3 h4 : Nat) (ex ch : Int32) (no : ep_F) : ey_Mv l y_M_clear w_M_clear { frames := 1, cells := 0, slots := 0, locals := 23 } (dC, dI) vwCl (ey_kt cI cB cJ cZ) [.ref h0] [(h0, .inr (0, [.ref h1, .ref h2, .ref h3, .ref h4, .int ex, .int ch])), (h4, .inl (cI, 24, .inl no))] (fun (u : ep_F) => u = ep_fill 24 0 no) (fun (u : ep_F) => [(h0, .inr (0, [.ref h1, .ref h2, .ref h3, .ref h4, .int 0, .int 0])), (h4, .inl (cI, 24, .inl u))]) 0 0 := by
  intro sz
  refine Met.ofW (cc := b_M_clear) (maxL := 1) (ret := none) (by decide) rfl ?_
  intro p e s m args below meth c s₁ B hml hv
  obtain ⟨rfl, hsz, hP, hK, hG, hD0⟩ := hv
  have hx := B.exec
  have hb := B.bytes
  have hr := B.returns
  have hts := fun (w : Cond) (h : w ∈ ew_T) => atoms_spec (ws := w_M_clear) B.pre w (List.mem_cons_of_mem _ h)
  have hown : s.vm.findClass R_M = some m.cls := findClass_of_methodNamed B.named
  have hlocks := B.notSynchronized
  subst hsz
  have hD := hD0.self (sz := s.heap.size)
  generalize hAe : va_A [(h0, .inr (0, [.ref h1, .ref h2, .ref h3, .ref h4, .int ex, .int ch])), (h4, .inl (cI, 24, .inl no))] s.heap.size = A at hD ⊢
  have hA : ∀ q : Nat, s.heap.size ≤ q → A q := fun q h => by rw [← hAe]; exact Or.inr h
  have hS : va_S A s.heap s.heap [] := va_S.rf
  have hP : va_P (dC, dI) vwCl [(h0, .inr (0, [.ref h1, .ref h2, .ref h3, .ref h4, .int ex, .int ch])), (h4, .inl (cI, 24, .inl no))] s.heap := hP
  have hl := lv_entry ([.ref h0]) (n := 1) (Nat.le_of_ble_eq_true rfl)
  rw [lg_entry_eq]
  generalize (lg_sl ([.ref h0]) ++ List.replicate (1 - (lg_sl ([.ref h0])).length) Slot.unset).toArray = ls at hl ⊢
  have hl : lv_has ls 1 [(0, .ref h0)] := hl
  refine lv_aload_n hx hb d_M_clear_0 rfl (lv_at hl 0 rfl) ?_
  refine lv_iconst (v := 0) hx hb d_M_clear_1 (by decide) ?_
  refine va_put (D := (dC, dI)) (ci := 0) (v := .int 0) (ty := .int) (C := R_M) (T := T_M) (N := 6) hx hb hts in_M t_M t_M_ok n_M hown hK hP hD hS 0 rfl rfl 4 (by decide) (hts _ ew_91) (fun _ h9 => h9) rfl (by decide +kernel) rfl rfl (Nat.le_of_ble_eq_true rfl) d_M_clear_2 (fun H locs hP hD hS => ?_)
  have hP : va_P (dC, dI) vwCl [(h0, .inr (0, [.ref h1, .ref h2, .ref h3, .ref h4, .int 0, .int ch])), (h4, .inl (cI, 24, .inl no))] H := hP
  have hD : va_D A [(h0, .inr (0, [.ref h1, .ref h2, .ref h3, .ref h4, .int 0, .int ch])), (h4, .inl (cI, 24, .inl no))] := hD
  refine lv_aload_n hx hb d_M_clear_5 rfl (lv_at hl 0 rfl) ?_
  refine lv_iconst (v := 0) hx hb d_M_clear_6 (by decide) ?_
  refine va_put (D := (dC, dI)) (ci := 0) (v := .int 0) (ty := .int) (C := R_M) (T := T_M) (N := 6) hx hb hts in_M t_M t_M_ok n_M hown hK hP hD hS 0 rfl rfl 5 (by decide) (hts _ ew_93) (fun _ h9 => h9) rfl (by decide +kernel) rfl rfl (Nat.le_of_ble_eq_true rfl) d_M_clear_7 (fun H locs hP hD hS => ?_)
  have hP : va_P (dC, dI) vwCl [(h0, .inr (0, [.ref h1, .ref h2, .ref h3, .ref h4, .int 0, .int 0])), (h4, .inl (cI, 24, .inl no))] H := hP
  have hD : va_D A [(h0, .inr (0, [.ref h1, .ref h2, .ref h3, .ref h4, .int 0, .int 0])), (h4, .inl (cI, 24, .inl no))] := hD
  refine lv_aload_n hx hb d_M_clear_10 rfl (lv_at hl 0 rfl) ?_
  refine va_get (D := (dC, dI)) (ci := 0) (v := .ref h4) (C := R_M) (T := T_M) (N := 6) hx hb hts in_M hown hK hP 0 rfl rfl 3 (by decide) (hts _ ew_89) (fun _ h9 => h9) rfl d_M_clear_11 ?_
  refine lv_iconst (v := 0) hx hb d_M_clear_14 (by decide) ?_
  refine ey_Sv (Wc := [(h4, .inl (cI, 24, .inl no))]) (wr := [(h0, .inr (0, [.ref h1, .ref h2, .ref h3, .ref h4, .int 0, .int 0]))]) (As := [.ref h4, .int 0]) (rest := []) ⟨hx, hb, hml, hown, hts⟩ (c_ar_fill l dC dI cI cB cJ cZ h4 24 no 0 (by decide)) (va_cwS 2 hts (ew_S ew_147 ew_148 ew_24 g_A_fill) rfl rfl rfl (by decide +kernel) ⟨Nat.le_of_ble_eq_true rfl, Nat.le_of_ble_eq_true rfl⟩) hK hG hP hD hS hA [1] [0] rfl rfl (by decide) (by decide) (by decide) rfl hl.1 rfl (Nat.le_of_ble_eq_true rfl) d_M_clear_15 ⟨Nat.le_of_ble_eq_true rfl, Nat.le_of_ble_eq_true rfl⟩ (fun u_2 H locs e_3 hP hD hS => ?_)
  have hP : va_P (dC, dI) vwCl [(h0, .inr (0, [.ref h1, .ref h2, .ref h3, .ref h4, .int 0, .int 0])), (h4, .inl (cI, 24, .inl u_2))] H := hP
  have hD : va_D A [(h0, .inr (0, [.ref h1, .ref h2, .ref h3, .ref h4, .int 0, .int 0])), (h4, .inl (cI, 24, .inl u_2))] := hD
  subst e_3
  exact ey_vret (W1 := fun (u : ep_F) => [(h0, .inr (0, [.ref h1, .ref h2, .ref h3, .ref h4, .int 0, .int 0])), (h4, .inl (cI, 24, .inl u))]) hx hb hr hlocks hP hD hS (ep_fill 24 0 no) [0, 1] rfl (by decide) rfl d_M_clear_18 (Nat.le_of_ble_eq_true rfl) (Nat.le_of_ble_eq_true rfl)
set_option maxHeartbeats 4000000 in
set_option maxRecDepth 100000 in
theorem c_mf_take_L {p : Program} {l : Launch} {e : Env} {s : State} {m : MethodId} {args : Array Value} {below : List Frame} {meth : Method} {c : Code} {dC : Nat → ClassId} {dI : Nat → Nat → Nat} {cI cB cJ cZ : ClassId} {A : Nat → Prop} {h0 h1 h2 h3 h4 : Nat} {ex ch : Int32} {no : ep_F} {h5 : Nat} {w : ep_F}  (hK : va_K (dC, dI) vwCl (ey_kt cI cB cJ cZ) s) (hG : ex_G s) (C0 : ey_Cx p s m args meth c b_M_takeNotes 3 R_M ew_T none A)  :
    ∀ (fuel : Nat) (i : Nat) (g : ep_F) (hi : i + fuel = 25) (hin : i ≤ 24) (hu : ep_tn w fuel i g = ep_tn w 25 0 no), ∀ (H : Heap) (locs : List Loc), va_P (dC, dI) vwCl [(h0, .inr (0, [.ref h1, .ref h2, .ref h3, .ref h4, .int ex, .int ch])), (h4, .inl (cI, 24, .inl g)), (h5, .inl (cI, 24, .inl w))] H → va_D A [(h0, .inr (0, [.ref h1, .ref h2, .ref h3, .ref h4, .int ex, .int ch])), (h4, .inl (cI, 24, .inl g)), (h5, .inl (cI, 24, .inl w))] → va_S A s.heap H locs → ∀ (ls : Array Slot), lv_has ls 3 [(0, .ref h0), (1, .ref h5), (2, .int (nI i))] → W p l e { frames := 0, cells := 0, slots := 0, locals := 0 } s m args below meth c H locs 0 0 (MQ below (va_Qv (fun (u : ep_F) => u = ep_tn w 25 0 no) (fun u t8 => ey_Post (dC, dI) vwCl A ((fun (u : ep_F) => [(h0, .inr (0, [.ref h1, .ref h2, .ref h3, .ref h4, .int ex, .int ch])), (h4, .inl (cI, 24, .inl u)), (h5, .inl (cI, 24, .inl w))]) u) t8) A) args s 0 0 A) (F0 m 2 ls []) := by
  obtain ⟨hx, hb, hml, hown, hts, hr, hlocks, hA⟩ := id C0
  intro fuel
  induction fuel with
  | zero =>
    intro i g hi hin hu H locs hP hD hS ls hl
    exact absurd hi (by omega)
  | succ fuel ih =>
    intro i g hi hin hu H locs hP hD hS ls hl
    refine lv_iload_n hx hb d_M_takeNotes_2 rfl (lv_at hl 2 rfl) ?_
    refine lv_bipush (v := 24) hx hb d_M_takeNotes_3 (by decide) ?_
    refine lv_icmp_ge (tgt := 29) hx hb d_M_takeNotes_5 (by decide) (fun c_5 => ?_) (fun c_5 => ?_)
    · exact ey_vret (W1 := fun (u : ep_F) => [(h0, .inr (0, [.ref h1, .ref h2, .ref h3, .ref h4, .int ex, .int ch])), (h4, .inl (cI, 24, .inl u)), (h5, .inl (cI, 24, .inl w))]) hx hb hr hlocks hP hD hS g [0, 1, 2] rfl (by decide) (by rw [← hu]; simp only [ep_tn, ↓reduceIte, c_5]) d_M_takeNotes_29 (Nat.le_of_ble_eq_true rfl) (Nat.le_of_ble_eq_true rfl)
    · have hlt : i < 24 := ey_lt24 (by omega) c_5
      refine lv_iload_n hx hb d_M_takeNotes_8 rfl (lv_at hl 2 rfl) ?_
      refine lv_aload_n hx hb d_M_takeNotes_9 rfl (lv_at hl 1 rfl) ?_
      refine va_alen hx hb hK hP 2 0 rfl rfl (v := nI 24) rfl d_M_takeNotes_10 ?_
      refine lv_icmp_ge (tgt := 29) hx hb d_M_takeNotes_11 (by decide) (fun c_11 => ?_) (fun c_11 => ?_)
      · exact ey_vret (W1 := fun (u : ep_F) => [(h0, .inr (0, [.ref h1, .ref h2, .ref h3, .ref h4, .int ex, .int ch])), (h4, .inl (cI, 24, .inl u)), (h5, .inl (cI, 24, .inl w))]) hx hb hr hlocks hP hD hS g [0, 1, 2] rfl (by decide) (by rw [← hu]; simp only [ep_tn, ↓reduceIte, c_5, c_11]) d_M_takeNotes_29 (Nat.le_of_ble_eq_true rfl) (Nat.le_of_ble_eq_true rfl)
      · refine lv_aload_n hx hb d_M_takeNotes_14 rfl (lv_at hl 0 rfl) ?_
        refine va_get (D := (dC, dI)) (ci := 0) (v := .ref h4) (C := R_M) (T := T_M) (N := 6) hx hb hts in_M hown hK hP 0 rfl rfl 3 (by decide) (hts _ ew_89) (fun _ h9 => h9) rfl d_M_takeNotes_15 ?_
        refine lv_iload_n hx hb d_M_takeNotes_18 rfl (lv_at hl 2 rfl) ?_
        refine lv_aload_n hx hb d_M_takeNotes_19 rfl (lv_at hl 1 rfl) ?_
        refine lv_iload_n hx hb d_M_takeNotes_20 rfl (lv_at hl 2 rfl) ?_
        refine va_iald hx hb hK hP 2 0 rfl rfl (vp_in_nI hlt (by decide)) d_M_takeNotes_21 ?_
        refine va_iast hx hb hK hP hD hS 1 0 rfl rfl (vp_in_nI hlt (by decide)) d_M_takeNotes_22 (fun H locs hP hD hS => ?_)
        have hP : va_P (dC, dI) vwCl [(h0, .inr (0, [.ref h1, .ref h2, .ref h3, .ref h4, .int ex, .int ch])), (h4, .inl (cI, 24, .inl (upd g (nI i).toNatClampNeg (w (nI i).toNatClampNeg)))), (h5, .inl (cI, 24, .inl w))] H := hP
        have hD : va_D A [(h0, .inr (0, [.ref h1, .ref h2, .ref h3, .ref h4, .int ex, .int ch])), (h4, .inl (cI, 24, .inl (upd g (nI i).toNatClampNeg (w (nI i).toNatClampNeg)))), (h5, .inl (cI, 24, .inl w))] := hD
        refine lv_iinc (v := nI (i + 1)) (lv' := [(2, .int (nI (i + 1))), (0, .ref h0), (1, .ref h5)]) hx hb d_M_takeNotes_23 hl (k := 2) rfl (nI_1 i) (by decide) rfl (fun ls hl => ?_)
        refine lv_goto (tgt := 2) hx hb d_M_takeNotes_26 (by decide) ?_
        exact ih (i + 1) (upd g (nI i).toNatClampNeg (w (nI i).toNatClampNeg)) (by omega) (by omega) (by rw [← hu]; simp only [ep_tn, c_5, c_11, ↓reduceIte]) _ _ hP hD hS ls (lv_sub hl [1, 2, 0] rfl)
set_option maxHeartbeats 4000000 in
set_option maxRecDepth 100000 in
theorem c_mf_take (l : Launch) (dC : Nat → ClassId) (dI : Nat → Nat → Nat) (cI cB cJ cZ : ClassId) (h0 h1 h2 h3 h4 : Nat) (ex ch : Int32) (no : ep_F) (h5 : Nat) (w : ep_F) : ey_Mv l y_M_takeNotes w_M_takeNotes { frames := 0, cells := 0, slots := 0, locals := 0 } (dC, dI) vwCl (ey_kt cI cB cJ cZ) [.ref h0, .ref h5] [(h0, .inr (0, [.ref h1, .ref h2, .ref h3, .ref h4, .int ex, .int ch])), (h4, .inl (cI, 24, .inl no)), (h5, .inl (cI, 24, .inl w))] (fun (u : ep_F) => u = ep_tn w 25 0 no) (fun (u : ep_F) => [(h0, .inr (0, [.ref h1, .ref h2, .ref h3, .ref h4, .int ex, .int ch])), (h4, .inl (cI, 24, .inl u)), (h5, .inl (cI, 24, .inl w))]) 0 0 := by
  intro sz
  refine Met.ofW (cc := b_M_takeNotes) (maxL := 3) (ret := none) (by decide) rfl ?_
  intro p e s m args below meth c s₁ B hml hv
  obtain ⟨rfl, hsz, hP, hK, hG, hD0⟩ := hv
  have hx := B.exec
  have hb := B.bytes
  have hr := B.returns
  have hts := fun (w : Cond) (h : w ∈ ew_T) => atoms_spec (ws := w_M_takeNotes) B.pre w (List.mem_cons_of_mem _ h)
  have hown : s.vm.findClass R_M = some m.cls := findClass_of_methodNamed B.named
  have hlocks := B.notSynchronized
  subst hsz
  have hD := hD0.self (sz := s.heap.size)
  generalize hAe : va_A [(h0, .inr (0, [.ref h1, .ref h2, .ref h3, .ref h4, .int ex, .int ch])), (h4, .inl (cI, 24, .inl no)), (h5, .inl (cI, 24, .inl w))] s.heap.size = A at hD ⊢
  have hA : ∀ q : Nat, s.heap.size ≤ q → A q := fun q h => by rw [← hAe]; exact Or.inr h
  have hS : va_S A s.heap s.heap [] := va_S.rf
  have hP : va_P (dC, dI) vwCl [(h0, .inr (0, [.ref h1, .ref h2, .ref h3, .ref h4, .int ex, .int ch])), (h4, .inl (cI, 24, .inl no)), (h5, .inl (cI, 24, .inl w))] s.heap := hP
  have hl := lv_entry ([.ref h0, .ref h5]) (n := 3) (Nat.le_of_ble_eq_true rfl)
  rw [lg_entry_eq]
  generalize (lg_sl ([.ref h0, .ref h5]) ++ List.replicate (3 - (lg_sl ([.ref h0, .ref h5])).length) Slot.unset).toArray = ls at hl ⊢
  have hl : lv_has ls 3 [(0, .ref h0), (1, .ref h5)] := hl
  have C0 : ey_Cx p s m [.ref h0, .ref h5].toArray meth c b_M_takeNotes 3 R_M ew_T none A := ⟨hx, hb, hml, hown, hts, hr, hlocks, hA⟩
  refine lv_iconst (v := nI 0) hx hb d_M_takeNotes_0 (by decide) ?_
  refine lv_istore_n (lv' := [(2, .int (nI 0)), (0, .ref h0), (1, .ref h5)]) hx hb d_M_takeNotes_1 rfl hl (by decide) rfl (fun ls hl => ?_)
  exact c_mf_take_L (h0 := h0) (h1 := h1) (h2 := h2) (h3 := h3) (h4 := h4) (ex := ex) (ch := ch) (no := no) (h5 := h5) (w := w) hK hG C0 25 0 no rfl (by omega) rfl _ _ hP hD hS ls (lv_sub hl [1, 2, 0] rfl)
set_option maxHeartbeats 4000000 in
set_option maxRecDepth 100000 in
theorem c_mf_follow_L {p : Program} {l : Launch} {e : Env} {s : State} {m : MethodId} {args : Array Value} {below : List Frame} {meth : Method} {c : Code} {dC : Nat → ClassId} {dI : Nat → Nat → Nat} {cI cB cJ cZ : ClassId} {A : Nat → Prop} {h0 h1 h2 h3 h4 : Nat} {ex ch : Int32} {la fi si no : ep_F} {k0 k1 k2 k3 k4 : Nat} {bex bch : Int32} {bla bfi bsi : ep_F} {fr to : Int32} (g : ep_F) (hg9 : g = ep_fill 24 0 no) (hK : va_K (dC, dI) vwCl (ey_kt cI cB cJ cZ) s) (hG : ex_G s) (C0 : ey_Cx p s m args meth c b_M_follow 6 R_M ew_T none A)  :
    ∀ (fuel : Nat) (i : Nat) (q : ep_R) (hi : i + fuel = 201) (hin : i ≤ 200) (hu : ep_fol bla bfi bsi bex fr to fuel i q = ep_fol bla bfi bsi bex fr to 201 0 (la, fi, si, 0)), ∀ (H : Heap) (locs : List Loc), va_P (dC, dI) vwCl [(h0, .inr (0, [.ref h1, .ref h2, .ref h3, .ref h4, .int q.2.2.2, .int (bch + 1)])), (h1, .inl (cI, 200, .inl q.1)), (h2, .inl (cI, 200, .inl q.2.1)), (h3, .inl (cI, 200, .inl q.2.2.1)), (h4, .inl (cI, 24, .inl g)), (k0, .inr (0, [.ref k1, .ref k2, .ref k3, .ref k4, .int bex, .int bch])), (k1, .inl (cI, 200, .inl bla)), (k2, .inl (cI, 200, .inl bfi)), (k3, .inl (cI, 200, .inl bsi))] H → va_D A [(h0, .inr (0, [.ref h1, .ref h2, .ref h3, .ref h4, .int q.2.2.2, .int (bch + 1)])), (h1, .inl (cI, 200, .inl q.1)), (h2, .inl (cI, 200, .inl q.2.1)), (h3, .inl (cI, 200, .inl q.2.2.1)), (h4, .inl (cI, 24, .inl g)), (k0, .inr (0, [.ref k1, .ref k2, .ref k3, .ref k4, .int bex, .int bch])), (k1, .inl (cI, 200, .inl bla)), (k2, .inl (cI, 200, .inl bfi)), (k3, .inl (cI, 200, .inl bsi))] → va_S A s.heap H locs → ∀ (ls : Array Slot), lv_has ls 6 [(0, .ref h0), (1, .ref k0), (2, .int fr), (3, .int to), (4, .int (nI i))] → W p l e { frames := 2, cells := 0, slots := 0, locals := 50 } s m args below meth c H locs 0 0 (MQ below (va_Qv (fun (u : ep_R × ep_F) => u = (ep_fol bla bfi bsi bex fr to 201 0 (la, fi, si, 0), ep_fill 24 0 no)) (fun u t8 => ey_Post (dC, dI) vwCl A ((fun (u : ep_R × ep_F) => [(h0, .inr (0, [.ref h1, .ref h2, .ref h3, .ref h4, .int u.1.2.2.2, .int (bch + 1)])), (h1, .inl (cI, 200, .inl u.1.1)), (h2, .inl (cI, 200, .inl u.1.2.1)), (h3, .inl (cI, 200, .inl u.1.2.2.1)), (h4, .inl (cI, 24, .inl u.2)), (k0, .inr (0, [.ref k1, .ref k2, .ref k3, .ref k4, .int bex, .int bch])), (k1, .inl (cI, 200, .inl bla)), (k2, .inl (cI, 200, .inl bfi)), (k3, .inl (cI, 200, .inl bsi))]) u) t8) A) args s 0 0 A) (F0 m 17 ls []) := by
  obtain ⟨hx, hb, hml, hown, hts, hr, hlocks, hA⟩ := id C0
  intro fuel
  induction fuel with
  | zero =>
    intro i q hi hin hu H locs hP hD hS ls hl
    exact absurd hi (by omega)
  | succ fuel ih =>
    intro i q hi hin hu H locs hP hD hS ls hl
    refine lv_iload hx hb d_M_follow_17 (lv_at hl 4 rfl) ?_
    refine lv_aload_n hx hb d_M_follow_19 rfl (lv_at hl 1 rfl) ?_
    refine va_get (D := (dC, dI)) (ci := 0) (v := .int bex) (C := R_M) (T := T_M) (N := 6) hx hb hts in_M hown hK hP 5 rfl rfl 4 (by decide) (hts _ ew_91) (fun _ h9 => h9) rfl d_M_follow_20 ?_
    refine lv_icmp_ge (tgt := 82) hx hb d_M_follow_23 (by decide) (fun c_23 => ?_) (fun c_23 => ?_)
    · exact ey_vret (W1 := fun (u : ep_R × ep_F) => [(h0, .inr (0, [.ref h1, .ref h2, .ref h3, .ref h4, .int u.1.2.2.2, .int (bch + 1)])), (h1, .inl (cI, 200, .inl u.1.1)), (h2, .inl (cI, 200, .inl u.1.2.1)), (h3, .inl (cI, 200, .inl u.1.2.2.1)), (h4, .inl (cI, 24, .inl u.2)), (k0, .inr (0, [.ref k1, .ref k2, .ref k3, .ref k4, .int bex, .int bch])), (k1, .inl (cI, 200, .inl bla)), (k2, .inl (cI, 200, .inl bfi)), (k3, .inl (cI, 200, .inl bsi))]) hx hb hr hlocks hP hD hS (q, g) [0, 1, 2, 3, 4, 5, 6, 7, 8] rfl (by decide) (by rw [← hg9, ← hu]; simp only [ep_fol, ↓reduceIte, c_23]) d_M_follow_82 (Nat.le_of_ble_eq_true rfl) (Nat.le_of_ble_eq_true rfl)
    · refine lv_iload hx hb d_M_follow_26 (lv_at hl 4 rfl) ?_
      refine lv_sipush (v := 200) hx hb d_M_follow_28 (by decide) ?_
      refine lv_icmp_ge (tgt := 82) hx hb d_M_follow_31 (by decide) (fun c_31 => ?_) (fun c_31 => ?_)
      · exact ey_vret (W1 := fun (u : ep_R × ep_F) => [(h0, .inr (0, [.ref h1, .ref h2, .ref h3, .ref h4, .int u.1.2.2.2, .int (bch + 1)])), (h1, .inl (cI, 200, .inl u.1.1)), (h2, .inl (cI, 200, .inl u.1.2.1)), (h3, .inl (cI, 200, .inl u.1.2.2.1)), (h4, .inl (cI, 24, .inl u.2)), (k0, .inr (0, [.ref k1, .ref k2, .ref k3, .ref k4, .int bex, .int bch])), (k1, .inl (cI, 200, .inl bla)), (k2, .inl (cI, 200, .inl bfi)), (k3, .inl (cI, 200, .inl bsi))]) hx hb hr hlocks hP hD hS (q, g) [0, 1, 2, 3, 4, 5, 6, 7, 8] rfl (by decide) (by rw [← hg9, ← hu]; simp only [ep_fol, ↓reduceIte, c_23, c_31]) d_M_follow_82 (Nat.le_of_ble_eq_true rfl) (Nat.le_of_ble_eq_true rfl)
      · have hlt : i < 200 := ey_lt200 (by omega) c_31
        refine lv_aload_n hx hb d_M_follow_34 rfl (lv_at hl 1 rfl) ?_
        refine va_get (D := (dC, dI)) (ci := 0) (v := .ref k1) (C := R_M) (T := T_M) (N := 6) hx hb hts in_M hown hK hP 5 rfl rfl 0 (by decide) (hts _ ew_83) (fun _ h9 => h9) rfl d_M_follow_35 ?_
        refine lv_iload hx hb d_M_follow_38 (lv_at hl 4 rfl) ?_
        refine va_iald hx hb hK hP 6 0 rfl rfl (vp_in_nI hlt (by decide)) d_M_follow_40 ?_
        refine lv_istore (lv' := [(5, .int (bla (nI i).toNatClampNeg)), (0, .ref h0), (1, .ref k0), (2, .int fr), (3, .int to), (4, .int (nI i))]) hx hb d_M_follow_41 hl (by decide) rfl (fun ls hl => ?_)
        refine lv_iload hx hb d_M_follow_43 (lv_at hl 0 rfl) ?_
        refine lv_iload_n hx hb d_M_follow_45 rfl (lv_at hl 3 rfl) ?_
        refine lv_icmp_lt (tgt := 55) hx hb d_M_follow_46 (by decide) (fun c_46 => ?_) (fun c_46 => ?_)
        · refine lv_aload_n hx hb d_M_follow_55 rfl (lv_at hl 1 rfl) ?_
          refine lv_iload hx hb d_M_follow_56 (lv_at hl 0 rfl) ?_
          refine lv_aload_n hx hb d_M_follow_58 rfl (lv_at hl 2 rfl) ?_
          refine va_get (D := (dC, dI)) (ci := 0) (v := .ref k2) (C := R_M) (T := T_M) (N := 6) hx hb hts in_M hown hK hP 5 rfl rfl 1 (by decide) (hts _ ew_85) (fun _ h9 => h9) rfl d_M_follow_59 ?_
          refine lv_iload hx hb d_M_follow_62 (lv_at hl 5 rfl) ?_
          refine va_iald hx hb hK hP 7 0 rfl rfl (vp_in_nI hlt (by decide)) d_M_follow_64 ?_
          refine lv_aload_n hx hb d_M_follow_65 rfl (lv_at hl 2 rfl) ?_
          refine va_get (D := (dC, dI)) (ci := 0) (v := .ref k3) (C := R_M) (T := T_M) (N := 6) hx hb hts in_M hown hK hP 5 rfl rfl 2 (by decide) (hts _ ew_87) (fun _ h9 => h9) rfl d_M_follow_66 ?_
          refine lv_iload hx hb d_M_follow_69 (lv_at hl 5 rfl) ?_
          refine va_iald hx hb hK hP 8 0 rfl rfl (vp_in_nI hlt (by decide)) d_M_follow_71 ?_
          refine ey_Vi (Wc := [(h0, .inr (0, [.ref h1, .ref h2, .ref h3, .ref h4, .int q.2.2.2, .int (bch + 1)])), (h1, .inl (cI, 200, .inl q.1)), (h2, .inl (cI, 200, .inl q.2.1)), (h3, .inl (cI, 200, .inl q.2.2.1))]) (wr := [(h4, .inl (cI, 24, .inl g)), (k0, .inr (0, [.ref k1, .ref k2, .ref k3, .ref k4, .int bex, .int bch])), (k1, .inl (cI, 200, .inl bla)), (k2, .inl (cI, 200, .inl bfi)), (k3, .inl (cI, 200, .inl bsi))]) (As := [.int (bla (nI i).toNatClampNeg), .int (bfi (nI i).toNatClampNeg), .int (bsi (nI i).toNatClampNeg)]) (rest := []) ⟨hx, hb, hml, hown, hts⟩ (c_mf_add l dC dI cI cB cJ cZ h0 h1 h2 h3 h4 q.2.2.2 (bch + 1) q.1 q.2.1 q.2.2.1 (bla (nI i).toNatClampNeg) (bfi (nI i).toNatClampNeg) (bsi (nI i).toNatClampNeg)) (cwV 3 hts (ew_V ew_159 ew_160 ew_161 ew_17 g_M_add) rfl rfl rfl (by decide +kernel) ⟨Nat.le_of_ble_eq_true rfl, Nat.le_of_ble_eq_true rfl⟩) hK hG hP hD hS hA [0, 1, 2, 3] [4, 5, 6, 7, 8] rfl rfl (by decide) (by decide) (by decide) (ci := 0) (q0 := 0) rfl rfl rfl hl.1 rfl (Nat.le_of_ble_eq_true rfl) d_M_follow_72 ⟨Nat.le_of_ble_eq_true rfl, Nat.le_of_ble_eq_true rfl⟩ (fun r_1 u_2 H locs e_3 hP hD hS => ?_)
          have hP : va_P (dC, dI) vwCl [(h4, .inl (cI, 24, .inl g)), (k0, .inr (0, [.ref k1, .ref k2, .ref k3, .ref k4, .int bex, .int bch])), (k1, .inl (cI, 200, .inl bla)), (k2, .inl (cI, 200, .inl bfi)), (k3, .inl (cI, 200, .inl bsi)), (h0, .inr (0, [.ref h1, .ref h2, .ref h3, .ref h4, .int u_2.2.2.2, .int (bch + 1)])), (h1, .inl (cI, 200, .inl u_2.1)), (h2, .inl (cI, 200, .inl u_2.2.1)), (h3, .inl (cI, 200, .inl u_2.2.2.1))] H := hP
          have hD : va_D A [(h4, .inl (cI, 24, .inl g)), (k0, .inr (0, [.ref k1, .ref k2, .ref k3, .ref k4, .int bex, .int bch])), (k1, .inl (cI, 200, .inl bla)), (k2, .inl (cI, 200, .inl bfi)), (k3, .inl (cI, 200, .inl bsi)), (h0, .inr (0, [.ref h1, .ref h2, .ref h3, .ref h4, .int u_2.2.2.2, .int (bch + 1)])), (h1, .inl (cI, 200, .inl u_2.1)), (h2, .inl (cI, 200, .inl u_2.2.1)), (h3, .inl (cI, 200, .inl u_2.2.2.1))] := hD
          obtain ⟨rfl, rfl⟩ : r_1 = (ep_add (q.1, q.2.1, q.2.2.1, q.2.2.2) (bla (nI i).toNatClampNeg) (bfi (nI i).toNatClampNeg) (bsi (nI i).toNatClampNeg)).1 ∧ u_2 = (ep_add (q.1, q.2.1, q.2.2.1, q.2.2.2) (bla (nI i).toNatClampNeg) (bfi (nI i).toNatClampNeg) (bsi (nI i).toNatClampNeg)).2 := ⟨congrArg Prod.fst e_3, congrArg Prod.snd e_3⟩
          refine lv_pop hx hb d_M_follow_75 rfl ?_
          refine lv_iinc (v := nI (i + 1)) (lv' := [(4, .int (nI (i + 1))), (5, .int (bla (nI i).toNatClampNeg)), (0, .ref h0), (1, .ref k0), (2, .int fr), (3, .int to)]) hx hb d_M_follow_76 hl (k := 5) rfl (nI_1 i) (by decide) rfl (fun ls hl => ?_)
          refine lv_goto (tgt := 17) hx hb d_M_follow_79 (by decide) ?_
          exact ih (i + 1) ((ep_add q (bla (nI i).toNatClampNeg) (bfi (nI i).toNatClampNeg) (bsi (nI i).toNatClampNeg)).2) (by omega) (by omega) (by rw [← hu]; simp only [ep_fol, ep_fol1, ↓reduceIte, c_23, c_31, c_46]) _ _ (ey_P (is := [5, 6, 7, 8, 0, 1, 2, 3, 4]) hP rfl) (hD.sub [5, 6, 7, 8, 0, 1, 2, 3, 4] (by decide) rfl) hS ls (lv_sub hl [2, 3, 4, 5, 0] rfl)
        · refine lv_iload hx hb d_M_follow_49 (lv_at hl 0 rfl) ?_
          refine lv_iload_n hx hb d_M_follow_51 rfl (lv_at hl 4 rfl) ?_
          refine lv_icmp_le (tgt := 76) hx hb d_M_follow_52 (by decide) (fun c_52 => ?_) (fun c_52 => ?_)
          · refine lv_iinc (v := nI (i + 1)) (lv' := [(4, .int (nI (i + 1))), (5, .int (bla (nI i).toNatClampNeg)), (0, .ref h0), (1, .ref k0), (2, .int fr), (3, .int to)]) hx hb d_M_follow_76 hl (k := 5) rfl (nI_1 i) (by decide) rfl (fun ls hl => ?_)
            refine lv_goto (tgt := 17) hx hb d_M_follow_79 (by decide) ?_
            exact ih (i + 1) q (by omega) (by omega) (by rw [← hu]; simp only [ep_fol, ep_fol1, ↓reduceIte, c_23, c_31, c_46, c_52]) _ _ hP hD hS ls (lv_sub hl [2, 3, 4, 5, 0] rfl)
          · refine lv_aload_n hx hb d_M_follow_55 rfl (lv_at hl 1 rfl) ?_
            refine lv_iload hx hb d_M_follow_56 (lv_at hl 0 rfl) ?_
            refine lv_aload_n hx hb d_M_follow_58 rfl (lv_at hl 2 rfl) ?_
            refine va_get (D := (dC, dI)) (ci := 0) (v := .ref k2) (C := R_M) (T := T_M) (N := 6) hx hb hts in_M hown hK hP 5 rfl rfl 1 (by decide) (hts _ ew_85) (fun _ h9 => h9) rfl d_M_follow_59 ?_
            refine lv_iload hx hb d_M_follow_62 (lv_at hl 5 rfl) ?_
            refine va_iald hx hb hK hP 7 0 rfl rfl (vp_in_nI hlt (by decide)) d_M_follow_64 ?_
            refine lv_aload_n hx hb d_M_follow_65 rfl (lv_at hl 2 rfl) ?_
            refine va_get (D := (dC, dI)) (ci := 0) (v := .ref k3) (C := R_M) (T := T_M) (N := 6) hx hb hts in_M hown hK hP 5 rfl rfl 2 (by decide) (hts _ ew_87) (fun _ h9 => h9) rfl d_M_follow_66 ?_
            refine lv_iload hx hb d_M_follow_69 (lv_at hl 5 rfl) ?_
            refine va_iald hx hb hK hP 8 0 rfl rfl (vp_in_nI hlt (by decide)) d_M_follow_71 ?_
            refine ey_Vi (Wc := [(h0, .inr (0, [.ref h1, .ref h2, .ref h3, .ref h4, .int q.2.2.2, .int (bch + 1)])), (h1, .inl (cI, 200, .inl q.1)), (h2, .inl (cI, 200, .inl q.2.1)), (h3, .inl (cI, 200, .inl q.2.2.1))]) (wr := [(h4, .inl (cI, 24, .inl g)), (k0, .inr (0, [.ref k1, .ref k2, .ref k3, .ref k4, .int bex, .int bch])), (k1, .inl (cI, 200, .inl bla)), (k2, .inl (cI, 200, .inl bfi)), (k3, .inl (cI, 200, .inl bsi))]) (As := [.int (bla (nI i).toNatClampNeg), .int (bfi (nI i).toNatClampNeg), .int (bsi (nI i).toNatClampNeg)]) (rest := []) ⟨hx, hb, hml, hown, hts⟩ (c_mf_add l dC dI cI cB cJ cZ h0 h1 h2 h3 h4 q.2.2.2 (bch + 1) q.1 q.2.1 q.2.2.1 (bla (nI i).toNatClampNeg) (bfi (nI i).toNatClampNeg) (bsi (nI i).toNatClampNeg)) (cwV 3 hts (ew_V ew_159 ew_160 ew_161 ew_17 g_M_add) rfl rfl rfl (by decide +kernel) ⟨Nat.le_of_ble_eq_true rfl, Nat.le_of_ble_eq_true rfl⟩) hK hG hP hD hS hA [0, 1, 2, 3] [4, 5, 6, 7, 8] rfl rfl (by decide) (by decide) (by decide) (ci := 0) (q0 := 0) rfl rfl rfl hl.1 rfl (Nat.le_of_ble_eq_true rfl) d_M_follow_72 ⟨Nat.le_of_ble_eq_true rfl, Nat.le_of_ble_eq_true rfl⟩ (fun r_4 u_5 H locs e_6 hP hD hS => ?_)
            have hP : va_P (dC, dI) vwCl [(h4, .inl (cI, 24, .inl g)), (k0, .inr (0, [.ref k1, .ref k2, .ref k3, .ref k4, .int bex, .int bch])), (k1, .inl (cI, 200, .inl bla)), (k2, .inl (cI, 200, .inl bfi)), (k3, .inl (cI, 200, .inl bsi)), (h0, .inr (0, [.ref h1, .ref h2, .ref h3, .ref h4, .int u_5.2.2.2, .int (bch + 1)])), (h1, .inl (cI, 200, .inl u_5.1)), (h2, .inl (cI, 200, .inl u_5.2.1)), (h3, .inl (cI, 200, .inl u_5.2.2.1))] H := hP
            have hD : va_D A [(h4, .inl (cI, 24, .inl g)), (k0, .inr (0, [.ref k1, .ref k2, .ref k3, .ref k4, .int bex, .int bch])), (k1, .inl (cI, 200, .inl bla)), (k2, .inl (cI, 200, .inl bfi)), (k3, .inl (cI, 200, .inl bsi)), (h0, .inr (0, [.ref h1, .ref h2, .ref h3, .ref h4, .int u_5.2.2.2, .int (bch + 1)])), (h1, .inl (cI, 200, .inl u_5.1)), (h2, .inl (cI, 200, .inl u_5.2.1)), (h3, .inl (cI, 200, .inl u_5.2.2.1))] := hD
            obtain ⟨rfl, rfl⟩ : r_4 = (ep_add (q.1, q.2.1, q.2.2.1, q.2.2.2) (bla (nI i).toNatClampNeg) (bfi (nI i).toNatClampNeg) (bsi (nI i).toNatClampNeg)).1 ∧ u_5 = (ep_add (q.1, q.2.1, q.2.2.1, q.2.2.2) (bla (nI i).toNatClampNeg) (bfi (nI i).toNatClampNeg) (bsi (nI i).toNatClampNeg)).2 := ⟨congrArg Prod.fst e_6, congrArg Prod.snd e_6⟩
            refine lv_pop hx hb d_M_follow_75 rfl ?_
            refine lv_iinc (v := nI (i + 1)) (lv' := [(4, .int (nI (i + 1))), (5, .int (bla (nI i).toNatClampNeg)), (0, .ref h0), (1, .ref k0), (2, .int fr), (3, .int to)]) hx hb d_M_follow_76 hl (k := 5) rfl (nI_1 i) (by decide) rfl (fun ls hl => ?_)
            refine lv_goto (tgt := 17) hx hb d_M_follow_79 (by decide) ?_
            exact ih (i + 1) ((ep_add q (bla (nI i).toNatClampNeg) (bfi (nI i).toNatClampNeg) (bsi (nI i).toNatClampNeg)).2) (by omega) (by omega) (by rw [← hu]; simp only [ep_fol, ep_fol1, ↓reduceIte, c_23, c_31, c_46, c_52]) _ _ (ey_P (is := [5, 6, 7, 8, 0, 1, 2, 3, 4]) hP rfl) (hD.sub [5, 6, 7, 8, 0, 1, 2, 3, 4] (by decide) rfl) hS ls (lv_sub hl [2, 3, 4, 5, 0] rfl)
set_option maxHeartbeats 4000000 in
set_option maxRecDepth 100000 in
theorem c_mf_follow (l : Launch) (dC : Nat → ClassId) (dI : Nat → Nat → Nat) (cI cB cJ cZ : ClassId) (h0 h1 h2 h3 h4 : Nat) (ex ch : Int32) (la fi si no : ep_F) (k0 k1 k2 k3 k4 : Nat) (bex bch : Int32) (bla bfi bsi : ep_F) (fr to : Int32) : ey_Mv l y_M_follow w_M_follow { frames := 2, cells := 0, slots := 0, locals := 50 } (dC, dI) vwCl (ey_kt cI cB cJ cZ) [.ref h0, .ref k0, .int fr, .int to] [(h0, .inr (0, [.ref h1, .ref h2, .ref h3, .ref h4, .int ex, .int ch])), (h1, .inl (cI, 200, .inl la)), (h2, .inl (cI, 200, .inl fi)), (h3, .inl (cI, 200, .inl si)), (h4, .inl (cI, 24, .inl no)), (k0, .inr (0, [.ref k1, .ref k2, .ref k3, .ref k4, .int bex, .int bch])), (k1, .inl (cI, 200, .inl bla)), (k2, .inl (cI, 200, .inl bfi)), (k3, .inl (cI, 200, .inl bsi))] (fun (u : ep_R × ep_F) => u = (ep_fol bla bfi bsi bex fr to 201 0 (la, fi, si, 0), ep_fill 24 0 no)) (fun (u : ep_R × ep_F) => [(h0, .inr (0, [.ref h1, .ref h2, .ref h3, .ref h4, .int u.1.2.2.2, .int (bch + 1)])), (h1, .inl (cI, 200, .inl u.1.1)), (h2, .inl (cI, 200, .inl u.1.2.1)), (h3, .inl (cI, 200, .inl u.1.2.2.1)), (h4, .inl (cI, 24, .inl u.2)), (k0, .inr (0, [.ref k1, .ref k2, .ref k3, .ref k4, .int bex, .int bch])), (k1, .inl (cI, 200, .inl bla)), (k2, .inl (cI, 200, .inl bfi)), (k3, .inl (cI, 200, .inl bsi))]) 0 0 := by
  intro sz
  refine Met.ofW (cc := b_M_follow) (maxL := 6) (ret := none) (by decide) rfl ?_
  intro p e s m args below meth c s₁ B hml hv
  obtain ⟨rfl, hsz, hP, hK, hG, hD0⟩ := hv
  have hx := B.exec
  have hb := B.bytes
  have hr := B.returns
  have hts := fun (w : Cond) (h : w ∈ ew_T) => atoms_spec (ws := w_M_follow) B.pre w (List.mem_cons_of_mem _ h)
  have hown : s.vm.findClass R_M = some m.cls := findClass_of_methodNamed B.named
  have hlocks := B.notSynchronized
  subst hsz
  have hD := hD0.self (sz := s.heap.size)
  generalize hAe : va_A [(h0, .inr (0, [.ref h1, .ref h2, .ref h3, .ref h4, .int ex, .int ch])), (h1, .inl (cI, 200, .inl la)), (h2, .inl (cI, 200, .inl fi)), (h3, .inl (cI, 200, .inl si)), (h4, .inl (cI, 24, .inl no)), (k0, .inr (0, [.ref k1, .ref k2, .ref k3, .ref k4, .int bex, .int bch])), (k1, .inl (cI, 200, .inl bla)), (k2, .inl (cI, 200, .inl bfi)), (k3, .inl (cI, 200, .inl bsi))] s.heap.size = A at hD ⊢
  have hA : ∀ q : Nat, s.heap.size ≤ q → A q := fun q h => by rw [← hAe]; exact Or.inr h
  have hS : va_S A s.heap s.heap [] := va_S.rf
  have hP : va_P (dC, dI) vwCl [(h0, .inr (0, [.ref h1, .ref h2, .ref h3, .ref h4, .int ex, .int ch])), (h1, .inl (cI, 200, .inl la)), (h2, .inl (cI, 200, .inl fi)), (h3, .inl (cI, 200, .inl si)), (h4, .inl (cI, 24, .inl no)), (k0, .inr (0, [.ref k1, .ref k2, .ref k3, .ref k4, .int bex, .int bch])), (k1, .inl (cI, 200, .inl bla)), (k2, .inl (cI, 200, .inl bfi)), (k3, .inl (cI, 200, .inl bsi))] s.heap := hP
  have hl := lv_entry ([.ref h0, .ref k0, .int fr, .int to]) (n := 6) (Nat.le_of_ble_eq_true rfl)
  rw [lg_entry_eq]
  generalize (lg_sl ([.ref h0, .ref k0, .int fr, .int to]) ++ List.replicate (6 - (lg_sl ([.ref h0, .ref k0, .int fr, .int to])).length) Slot.unset).toArray = ls at hl ⊢
  have hl : lv_has ls 6 [(0, .ref h0), (1, .ref k0), (2, .int fr), (3, .int to)] := hl
  have C0 : ey_Cx p s m [.ref h0, .ref k0, .int fr, .int to].toArray meth c b_M_follow 6 R_M ew_T none A := ⟨hx, hb, hml, hown, hts, hr, hlocks, hA⟩
  refine lv_aload_n hx hb d_M_follow_0 rfl (lv_at hl 0 rfl) ?_
  refine ey_Vv (Wc := [(h0, .inr (0, [.ref h1, .ref h2, .ref h3, .ref h4, .int ex, .int ch])), (h4, .inl (cI, 24, .inl no))]) (wr := [(h1, .inl (cI, 200, .inl la)), (h2, .inl (cI, 200, .inl fi)), (h3, .inl (cI, 200, .inl si)), (k0, .inr (0, [.ref k1, .ref k2, .ref k3, .ref k4, .int bex, .int bch])), (k1, .inl (cI, 200, .inl bla)), (k2, .inl (cI, 200, .inl bfi)), (k3, .inl (cI, 200, .inl bsi))]) (As := []) (rest := []) ⟨hx, hb, hml, hown, hts⟩ (c_mf_clear l dC dI cI cB cJ cZ h0 h1 h2 h3 h4 ex ch no) (cwV 0 hts (ew_V ew_143 ew_144 ew_145 ew_17 g_M_clear) rfl rfl rfl (by decide +kernel) ⟨Nat.le_of_ble_eq_true rfl, Nat.le_of_ble_eq_true rfl⟩) hK hG hP hD hS hA [0, 4] [1, 2, 3, 5, 6, 7, 8] rfl rfl (by decide) (by decide) (by decide) (ci := 0) (q0 := 0) rfl rfl rfl hl.1 rfl (Nat.le_of_ble_eq_true rfl) d_M_follow_1 ⟨Nat.le_of_ble_eq_true rfl, Nat.le_of_ble_eq_true rfl⟩ (fun u_2 H locs e_3 hP hD hS => ?_)
  have hP : va_P (dC, dI) vwCl [(h1, .inl (cI, 200, .inl la)), (h2, .inl (cI, 200, .inl fi)), (h3, .inl (cI, 200, .inl si)), (k0, .inr (0, [.ref k1, .ref k2, .ref k3, .ref k4, .int bex, .int bch])), (k1, .inl (cI, 200, .inl bla)), (k2, .inl (cI, 200, .inl bfi)), (k3, .inl (cI, 200, .inl bsi)), (h0, .inr (0, [.ref h1, .ref h2, .ref h3, .ref h4, .int 0, .int 0])), (h4, .inl (cI, 24, .inl u_2))] H := hP
  have hD : va_D A [(h1, .inl (cI, 200, .inl la)), (h2, .inl (cI, 200, .inl fi)), (h3, .inl (cI, 200, .inl si)), (k0, .inr (0, [.ref k1, .ref k2, .ref k3, .ref k4, .int bex, .int bch])), (k1, .inl (cI, 200, .inl bla)), (k2, .inl (cI, 200, .inl bfi)), (k3, .inl (cI, 200, .inl bsi)), (h0, .inr (0, [.ref h1, .ref h2, .ref h3, .ref h4, .int 0, .int 0])), (h4, .inl (cI, 24, .inl u_2))] := hD
  subst e_3
  refine lv_aload_n hx hb d_M_follow_4 rfl (lv_at hl 0 rfl) ?_
  refine lv_aload_n hx hb d_M_follow_5 rfl (lv_at hl 1 rfl) ?_
  refine va_get (D := (dC, dI)) (ci := 0) (v := .int bch) (C := R_M) (T := T_M) (N := 6) hx hb hts in_M hown hK hP 3 rfl rfl 5 (by decide) (hts _ ew_93) (fun _ h9 => h9) rfl d_M_follow_6 ?_
  refine lv_iconst (v := 1) hx hb d_M_follow_9 (by decide) ?_
  refine lv_iadd hx hb d_M_follow_10 ?_
  refine va_put (D := (dC, dI)) (ci := 0) (v := .int (bch + 1)) (ty := .int) (C := R_M) (T := T_M) (N := 6) hx hb hts in_M t_M t_M_ok n_M hown hK hP hD hS 7 rfl rfl 5 (by decide) (hts _ ew_93) (fun _ h9 => h9) rfl (by decide +kernel) rfl rfl (Nat.le_of_ble_eq_true rfl) d_M_follow_11 (fun H locs hP hD hS => ?_)
  have hP : va_P (dC, dI) vwCl [(h1, .inl (cI, 200, .inl la)), (h2, .inl (cI, 200, .inl fi)), (h3, .inl (cI, 200, .inl si)), (k0, .inr (0, [.ref k1, .ref k2, .ref k3, .ref k4, .int bex, .int bch])), (k1, .inl (cI, 200, .inl bla)), (k2, .inl (cI, 200, .inl bfi)), (k3, .inl (cI, 200, .inl bsi)), (h0, .inr (0, [.ref h1, .ref h2, .ref h3, .ref h4, .int 0, .int (bch + 1)])), (h4, .inl (cI, 24, .inl (ep_fill 24 0 no)))] H := hP
  have hD : va_D A [(h1, .inl (cI, 200, .inl la)), (h2, .inl (cI, 200, .inl fi)), (h3, .inl (cI, 200, .inl si)), (k0, .inr (0, [.ref k1, .ref k2, .ref k3, .ref k4, .int bex, .int bch])), (k1, .inl (cI, 200, .inl bla)), (k2, .inl (cI, 200, .inl bfi)), (k3, .inl (cI, 200, .inl bsi)), (h0, .inr (0, [.ref h1, .ref h2, .ref h3, .ref h4, .int 0, .int (bch + 1)])), (h4, .inl (cI, 24, .inl (ep_fill 24 0 no)))] := hD
  refine lv_iconst (v := nI 0) hx hb d_M_follow_14 (by decide) ?_
  refine lv_istore (lv' := [(4, .int (nI 0)), (0, .ref h0), (1, .ref k0), (2, .int fr), (3, .int to)]) hx hb d_M_follow_15 hl (by decide) rfl (fun ls hl => ?_)
  exact c_mf_follow_L (h0 := h0) (h1 := h1) (h2 := h2) (h3 := h3) (h4 := h4) (ex := ex) (ch := ch) (la := la) (fi := fi) (si := si) (no := no) (k0 := k0) (k1 := k1) (k2 := k2) (k3 := k3) (k4 := k4) (bex := bex) (bch := bch) (bla := bla) (bfi := bfi) (bsi := bsi) (fr := fr) (to := to) (ep_fill 24 0 no) rfl hK hG C0 201 0 (la, fi, si, 0) rfl (by omega) rfl _ _ (ey_P (is := [7, 0, 1, 2, 8, 3, 4, 5, 6]) hP rfl) (hD.sub [7, 0, 1, 2, 8, 3, 4, 5, 6] (by decide) rfl) hS ls (lv_sub hl [1, 2, 3, 4, 0] rfl)
