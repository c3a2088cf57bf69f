set_option maxHeartbeats 4000000 in
set_option maxRecDepth 100000 in
theorem c_ed_free_L {p : Program} {l : Launch} {e : Env} {s : State} {m : MethodId} {args : Array Value} {below : List Frame} {meth : Method} {c : Code} {dC : Nat → ClassId} {dI : Nat → Nat → Nat} {cI cB cJ cZ : ClassId} {A : Nat → Prop} {d0 pl tp wi pg te nw nx : Nat} {n1 n2 n3 n4 : Nat} {ex ch : Int32} {fi si : ep_F} {n : Nat} {t0 : ep_F} (hn : n < 2 ^ 30) (hn2 : 2 ≤ n) (hK : va_K (dC, dI) vwCl (ey_kt cI cB cJ cZ) s) (hG : ex_G s) (C0 : ey_Cx p s m args meth c b_D_freeBlocks 3 R_D ew_T (some .int) A)  :
    ∀ (fuel : Nat) (i : Nat) (a : Int32) (hi : i + fuel = n + 2) (hin : i ≤ n) (hu : ep_fb n (ep_ten fi si ex n t0) fuel i a = ep_fb n (ep_ten fi si ex n t0) n 2 0), ∀ (H : Heap) (locs : List Loc), va_P (dC, dI) vwCl [(d0, .inr (3, [.ref pl, .ref tp, .ref wi, .ref pg, .ref te, .ref nw, .ref nx])), (nw, .inr (0, [.ref n1, .ref n2, .ref n3, .ref n4, .int ex, .int ch])), (n2, .inl (cI, 200, .inl fi)), (n3, .inl (cI, 200, .inl si)), (te, .inl (cI, n, .inl (ep_ten fi si ex n t0)))] H → va_D A [(d0, .inr (3, [.ref pl, .ref tp, .ref wi, .ref pg, .ref te, .ref nw, .ref nx])), (nw, .inr (0, [.ref n1, .ref n2, .ref n3, .ref n4, .int ex, .int ch])), (n2, .inl (cI, 200, .inl fi)), (n3, .inl (cI, 200, .inl si)), (te, .inl (cI, n, .inl (ep_ten fi si ex n t0)))] → va_S A s.heap H locs → ∀ (ls : Array Slot), lv_has ls 3 [(0, .ref d0), (1, .int a), (2, .int (nI i))] → W p l e { frames := 2, cells := 0, slots := 0, locals := 47 } s m args below meth c H locs 0 0 (MQ below (va_Qi (fun (r : Int32) (u : ep_F) => (r, u) = ep_free fi si ex n t0) (fun u t8 => ey_Post (dC, dI) vwCl A ((fun (u : ep_F) => [(d0, .inr (3, [.ref pl, .ref tp, .ref wi, .ref pg, .ref te, .ref nw, .ref nx])), (nw, .inr (0, [.ref n1, .ref n2, .ref n3, .ref n4, .int ex, .int ch])), (n2, .inl (cI, 200, .inl fi)), (n3, .inl (cI, 200, .inl si)), (te, .inl (cI, n, .inl u))]) u) t8) A) args s 0 0 A) (F0 m 15 ls []) := by
  obtain ⟨hx, hb, hml, hown, hts, hr, hlocks, hA⟩ := id C0
  intro fuel
  induction fuel with
  | zero =>
    intro i a hi hin hu H locs hP hD hS ls hl
    exact absurd hi (by omega)
  | succ fuel ih =>
    intro i a hi hin hu H locs hP hD hS ls hl
    refine lv_iload_n hx hb d_D_freeBlocks_15 rfl (lv_at hl 2 rfl) ?_
    refine lv_aload_n hx hb d_D_freeBlocks_16 rfl (lv_at hl 0 rfl) ?_
    refine va_get (D := (dC, dI)) (ci := 3) (v := .ref te) (C := R_D) (T := T_D) (N := 7) hx hb hts in_D hown hK hP 0 rfl rfl 4 (by decide) (hts _ ew_113) (fun _ h9 => h9) rfl d_D_freeBlocks_17 ?_
    refine va_alen hx hb hK hP 4 0 rfl rfl (v := nI n) rfl d_D_freeBlocks_20 ?_
    refine lv_icmp_ge (tgt := 42) hx hb d_D_freeBlocks_21 (by decide) (fun c_21 => ?_) (fun c_21 => ?_)
    · refine lv_iload_n hx hb d_D_freeBlocks_42 rfl (lv_at hl 1 rfl) ?_
      exact ey_iret (W1 := fun (u : ep_F) => [(d0, .inr (3, [.ref pl, .ref tp, .ref wi, .ref pg, .ref te, .ref nw, .ref nx])), (nw, .inr (0, [.ref n1, .ref n2, .ref n3, .ref n4, .int ex, .int ch])), (n2, .inl (cI, 200, .inl fi)), (n3, .inl (cI, 200, .inl si)), (te, .inl (cI, n, .inl u))]) hx hb hr hlocks hP hD hS (ep_ten fi si ex n t0) [0, 1, 2, 3, 4] rfl (by decide) (by rw [ep_free, ← hu]; simp only [ep_fb, ↓reduceIte, c_21]) d_D_freeBlocks_43 (Nat.le_of_ble_eq_true rfl) (Nat.le_of_ble_eq_true rfl)
    · refine lv_aload_n hx hb d_D_freeBlocks_24 rfl (lv_at hl 0 rfl) ?_
      refine va_get (D := (dC, dI)) (ci := 3) (v := .ref te) (C := R_D) (T := T_D) (N := 7) hx hb hts in_D hown hK hP 0 rfl rfl 4 (by decide) (hts _ ew_113) (fun _ h9 => h9) rfl d_D_freeBlocks_25 ?_
      refine lv_iload_n hx hb d_D_freeBlocks_28 rfl (lv_at hl 2 rfl) ?_
      refine va_iald hx hb hK hP 4 0 rfl rfl (vp_in_nI (by rw [nI_leI (by omega) (by omega)] at c_21; omega) (by omega)) d_D_freeBlocks_29 ?_
      refine lv_if_ne (tgt := 36) hx hb d_D_freeBlocks_30 (by decide) (fun c_30 => ?_) (fun c_30 => ?_)
      · refine lv_iinc (v := nI (i + 1)) (lv' := [(2, .int (nI (i + 1))), (0, .ref d0), (1, .int a)]) hx hb d_D_freeBlocks_36 hl (k := 2) rfl (nI_1 i) (by decide) rfl (fun ls hl => ?_)
        refine lv_goto (tgt := 15) hx hb d_D_freeBlocks_39 (by decide) ?_
        have hlt : i < n := by
          rw [nI_leI (by omega) (by omega)] at c_21
          omega
        exact ih (i + 1) a (by omega) (by omega) (by rw [← hu, ep_fb, if_neg c_21, if_pos c_30]) _ _ hP hD hS ls (lv_sub hl [1, 2, 0] rfl)
      · refine lv_iinc (v := a + 1) (lv' := [(1, .int (a + 1)), (0, .ref d0), (2, .int (nI i))]) hx hb d_D_freeBlocks_33 hl (k := 1) rfl (rfl) (by decide) rfl (fun ls hl => ?_)
        refine lv_iinc (v := nI (i + 1)) (lv' := [(2, .int (nI (i + 1))), (1, .int (a + 1)), (0, .ref d0)]) hx hb d_D_freeBlocks_36 hl (k := 2) rfl (nI_1 i) (by decide) rfl (fun ls hl => ?_)
        refine lv_goto (tgt := 15) hx hb d_D_freeBlocks_39 (by decide) ?_
        have hlt : i < n := by
          rw [nI_leI (by omega) (by omega)] at c_21
          omega
        exact ih (i + 1) (a + 1) (by omega) (by omega) (by rw [← hu, ep_fb, if_neg c_21, if_neg (fun h9 => h9 c_30)]) _ _ hP hD hS ls (lv_sub hl [2, 1, 0] rfl)
set_option maxHeartbeats 4000000 in
set_option maxRecDepth 100000 in
theorem c_ed_free (l : Launch) (dC : Nat → ClassId) (dI : Nat → Nat → Nat) (cI cB cJ cZ : ClassId) (d0 pl tp wi pg te nw nx : Nat) (n1 n2 n3 n4 : Nat) (ex ch : Int32) (fi si : ep_F) (n : Nat) (t0 : ep_F) (hn : n < 2 ^ 30) (hn2 : 2 ≤ n) : ey_Mi l y_D_freeBlocks w_D_freeBlocks { frames := 2, cells := 0, slots := 0, locals := 47 } (dC, dI) vwCl (ey_kt cI cB cJ cZ) [.ref d0] [(d0, .inr (3, [.ref pl, .ref tp, .ref wi, .ref pg, .ref te, .ref nw, .ref nx])), (nw, .inr (0, [.ref n1, .ref n2, .ref n3, .ref n4, .int ex, .int ch])), (n2, .inl (cI, 200, .inl fi)), (n3, .inl (cI, 200, .inl si)), (te, .inl (cI, n, .inl t0))] (fun (r : Int32) (u : ep_F) => (r, u) = ep_free fi si ex n t0) (fun (u : ep_F) => [(d0, .inr (3, [.ref pl, .ref tp, .ref wi, .ref pg, .ref te, .ref nw, .ref nx])), (nw, .inr (0, [.ref n1, .ref n2, .ref n3, .ref n4, .int ex, .int ch])), (n2, .inl (cI, 200, .inl fi)), (n3, .inl (cI, 200, .inl si)), (te, .inl (cI, n, .inl u))]) 0 0 := by
  intro sz
  refine Met.ofW (cc := b_D_freeBlocks) (maxL := 3) (ret := (some .int)) (by decide) rfl ?_
  intro p e s m args below meth c s₁ B hml hv
  obtain ⟨rfl, hsz, hP, hK, hG, hD0⟩ := hv
  have hx := B.exec
  have hb := B.bytes
  have hr := B.returns
  have hts := fun (w : Cond) (h : w ∈ ew_T) => atoms_spec (ws := w_D_freeBlocks) B.pre w (List.mem_cons_of_mem _ h)
  have hown : s.vm.findClass R_D = some m.cls := findClass_of_methodNamed B.named
  have hlocks := B.notSynchronized
  subst hsz
  have hD := hD0.self (sz := s.heap.size)
  generalize hAe : va_A [(d0, .inr (3, [.ref pl, .ref tp, .ref wi, .ref pg, .ref te, .ref nw, .ref nx])), (nw, .inr (0, [.ref n1, .ref n2, .ref n3, .ref n4, .int ex, .int ch])), (n2, .inl (cI, 200, .inl fi)), (n3, .inl (cI, 200, .inl si)), (te, .inl (cI, n, .inl t0))] s.heap.size = A at hD ⊢
  have hA : ∀ q : Nat, s.heap.size ≤ q → A q := fun q h => by rw [← hAe]; exact Or.inr h
  have hS : va_S A s.heap s.heap [] := va_S.rf
  have hP : va_P (dC, dI) vwCl [(d0, .inr (3, [.ref pl, .ref tp, .ref wi, .ref pg, .ref te, .ref nw, .ref nx])), (nw, .inr (0, [.ref n1, .ref n2, .ref n3, .ref n4, .int ex, .int ch])), (n2, .inl (cI, 200, .inl fi)), (n3, .inl (cI, 200, .inl si)), (te, .inl (cI, n, .inl t0))] s.heap := hP
  have hl := lv_entry ([.ref d0]) (n := 3) (Nat.le_of_ble_eq_true rfl)
  rw [lg_entry_eq]
  generalize (lg_sl ([.ref d0]) ++ List.replicate (3 - (lg_sl ([.ref d0])).length) Slot.unset).toArray = ls at hl ⊢
  have hl : lv_has ls 3 [(0, .ref d0)] := hl
  have C0 : ey_Cx p s m [.ref d0].toArray meth c b_D_freeBlocks 3 R_D ew_T (some .int) A := ⟨hx, hb, hml, hown, hts, hr, hlocks, hA⟩
  refine lv_aload_n hx hb d_D_freeBlocks_0 rfl (lv_at hl 0 rfl) ?_
  refine va_get (D := (dC, dI)) (ci := 3) (v := .ref nw) (C := R_D) (T := T_D) (N := 7) hx hb hts in_D hown hK hP 0 rfl rfl 5 (by decide) (hts _ ew_114) (fun _ h9 => h9) rfl d_D_freeBlocks_1 ?_
  refine lv_aload_n hx hb d_D_freeBlocks_4 rfl (lv_at hl 0 rfl) ?_
  refine va_get (D := (dC, dI)) (ci := 3) (v := .ref te) (C := R_D) (T := T_D) (N := 7) hx hb hts in_D hown hK hP 0 rfl rfl 4 (by decide) (hts _ ew_113) (fun _ h9 => h9) rfl d_D_freeBlocks_5 ?_
  refine ey_Vv (Wc := [(nw, .inr (0, [.ref n1, .ref n2, .ref n3, .ref n4, .int ex, .int ch])), (n2, .inl (cI, 200, .inl fi)), (n3, .inl (cI, 200, .inl si)), (te, .inl (cI, n, .inl t0))]) (wr := [(d0, .inr (3, [.ref pl, .ref tp, .ref wi, .ref pg, .ref te, .ref nw, .ref nx]))]) (As := [.ref te]) (rest := []) ⟨hx, hb, hml, hown, hts⟩ (c_mf_count l dC dI cI cB cJ cZ nw n1 n2 n3 n4 ex ch fi si te n t0 hn) (cwV 1 hts (ew_V ew_334 ew_335 ew_336 ew_17 g_M_countTenants) rfl rfl rfl (by decide +kernel) ⟨Nat.le_of_ble_eq_true rfl, Nat.le_of_ble_eq_true rfl⟩) hK hG hP hD hS hA [1, 2, 3, 4] [0] rfl rfl (by decide) (by decide) (by decide) (ci := 0) (q0 := 0) rfl rfl rfl hl.1 rfl (Nat.le_of_ble_eq_true rfl) d_D_freeBlocks_8 ⟨Nat.le_of_ble_eq_true rfl, Nat.le_of_ble_eq_true rfl⟩ (fun u_2 H locs e_3 hP hD hS => ?_)
  have hP : va_P (dC, dI) vwCl [(d0, .inr (3, [.ref pl, .ref tp, .ref wi, .ref pg, .ref te, .ref nw, .ref nx])), (nw, .inr (0, [.ref n1, .ref n2, .ref n3, .ref n4, .int ex, .int ch])), (n2, .inl (cI, 200, .inl fi)), (n3, .inl (cI, 200, .inl si)), (te, .inl (cI, n, .inl u_2))] H := hP
  have hD : va_D A [(d0, .inr (3, [.ref pl, .ref tp, .ref wi, .ref pg, .ref te, .ref nw, .ref nx])), (nw, .inr (0, [.ref n1, .ref n2, .ref n3, .ref n4, .int ex, .int ch])), (n2, .inl (cI, 200, .inl fi)), (n3, .inl (cI, 200, .inl si)), (te, .inl (cI, n, .inl u_2))] := hD
  subst e_3
  refine lv_iconst (v := 0) hx hb d_D_freeBlocks_11 (by decide) ?_
  refine lv_istore_n (lv' := [(1, .int 0), (0, .ref d0)]) hx hb d_D_freeBlocks_12 rfl hl (by decide) rfl (fun ls hl => ?_)
  refine lv_iconst (v := nI 2) hx hb d_D_freeBlocks_13 (by decide) ?_
  refine lv_istore_n (lv' := [(2, .int (nI 2)), (1, .int 0), (0, .ref d0)]) hx hb d_D_freeBlocks_14 rfl hl (by decide) rfl (fun ls hl => ?_)
  exact c_ed_free_L (d0 := d0) (pl := pl) (tp := tp) (wi := wi) (pg := pg) (te := te) (nw := nw) (nx := nx) (n1 := n1) (n2 := n2) (n3 := n3) (n4 := n4) (ex := ex) (ch := ch) (fi := fi) (si := si) (n := n) (t0 := t0) hn hn2 hK hG C0 n 2 0 (by omega) hn2 rfl _ _ hP hD hS ls (lv_sub hl [2, 1, 0] rfl)
set_option maxHeartbeats 4000000 in
set_option maxRecDepth 100000 in
theorem c_ed_first_L {p : Program} {l : Launch} {e : Env} {s : State} {m : MethodId} {args : Array Value} {below : List Frame} {meth : Method} {c : Code} {dC : Nat → ClassId} {dI : Nat → Nat → Nat} {cI cB cJ cZ : ClassId} {A : Nat → Prop} {d0 pl tp wi pg te nw nx : Nat} {n1 n2 n3 n4 : Nat} {ex ch : Int32} {fi si : ep_F} {n : Nat} {t0 : ep_F} {x : Int32} (hn : n < 2 ^ 30) (hn2 : 2 ≤ n) (hK : va_K (dC, dI) vwCl (ey_kt cI cB cJ cZ) s) (hG : ex_G s) (C0 : ey_Cx p s m args meth c b_D_firstFreeRow 4 R_D ew_T (some .int) A)  :
    ∀ (fuel : Nat) (i : Nat) (a : Int32) (hi : i + fuel = n + 2) (hin : i ≤ n) (hu : ep_ff n (ep_ten fi si ex n t0) x fuel i a = ep_ff n (ep_ten fi si ex n t0) x n 2 0), ∀ (H : Heap) (locs : List Loc), va_P (dC, dI) vwCl [(d0, .inr (3, [.ref pl, .ref tp, .ref wi, .ref pg, .ref te, .ref nw, .ref nx])), (nw, .inr (0, [.ref n1, .ref n2, .ref n3, .ref n4, .int ex, .int ch])), (n2, .inl (cI, 200, .inl fi)), (n3, .inl (cI, 200, .inl si)), (te, .inl (cI, n, .inl (ep_ten fi si ex n t0)))] H → va_D A [(d0, .inr (3, [.ref pl, .ref tp, .ref wi, .ref pg, .ref te, .ref nw, .ref nx])), (nw, .inr (0, [.ref n1, .ref n2, .ref n3, .ref n4, .int ex, .int ch])), (n2, .inl (cI, 200, .inl fi)), (n3, .inl (cI, 200, .inl si)), (te, .inl (cI, n, .inl (ep_ten fi si ex n t0)))] → va_S A s.heap H locs → ∀ (ls : Array Slot), lv_has ls 4 [(0, .ref d0), (1, .int x), (2, .int a), (3, .int (nI i))] → W p l e { frames := 2, cells := 0, slots := 0, locals := 47 } s m args below meth c H locs 0 0 (MQ below (va_Qi (fun (r : Int32) (u : ep_F) => (r, u) = ep_first fi si ex n t0 x) (fun u t8 => ey_Post (dC, dI) vwCl A ((fun (u : ep_F) => [(d0, .inr (3, [.ref pl, .ref tp, .ref wi, .ref pg, .ref te, .ref nw, .ref nx])), (nw, .inr (0, [.ref n1, .ref n2, .ref n3, .ref n4, .int ex, .int ch])), (n2, .inl (cI, 200, .inl fi)), (n3, .inl (cI, 200, .inl si)), (te, .inl (cI, n, .inl u))]) u) t8) A) args s 0 0 A) (F0 m 15 ls []) := by
  obtain ⟨hx, hb, hml, hown, hts, hr, hlocks, hA⟩ := id C0
  intro fuel
  induction fuel with
  | zero =>
    intro i a hi hin hu H locs hP hD hS ls hl
    exact absurd hi (by omega)
  | succ fuel ih =>
    intro i a hi hin hu H locs hP hD hS ls hl
    refine lv_iload_n hx hb d_D_firstFreeRow_15 rfl (lv_at hl 3 rfl) ?_
    refine lv_aload_n hx hb d_D_firstFreeRow_16 rfl (lv_at hl 0 rfl) ?_
    refine va_get (D := (dC, dI)) (ci := 3) (v := .ref te) (C := R_D) (T := T_D) (N := 7) hx hb hts in_D hown hK hP 0 rfl rfl 4 (by decide) (hts _ ew_113) (fun _ h9 => h9) rfl d_D_firstFreeRow_17 ?_
    refine va_alen hx hb hK hP 4 0 rfl rfl (v := nI n) rfl d_D_firstFreeRow_20 ?_
    refine lv_icmp_ge (tgt := 58) hx hb d_D_firstFreeRow_21 (by decide) (fun c_21 => ?_) (fun c_21 => ?_)
    · refine lv_iconst (v := (-1)) hx hb d_D_firstFreeRow_58 (by decide) ?_
      exact ey_iret (W1 := fun (u : ep_F) => [(d0, .inr (3, [.ref pl, .ref tp, .ref wi, .ref pg, .ref te, .ref nw, .ref nx])), (nw, .inr (0, [.ref n1, .ref n2, .ref n3, .ref n4, .int ex, .int ch])), (n2, .inl (cI, 200, .inl fi)), (n3, .inl (cI, 200, .inl si)), (te, .inl (cI, n, .inl u))]) hx hb hr hlocks hP hD hS (ep_ten fi si ex n t0) [0, 1, 2, 3, 4] rfl (by decide) (by rw [ep_first, ← hu, ep_ff, if_pos c_21]) d_D_firstFreeRow_59 (Nat.le_of_ble_eq_true rfl) (Nat.le_of_ble_eq_true rfl)
    · refine lv_aload_n hx hb d_D_firstFreeRow_24 rfl (lv_at hl 0 rfl) ?_
      refine va_get (D := (dC, dI)) (ci := 3) (v := .ref te) (C := R_D) (T := T_D) (N := 7) hx hb hts in_D hown hK hP 0 rfl rfl 4 (by decide) (hts _ ew_113) (fun _ h9 => h9) rfl d_D_firstFreeRow_25 ?_
      refine lv_iload_n hx hb d_D_firstFreeRow_28 rfl (lv_at hl 3 rfl) ?_
      refine va_iald hx hb hK hP 4 0 rfl rfl (vp_in_nI (by rw [nI_leI (by omega) (by omega)] at c_21; omega) (by omega)) d_D_firstFreeRow_29 ?_
      refine lv_if_ne (tgt := 39) hx hb d_D_firstFreeRow_30 (by decide) (fun c_30 => ?_) (fun c_30 => ?_)
      · refine lv_iconst (v := 0) hx hb d_D_firstFreeRow_39 (by decide) ?_
        refine lv_istore_n (lv' := [(2, .int 0), (0, .ref d0), (1, .int x), (3, .int (nI i))]) hx hb d_D_firstFreeRow_40 rfl hl (by decide) rfl (fun ls hl => ?_)
        refine lv_iload_n hx hb d_D_firstFreeRow_41 rfl (lv_at hl 0 rfl) ?_
        refine lv_iload_n hx hb d_D_firstFreeRow_42 rfl (lv_at hl 2 rfl) ?_
        refine lv_icmp_ne (tgt := 52) hx hb d_D_firstFreeRow_43 (by decide) (fun c_43 => ?_) (fun c_43 => ?_)
        · refine lv_iinc (v := nI (i + 1)) (lv' := [(3, .int (nI (i + 1))), (2, .int 0), (0, .ref d0), (1, .int x)]) hx hb d_D_firstFreeRow_52 hl (k := 3) rfl (nI_1 i) (by decide) rfl (fun ls hl => ?_)
          refine lv_goto (tgt := 15) hx hb d_D_firstFreeRow_55 (by decide) ?_
          have hlt : i < n := by
            rw [nI_leI (by omega) (by omega)] at c_21
            omega
          exact ih (i + 1) 0 (by omega) (by omega) (by rw [← hu, ep_ff, if_neg c_21, if_pos c_30, if_pos c_43]) _ _ hP hD hS ls (lv_sub hl [2, 3, 1, 0] rfl)
        · refine lv_iload_n hx hb d_D_firstFreeRow_46 rfl (lv_at hl 3 rfl) ?_
          refine lv_iload_n hx hb d_D_firstFreeRow_47 rfl (lv_at hl 2 rfl) ?_
          refine lv_isub hx hb d_D_firstFreeRow_48 ?_
          refine lv_iconst (v := 1) hx hb d_D_firstFreeRow_49 (by decide) ?_
          refine lv_iadd hx hb d_D_firstFreeRow_50 ?_
          exact ey_iret (W1 := fun (u : ep_F) => [(d0, .inr (3, [.ref pl, .ref tp, .ref wi, .ref pg, .ref te, .ref nw, .ref nx])), (nw, .inr (0, [.ref n1, .ref n2, .ref n3, .ref n4, .int ex, .int ch])), (n2, .inl (cI, 200, .inl fi)), (n3, .inl (cI, 200, .inl si)), (te, .inl (cI, n, .inl u))]) hx hb hr hlocks hP hD hS (ep_ten fi si ex n t0) [0, 1, 2, 3, 4] rfl (by decide) (by rw [ep_first, ← hu, ep_ff, if_neg c_21, if_pos c_30, if_neg (fun h9 => h9 c_43)]) d_D_firstFreeRow_51 (Nat.le_of_ble_eq_true rfl) (Nat.le_of_ble_eq_true rfl)
      · refine lv_iload_n hx hb d_D_firstFreeRow_33 rfl (lv_at hl 2 rfl) ?_
        refine lv_iconst (v := 1) hx hb d_D_firstFreeRow_34 (by decide) ?_
        refine lv_iadd hx hb d_D_firstFreeRow_35 ?_
        refine lv_goto (tgt := 40) hx hb d_D_firstFreeRow_36 (by decide) ?_
        refine lv_istore_n (lv' := [(2, .int (a + 1)), (0, .ref d0), (1, .int x), (3, .int (nI i))]) hx hb d_D_firstFreeRow_40 rfl hl (by decide) rfl (fun ls hl => ?_)
        refine lv_iload_n hx hb d_D_firstFreeRow_41 rfl (lv_at hl 0 rfl) ?_
        refine lv_iload_n hx hb d_D_firstFreeRow_42 rfl (lv_at hl 2 rfl) ?_
        refine lv_icmp_ne (tgt := 52) hx hb d_D_firstFreeRow_43 (by decide) (fun c_43 => ?_) (fun c_43 => ?_)
        · refine lv_iinc (v := nI (i + 1)) (lv' := [(3, .int (nI (i + 1))), (2, .int (a + 1)), (0, .ref d0), (1, .int x)]) hx hb d_D_firstFreeRow_52 hl (k := 3) rfl (nI_1 i) (by decide) rfl (fun ls hl => ?_)
          refine lv_goto (tgt := 15) hx hb d_D_firstFreeRow_55 (by decide) ?_
          have hlt : i < n := by
            rw [nI_leI (by omega) (by omega)] at c_21
            omega
          exact ih (i + 1) (a + 1) (by omega) (by omega) (by rw [← hu, ep_ff, if_neg c_21, if_neg (fun h9 => h9 c_30), if_pos c_43]) _ _ hP hD hS ls (lv_sub hl [2, 3, 1, 0] rfl)
        · refine lv_iload_n hx hb d_D_firstFreeRow_46 rfl (lv_at hl 3 rfl) ?_
          refine lv_iload_n hx hb d_D_firstFreeRow_47 rfl (lv_at hl 2 rfl) ?_
          refine lv_isub hx hb d_D_firstFreeRow_48 ?_
          refine lv_iconst (v := 1) hx hb d_D_firstFreeRow_49 (by decide) ?_
          refine lv_iadd hx hb d_D_firstFreeRow_50 ?_
          exact ey_iret (W1 := fun (u : ep_F) => [(d0, .inr (3, [.ref pl, .ref tp, .ref wi, .ref pg, .ref te, .ref nw, .ref nx])), (nw, .inr (0, [.ref n1, .ref n2, .ref n3, .ref n4, .int ex, .int ch])), (n2, .inl (cI, 200, .inl fi)), (n3, .inl (cI, 200, .inl si)), (te, .inl (cI, n, .inl u))]) hx hb hr hlocks hP hD hS (ep_ten fi si ex n t0) [0, 1, 2, 3, 4] rfl (by decide) (by rw [ep_first, ← hu, ep_ff, if_neg c_21, if_neg (fun h9 => h9 c_30), if_neg (fun h9 => h9 c_43)]) d_D_firstFreeRow_51 (Nat.le_of_ble_eq_true rfl) (Nat.le_of_ble_eq_true rfl)
set_option maxHeartbeats 4000000 in
set_option maxRecDepth 100000 in
theorem c_ed_first (l : Launch) (dC : Nat → ClassId) (dI : Nat → Nat → Nat) (cI cB cJ cZ : ClassId) (d0 pl tp wi pg te nw nx : Nat) (n1 n2 n3 n4 : Nat) (ex ch : Int32) (fi si : ep_F) (n : Nat) (t0 : ep_F) (x : Int32) (hn : n < 2 ^ 30) (hn2 : 2 ≤ n) : ey_Mi l y_D_firstFreeRow w_D_firstFreeRow { frames := 2, cells := 0, slots := 0, locals := 47 } (dC, dI) vwCl (ey_kt cI cB cJ cZ) [.ref d0, .int x] [(d0, .inr (3, [.ref pl, .ref tp, .ref wi, .ref pg, .ref te, .ref nw, .ref nx])), (nw, .inr (0, [.ref n1, .ref n2, .ref n3, .ref n4, .int ex, .int ch])), (n2, .inl (cI, 200, .inl fi)), (n3, .inl (cI, 200, .inl si)), (te, .inl (cI, n, .inl t0))] (fun (r : Int32) (u : ep_F) => (r, u) = ep_first fi si ex n t0 x) (fun (u : ep_F) => [(d0, .inr (3, [.ref pl, .ref tp, .ref wi, .ref pg, .ref te, .ref nw, .ref nx])), (nw, .inr (0, [.ref n1, .ref n2, .ref n3, .ref n4, .int ex, .int ch])), (n2, .inl (cI, 200, .inl fi)), (n3, .inl (cI, 200, .inl si)), (te, .inl (cI, n, .inl u))]) 0 0 := by
  intro sz
  refine Met.ofW (cc := b_D_firstFreeRow) (maxL := 4) (ret := (some .int)) (by decide) rfl ?_
  intro p e s m args below meth c s₁ B hml hv
  obtain ⟨rfl, hsz, hP, hK, hG, hD0⟩ := hv
  have hx := B.exec
  have hb := B.bytes
  have hr := B.returns
  have hts := fun (w : Cond) (h : w ∈ ew_T) => atoms_spec (ws := w_D_firstFreeRow) B.pre w (List.mem_cons_of_mem _ h)
  have hown : s.vm.findClass R_D = some m.cls := findClass_of_methodNamed B.named
  have hlocks := B.notSynchronized
  subst hsz
  have hD := hD0.self (sz := s.heap.size)
  generalize hAe : va_A [(d0, .inr (3, [.ref pl, .ref tp, .ref wi, .ref pg, .ref te, .ref nw, .ref nx])), (nw, .inr (0, [.ref n1, .ref n2, .ref n3, .ref n4, .int ex, .int ch])), (n2, .inl (cI, 200, .inl fi)), (n3, .inl (cI, 200, .inl si)), (te, .inl (cI, n, .inl t0))] s.heap.size = A at hD ⊢
  have hA : ∀ q : Nat, s.heap.size ≤ q → A q := fun q h => by rw [← hAe]; exact Or.inr h
  have hS : va_S A s.heap s.heap [] := va_S.rf
  have hP : va_P (dC, dI) vwCl [(d0, .inr (3, [.ref pl, .ref tp, .ref wi, .ref pg, .ref te, .ref nw, .ref nx])), (nw, .inr (0, [.ref n1, .ref n2, .ref n3, .ref n4, .int ex, .int ch])), (n2, .inl (cI, 200, .inl fi)), (n3, .inl (cI, 200, .inl si)), (te, .inl (cI, n, .inl t0))] s.heap := hP
  have hl := lv_entry ([.ref d0, .int x]) (n := 4) (Nat.le_of_ble_eq_true rfl)
  rw [lg_entry_eq]
  generalize (lg_sl ([.ref d0, .int x]) ++ List.replicate (4 - (lg_sl ([.ref d0, .int x])).length) Slot.unset).toArray = ls at hl ⊢
  have hl : lv_has ls 4 [(0, .ref d0), (1, .int x)] := hl
  have C0 : ey_Cx p s m [.ref d0, .int x].toArray meth c b_D_firstFreeRow 4 R_D ew_T (some .int) A := ⟨hx, hb, hml, hown, hts, hr, hlocks, hA⟩
  refine lv_aload_n hx hb d_D_firstFreeRow_0 rfl (lv_at hl 0 rfl) ?_
  refine va_get (D := (dC, dI)) (ci := 3) (v := .ref nw) (C := R_D) (T := T_D) (N := 7) hx hb hts in_D hown hK hP 0 rfl rfl 5 (by decide) (hts _ ew_114) (fun _ h9 => h9) rfl d_D_firstFreeRow_1 ?_
  refine lv_aload_n hx hb d_D_firstFreeRow_4 rfl (lv_at hl 0 rfl) ?_
  refine va_get (D := (dC, dI)) (ci := 3) (v := .ref te) (C := R_D) (T := T_D) (N := 7) hx hb hts in_D hown hK hP 0 rfl rfl 4 (by decide) (hts _ ew_113) (fun _ h9 => h9) rfl d_D_firstFreeRow_5 ?_
  refine ey_Vv (Wc := [(nw, .inr (0, [.ref n1, .ref n2, .ref n3, .ref n4, .int ex, .int ch])), (n2, .inl (cI, 200, .inl fi)), (n3, .inl (cI, 200, .inl si)), (te, .inl (cI, n, .inl t0))]) (wr := [(d0, .inr (3, [.ref pl, .ref tp, .ref wi, .ref pg, .ref te, .ref nw, .ref nx]))]) (As := [.ref te]) (rest := []) ⟨hx, hb, hml, hown, hts⟩ (c_mf_count l dC dI cI cB cJ cZ nw n1 n2 n3 n4 ex ch fi si te n t0 hn) (cwV 1 hts (ew_V ew_334 ew_335 ew_336 ew_17 g_M_countTenants) rfl rfl rfl (by decide +kernel) ⟨Nat.le_of_ble_eq_true rfl, Nat.le_of_ble_eq_true rfl⟩) hK hG hP hD hS hA [1, 2, 3, 4] [0] rfl rfl (by decide) (by decide) (by decide) (ci := 0) (q0 := 0) rfl rfl rfl hl.1 rfl (Nat.le_of_ble_eq_true rfl) d_D_firstFreeRow_8 ⟨Nat.le_of_ble_eq_true rfl, Nat.le_of_ble_eq_true rfl⟩ (fun u_2 H locs e_3 hP hD hS => ?_)
  have hP : va_P (dC, dI) vwCl [(d0, .inr (3, [.ref pl, .ref tp, .ref wi, .ref pg, .ref te, .ref nw, .ref nx])), (nw, .inr (0, [.ref n1, .ref n2, .ref n3, .ref n4, .int ex, .int ch])), (n2, .inl (cI, 200, .inl fi)), (n3, .inl (cI, 200, .inl si)), (te, .inl (cI, n, .inl u_2))] H := hP
  have hD : va_D A [(d0, .inr (3, [.ref pl, .ref tp, .ref wi, .ref pg, .ref te, .ref nw, .ref nx])), (nw, .inr (0, [.ref n1, .ref n2, .ref n3, .ref n4, .int ex, .int ch])), (n2, .inl (cI, 200, .inl fi)), (n3, .inl (cI, 200, .inl si)), (te, .inl (cI, n, .inl u_2))] := hD
  subst e_3
  refine lv_iconst (v := 0) hx hb d_D_firstFreeRow_11 (by decide) ?_
  refine lv_istore_n (lv' := [(2, .int 0), (0, .ref d0), (1, .int x)]) hx hb d_D_firstFreeRow_12 rfl hl (by decide) rfl (fun ls hl => ?_)
  refine lv_iconst (v := nI 2) hx hb d_D_firstFreeRow_13 (by decide) ?_
  refine lv_istore_n (lv' := [(3, .int (nI 2)), (2, .int 0), (0, .ref d0), (1, .int x)]) hx hb d_D_firstFreeRow_14 rfl hl (by decide) rfl (fun ls hl => ?_)
  exact c_ed_first_L (d0 := d0) (pl := pl) (tp := tp) (wi := wi) (pg := pg) (te := te) (nw := nw) (nx := nx) (n1 := n1) (n2 := n2) (n3 := n3) (n4 := n4) (ex := ex) (ch := ch) (fi := fi) (si := si) (n := n) (t0 := t0) (x := x) hn hn2 hK hG C0 n 2 0 (by omega) hn2 rfl _ _ hP hD hS ls (lv_sub hl [2, 3, 1, 0] rfl)
