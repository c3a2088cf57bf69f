set_option maxHeartbeats 4000000 in
set_option maxRecDepth 100000 in
theorem c_mf_si (l : Launch) (dC : Nat → ClassId) (dI : Nat → Nat → Nat) (cI cB cJ cZ : ClassId) (h0 n : Nat) (g : ep_F) (x y : Int32) (hn : n < 2 ^ 30) (hn4 : 4 ≤ n) : ey_Mv l y_M_storeInt w_M_storeInt { frames := 0, cells := 0, slots := 0, locals := 0 } (dC, dI) vwCl (ey_kt cI cB cJ cZ) [.ref h0, .int x, .int y] [(h0, .inl (cB, n, .inl g))] (fun (u : ep_F) => u = ep_si n g x y) (fun (u : ep_F) => [(h0, .inl (cB, n, .inl u))]) 0 0 := by
  intro sz
  refine Met.ofW (cc := b_M_storeInt) (maxL := 3) (ret := none) (by decide) rfl ?_
  intro p e s m args below meth c s₁ B hml hv
  obtain ⟨rfl, hsz, hP, hK, hG, hD0⟩ := hv
  have hx := B.exec
  have hb := B.bytes
  have hr := B.returns
  have hts := fun (w : Cond) (h : w ∈ ew_T) => atoms_spec (ws := w_M_storeInt) B.pre w (List.mem_cons_of_mem _ h)
  have hown : s.vm.findClass R_M = some m.cls := findClass_of_methodNamed B.named
  have hlocks := B.notSynchronized
  subst hsz
  have hD := hD0.self (sz := s.heap.size)
  generalize hAe : va_A [(h0, .inl (cB, n, .inl g))] s.heap.size = A at hD ⊢
  have hA : ∀ q : Nat, s.heap.size ≤ q → A q := fun q h => by rw [← hAe]; exact Or.inr h
  have hS : va_S A s.heap s.heap [] := va_S.rf
  have hP : va_P (dC, dI) vwCl [(h0, .inl (cB, n, .inl g))] s.heap := hP
  have hl := lv_entry ([.ref h0, .int x, .int y]) (n := 3) (Nat.le_of_ble_eq_true rfl)
  rw [lg_entry_eq]
  generalize (lg_sl ([.ref h0, .int x, .int y]) ++ List.replicate (3 - (lg_sl ([.ref h0, .int x, .int y])).length) Slot.unset).toArray = ls at hl ⊢
  have hl : lv_has ls 3 [(0, .ref h0), (1, .int x), (2, .int y)] := hl
  refine lv_iload_n hx hb d_M_storeInt_0 rfl (lv_at hl 1 rfl) ?_
  refine lv_if_lt (tgt := 12) hx hb d_M_storeInt_1 (by decide) (fun c_1 => ?_) (fun c_1 => ?_)
  · exact ey_vret (W1 := fun (u : ep_F) => [(h0, .inl (cB, n, .inl u))]) hx hb hr hlocks hP hD hS g [0] rfl (by decide) (by first | contradiction | (simp only [ep_si, ↓reduceIte, not_true_eq_false, not_false_eq_true, c_1])) d_M_storeInt_12 (Nat.le_of_ble_eq_true rfl) (Nat.le_of_ble_eq_true rfl)
  · refine lv_iload_n hx hb d_M_storeInt_4 rfl (lv_at hl 1 rfl) ?_
    refine lv_aload_n hx hb d_M_storeInt_5 rfl (lv_at hl 0 rfl) ?_
    refine va_alen hx hb hK hP 0 1 rfl rfl (v := nI n) rfl d_M_storeInt_6 ?_
    refine lv_iconst (v := 4) hx hb d_M_storeInt_7 (by decide) ?_
    refine lv_isub hx hb d_M_storeInt_8 ?_
    refine lv_icmp_le (tgt := 13) hx hb d_M_storeInt_9 (by decide) (fun c_9 => ?_) (fun c_9 => ?_)
    · refine lv_aload_n hx hb d_M_storeInt_13 rfl (lv_at hl 0 rfl) ?_
      refine lv_iload_n hx hb d_M_storeInt_14 rfl (lv_at hl 1 rfl) ?_
      refine lv_iload_n hx hb d_M_storeInt_15 rfl (lv_at hl 2 rfl) ?_
      refine lv_bipush (v := 24) hx hb d_M_storeInt_16 (by decide) ?_
      refine lv_iushr (v := ey_ushr y 24) hx hb d_M_storeInt_18 rfl ?_
      refine lv_i2b (v := (ey_ushr y 24).toInt8.toInt32) hx hb d_M_storeInt_19 rfl ?_
      refine va_bast hx hb hK hP hD hS 0 1 rfl rfl (ey_si0 hn hn4 c_1 c_9) d_M_storeInt_20 (fun H locs hP hD hS => ?_)
      have hP : va_P (dC, dI) vwCl [(h0, .inl (cB, n, .inl (upd g x.toNatClampNeg (vp_nar .byte ((ey_ushr y 24).toInt8.toInt32)))))] H := hP
      have hD : va_D A [(h0, .inl (cB, n, .inl (upd g x.toNatClampNeg (vp_nar .byte ((ey_ushr y 24).toInt8.toInt32)))))] := hD
      refine lv_aload_n hx hb d_M_storeInt_21 rfl (lv_at hl 0 rfl) ?_
      refine lv_iload_n hx hb d_M_storeInt_22 rfl (lv_at hl 1 rfl) ?_
      refine lv_iconst (v := 1) hx hb d_M_storeInt_23 (by decide) ?_
      refine lv_iadd hx hb d_M_storeInt_24 ?_
      refine lv_iload_n hx hb d_M_storeInt_25 rfl (lv_at hl 2 rfl) ?_
      refine lv_bipush (v := 16) hx hb d_M_storeInt_26 (by decide) ?_
      refine lv_iushr (v := ey_ushr y 16) hx hb d_M_storeInt_28 rfl ?_
      refine lv_i2b (v := (ey_ushr y 16).toInt8.toInt32) hx hb d_M_storeInt_29 rfl ?_
      refine va_bast hx hb hK hP hD hS 0 1 rfl rfl (ey_si1 hn hn4 c_1 c_9) d_M_storeInt_30 (fun H locs hP hD hS => ?_)
      have hP : va_P (dC, dI) vwCl [(h0, .inl (cB, n, .inl (upd (upd g x.toNatClampNeg (vp_nar .byte ((ey_ushr y 24).toInt8.toInt32))) (x + 1).toNatClampNeg (vp_nar .byte ((ey_ushr y 16).toInt8.toInt32)))))] H := hP
      have hD : va_D A [(h0, .inl (cB, n, .inl (upd (upd g x.toNatClampNeg (vp_nar .byte ((ey_ushr y 24).toInt8.toInt32))) (x + 1).toNatClampNeg (vp_nar .byte ((ey_ushr y 16).toInt8.toInt32)))))] := hD
      refine lv_aload_n hx hb d_M_storeInt_31 rfl (lv_at hl 0 rfl) ?_
      refine lv_iload_n hx hb d_M_storeInt_32 rfl (lv_at hl 1 rfl) ?_
      refine lv_iconst (v := 2) hx hb d_M_storeInt_33 (by decide) ?_
      refine lv_iadd hx hb d_M_storeInt_34 ?_
      refine lv_iload_n hx hb d_M_storeInt_35 rfl (lv_at hl 2 rfl) ?_
      refine lv_bipush (v := 8) hx hb d_M_storeInt_36 (by decide) ?_
      refine lv_iushr (v := ey_ushr y 8) hx hb d_M_storeInt_38 rfl ?_
      refine lv_i2b (v := (ey_ushr y 8).toInt8.toInt32) hx hb d_M_storeInt_39 rfl ?_
      refine va_bast hx hb hK hP hD hS 0 1 rfl rfl (ey_si2 hn hn4 c_1 c_9) d_M_storeInt_40 (fun H locs hP hD hS => ?_)
      have hP : va_P (dC, dI) vwCl [(h0, .inl (cB, n, .inl (upd (upd (upd g x.toNatClampNeg (vp_nar .byte ((ey_ushr y 24).toInt8.toInt32))) (x + 1).toNatClampNeg (vp_nar .byte ((ey_ushr y 16).toInt8.toInt32))) (x + 2).toNatClampNeg (vp_nar .byte ((ey_ushr y 8).toInt8.toInt32)))))] H := hP
      have hD : va_D A [(h0, .inl (cB, n, .inl (upd (upd (upd g x.toNatClampNeg (vp_nar .byte ((ey_ushr y 24).toInt8.toInt32))) (x + 1).toNatClampNeg (vp_nar .byte ((ey_ushr y 16).toInt8.toInt32))) (x + 2).toNatClampNeg (vp_nar .byte ((ey_ushr y 8).toInt8.toInt32)))))] := hD
      refine lv_aload_n hx hb d_M_storeInt_41 rfl (lv_at hl 0 rfl) ?_
      refine lv_iload_n hx hb d_M_storeInt_42 rfl (lv_at hl 1 rfl) ?_
      refine lv_iconst (v := 3) hx hb d_M_storeInt_43 (by decide) ?_
      refine lv_iadd hx hb d_M_storeInt_44 ?_
      refine lv_iload_n hx hb d_M_storeInt_45 rfl (lv_at hl 2 rfl) ?_
      refine lv_i2b (v := y.toInt8.toInt32) hx hb d_M_storeInt_46 rfl ?_
      refine va_bast hx hb hK hP hD hS 0 1 rfl rfl (ey_si3 hn hn4 c_1 c_9) d_M_storeInt_47 (fun H locs hP hD hS => ?_)
      have hP : va_P (dC, dI) vwCl [(h0, .inl (cB, n, .inl (upd (upd (upd (upd g x.toNatClampNeg (vp_nar .byte ((ey_ushr y 24).toInt8.toInt32))) (x + 1).toNatClampNeg (vp_nar .byte ((ey_ushr y 16).toInt8.toInt32))) (x + 2).toNatClampNeg (vp_nar .byte ((ey_ushr y 8).toInt8.toInt32))) (x + 3).toNatClampNeg (vp_nar .byte y.toInt8.toInt32))))] H := hP
      have hD : va_D A [(h0, .inl (cB, n, .inl (upd (upd (upd (upd g x.toNatClampNeg (vp_nar .byte ((ey_ushr y 24).toInt8.toInt32))) (x + 1).toNatClampNeg (vp_nar .byte ((ey_ushr y 16).toInt8.toInt32))) (x + 2).toNatClampNeg (vp_nar .byte ((ey_ushr y 8).toInt8.toInt32))) (x + 3).toNatClampNeg (vp_nar .byte y.toInt8.toInt32))))] := hD
      exact ey_vret (W1 := fun (u : ep_F) => [(h0, .inl (cB, n, .inl u))]) hx hb hr hlocks hP hD hS (upd (upd (upd (upd g x.toNatClampNeg (vp_nar .byte ((ey_ushr y 24).toInt8.toInt32))) (x + 1).toNatClampNeg (vp_nar .byte ((ey_ushr y 16).toInt8.toInt32))) (x + 2).toNatClampNeg (vp_nar .byte ((ey_ushr y 8).toInt8.toInt32))) (x + 3).toNatClampNeg (vp_nar .byte y.toInt8.toInt32)) [0] rfl (by decide) (by first | contradiction | (simp only [ep_si, ↓reduceIte, not_true_eq_false, not_false_eq_true, c_1, c_9])) d_M_storeInt_48 (Nat.le_of_ble_eq_true rfl) (Nat.le_of_ble_eq_true rfl)
    · exact ey_vret (W1 := fun (u : ep_F) => [(h0, .inl (cB, n, .inl u))]) hx hb hr hlocks hP hD hS g [0] rfl (by decide) (by first | contradiction | (simp only [ep_si, ↓reduceIte, not_true_eq_false, not_false_eq_true, c_1, c_9])) d_M_storeInt_12 (Nat.le_of_ble_eq_true rfl) (Nat.le_of_ble_eq_true rfl)
set_option maxHeartbeats 4000000 in
set_option maxRecDepth 100000 in
theorem c_mf_store_R {p : Program} {l : Launch} {e : Env} {s : State} {m : MethodId} {args : Array Value} {below : List Frame} {meth : Method} {c : Code} {dC : Nat → ClassId} {dI : Nat → Nat → Nat} {cI cB cJ cZ : ClassId} {A : Nat → Prop} {h0 h1 h2 h3 h4 : Nat} {ex ch : Int32} {la fi si no : ep_F} {h5 n : Nat} {g0 : ep_F} (hn : n < 2 ^ 30) (hn4 : 4 ≤ n) (hK : va_K (dC, dI) vwCl (ey_kt cI cB cJ cZ) s) (hG : ex_G s) (C0 : ey_Cx p s m args meth c b_M_store 4 R_M ew_T none A)  :
    ∀ (fuel : Nat) (i : Nat) (g : ep_F) (hi : i + fuel = 201) (hin : i ≤ 200) (hu : ep_sr la fi si ex n fuel i g = ep_sr la fi si ex n 201 0 (ep_sn no n 25 0 (ep_si n (ep_si n g0 0 ch) 4 ex))), ∀ (H : Heap) (locs : List Loc), va_P (dC, dI) vwCl [(h0, .inr (0, [.ref h1, .ref h2, .ref h3, .ref h4, .int ex, .int ch])), (h1, .inl (cI, 200, .inl la)), (h2, .inl (cI, 200, .inl fi)), (h3, .inl (cI, 200, .inl si)), (h4, .inl (cI, 24, .inl no)), (h5, .inl (cB, n, .inl g))] H → va_D A [(h0, .inr (0, [.ref h1, .ref h2, .ref h3, .ref h4, .int ex, .int ch])), (h1, .inl (cI, 200, .inl la)), (h2, .inl (cI, 200, .inl fi)), (h3, .inl (cI, 200, .inl si)), (h4, .inl (cI, 24, .inl no)), (h5, .inl (cB, n, .inl g))] → va_S A s.heap H locs → ∀ (ls : Array Slot), lv_has ls 4 [(0, .ref h0), (1, .ref h5), (2, .int (nI i))] → W p l e { frames := 1, cells := 0, slots := 0, locals := 22 } s m args below meth c H locs 0 0 (MQ below (va_Qv (fun (u : ep_F) => u = ep_store (la, fi, si, ex) no ch n g0) (fun u t8 => ey_Post (dC, dI) vwCl A ((fun (u : ep_F) => [(h0, .inr (0, [.ref h1, .ref h2, .ref h3, .ref h4, .int ex, .int ch])), (h1, .inl (cI, 200, .inl la)), (h2, .inl (cI, 200, .inl fi)), (h3, .inl (cI, 200, .inl si)), (h4, .inl (cI, 24, .inl no)), (h5, .inl (cB, n, .inl u))]) u) t8) A) args s 0 0 A) (F0 m 50 ls []) := by
  obtain ⟨hx, hb, hml, hown, hts, hr, hlocks, hA⟩ := id C0
  intro fuel
  induction fuel with
  | zero =>
    intro i g hi hin hu H locs hP hD hS ls hl
    exact absurd hi (by omega)
  | succ fuel ih =>
    intro i g hi hin hu H locs hP hD hS ls hl
    refine lv_iload_n hx hb d_M_store_50 rfl (lv_at hl 2 rfl) ?_
    refine lv_aload_n hx hb d_M_store_51 rfl (lv_at hl 0 rfl) ?_
    refine va_get (D := (dC, dI)) (ci := 0) (v := .int ex) (C := R_M) (T := T_M) (N := 6) hx hb hts in_M hown hK hP 0 rfl rfl 4 (by decide) (hts _ ew_91) (fun _ h9 => h9) rfl d_M_store_52 ?_
    refine lv_icmp_ge (tgt := 117) hx hb d_M_store_55 (by decide) (fun c_55 => ?_) (fun c_55 => ?_)
    · exact ey_vret (W1 := fun (u : ep_F) => [(h0, .inr (0, [.ref h1, .ref h2, .ref h3, .ref h4, .int ex, .int ch])), (h1, .inl (cI, 200, .inl la)), (h2, .inl (cI, 200, .inl fi)), (h3, .inl (cI, 200, .inl si)), (h4, .inl (cI, 24, .inl no)), (h5, .inl (cB, n, .inl u))]) hx hb hr hlocks hP hD hS g [0, 1, 2, 3, 4, 5] rfl (by decide) (by rw [ep_store, ← hu]; simp only [ep_sr, ↓reduceIte, c_55]) d_M_store_117 (Nat.le_of_ble_eq_true rfl) (Nat.le_of_ble_eq_true rfl)
    · refine lv_iload_n hx hb d_M_store_58 rfl (lv_at hl 2 rfl) ?_
      refine lv_sipush (v := 200) hx hb d_M_store_59 (by decide) ?_
      refine lv_icmp_ge (tgt := 117) hx hb d_M_store_62 (by decide) (fun c_62 => ?_) (fun c_62 => ?_)
      · exact ey_vret (W1 := fun (u : ep_F) => [(h0, .inr (0, [.ref h1, .ref h2, .ref h3, .ref h4, .int ex, .int ch])), (h1, .inl (cI, 200, .inl la)), (h2, .inl (cI, 200, .inl fi)), (h3, .inl (cI, 200, .inl si)), (h4, .inl (cI, 24, .inl no)), (h5, .inl (cB, n, .inl u))]) hx hb hr hlocks hP hD hS g [0, 1, 2, 3, 4, 5] rfl (by decide) (by rw [ep_store, ← hu]; simp only [ep_sr, ↓reduceIte, c_55, c_62]) d_M_store_117 (Nat.le_of_ble_eq_true rfl) (Nat.le_of_ble_eq_true rfl)
      · have hlt : i < 200 := ey_lt200 (by omega) c_62
        refine lv_bipush (v := 104) hx hb d_M_store_65 (by decide) ?_
        refine lv_bipush (v := 12) hx hb d_M_store_67 (by decide) ?_
        refine lv_iload_n hx hb d_M_store_69 rfl (lv_at hl 2 rfl) ?_
        refine lv_imul hx hb d_M_store_70 ?_
        refine lv_iadd hx hb d_M_store_71 ?_
        refine lv_istore_n (lv' := [(3, .int (104 + (12 * (nI i)))), (0, .ref h0), (1, .ref h5), (2, .int (nI i))]) hx hb d_M_store_72 rfl hl (by decide) rfl (fun ls hl => ?_)
        refine lv_aload_n hx hb d_M_store_73 rfl (lv_at hl 2 rfl) ?_
        refine lv_iload_n hx hb d_M_store_74 rfl (lv_at hl 0 rfl) ?_
        refine lv_aload_n hx hb d_M_store_75 rfl (lv_at hl 1 rfl) ?_
        refine va_get (D := (dC, dI)) (ci := 0) (v := .ref h1) (C := R_M) (T := T_M) (N := 6) hx hb hts in_M hown hK hP 0 rfl rfl 0 (by decide) (hts _ ew_83) (fun _ h9 => h9) rfl d_M_store_76 ?_
        refine lv_iload_n hx hb d_M_store_79 rfl (lv_at hl 3 rfl) ?_
        refine va_iald hx hb hK hP 1 0 rfl rfl (vp_in_nI hlt (by decide)) d_M_store_80 ?_
        refine ey_Sv (Wc := [(h5, .inl (cB, n, .inl g))]) (wr := [(h0, .inr (0, [.ref h1, .ref h2, .ref h3, .ref h4, .int ex, .int ch])), (h1, .inl (cI, 200, .inl la)), (h2, .inl (cI, 200, .inl fi)), (h3, .inl (cI, 200, .inl si)), (h4, .inl (cI, 24, .inl no))]) (As := [.ref h5, .int (104 + (12 * (nI i))), .int (la (nI i).toNatClampNeg)]) (rest := []) ⟨hx, hb, hml, hown, hts⟩ (c_mf_si l dC dI cI cB cJ cZ h5 n g (104 + (12 * (nI i))) (la (nI i).toNatClampNeg) hn hn4) (va_cwS 3 hts (ew_S ew_361 ew_362 ew_17 g_M_storeInt) rfl rfl rfl (by decide +kernel) ⟨Nat.le_of_ble_eq_true rfl, Nat.le_of_ble_eq_true rfl⟩) hK hG hP hD hS hA [5] [0, 1, 2, 3, 4] rfl rfl (by decide) (by decide) (by decide) rfl hl.1 rfl (Nat.le_of_ble_eq_true rfl) d_M_store_81 ⟨Nat.le_of_ble_eq_true rfl, Nat.le_of_ble_eq_true rfl⟩ (fun u_2 H locs e_3 hP hD hS => ?_)
        have hP : va_P (dC, dI) vwCl [(h0, .inr (0, [.ref h1, .ref h2, .ref h3, .ref h4, .int ex, .int ch])), (h1, .inl (cI, 200, .inl la)), (h2, .inl (cI, 200, .inl fi)), (h3, .inl (cI, 200, .inl si)), (h4, .inl (cI, 24, .inl no)), (h5, .inl (cB, n, .inl u_2))] H := hP
        have hD : va_D A [(h0, .inr (0, [.ref h1, .ref h2, .ref h3, .ref h4, .int ex, .int ch])), (h1, .inl (cI, 200, .inl la)), (h2, .inl (cI, 200, .inl fi)), (h3, .inl (cI, 200, .inl si)), (h4, .inl (cI, 24, .inl no)), (h5, .inl (cB, n, .inl u_2))] := hD
        subst e_3
        refine lv_aload_n hx hb d_M_store_84 rfl (lv_at hl 2 rfl) ?_
        refine lv_iload_n hx hb d_M_store_85 rfl (lv_at hl 0 rfl) ?_
        refine lv_iconst (v := 4) hx hb d_M_store_86 (by decide) ?_
        refine lv_iadd hx hb d_M_store_87 ?_
        refine lv_aload_n hx hb d_M_store_88 rfl (lv_at hl 1 rfl) ?_
        refine va_get (D := (dC, dI)) (ci := 0) (v := .ref h2) (C := R_M) (T := T_M) (N := 6) hx hb hts in_M hown hK hP 0 rfl rfl 1 (by decide) (hts _ ew_85) (fun _ h9 => h9) rfl d_M_store_89 ?_
        refine lv_iload_n hx hb d_M_store_92 rfl (lv_at hl 3 rfl) ?_
        refine va_iald hx hb hK hP 2 0 rfl rfl (vp_in_nI hlt (by decide)) d_M_store_93 ?_
        refine ey_Sv (Wc := [(h5, .inl (cB, n, .inl (ep_si n g (104 + (12 * (nI i))) (la (nI i).toNatClampNeg))))]) (wr := [(h0, .inr (0, [.ref h1, .ref h2, .ref h3, .ref h4, .int ex, .int ch])), (h1, .inl (cI, 200, .inl la)), (h2, .inl (cI, 200, .inl fi)), (h3, .inl (cI, 200, .inl si)), (h4, .inl (cI, 24, .inl no))]) (As := [.ref h5, .int ((104 + (12 * (nI i))) + 4), .int (fi (nI i).toNatClampNeg)]) (rest := []) ⟨hx, hb, hml, hown, hts⟩ (c_mf_si l dC dI cI cB cJ cZ h5 n (ep_si n g (104 + (12 * (nI i))) (la (nI i).toNatClampNeg)) ((104 + (12 * (nI i))) + 4) (fi (nI i).toNatClampNeg) hn hn4) (va_cwS 3 hts (ew_S ew_361 ew_362 ew_17 g_M_storeInt) rfl rfl rfl (by decide +kernel) ⟨Nat.le_of_ble_eq_true rfl, Nat.le_of_ble_eq_true rfl⟩) hK hG hP hD hS hA [5] [0, 1, 2, 3, 4] rfl rfl (by decide) (by decide) (by decide) rfl hl.1 rfl (Nat.le_of_ble_eq_true rfl) d_M_store_94 ⟨Nat.le_of_ble_eq_true rfl, Nat.le_of_ble_eq_true rfl⟩ (fun u_5 H locs e_6 hP hD hS => ?_)
        have hP : va_P (dC, dI) vwCl [(h0, .inr (0, [.ref h1, .ref h2, .ref h3, .ref h4, .int ex, .int ch])), (h1, .inl (cI, 200, .inl la)), (h2, .inl (cI, 200, .inl fi)), (h3, .inl (cI, 200, .inl si)), (h4, .inl (cI, 24, .inl no)), (h5, .inl (cB, n, .inl u_5))] H := hP
        have hD : va_D A [(h0, .inr (0, [.ref h1, .ref h2, .ref h3, .ref h4, .int ex, .int ch])), (h1, .inl (cI, 200, .inl la)), (h2, .inl (cI, 200, .inl fi)), (h3, .inl (cI, 200, .inl si)), (h4, .inl (cI, 24, .inl no)), (h5, .inl (cB, n, .inl u_5))] := hD
        subst e_6
        refine lv_aload_n hx hb d_M_store_97 rfl (lv_at hl 2 rfl) ?_
        refine lv_iload_n hx hb d_M_store_98 rfl (lv_at hl 0 rfl) ?_
        refine lv_bipush (v := 8) hx hb d_M_store_99 (by decide) ?_
        refine lv_iadd hx hb d_M_store_101 ?_
        refine lv_aload_n hx hb d_M_store_102 rfl (lv_at hl 1 rfl) ?_
        refine va_get (D := (dC, dI)) (ci := 0) (v := .ref h3) (C := R_M) (T := T_M) (N := 6) hx hb hts in_M hown hK hP 0 rfl rfl 2 (by decide) (hts _ ew_87) (fun _ h9 => h9) rfl d_M_store_103 ?_
        refine lv_iload_n hx hb d_M_store_106 rfl (lv_at hl 3 rfl) ?_
        refine va_iald hx hb hK hP 3 0 rfl rfl (vp_in_nI hlt (by decide)) d_M_store_107 ?_
        refine ey_Sv (Wc := [(h5, .inl (cB, n, .inl (ep_si n (ep_si n g (104 + (12 * (nI i))) (la (nI i).toNatClampNeg)) ((104 + (12 * (nI i))) + 4) (fi (nI i).toNatClampNeg))))]) (wr := [(h0, .inr (0, [.ref h1, .ref h2, .ref h3, .ref h4, .int ex, .int ch])), (h1, .inl (cI, 200, .inl la)), (h2, .inl (cI, 200, .inl fi)), (h3, .inl (cI, 200, .inl si)), (h4, .inl (cI, 24, .inl no))]) (As := [.ref h5, .int ((104 + (12 * (nI i))) + 8), .int (si (nI i).toNatClampNeg)]) (rest := []) ⟨hx, hb, hml, hown, hts⟩ (c_mf_si l dC dI cI cB cJ cZ h5 n (ep_si n (ep_si n g (104 + (12 * (nI i))) (la (nI i).toNatClampNeg)) ((104 + (12 * (nI i))) + 4) (fi (nI i).toNatClampNeg)) ((104 + (12 * (nI i))) + 8) (si (nI i).toNatClampNeg) hn hn4) (va_cwS 3 hts (ew_S ew_361 ew_362 ew_17 g_M_storeInt) rfl rfl rfl (by decide +kernel) ⟨Nat.le_of_ble_eq_true rfl, Nat.le_of_ble_eq_true rfl⟩) hK hG hP hD hS hA [5] [0, 1, 2, 3, 4] rfl rfl (by decide) (by decide) (by decide) rfl hl.1 rfl (Nat.le_of_ble_eq_true rfl) d_M_store_108 ⟨Nat.le_of_ble_eq_true rfl, Nat.le_of_ble_eq_true rfl⟩ (fun u_8 H locs e_9 hP hD hS => ?_)
        have hP : va_P (dC, dI) vwCl [(h0, .inr (0, [.ref h1, .ref h2, .ref h3, .ref h4, .int ex, .int ch])), (h1, .inl (cI, 200, .inl la)), (h2, .inl (cI, 200, .inl fi)), (h3, .inl (cI, 200, .inl si)), (h4, .inl (cI, 24, .inl no)), (h5, .inl (cB, n, .inl u_8))] H := hP
        have hD : va_D A [(h0, .inr (0, [.ref h1, .ref h2, .ref h3, .ref h4, .int ex, .int ch])), (h1, .inl (cI, 200, .inl la)), (h2, .inl (cI, 200, .inl fi)), (h3, .inl (cI, 200, .inl si)), (h4, .inl (cI, 24, .inl no)), (h5, .inl (cB, n, .inl u_8))] := hD
        subst e_9
        refine lv_iinc (v := nI (i + 1)) (lv' := [(2, .int (nI (i + 1))), (3, .int (104 + (12 * (nI i)))), (0, .ref h0), (1, .ref h5)]) hx hb d_M_store_111 hl (k := 3) rfl (nI_1 i) (by decide) rfl (fun ls hl => ?_)
        refine lv_goto (tgt := 50) hx hb d_M_store_114 (by decide) ?_
        exact ih (i + 1) (ep_si n (ep_si n (ep_si n g (104 + 12 * nI i) (la (nI i).toNatClampNeg)) (104 + 12 * nI i + 4) (fi (nI i).toNatClampNeg)) (104 + 12 * nI i + 8) (si (nI i).toNatClampNeg)) (by omega) (by omega) (by rw [← hu]; simp only [ep_sr, ↓reduceIte, c_55, c_62]) _ _ hP hD hS ls (lv_sub hl [2, 3, 0] rfl)
set_option maxHeartbeats 4000000 in
set_option maxRecDepth 100000 in
theorem c_mf_store_N {p : Program} {l : Launch} {e : Env} {s : State} {m : MethodId} {args : Array Value} {below : List Frame} {meth : Method} {c : Code} {dC : Nat → ClassId} {dI : Nat → Nat → Nat} {cI cB cJ cZ : ClassId} {A : Nat → Prop} {h0 h1 h2 h3 h4 : Nat} {ex ch : Int32} {la fi si no : ep_F} {h5 n : Nat} {g0 : ep_F} (hn : n < 2 ^ 30) (hn4 : 4 ≤ n) (hK : va_K (dC, dI) vwCl (ey_kt cI cB cJ cZ) s) (hG : ex_G s) (C0 : ey_Cx p s m args meth c b_M_store 4 R_M ew_T none A)  :
    ∀ (fuel : Nat) (i : Nat) (g : ep_F) (hi : i + fuel = 25) (hin : i ≤ 24) (hu : ep_sn no n fuel i g = ep_sn no n 25 0 (ep_si n (ep_si n g0 0 ch) 4 ex)), ∀ (H : Heap) (locs : List Loc), va_P (dC, dI) vwCl [(h0, .inr (0, [.ref h1, .ref h2, .ref h3, .ref h4, .int ex, .int ch])), (h1, .inl (cI, 200, .inl la)), (h2, .inl (cI, 200, .inl fi)), (h3, .inl (cI, 200, .inl si)), (h4, .inl (cI, 24, .inl no)), (h5, .inl (cB, n, .inl g))] H → va_D A [(h0, .inr (0, [.ref h1, .ref h2, .ref h3, .ref h4, .int ex, .int ch])), (h1, .inl (cI, 200, .inl la)), (h2, .inl (cI, 200, .inl fi)), (h3, .inl (cI, 200, .inl si)), (h4, .inl (cI, 24, .inl no)), (h5, .inl (cB, n, .inl g))] → va_S A s.heap H locs → ∀ (ls : Array Slot), lv_has ls 4 [(0, .ref h0), (1, .ref h5), (2, .int (nI i))] → W p l e { frames := 1, cells := 0, slots := 0, locals := 22 } s m args below meth c H locs 0 0 (MQ below (va_Qv (fun (u : ep_F) => u = ep_store (la, fi, si, ex) no ch n g0) (fun u t8 => ey_Post (dC, dI) vwCl A ((fun (u : ep_F) => [(h0, .inr (0, [.ref h1, .ref h2, .ref h3, .ref h4, .int ex, .int ch])), (h1, .inl (cI, 200, .inl la)), (h2, .inl (cI, 200, .inl fi)), (h3, .inl (cI, 200, .inl si)), (h4, .inl (cI, 24, .inl no)), (h5, .inl (cB, n, .inl u))]) u) t8) A) args s 0 0 A) (F0 m 20 ls []) := by
  obtain ⟨hx, hb, hml, hown, hts, hr, hlocks, hA⟩ := id C0
  intro fuel
  induction fuel with
  | zero =>
    intro i g hi hin hu H locs hP hD hS ls hl
    exact absurd hi (by omega)
  | succ fuel ih =>
    intro i g hi hin hu H locs hP hD hS ls hl
    refine lv_iload_n hx hb d_M_store_20 rfl (lv_at hl 2 rfl) ?_
    refine lv_bipush (v := 24) hx hb d_M_store_21 (by decide) ?_
    refine lv_icmp_ge (tgt := 48) hx hb d_M_store_23 (by decide) (fun c_23 => ?_) (fun c_23 => ?_)
    · refine lv_iconst (v := nI 0) hx hb d_M_store_48 (by decide) ?_
      refine lv_istore_n (lv' := [(2, .int (nI 0)), (0, .ref h0), (1, .ref h5)]) hx hb d_M_store_49 rfl hl (by decide) rfl (fun ls hl => ?_)
      have eg : g = ep_sn no n 25 0 (ep_si n (ep_si n g0 0 ch) 4 ex) := by rw [← hu]; simp only [ep_sn, ↓reduceIte, c_23]
      subst eg
      exact c_mf_store_R (h0 := h0) (h1 := h1) (h2 := h2) (h3 := h3) (h4 := h4) (ex := ex) (ch := ch) (la := la) (fi := fi) (si := si) (no := no) (h5 := h5) (n := n) (g0 := g0) hn hn4 hK hG C0 201 0 (ep_sn no n 25 0 (ep_si n (ep_si n g0 0 ch) 4 ex)) rfl (by omega) rfl _ _ hP hD hS ls (lv_sub hl [1, 2, 0] rfl)
    · have hlt : i < 24 := ey_lt24 (by omega) c_23
      refine lv_aload_n hx hb d_M_store_26 rfl (lv_at hl 1 rfl) ?_
      refine lv_bipush (v := 8) hx hb d_M_store_27 (by decide) ?_
      refine lv_iconst (v := 4) hx hb d_M_store_29 (by decide) ?_
      refine lv_iload_n hx hb d_M_store_30 rfl (lv_at hl 2 rfl) ?_
      refine lv_imul hx hb d_M_store_31 ?_
      refine lv_iadd hx hb d_M_store_32 ?_
      refine lv_aload_n hx hb d_M_store_33 rfl (lv_at hl 0 rfl) ?_
      refine va_get (D := (dC, dI)) (ci := 0) (v := .ref h4) (C := R_M) (T := T_M) (N := 6) hx hb hts in_M hown hK hP 0 rfl rfl 3 (by decide) (hts _ ew_89) (fun _ h9 => h9) rfl d_M_store_34 ?_
      refine lv_iload_n hx hb d_M_store_37 rfl (lv_at hl 2 rfl) ?_
      refine va_iald hx hb hK hP 4 0 rfl rfl (vp_in_nI hlt (by decide)) d_M_store_38 ?_
      refine ey_Sv (Wc := [(h5, .inl (cB, n, .inl g))]) (wr := [(h0, .inr (0, [.ref h1, .ref h2, .ref h3, .ref h4, .int ex, .int ch])), (h1, .inl (cI, 200, .inl la)), (h2, .inl (cI, 200, .inl fi)), (h3, .inl (cI, 200, .inl si)), (h4, .inl (cI, 24, .inl no))]) (As := [.ref h5, .int (8 + (4 * (nI i))), .int (no (nI i).toNatClampNeg)]) (rest := []) ⟨hx, hb, hml, hown, hts⟩ (c_mf_si l dC dI cI cB cJ cZ h5 n g (8 + (4 * (nI i))) (no (nI i).toNatClampNeg) hn hn4) (va_cwS 3 hts (ew_S ew_361 ew_362 ew_17 g_M_storeInt) rfl rfl rfl (by decide +kernel) ⟨Nat.le_of_ble_eq_true rfl, Nat.le_of_ble_eq_true rfl⟩) hK hG hP hD hS hA [5] [0, 1, 2, 3, 4] rfl rfl (by decide) (by decide) (by decide) rfl hl.1 rfl (Nat.le_of_ble_eq_true rfl) d_M_store_39 ⟨Nat.le_of_ble_eq_true rfl, Nat.le_of_ble_eq_true rfl⟩ (fun u_2 H locs e_3 hP hD hS => ?_)
      have hP : va_P (dC, dI) vwCl [(h0, .inr (0, [.ref h1, .ref h2, .ref h3, .ref h4, .int ex, .int ch])), (h1, .inl (cI, 200, .inl la)), (h2, .inl (cI, 200, .inl fi)), (h3, .inl (cI, 200, .inl si)), (h4, .inl (cI, 24, .inl no)), (h5, .inl (cB, n, .inl u_2))] H := hP
      have hD : va_D A [(h0, .inr (0, [.ref h1, .ref h2, .ref h3, .ref h4, .int ex, .int ch])), (h1, .inl (cI, 200, .inl la)), (h2, .inl (cI, 200, .inl fi)), (h3, .inl (cI, 200, .inl si)), (h4, .inl (cI, 24, .inl no)), (h5, .inl (cB, n, .inl u_2))] := hD
      subst e_3
      refine lv_iinc (v := nI (i + 1)) (lv' := [(2, .int (nI (i + 1))), (0, .ref h0), (1, .ref h5)]) hx hb d_M_store_42 hl (k := 2) rfl (nI_1 i) (by decide) rfl (fun ls hl => ?_)
      refine lv_goto (tgt := 20) hx hb d_M_store_45 (by decide) ?_
      exact ih (i + 1) (ep_si n g (8 + 4 * nI i) (no (nI i).toNatClampNeg)) (by omega) (by omega) (by rw [← hu]; simp only [ep_sn, ↓reduceIte, c_23]) _ _ hP hD hS ls (lv_sub hl [1, 2, 0] rfl)
set_option maxHeartbeats 4000000 in
set_option maxRecDepth 100000 in
theorem c_mf_store (l : Launch) (dC : Nat → ClassId) (dI : Nat → Nat → Nat) (cI cB cJ cZ : ClassId) (h0 h1 h2 h3 h4 : Nat) (ex ch : Int32) (la fi si no : ep_F) (h5 n : Nat) (g0 : ep_F) (hn : n < 2 ^ 30) (hn4 : 4 ≤ n) : ey_Mv l y_M_store w_M_store { frames := 1, cells := 0, slots := 0, locals := 22 } (dC, dI) vwCl (ey_kt cI cB cJ cZ) [.ref h0, .ref h5] [(h0, .inr (0, [.ref h1, .ref h2, .ref h3, .ref h4, .int ex, .int ch])), (h1, .inl (cI, 200, .inl la)), (h2, .inl (cI, 200, .inl fi)), (h3, .inl (cI, 200, .inl si)), (h4, .inl (cI, 24, .inl no)), (h5, .inl (cB, n, .inl g0))] (fun (u : ep_F) => u = ep_store (la, fi, si, ex) no ch n g0) (fun (u : ep_F) => [(h0, .inr (0, [.ref h1, .ref h2, .ref h3, .ref h4, .int ex, .int ch])), (h1, .inl (cI, 200, .inl la)), (h2, .inl (cI, 200, .inl fi)), (h3, .inl (cI, 200, .inl si)), (h4, .inl (cI, 24, .inl no)), (h5, .inl (cB, n, .inl u))]) 0 0 := by
  intro sz
  refine Met.ofW (cc := b_M_store) (maxL := 4) (ret := none) (by decide) rfl ?_
  intro p e s m args below meth c s₁ B hml hv
  obtain ⟨rfl, hsz, hP, hK, hG, hD0⟩ := hv
  have hx := B.exec
  have hb := B.bytes
  have hr := B.returns
  have hts := fun (w : Cond) (h : w ∈ ew_T) => atoms_spec (ws := w_M_store) B.pre w (List.mem_cons_of_mem _ h)
  have hown : s.vm.findClass R_M = some m.cls := findClass_of_methodNamed B.named
  have hlocks := B.notSynchronized
  subst hsz
  have hD := hD0.self (sz := s.heap.size)
  generalize hAe : va_A [(h0, .inr (0, [.ref h1, .ref h2, .ref h3, .ref h4, .int ex, .int ch])), (h1, .inl (cI, 200, .inl la)), (h2, .inl (cI, 200, .inl fi)), (h3, .inl (cI, 200, .inl si)), (h4, .inl (cI, 24, .inl no)), (h5, .inl (cB, n, .inl g0))] s.heap.size = A at hD ⊢
  have hA : ∀ q : Nat, s.heap.size ≤ q → A q := fun q h => by rw [← hAe]; exact Or.inr h
  have hS : va_S A s.heap s.heap [] := va_S.rf
  have hP : va_P (dC, dI) vwCl [(h0, .inr (0, [.ref h1, .ref h2, .ref h3, .ref h4, .int ex, .int ch])), (h1, .inl (cI, 200, .inl la)), (h2, .inl (cI, 200, .inl fi)), (h3, .inl (cI, 200, .inl si)), (h4, .inl (cI, 24, .inl no)), (h5, .inl (cB, n, .inl g0))] s.heap := hP
  have hl := lv_entry ([.ref h0, .ref h5]) (n := 4) (Nat.le_of_ble_eq_true rfl)
  rw [lg_entry_eq]
  generalize (lg_sl ([.ref h0, .ref h5]) ++ List.replicate (4 - (lg_sl ([.ref h0, .ref h5])).length) Slot.unset).toArray = ls at hl ⊢
  have hl : lv_has ls 4 [(0, .ref h0), (1, .ref h5)] := hl
  have C0 : ey_Cx p s m [.ref h0, .ref h5].toArray meth c b_M_store 4 R_M ew_T none A := ⟨hx, hb, hml, hown, hts, hr, hlocks, hA⟩
  refine lv_aload_n hx hb d_M_store_0 rfl (lv_at hl 1 rfl) ?_
  refine lv_iconst (v := 0) hx hb d_M_store_1 (by decide) ?_
  refine lv_aload_n hx hb d_M_store_2 rfl (lv_at hl 0 rfl) ?_
  refine va_get (D := (dC, dI)) (ci := 0) (v := .int ch) (C := R_M) (T := T_M) (N := 6) hx hb hts in_M hown hK hP 0 rfl rfl 5 (by decide) (hts _ ew_93) (fun _ h9 => h9) rfl d_M_store_3 ?_
  refine ey_Sv (Wc := [(h5, .inl (cB, n, .inl g0))]) (wr := [(h0, .inr (0, [.ref h1, .ref h2, .ref h3, .ref h4, .int ex, .int ch])), (h1, .inl (cI, 200, .inl la)), (h2, .inl (cI, 200, .inl fi)), (h3, .inl (cI, 200, .inl si)), (h4, .inl (cI, 24, .inl no))]) (As := [.ref h5, .int 0, .int ch]) (rest := []) ⟨hx, hb, hml, hown, hts⟩ (c_mf_si l dC dI cI cB cJ cZ h5 n g0 0 ch hn hn4) (va_cwS 3 hts (ew_S ew_361 ew_362 ew_17 g_M_storeInt) rfl rfl rfl (by decide +kernel) ⟨Nat.le_of_ble_eq_true rfl, Nat.le_of_ble_eq_true rfl⟩) hK hG hP hD hS hA [5] [0, 1, 2, 3, 4] rfl rfl (by decide) (by decide) (by decide) rfl hl.1 rfl (Nat.le_of_ble_eq_true rfl) d_M_store_6 ⟨Nat.le_of_ble_eq_true rfl, Nat.le_of_ble_eq_true rfl⟩ (fun u_2 H locs e_3 hP hD hS => ?_)
  have hP : va_P (dC, dI) vwCl [(h0, .inr (0, [.ref h1, .ref h2, .ref h3, .ref h4, .int ex, .int ch])), (h1, .inl (cI, 200, .inl la)), (h2, .inl (cI, 200, .inl fi)), (h3, .inl (cI, 200, .inl si)), (h4, .inl (cI, 24, .inl no)), (h5, .inl (cB, n, .inl u_2))] H := hP
  have hD : va_D A [(h0, .inr (0, [.ref h1, .ref h2, .ref h3, .ref h4, .int ex, .int ch])), (h1, .inl (cI, 200, .inl la)), (h2, .inl (cI, 200, .inl fi)), (h3, .inl (cI, 200, .inl si)), (h4, .inl (cI, 24, .inl no)), (h5, .inl (cB, n, .inl u_2))] := hD
  subst e_3
  refine lv_aload_n hx hb d_M_store_9 rfl (lv_at hl 1 rfl) ?_
  refine lv_iconst (v := 4) hx hb d_M_store_10 (by decide) ?_
  refine lv_aload_n hx hb d_M_store_11 rfl (lv_at hl 0 rfl) ?_
  refine va_get (D := (dC, dI)) (ci := 0) (v := .int ex) (C := R_M) (T := T_M) (N := 6) hx hb hts in_M hown hK hP 0 rfl rfl 4 (by decide) (hts _ ew_91) (fun _ h9 => h9) rfl d_M_store_12 ?_
  refine ey_Sv (Wc := [(h5, .inl (cB, n, .inl (ep_si n g0 0 ch)))]) (wr := [(h0, .inr (0, [.ref h1, .ref h2, .ref h3, .ref h4, .int ex, .int ch])), (h1, .inl (cI, 200, .inl la)), (h2, .inl (cI, 200, .inl fi)), (h3, .inl (cI, 200, .inl si)), (h4, .inl (cI, 24, .inl no))]) (As := [.ref h5, .int 4, .int ex]) (rest := []) ⟨hx, hb, hml, hown, hts⟩ (c_mf_si l dC dI cI cB cJ cZ h5 n (ep_si n g0 0 ch) 4 ex hn hn4) (va_cwS 3 hts (ew_S ew_361 ew_362 ew_17 g_M_storeInt) rfl rfl rfl (by decide +kernel) ⟨Nat.le_of_ble_eq_true rfl, Nat.le_of_ble_eq_true rfl⟩) hK hG hP hD hS hA [5] [0, 1, 2, 3, 4] rfl rfl (by decide) (by decide) (by decide) rfl hl.1 rfl (Nat.le_of_ble_eq_true rfl) d_M_store_15 ⟨Nat.le_of_ble_eq_true rfl, Nat.le_of_ble_eq_true rfl⟩ (fun u_5 H locs e_6 hP hD hS => ?_)
  have hP : va_P (dC, dI) vwCl [(h0, .inr (0, [.ref h1, .ref h2, .ref h3, .ref h4, .int ex, .int ch])), (h1, .inl (cI, 200, .inl la)), (h2, .inl (cI, 200, .inl fi)), (h3, .inl (cI, 200, .inl si)), (h4, .inl (cI, 24, .inl no)), (h5, .inl (cB, n, .inl u_5))] H := hP
  have hD : va_D A [(h0, .inr (0, [.ref h1, .ref h2, .ref h3, .ref h4, .int ex, .int ch])), (h1, .inl (cI, 200, .inl la)), (h2, .inl (cI, 200, .inl fi)), (h3, .inl (cI, 200, .inl si)), (h4, .inl (cI, 24, .inl no)), (h5, .inl (cB, n, .inl u_5))] := hD
  subst e_6
  refine lv_iconst (v := nI 0) hx hb d_M_store_18 (by decide) ?_
  refine lv_istore_n (lv' := [(2, .int (nI 0)), (0, .ref h0), (1, .ref h5)]) hx hb d_M_store_19 rfl hl (by decide) rfl (fun ls hl => ?_)
  exact c_mf_store_N (h0 := h0) (h1 := h1) (h2 := h2) (h3 := h3) (h4 := h4) (ex := ex) (ch := ch) (la := la) (fi := fi) (si := si) (no := no) (h5 := h5) (n := n) (g0 := g0) hn hn4 hK hG C0 25 0 (ep_si n (ep_si n g0 0 ch) 4 ex) rfl (by omega) rfl _ _ hP hD hS ls (lv_sub hl [1, 2, 0] rfl)
