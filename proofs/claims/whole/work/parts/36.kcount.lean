set_option maxHeartbeats 4000000 in
set_option maxRecDepth 100000 in
theorem c_k_recover_L {p : Program} {l : Launch} {e : Env} {s : State} {m : MethodId} {args : Array Value} {below : List Frame} {meth : Method} {c : Code} {dC : Nat → ClassId} {dI : Nat → Nat → Nat} {cI cB cJ cZ : ClassId} {A : Nat → Prop} {k0 a1 a2 a3 a4 a5 a6 a7 a8 a9 : Nat} {co : Int32} {nB : Nat} {dn wr lf : Int32} {E : Nat} {ch : Int32} {t : Nat} {no wf : ep_F}  (hK : va_K (dC, dI) vwCl (ey_kt cI cB cJ cZ) s) (hG : ex_G s) (C0 : ey_Cx p s m args meth c b_K_recover 2 R_K ew_T (some .int) A)  :
    ∀ (fuel : Nat) (i : Nat) (g : ep_F) (hi : i + fuel = 25) (hin : i ≤ 24) (hu : ek_nt no fuel i g = ek_nt no 25 0 wf), ∀ (H : Heap) (locs : List Loc), va_P (dC, dI) vwCl [(k0, .inr (4, [.int 0, .int (nI nB), .int 0, .int wr, .int (-1), .int (nI E), .ref a1, .ref a2, .ref a3, .ref a4, .ref a5, .int ch, .ref a6, .ref a7, .ref a8, .int (nI 0), .ref a9])), (a5, .inl (cI, 24, .inl no)), (a8, .inl (cI, 24, .inl g))] H → va_D A [(k0, .inr (4, [.int 0, .int (nI nB), .int 0, .int wr, .int (-1), .int (nI E), .ref a1, .ref a2, .ref a3, .ref a4, .ref a5, .int ch, .ref a6, .ref a7, .ref a8, .int (nI 0), .ref a9])), (a5, .inl (cI, 24, .inl no)), (a8, .inl (cI, 24, .inl g))] → va_S A s.heap H locs → ∀ (ls : Array Slot), lv_has ls 2 [(0, .ref k0), (1, .int (nI i))] → W p l e { frames := 0, cells := 0, slots := 0, locals := 0 } s m args below meth c H locs 0 0 (MQ below (va_Qi (fun (r : Int32) (u : ep_F) => (r, u) = (nI E, ek_nt no 25 0 wf)) (fun u t8 => ey_Post (dC, dI) vwCl A ((fun (u : ep_F) => [(k0, .inr (4, [.int 0, .int (nI nB), .int 0, .int wr, .int (-1), .int (nI E), .ref a1, .ref a2, .ref a3, .ref a4, .ref a5, .int ch, .ref a6, .ref a7, .ref a8, .int (nI 0), .ref a9])), (a5, .inl (cI, 24, .inl no)), (a8, .inl (cI, 24, .inl u))]) u) t8) A) args s 0 0 A) (F0 m 22 ls []) := by
  obtain ⟨hx, hb, hml, hown, hts, hr, hlocks, hA⟩ := id C0
  intro fuel
  induction fuel with
  | zero =>
    intro i g hi hin hu H locs hP hD hS ls hl
    exact absurd hi (by omega)
  | succ fuel ih =>
    intro i g hi hin hu H locs hP hD hS ls hl
    refine lv_iload_n hx hb d_K_recover_22 rfl (lv_at hl 1 rfl) ?_
    refine lv_bipush (v := 24) hx hb d_K_recover_23 (by decide) ?_
    refine lv_icmp_ge (tgt := 46) hx hb d_K_recover_25 (by decide) (fun c_25 => ?_) (fun c_25 => ?_)
    · refine lv_aload_n hx hb d_K_recover_46 rfl (lv_at hl 0 rfl) ?_
      refine va_get (D := (dC, dI)) (ci := 4) (v := .int (nI E)) (C := R_K) (T := T_K) (N := 17) hx hb hts in_K hown hK hP 0 rfl rfl 5 (by decide) (hts _ ew_424) (fun _ h9 => h9) rfl d_K_recover_47 ?_
      exact ey_iret (W1 := fun (u : ep_F) => [(k0, .inr (4, [.int 0, .int (nI nB), .int 0, .int wr, .int (-1), .int (nI E), .ref a1, .ref a2, .ref a3, .ref a4, .ref a5, .int ch, .ref a6, .ref a7, .ref a8, .int (nI 0), .ref a9])), (a5, .inl (cI, 24, .inl no)), (a8, .inl (cI, 24, .inl u))]) hx hb hr hlocks hP hD hS g [0, 1, 2] rfl (by decide) (by rw [← hu, ek_nt, if_pos c_25]) d_K_recover_50 (Nat.le_of_ble_eq_true rfl) (Nat.le_of_ble_eq_true rfl)
    · have hlt : i < 24 := ey_lt24 (by omega) c_25
      refine lv_aload_n hx hb d_K_recover_28 rfl (lv_at hl 0 rfl) ?_
      refine va_get (D := (dC, dI)) (ci := 4) (v := .ref a8) (C := R_K) (T := T_K) (N := 17) hx hb hts in_K hown hK hP 0 rfl rfl 14 (by decide) (hts _ ew_433) (fun _ h9 => h9) rfl d_K_recover_29 ?_
      refine lv_iload_n hx hb d_K_recover_32 rfl (lv_at hl 1 rfl) ?_
      refine lv_aload_n hx hb d_K_recover_33 rfl (lv_at hl 0 rfl) ?_
      refine va_get (D := (dC, dI)) (ci := 4) (v := .ref a5) (C := R_K) (T := T_K) (N := 17) hx hb hts in_K hown hK hP 0 rfl rfl 10 (by decide) (hts _ ew_429) (fun _ h9 => h9) rfl d_K_recover_34 ?_
      refine lv_iload_n hx hb d_K_recover_37 rfl (lv_at hl 1 rfl) ?_
      refine va_iald hx hb hK hP 1 0 rfl rfl (vp_in_nI hlt (by decide)) d_K_recover_38 ?_
      refine va_iast hx hb hK hP hD hS 2 0 rfl rfl (vp_in_nI hlt (by decide)) d_K_recover_39 (fun H locs hP hD hS => ?_)
      have hP : va_P (dC, dI) vwCl [(k0, .inr (4, [.int 0, .int (nI nB), .int 0, .int wr, .int (-1), .int (nI E), .ref a1, .ref a2, .ref a3, .ref a4, .ref a5, .int ch, .ref a6, .ref a7, .ref a8, .int (nI 0), .ref a9])), (a5, .inl (cI, 24, .inl no)), (a8, .inl (cI, 24, .inl (upd g (nI i).toNatClampNeg (no (nI i).toNatClampNeg))))] H := hP
      have hD : va_D A [(k0, .inr (4, [.int 0, .int (nI nB), .int 0, .int wr, .int (-1), .int (nI E), .ref a1, .ref a2, .ref a3, .ref a4, .ref a5, .int ch, .ref a6, .ref a7, .ref a8, .int (nI 0), .ref a9])), (a5, .inl (cI, 24, .inl no)), (a8, .inl (cI, 24, .inl (upd g (nI i).toNatClampNeg (no (nI i).toNatClampNeg))))] := hD
      refine lv_iinc (v := nI (i + 1)) (lv' := [(1, .int (nI (i + 1))), (0, .ref k0)]) hx hb d_K_recover_40 hl (k := 1) rfl (nI_1 i) (by decide) rfl (fun ls hl => ?_)
      refine lv_goto (tgt := 22) hx hb d_K_recover_43 (by decide) ?_
      exact ih (i + 1) (upd g (nI i).toNatClampNeg (no (nI i).toNatClampNeg)) (by omega) (by omega) (by rw [← hu, ek_nt, if_neg c_25]) _ _ hP hD hS ls (lv_sub hl [1, 0] rfl)
set_option maxHeartbeats 4000000 in
set_option maxRecDepth 100000 in
theorem c_k_recover (l : Launch) (dC : Nat → ClassId) (dI : Nat → Nat → Nat) (cI cB cJ cZ : ClassId) (k0 a1 a2 a3 a4 a5 a6 a7 a8 a9 : Nat) (co : Int32) (nB : Nat) (dn wr lf : Int32) (E : Nat) (ch : Int32) (t : Nat) (no wf : ep_F) : ey_Mi l y_K_recover w_K_recover { frames := 0, cells := 0, slots := 0, locals := 0 } (dC, dI) vwCl (ey_kt cI cB cJ cZ) [.ref k0] [(k0, .inr (4, [.int co, .int (nI nB), .int dn, .int wr, .int lf, .int (nI E), .ref a1, .ref a2, .ref a3, .ref a4, .ref a5, .int ch, .ref a6, .ref a7, .ref a8, .int (nI t), .ref a9])), (a5, .inl (cI, 24, .inl no)), (a8, .inl (cI, 24, .inl wf))] (fun (r : Int32) (u : ep_F) => (r, u) = (nI E, ek_nt no 25 0 wf)) (fun (u : ep_F) => [(k0, .inr (4, [.int 0, .int (nI nB), .int 0, .int wr, .int (-1), .int (nI E), .ref a1, .ref a2, .ref a3, .ref a4, .ref a5, .int ch, .ref a6, .ref a7, .ref a8, .int (nI 0), .ref a9])), (a5, .inl (cI, 24, .inl no)), (a8, .inl (cI, 24, .inl u))]) 0 0 := by
  intro sz
  refine Met.ofW (cc := b_K_recover) (maxL := 2) (ret := (some .int)) (by decide) rfl ?_
  intro p e s m args below meth c s₁ B hml hv
  obtain ⟨rfl, hsz, hP, hK, hG, hD0⟩ := hv
  have hx := B.exec
  have hb := B.bytes
  have hr := B.returns
  have hts := fun (w : Cond) (h : w ∈ ew_T) => atoms_spec (ws := w_K_recover) B.pre w (List.mem_cons_of_mem _ h)
  have hown : s.vm.findClass R_K = some m.cls := findClass_of_methodNamed B.named
  have hlocks := B.notSynchronized
  subst hsz
  have hD := hD0.self (sz := s.heap.size)
  generalize hAe : va_A [(k0, .inr (4, [.int co, .int (nI nB), .int dn, .int wr, .int lf, .int (nI E), .ref a1, .ref a2, .ref a3, .ref a4, .ref a5, .int ch, .ref a6, .ref a7, .ref a8, .int (nI t), .ref a9])), (a5, .inl (cI, 24, .inl no)), (a8, .inl (cI, 24, .inl wf))] s.heap.size = A at hD ⊢
  have hA : ∀ q : Nat, s.heap.size ≤ q → A q := fun q h => by rw [← hAe]; exact Or.inr h
  have hS : va_S A s.heap s.heap [] := va_S.rf
  have hP : va_P (dC, dI) vwCl [(k0, .inr (4, [.int co, .int (nI nB), .int dn, .int wr, .int lf, .int (nI E), .ref a1, .ref a2, .ref a3, .ref a4, .ref a5, .int ch, .ref a6, .ref a7, .ref a8, .int (nI t), .ref a9])), (a5, .inl (cI, 24, .inl no)), (a8, .inl (cI, 24, .inl wf))] s.heap := hP
  have hl := lv_entry ([.ref k0]) (n := 2) (Nat.le_of_ble_eq_true rfl)
  rw [lg_entry_eq]
  generalize (lg_sl ([.ref k0]) ++ List.replicate (2 - (lg_sl ([.ref k0])).length) Slot.unset).toArray = ls at hl ⊢
  have hl : lv_has ls 2 [(0, .ref k0)] := hl
  have C0 : ey_Cx p s m [.ref k0].toArray meth c b_K_recover 2 R_K ew_T (some .int) A := ⟨hx, hb, hml, hown, hts, hr, hlocks, hA⟩
  refine lv_aload_n hx hb d_K_recover_0 rfl (lv_at hl 0 rfl) ?_
  refine lv_iconst (v := 0) hx hb d_K_recover_1 (by decide) ?_
  refine va_put (D := (dC, dI)) (ci := 4) (v := .int 0) (ty := .int) (C := R_K) (T := T_K) (N := 17) hx hb hts in_K t_K t_K_ok n_K hown hK hP hD hS 0 rfl rfl 0 (by decide) (hts _ ew_419) (fun _ h9 => h9) rfl (by decide +kernel) rfl rfl (Nat.le_of_ble_eq_true rfl) d_K_recover_2 (fun H locs hP hD hS => ?_)
  have hP : va_P (dC, dI) vwCl [(k0, .inr (4, [.int 0, .int (nI nB), .int dn, .int wr, .int lf, .int (nI E), .ref a1, .ref a2, .ref a3, .ref a4, .ref a5, .int ch, .ref a6, .ref a7, .ref a8, .int (nI t), .ref a9])), (a5, .inl (cI, 24, .inl no)), (a8, .inl (cI, 24, .inl wf))] H := hP
  have hD : va_D A [(k0, .inr (4, [.int 0, .int (nI nB), .int dn, .int wr, .int lf, .int (nI E), .ref a1, .ref a2, .ref a3, .ref a4, .ref a5, .int ch, .ref a6, .ref a7, .ref a8, .int (nI t), .ref a9])), (a5, .inl (cI, 24, .inl no)), (a8, .inl (cI, 24, .inl wf))] := hD
  refine lv_aload_n hx hb d_K_recover_5 rfl (lv_at hl 0 rfl) ?_
  refine lv_iconst (v := 0) hx hb d_K_recover_6 (by decide) ?_
  refine va_put (D := (dC, dI)) (ci := 4) (v := .int 0) (ty := .boolean) (C := R_K) (T := T_K) (N := 17) hx hb hts in_K t_K t_K_ok n_K hown hK hP hD hS 0 rfl rfl 2 (by decide) (hts _ ew_421) (fun _ h9 => h9) rfl (by decide +kernel) rfl rfl (Nat.le_of_ble_eq_true rfl) d_K_recover_7 (fun H locs hP hD hS => ?_)
  have hP : va_P (dC, dI) vwCl [(k0, .inr (4, [.int 0, .int (nI nB), .int 0, .int wr, .int lf, .int (nI E), .ref a1, .ref a2, .ref a3, .ref a4, .ref a5, .int ch, .ref a6, .ref a7, .ref a8, .int (nI t), .ref a9])), (a5, .inl (cI, 24, .inl no)), (a8, .inl (cI, 24, .inl wf))] H := hP
  have hD : va_D A [(k0, .inr (4, [.int 0, .int (nI nB), .int 0, .int wr, .int lf, .int (nI E), .ref a1, .ref a2, .ref a3, .ref a4, .ref a5, .int ch, .ref a6, .ref a7, .ref a8, .int (nI t), .ref a9])), (a5, .inl (cI, 24, .inl no)), (a8, .inl (cI, 24, .inl wf))] := hD
  refine lv_aload_n hx hb d_K_recover_10 rfl (lv_at hl 0 rfl) ?_
  refine lv_iconst (v := (-1)) hx hb d_K_recover_11 (by decide) ?_
  refine va_put (D := (dC, dI)) (ci := 4) (v := .int (-1)) (ty := .int) (C := R_K) (T := T_K) (N := 17) hx hb hts in_K t_K t_K_ok n_K hown hK hP hD hS 0 rfl rfl 4 (by decide) (hts _ ew_423) (fun _ h9 => h9) rfl (by decide +kernel) rfl rfl (Nat.le_of_ble_eq_true rfl) d_K_recover_12 (fun H locs hP hD hS => ?_)
  have hP : va_P (dC, dI) vwCl [(k0, .inr (4, [.int 0, .int (nI nB), .int 0, .int wr, .int (-1), .int (nI E), .ref a1, .ref a2, .ref a3, .ref a4, .ref a5, .int ch, .ref a6, .ref a7, .ref a8, .int (nI t), .ref a9])), (a5, .inl (cI, 24, .inl no)), (a8, .inl (cI, 24, .inl wf))] H := hP
  have hD : va_D A [(k0, .inr (4, [.int 0, .int (nI nB), .int 0, .int wr, .int (-1), .int (nI E), .ref a1, .ref a2, .ref a3, .ref a4, .ref a5, .int ch, .ref a6, .ref a7, .ref a8, .int (nI t), .ref a9])), (a5, .inl (cI, 24, .inl no)), (a8, .inl (cI, 24, .inl wf))] := hD
  refine lv_aload_n hx hb d_K_recover_15 rfl (lv_at hl 0 rfl) ?_
  refine lv_iconst (v := nI 0) hx hb d_K_recover_16 (by decide) ?_
  refine va_put (D := (dC, dI)) (ci := 4) (v := .int (nI 0)) (ty := .int) (C := R_K) (T := T_K) (N := 17) hx hb hts in_K t_K t_K_ok n_K hown hK hP hD hS 0 rfl rfl 15 (by decide) (hts _ ew_434) (fun _ h9 => h9) rfl (by decide +kernel) rfl rfl (Nat.le_of_ble_eq_true rfl) d_K_recover_17 (fun H locs hP hD hS => ?_)
  have hP : va_P (dC, dI) vwCl [(k0, .inr (4, [.int 0, .int (nI nB), .int 0, .int wr, .int (-1), .int (nI E), .ref a1, .ref a2, .ref a3, .ref a4, .ref a5, .int ch, .ref a6, .ref a7, .ref a8, .int (nI 0), .ref a9])), (a5, .inl (cI, 24, .inl no)), (a8, .inl (cI, 24, .inl wf))] H := hP
  have hD : va_D A [(k0, .inr (4, [.int 0, .int (nI nB), .int 0, .int wr, .int (-1), .int (nI E), .ref a1, .ref a2, .ref a3, .ref a4, .ref a5, .int ch, .ref a6, .ref a7, .ref a8, .int (nI 0), .ref a9])), (a5, .inl (cI, 24, .inl no)), (a8, .inl (cI, 24, .inl wf))] := hD
  refine lv_iconst (v := nI 0) hx hb d_K_recover_20 (by decide) ?_
  refine lv_istore_n (lv' := [(1, .int (nI 0)), (0, .ref k0)]) hx hb d_K_recover_21 rfl hl (by decide) rfl (fun ls hl => ?_)
  exact c_k_recover_L (k0 := k0) (a1 := a1) (a2 := a2) (a3 := a3) (a4 := a4) (a5 := a5) (a6 := a6) (a7 := a7) (a8 := a8) (a9 := a9) (co := co) (nB := nB) (dn := dn) (wr := wr) (lf := lf) (E := E) (ch := ch) (t := t) (no := no) (wf := wf) hK hG C0 25 0 wf rfl (by omega) rfl _ _ hP hD hS ls (lv_sub hl [1, 0] rfl)
set_option maxHeartbeats 4000000 in
set_option maxRecDepth 100000 in
theorem c_k_count_L {p : Program} {l : Launch} {e : Env} {s : State} {m : MethodId} {args : Array Value} {below : List Frame} {meth : Method} {c : Code} {dC : Nat → ClassId} {dI : Nat → Nat → Nat} {cI cB cJ cZ : ClassId} {A : Nat → Prop} {k0 a1 a2 a3 a4 a5 a6 a7 a8 a9 : Nat} {co : Int32} {nB : Nat} {dn wr lf : Int32} {E : Nat} {ch : Int32} {t : Nat} {fi ma us : ep_F} {sz : ep_F} {x : Int32} (hB : nB ≤ 128) (hE : E ≤ 199) (hok : ek_ok nB fi ma sz E) (hk0 : ek_kcount dn x = 0) (hc40 : x = 1) (hK : va_K (dC, dI) vwCl (ey_kt cI cB cJ cZ) s) (hG : ex_G s) (C0 : ey_Cx p s m args meth c b_K_count 4 R_K ew_T (some .int) A)  :
    ∀ (fuel : Nat) (i : Nat) (a : Int32) (hi : i + fuel = nB + 1) (hin : i ≤ nB) (hu : ek_cf (ek_mark fi ma E us) nB fuel i a = ek_cf (ek_mark fi ma E us) nB (nB + 1) 0 0), ∀ (H : Heap) (locs : List Loc), va_P (dC, dI) vwCl [(k0, .inr (4, [.int 0, .int (nI nB), .int dn, .int wr, .int lf, .int (nI E), .ref a1, .ref a2, .ref a3, .ref a4, .ref a5, .int ch, .ref a6, .ref a7, .ref a8, .int (nI t), .ref a9])), (a2, .inl (cI, 200, .inl fi)), (a3, .inl (cI, 200, .inl ma)), (a7, .inl (cZ, 128, .inl (ek_mark fi ma E us)))] H → va_D A [(k0, .inr (4, [.int 0, .int (nI nB), .int dn, .int wr, .int lf, .int (nI E), .ref a1, .ref a2, .ref a3, .ref a4, .ref a5, .int ch, .ref a6, .ref a7, .ref a8, .int (nI t), .ref a9])), (a2, .inl (cI, 200, .inl fi)), (a3, .inl (cI, 200, .inl ma)), (a7, .inl (cZ, 128, .inl (ek_mark fi ma E us)))] → va_S A s.heap H locs → ∀ (ls : Array Slot), lv_has ls 4 [(0, .ref k0), (1, .int x), (2, .int a), (3, .int (nI i))] → W p l e { frames := 1, cells := 0, slots := 0, locals := 22 } s m args below meth c H locs 0 0 (MQ below (va_Qi (fun (r : Int32) (u : Int32 × ep_F) => (r, u) = ek_count dn x E nB t ch fi ma us) (fun u t8 => ey_Post (dC, dI) vwCl A ((fun (u : Int32 × ep_F) => [(k0, .inr (4, [.int u.1, .int (nI nB), .int dn, .int wr, .int lf, .int (nI E), .ref a1, .ref a2, .ref a3, .ref a4, .ref a5, .int ch, .ref a6, .ref a7, .ref a8, .int (nI t), .ref a9])), (a2, .inl (cI, 200, .inl fi)), (a3, .inl (cI, 200, .inl ma)), (a7, .inl (cZ, 128, .inl u.2))]) u) t8) A) args s 0 0 A) (F0 m 51 ls []) := by
  obtain ⟨hx, hb, hml, hown, hts, hr, hlocks, hA⟩ := id C0
  intro fuel
  induction fuel with
  | zero =>
    intro i a hi hin hu H locs hP hD hS ls hl
    exact absurd hi (by omega)
  | succ fuel ih =>
    intro i a hi hin hu H locs hP hD hS ls hl
    refine lv_iload_n hx hb d_K_count_51 rfl (lv_at hl 3 rfl) ?_
    refine lv_aload_n hx hb d_K_count_52 rfl (lv_at hl 0 rfl) ?_
    refine va_get (D := (dC, dI)) (ci := 4) (v := .int (nI nB)) (C := R_K) (T := T_K) (N := 17) hx hb hts in_K hown hK hP 0 rfl rfl 1 (by decide) (hts _ ew_420) (fun _ h9 => h9) rfl d_K_count_53 ?_
    refine lv_icmp_ge (tgt := 82) hx hb d_K_count_56 (by decide) (fun c_56 => ?_) (fun c_56 => ?_)
    · refine lv_iload_n hx hb d_K_count_82 rfl (lv_at hl 2 rfl) ?_
      exact ey_iret (W1 := fun (u : Int32 × ep_F) => [(k0, .inr (4, [.int u.1, .int (nI nB), .int dn, .int wr, .int lf, .int (nI E), .ref a1, .ref a2, .ref a3, .ref a4, .ref a5, .int ch, .ref a6, .ref a7, .ref a8, .int (nI t), .ref a9])), (a2, .inl (cI, 200, .inl fi)), (a3, .inl (cI, 200, .inl ma)), (a7, .inl (cZ, 128, .inl u.2))]) hx hb hr hlocks hP hD hS (0, ek_mark fi ma E us) [0, 1, 2, 3] rfl (by decide) (by rw [ek_count, if_pos hk0, if_neg (fun h9 => h9 hc40), ← hu, ek_cf, if_pos c_56]) d_K_count_83 (Nat.le_of_ble_eq_true rfl) (Nat.le_of_ble_eq_true rfl)
    · refine lv_iload_n hx hb d_K_count_59 rfl (lv_at hl 2 rfl) ?_
      refine lv_aload_n hx hb d_K_count_60 rfl (lv_at hl 0 rfl) ?_
      refine va_get (D := (dC, dI)) (ci := 4) (v := .ref a7) (C := R_K) (T := T_K) (N := 17) hx hb hts in_K hown hK hP 0 rfl rfl 13 (by decide) (hts _ ew_432) (fun _ h9 => h9) rfl d_K_count_61 ?_
      refine lv_iload_n hx hb d_K_count_64 rfl (lv_at hl 3 rfl) ?_
      refine va_zald hx hb hK hP 3 3 rfl rfl (vp_in_nI (by have h9 := ek_ltE (show i ≤ nB by omega) (show nB < 2 ^ 30 by omega) c_56; omega) (by decide)) d_K_count_65 ?_
      refine lv_if_eq (tgt := 73) hx hb d_K_count_66 (by decide) (fun c_66 => ?_) (fun c_66 => ?_)
      · refine lv_iconst (v := 1) hx hb d_K_count_73 (by decide) ?_
        refine lv_iadd hx hb d_K_count_74 ?_
        refine lv_istore_n (lv' := [(2, .int (a + 1)), (0, .ref k0), (1, .int x), (3, .int (nI i))]) hx hb d_K_count_75 rfl hl (by decide) rfl (fun ls hl => ?_)
        refine lv_iinc (v := nI (i + 1)) (lv' := [(3, .int (nI (i + 1))), (2, .int (a + 1)), (0, .ref k0), (1, .int x)]) hx hb d_K_count_76 hl (k := 3) rfl (nI_1 i) (by decide) rfl (fun ls hl => ?_)
        refine lv_goto (tgt := 51) hx hb d_K_count_79 (by decide) ?_
        exact ih (i + 1) (a + 1) (by omega) (ek_ltE (by omega) (by omega) c_56) (by rw [← hu, ek_cf, if_neg c_56, if_pos c_66]) _ _ hP hD hS ls (lv_sub hl [2, 3, 1, 0] rfl)
      · refine lv_iconst (v := 0) hx hb d_K_count_69 (by decide) ?_
        refine lv_goto (tgt := 74) hx hb d_K_count_70 (by decide) ?_
        refine lv_iadd hx hb d_K_count_74 ?_
        refine lv_istore_n (lv' := [(2, .int (a + 0)), (0, .ref k0), (1, .int x), (3, .int (nI i))]) hx hb d_K_count_75 rfl hl (by decide) rfl (fun ls hl => ?_)
        refine lv_iinc (v := nI (i + 1)) (lv' := [(3, .int (nI (i + 1))), (2, .int (a + 0)), (0, .ref k0), (1, .int x)]) hx hb d_K_count_76 hl (k := 3) rfl (nI_1 i) (by decide) rfl (fun ls hl => ?_)
        refine lv_goto (tgt := 51) hx hb d_K_count_79 (by decide) ?_
        exact ih (i + 1) (a + 0) (by omega) (ek_ltE (by omega) (by omega) c_56) (by rw [← hu, ek_cf, if_neg c_56, if_neg c_66]) _ _ hP hD hS ls (lv_sub hl [2, 3, 1, 0] rfl)
set_option maxHeartbeats 4000000 in
set_option maxRecDepth 100000 in
theorem c_k_count (l : Launch) (dC : Nat → ClassId) (dI : Nat → Nat → Nat) (cI cB cJ cZ : ClassId) (k0 a1 a2 a3 a4 a5 a6 a7 a8 a9 : Nat) (co : Int32) (nB : Nat) (dn wr lf : Int32) (E : Nat) (ch : Int32) (t : Nat) (fi ma us : ep_F) (sz : ep_F) (x : Int32) (hB : nB ≤ 128) (hE : E ≤ 199) (hok : ek_ok nB fi ma sz E) : ey_Mi l y_K_count w_K_count { frames := 1, cells := 0, slots := 0, locals := 22 } (dC, dI) vwCl (ey_kt cI cB cJ cZ) [.ref k0, .int x] [(k0, .inr (4, [.int co, .int (nI nB), .int dn, .int wr, .int lf, .int (nI E), .ref a1, .ref a2, .ref a3, .ref a4, .ref a5, .int ch, .ref a6, .ref a7, .ref a8, .int (nI t), .ref a9])), (a2, .inl (cI, 200, .inl fi)), (a3, .inl (cI, 200, .inl ma)), (a7, .inl (cZ, 128, .inl us))] (fun (r : Int32) (u : Int32 × ep_F) => (r, u) = ek_count dn x E nB t ch fi ma us) (fun (u : Int32 × ep_F) => [(k0, .inr (4, [.int u.1, .int (nI nB), .int dn, .int wr, .int lf, .int (nI E), .ref a1, .ref a2, .ref a3, .ref a4, .ref a5, .int ch, .ref a6, .ref a7, .ref a8, .int (nI t), .ref a9])), (a2, .inl (cI, 200, .inl fi)), (a3, .inl (cI, 200, .inl ma)), (a7, .inl (cZ, 128, .inl u.2))]) 0 0 := by
  intro sz
  refine Met.ofW (cc := b_K_count) (maxL := 4) (ret := (some .int)) (by decide) rfl ?_
  intro p e s m args below meth c s₁ B hml hv
  obtain ⟨rfl, hsz, hP, hK, hG, hD0⟩ := hv
  have hx := B.exec
  have hb := B.bytes
  have hr := B.returns
  have hts := fun (w : Cond) (h : w ∈ ew_T) => atoms_spec (ws := w_K_count) B.pre w (List.mem_cons_of_mem _ h)
  have hown : s.vm.findClass R_K = some m.cls := findClass_of_methodNamed B.named
  have hlocks := B.notSynchronized
  subst hsz
  have hD := hD0.self (sz := s.heap.size)
  generalize hAe : va_A [(k0, .inr (4, [.int co, .int (nI nB), .int dn, .int wr, .int lf, .int (nI E), .ref a1, .ref a2, .ref a3, .ref a4, .ref a5, .int ch, .ref a6, .ref a7, .ref a8, .int (nI t), .ref a9])), (a2, .inl (cI, 200, .inl fi)), (a3, .inl (cI, 200, .inl ma)), (a7, .inl (cZ, 128, .inl us))] s.heap.size = A at hD ⊢
  have hA : ∀ q : Nat, s.heap.size ≤ q → A q := fun q h => by rw [← hAe]; exact Or.inr h
  have hS : va_S A s.heap s.heap [] := va_S.rf
  have hP : va_P (dC, dI) vwCl [(k0, .inr (4, [.int co, .int (nI nB), .int dn, .int wr, .int lf, .int (nI E), .ref a1, .ref a2, .ref a3, .ref a4, .ref a5, .int ch, .ref a6, .ref a7, .ref a8, .int (nI t), .ref a9])), (a2, .inl (cI, 200, .inl fi)), (a3, .inl (cI, 200, .inl ma)), (a7, .inl (cZ, 128, .inl us))] s.heap := hP
  have hl := lv_entry ([.ref k0, .int x]) (n := 4) (Nat.le_of_ble_eq_true rfl)
  rw [lg_entry_eq]
  generalize (lg_sl ([.ref k0, .int x]) ++ List.replicate (4 - (lg_sl ([.ref k0, .int x])).length) Slot.unset).toArray = ls at hl ⊢
  have hl : lv_has ls 4 [(0, .ref k0), (1, .int x)] := hl
  have C0 : ey_Cx p s m [.ref k0, .int x].toArray meth c b_K_count 4 R_K ew_T (some .int) A := ⟨hx, hb, hml, hown, hts, hr, hlocks, hA⟩
  refine lv_aload_n hx hb d_K_count_0 rfl (lv_at hl 0 rfl) ?_
  refine lv_iload_n hx hb d_K_count_1 rfl (lv_at hl 1 rfl) ?_
  refine lv_if_lt (tgt := 10) hx hb d_K_count_2 (by decide) (fun c_2 => ?_) (fun c_2 => ?_)
  · refine lv_iconst (v := 1) hx hb d_K_count_10 (by decide) ?_
    refine lv_goto (tgt := 26) hx hb d_K_count_11 (by decide) ?_
    refine va_put (D := (dC, dI)) (ci := 4) (v := .int 1) (ty := .int) (C := R_K) (T := T_K) (N := 17) hx hb hts in_K t_K t_K_ok n_K hown hK hP hD hS 0 rfl rfl 0 (by decide) (hts _ ew_419) (fun _ h9 => h9) rfl (by decide +kernel) rfl rfl (Nat.le_of_ble_eq_true rfl) d_K_count_26 (fun H locs hP hD hS => ?_)
    have hP : va_P (dC, dI) vwCl [(k0, .inr (4, [.int 1, .int (nI nB), .int dn, .int wr, .int lf, .int (nI E), .ref a1, .ref a2, .ref a3, .ref a4, .ref a5, .int ch, .ref a6, .ref a7, .ref a8, .int (nI t), .ref a9])), (a2, .inl (cI, 200, .inl fi)), (a3, .inl (cI, 200, .inl ma)), (a7, .inl (cZ, 128, .inl us))] H := hP
    have hD : va_D A [(k0, .inr (4, [.int 1, .int (nI nB), .int dn, .int wr, .int lf, .int (nI E), .ref a1, .ref a2, .ref a3, .ref a4, .ref a5, .int ch, .ref a6, .ref a7, .ref a8, .int (nI t), .ref a9])), (a2, .inl (cI, 200, .inl fi)), (a3, .inl (cI, 200, .inl ma)), (a7, .inl (cZ, 128, .inl us))] := hD
    refine lv_aload_n hx hb d_K_count_29 rfl (lv_at hl 0 rfl) ?_
    refine va_get (D := (dC, dI)) (ci := 4) (v := .int 1) (C := R_K) (T := T_K) (N := 17) hx hb hts in_K hown hK hP 0 rfl rfl 0 (by decide) (hts _ ew_419) (fun _ h9 => h9) rfl d_K_count_30 ?_
    refine lv_if_le (tgt := 38) hx hb d_K_count_33 (by decide) (fun c_33 => ?_) (fun c_33 => ?_)
    · exact absurd c_33 (by decide)
    · refine lv_iconst (v := 0) hx hb d_K_count_36 (by decide) ?_
      exact ey_iret (W1 := fun (u : Int32 × ep_F) => [(k0, .inr (4, [.int u.1, .int (nI nB), .int dn, .int wr, .int lf, .int (nI E), .ref a1, .ref a2, .ref a3, .ref a4, .ref a5, .int ch, .ref a6, .ref a7, .ref a8, .int (nI t), .ref a9])), (a2, .inl (cI, 200, .inl fi)), (a3, .inl (cI, 200, .inl ma)), (a7, .inl (cZ, 128, .inl u.2))]) hx hb hr hlocks hP hD hS (1, us) [0, 1, 2, 3] rfl (by decide) (by rw [ek_count, show ek_kcount dn x = 1 from by rw [ek_kcount, if_pos c_2], if_neg (by decide)]) d_K_count_37 (Nat.le_of_ble_eq_true rfl) (Nat.le_of_ble_eq_true rfl)
  · refine lv_iload_n hx hb d_K_count_5 rfl (lv_at hl 1 rfl) ?_
    refine lv_iconst (v := 3) hx hb d_K_count_6 (by decide) ?_
    refine lv_icmp_le (tgt := 14) hx hb d_K_count_7 (by decide) (fun c_7 => ?_) (fun c_7 => ?_)
    · refine lv_aload_n hx hb d_K_count_14 rfl (lv_at hl 0 rfl) ?_
      refine va_get (D := (dC, dI)) (ci := 4) (v := .int dn) (C := R_K) (T := T_K) (N := 17) hx hb hts in_K hown hK hP 0 rfl rfl 2 (by decide) (hts _ ew_421) (fun _ h9 => h9) rfl d_K_count_15 ?_
      refine lv_if_eq (tgt := 25) hx hb d_K_count_18 (by decide) (fun c_18 => ?_) (fun c_18 => ?_)
      · refine lv_iconst (v := 0) hx hb d_K_count_25 (by decide) ?_
        refine va_put (D := (dC, dI)) (ci := 4) (v := .int 0) (ty := .int) (C := R_K) (T := T_K) (N := 17) hx hb hts in_K t_K t_K_ok n_K hown hK hP hD hS 0 rfl rfl 0 (by decide) (hts _ ew_419) (fun _ h9 => h9) rfl (by decide +kernel) rfl rfl (Nat.le_of_ble_eq_true rfl) d_K_count_26 (fun H locs hP hD hS => ?_)
        have hP : va_P (dC, dI) vwCl [(k0, .inr (4, [.int 0, .int (nI nB), .int dn, .int wr, .int lf, .int (nI E), .ref a1, .ref a2, .ref a3, .ref a4, .ref a5, .int ch, .ref a6, .ref a7, .ref a8, .int (nI t), .ref a9])), (a2, .inl (cI, 200, .inl fi)), (a3, .inl (cI, 200, .inl ma)), (a7, .inl (cZ, 128, .inl us))] H := hP
        have hD : va_D A [(k0, .inr (4, [.int 0, .int (nI nB), .int dn, .int wr, .int lf, .int (nI E), .ref a1, .ref a2, .ref a3, .ref a4, .ref a5, .int ch, .ref a6, .ref a7, .ref a8, .int (nI t), .ref a9])), (a2, .inl (cI, 200, .inl fi)), (a3, .inl (cI, 200, .inl ma)), (a7, .inl (cZ, 128, .inl us))] := hD
        refine lv_aload_n hx hb d_K_count_29 rfl (lv_at hl 0 rfl) ?_
        refine va_get (D := (dC, dI)) (ci := 4) (v := .int 0) (C := R_K) (T := T_K) (N := 17) hx hb hts in_K hown hK hP 0 rfl rfl 0 (by decide) (hts _ ew_419) (fun _ h9 => h9) rfl d_K_count_30 ?_
        refine lv_if_le (tgt := 38) hx hb d_K_count_33 (by decide) (fun c_33 => ?_) (fun c_33 => ?_)
        · refine lv_iload_n hx hb d_K_count_38 rfl (lv_at hl 1 rfl) ?_
          refine lv_iconst (v := 1) hx hb d_K_count_39 (by decide) ?_
          refine lv_icmp_ne (tgt := 84) hx hb d_K_count_40 (by decide) (fun c_40 => ?_) (fun c_40 => ?_)
          · refine lv_iload_n hx hb d_K_count_84 rfl (lv_at hl 1 rfl) ?_
            refine lv_if_ne (tgt := 95) hx hb d_K_count_85 (by decide) (fun c_85 => ?_) (fun c_85 => ?_)
            · refine lv_iload_n hx hb d_K_count_95 rfl (lv_at hl 1 rfl) ?_
              refine lv_iconst (v := 2) hx hb d_K_count_96 (by decide) ?_
              refine lv_icmp_ne (tgt := 107) hx hb d_K_count_97 (by decide) (fun c_97 => ?_) (fun c_97 => ?_)
              · refine lv_aload_n hx hb d_K_count_107 rfl (lv_at hl 0 rfl) ?_
                refine va_get (D := (dC, dI)) (ci := 4) (v := .int ch) (C := R_K) (T := T_K) (N := 17) hx hb hts in_K hown hK hP 0 rfl rfl 11 (by decide) (hts _ ew_430) (fun _ h9 => h9) rfl d_K_count_108 ?_
                exact ey_iret (W1 := fun (u : Int32 × ep_F) => [(k0, .inr (4, [.int u.1, .int (nI nB), .int dn, .int wr, .int lf, .int (nI E), .ref a1, .ref a2, .ref a3, .ref a4, .ref a5, .int ch, .ref a6, .ref a7, .ref a8, .int (nI t), .ref a9])), (a2, .inl (cI, 200, .inl fi)), (a3, .inl (cI, 200, .inl ma)), (a7, .inl (cZ, 128, .inl u.2))]) hx hb hr hlocks hP hD hS (0, us) [0, 1, 2, 3] rfl (by decide) (by rw [ek_count, show ek_kcount dn x = 0 from by rw [ek_kcount, if_neg c_2, if_pos c_7, if_pos c_18], if_pos rfl, if_pos c_40, if_pos c_85, if_pos c_97]) d_K_count_111 (Nat.le_of_ble_eq_true rfl) (Nat.le_of_ble_eq_true rfl)
              · refine lv_aload_n hx hb d_K_count_100 rfl (lv_at hl 0 rfl) ?_
                refine va_get (D := (dC, dI)) (ci := 4) (v := .int (nI t)) (C := R_K) (T := T_K) (N := 17) hx hb hts in_K hown hK hP 0 rfl rfl 15 (by decide) (hts _ ew_434) (fun _ h9 => h9) rfl d_K_count_101 ?_
                refine lv_goto (tgt := 111) hx hb d_K_count_104 (by decide) ?_
                exact ey_iret (W1 := fun (u : Int32 × ep_F) => [(k0, .inr (4, [.int u.1, .int (nI nB), .int dn, .int wr, .int lf, .int (nI E), .ref a1, .ref a2, .ref a3, .ref a4, .ref a5, .int ch, .ref a6, .ref a7, .ref a8, .int (nI t), .ref a9])), (a2, .inl (cI, 200, .inl fi)), (a3, .inl (cI, 200, .inl ma)), (a7, .inl (cZ, 128, .inl u.2))]) hx hb hr hlocks hP hD hS (0, us) [0, 1, 2, 3] rfl (by decide) (by rw [ek_count, show ek_kcount dn x = 0 from by rw [ek_kcount, if_neg c_2, if_pos c_7, if_pos c_18], if_pos rfl, if_pos c_40, if_pos c_85, if_neg (fun h9 => h9 c_97)]) d_K_count_111 (Nat.le_of_ble_eq_true rfl) (Nat.le_of_ble_eq_true rfl)
            · refine lv_aload_n hx hb d_K_count_88 rfl (lv_at hl 0 rfl) ?_
              refine va_get (D := (dC, dI)) (ci := 4) (v := .int (nI E)) (C := R_K) (T := T_K) (N := 17) hx hb hts in_K hown hK hP 0 rfl rfl 5 (by decide) (hts _ ew_424) (fun _ h9 => h9) rfl d_K_count_89 ?_
              refine lv_goto (tgt := 111) hx hb d_K_count_92 (by decide) ?_
              exact ey_iret (W1 := fun (u : Int32 × ep_F) => [(k0, .inr (4, [.int u.1, .int (nI nB), .int dn, .int wr, .int lf, .int (nI E), .ref a1, .ref a2, .ref a3, .ref a4, .ref a5, .int ch, .ref a6, .ref a7, .ref a8, .int (nI t), .ref a9])), (a2, .inl (cI, 200, .inl fi)), (a3, .inl (cI, 200, .inl ma)), (a7, .inl (cZ, 128, .inl u.2))]) hx hb hr hlocks hP hD hS (0, us) [0, 1, 2, 3] rfl (by decide) (by rw [ek_count, show ek_kcount dn x = 0 from by rw [ek_kcount, if_neg c_2, if_pos c_7, if_pos c_18], if_pos rfl, if_pos c_40, if_neg (fun h9 => h9 c_85)]) d_K_count_111 (Nat.le_of_ble_eq_true rfl) (Nat.le_of_ble_eq_true rfl)
          · refine lv_aload_n hx hb d_K_count_43 rfl (lv_at hl 0 rfl) ?_
            refine ey_Vv (Wc := [(k0, .inr (4, [.int 0, .int (nI nB), .int dn, .int wr, .int lf, .int (nI E), .ref a1, .ref a2, .ref a3, .ref a4, .ref a5, .int ch, .ref a6, .ref a7, .ref a8, .int (nI t), .ref a9])), (a2, .inl (cI, 200, .inl fi)), (a3, .inl (cI, 200, .inl ma)), (a7, .inl (cZ, 128, .inl us))]) (wr := []) (As := []) (rest := []) ⟨hx, hb, hml, hown, hts⟩ (c_k_mark l dC dI cI cB cJ cZ k0 a1 a2 a3 a4 a5 a6 a7 a8 a9 0 nB dn wr lf E ch t fi ma us sz hB hE hok) (cwV 0 hts (ew_V ew_509 ew_511 ew_8 ew_18 g_K_mark) rfl rfl rfl (by decide +kernel) ⟨Nat.le_of_ble_eq_true rfl, Nat.le_of_ble_eq_true rfl⟩) hK hG hP hD hS hA [0, 1, 2, 3] [] rfl rfl (by decide) (by decide) (by decide) (ci := 4) (q0 := 0) rfl rfl rfl hl.1 rfl (Nat.le_of_ble_eq_true rfl) d_K_count_44 ⟨Nat.le_of_ble_eq_true rfl, Nat.le_of_ble_eq_true rfl⟩ (fun u_2 H locs e_3 hP hD hS => ?_)
            have hP : va_P (dC, dI) vwCl [(k0, .inr (4, [.int 0, .int (nI nB), .int dn, .int wr, .int lf, .int (nI E), .ref a1, .ref a2, .ref a3, .ref a4, .ref a5, .int ch, .ref a6, .ref a7, .ref a8, .int (nI t), .ref a9])), (a2, .inl (cI, 200, .inl fi)), (a3, .inl (cI, 200, .inl ma)), (a7, .inl (cZ, 128, .inl u_2))] H := hP
            have hD : va_D A [(k0, .inr (4, [.int 0, .int (nI nB), .int dn, .int wr, .int lf, .int (nI E), .ref a1, .ref a2, .ref a3, .ref a4, .ref a5, .int ch, .ref a6, .ref a7, .ref a8, .int (nI t), .ref a9])), (a2, .inl (cI, 200, .inl fi)), (a3, .inl (cI, 200, .inl ma)), (a7, .inl (cZ, 128, .inl u_2))] := hD
            subst e_3
            refine lv_iconst (v := 0) hx hb d_K_count_47 (by decide) ?_
            refine lv_istore_n (lv' := [(2, .int 0), (0, .ref k0), (1, .int x)]) hx hb d_K_count_48 rfl hl (by decide) rfl (fun ls hl => ?_)
            refine lv_iconst (v := nI 0) hx hb d_K_count_49 (by decide) ?_
            refine lv_istore_n (lv' := [(3, .int (nI 0)), (2, .int 0), (0, .ref k0), (1, .int x)]) hx hb d_K_count_50 rfl hl (by decide) rfl (fun ls hl => ?_)
            have hk0 : ek_kcount dn x = 0 := by rw [ek_kcount, if_neg c_2, if_pos c_7, if_pos c_18]
            exact c_k_count_L (k0 := k0) (a1 := a1) (a2 := a2) (a3 := a3) (a4 := a4) (a5 := a5) (a6 := a6) (a7 := a7) (a8 := a8) (a9 := a9) (co := co) (nB := nB) (dn := dn) (wr := wr) (lf := lf) (E := E) (ch := ch) (t := t) (fi := fi) (ma := ma) (us := us) (sz := sz) (x := x) hB hE hok hk0 c_40 hK hG C0 (nB + 1) 0 0 (by omega) (by omega) rfl _ _ hP hD hS ls (lv_sub hl [2, 3, 1, 0] rfl)
        · exact absurd c_33 (by decide)
      · refine lv_iconst (v := 2) hx hb d_K_count_21 (by decide) ?_
        refine lv_goto (tgt := 26) hx hb d_K_count_22 (by decide) ?_
        refine va_put (D := (dC, dI)) (ci := 4) (v := .int 2) (ty := .int) (C := R_K) (T := T_K) (N := 17) hx hb hts in_K t_K t_K_ok n_K hown hK hP hD hS 0 rfl rfl 0 (by decide) (hts _ ew_419) (fun _ h9 => h9) rfl (by decide +kernel) rfl rfl (Nat.le_of_ble_eq_true rfl) d_K_count_26 (fun H locs hP hD hS => ?_)
        have hP : va_P (dC, dI) vwCl [(k0, .inr (4, [.int 2, .int (nI nB), .int dn, .int wr, .int lf, .int (nI E), .ref a1, .ref a2, .ref a3, .ref a4, .ref a5, .int ch, .ref a6, .ref a7, .ref a8, .int (nI t), .ref a9])), (a2, .inl (cI, 200, .inl fi)), (a3, .inl (cI, 200, .inl ma)), (a7, .inl (cZ, 128, .inl us))] H := hP
        have hD : va_D A [(k0, .inr (4, [.int 2, .int (nI nB), .int dn, .int wr, .int lf, .int (nI E), .ref a1, .ref a2, .ref a3, .ref a4, .ref a5, .int ch, .ref a6, .ref a7, .ref a8, .int (nI t), .ref a9])), (a2, .inl (cI, 200, .inl fi)), (a3, .inl (cI, 200, .inl ma)), (a7, .inl (cZ, 128, .inl us))] := hD
        refine lv_aload_n hx hb d_K_count_29 rfl (lv_at hl 0 rfl) ?_
        refine va_get (D := (dC, dI)) (ci := 4) (v := .int 2) (C := R_K) (T := T_K) (N := 17) hx hb hts in_K hown hK hP 0 rfl rfl 0 (by decide) (hts _ ew_419) (fun _ h9 => h9) rfl d_K_count_30 ?_
        refine lv_if_le (tgt := 38) hx hb d_K_count_33 (by decide) (fun c_33 => ?_) (fun c_33 => ?_)
        · exact absurd c_33 (by decide)
        · refine lv_iconst (v := 0) hx hb d_K_count_36 (by decide) ?_
          exact ey_iret (W1 := fun (u : Int32 × ep_F) => [(k0, .inr (4, [.int u.1, .int (nI nB), .int dn, .int wr, .int lf, .int (nI E), .ref a1, .ref a2, .ref a3, .ref a4, .ref a5, .int ch, .ref a6, .ref a7, .ref a8, .int (nI t), .ref a9])), (a2, .inl (cI, 200, .inl fi)), (a3, .inl (cI, 200, .inl ma)), (a7, .inl (cZ, 128, .inl u.2))]) hx hb hr hlocks hP hD hS (2, us) [0, 1, 2, 3] rfl (by decide) (by rw [ek_count, show ek_kcount dn x = 2 from by rw [ek_kcount, if_neg c_2, if_pos c_7, if_neg c_18], if_neg (by decide)]) d_K_count_37 (Nat.le_of_ble_eq_true rfl) (Nat.le_of_ble_eq_true rfl)
    · refine lv_iconst (v := 1) hx hb d_K_count_10 (by decide) ?_
      refine lv_goto (tgt := 26) hx hb d_K_count_11 (by decide) ?_
      refine va_put (D := (dC, dI)) (ci := 4) (v := .int 1) (ty := .int) (C := R_K) (T := T_K) (N := 17) hx hb hts in_K t_K t_K_ok n_K hown hK hP hD hS 0 rfl rfl 0 (by decide) (hts _ ew_419) (fun _ h9 => h9) rfl (by decide +kernel) rfl rfl (Nat.le_of_ble_eq_true rfl) d_K_count_26 (fun H locs hP hD hS => ?_)
      have hP : va_P (dC, dI) vwCl [(k0, .inr (4, [.int 1, .int (nI nB), .int dn, .int wr, .int lf, .int (nI E), .ref a1, .ref a2, .ref a3, .ref a4, .ref a5, .int ch, .ref a6, .ref a7, .ref a8, .int (nI t), .ref a9])), (a2, .inl (cI, 200, .inl fi)), (a3, .inl (cI, 200, .inl ma)), (a7, .inl (cZ, 128, .inl us))] H := hP
      have hD : va_D A [(k0, .inr (4, [.int 1, .int (nI nB), .int dn, .int wr, .int lf, .int (nI E), .ref a1, .ref a2, .ref a3, .ref a4, .ref a5, .int ch, .ref a6, .ref a7, .ref a8, .int (nI t), .ref a9])), (a2, .inl (cI, 200, .inl fi)), (a3, .inl (cI, 200, .inl ma)), (a7, .inl (cZ, 128, .inl us))] := hD
      refine lv_aload_n hx hb d_K_count_29 rfl (lv_at hl 0 rfl) ?_
      refine va_get (D := (dC, dI)) (ci := 4) (v := .int 1) (C := R_K) (T := T_K) (N := 17) hx hb hts in_K hown hK hP 0 rfl rfl 0 (by decide) (hts _ ew_419) (fun _ h9 => h9) rfl d_K_count_30 ?_
      refine lv_if_le (tgt := 38) hx hb d_K_count_33 (by decide) (fun c_33 => ?_) (fun c_33 => ?_)
      · exact absurd c_33 (by decide)
      · refine lv_iconst (v := 0) hx hb d_K_count_36 (by decide) ?_
        exact ey_iret (W1 := fun (u : Int32 × ep_F) => [(k0, .inr (4, [.int u.1, .int (nI nB), .int dn, .int wr, .int lf, .int (nI E), .ref a1, .ref a2, .ref a3, .ref a4, .ref a5, .int ch, .ref a6, .ref a7, .ref a8, .int (nI t), .ref a9])), (a2, .inl (cI, 200, .inl fi)), (a3, .inl (cI, 200, .inl ma)), (a7, .inl (cZ, 128, .inl u.2))]) hx hb hr hlocks hP hD hS (1, us) [0, 1, 2, 3] rfl (by decide) (by rw [ek_count, show ek_kcount dn x = 1 from by rw [ek_kcount, if_neg c_2, if_neg c_7], if_neg (by decide)]) d_K_count_37 (Nat.le_of_ble_eq_true rfl) (Nat.le_of_ble_eq_true rfl)
set_option maxHeartbeats 4000000 in
set_option maxRecDepth 100000 in
theorem c_k_dbl_B {p : Program} {l : Launch} {e : Env} {s : State} {m : MethodId} {args : Array Value} {below : List Frame} {meth : Method} {c : Code} {dC : Nat → ClassId} {dI : Nat → Nat → Nat} {cI cB cJ cZ : ClassId} {A : Nat → Prop} {k0 a1 a2 a3 a4 a5 a6 a7 a8 a9 : Nat} {co : Int32} {nB : Nat} {dn wr lf : Int32} {E : Nat} {ch : Int32} {t : Nat} {fi ma us : ep_F} {sz : ep_F} (hB : nB ≤ 128) (hE : E ≤ 199) (hok : ek_ok nB fi ma sz E) (hB2 : 2 ≤ nB) (hk0 : ek_kdown dn = 0) (s9 : Int32) (ea : s9 = ek_sm ma E (E + 1) 0 0) (hK : va_K (dC, dI) vwCl (ey_kt cI cB cJ cZ) s) (hG : ex_G s) (C0 : ey_Cx p s m args meth c b_K_doubled 4 R_K ew_T (some .int) A)  :
    ∀ (fuel : Nat) (i : Nat) (d : Int32) (hi : i + fuel = nB + 2) (hin : i ≤ nB) (hu : ek_df (ek_mark fi ma E us) nB fuel i d = ek_df (ek_mark fi ma E us) nB nB 2 2), ∀ (H : Heap) (locs : List Loc), va_P (dC, dI) vwCl [(k0, .inr (4, [.int 0, .int (nI nB), .int dn, .int wr, .int lf, .int (nI E), .ref a1, .ref a2, .ref a3, .ref a4, .ref a5, .int ch, .ref a6, .ref a7, .ref a8, .int (nI t), .ref a9])), (a2, .inl (cI, 200, .inl fi)), (a3, .inl (cI, 200, .inl ma)), (a7, .inl (cZ, 128, .inl (ek_mark fi ma E us)))] H → va_D A [(k0, .inr (4, [.int 0, .int (nI nB), .int dn, .int wr, .int lf, .int (nI E), .ref a1, .ref a2, .ref a3, .ref a4, .ref a5, .int ch, .ref a6, .ref a7, .ref a8, .int (nI t), .ref a9])), (a2, .inl (cI, 200, .inl fi)), (a3, .inl (cI, 200, .inl ma)), (a7, .inl (cZ, 128, .inl (ek_mark fi ma E us)))] → va_S A s.heap H locs → ∀ (ls : Array Slot), lv_has ls 4 [(0, .ref k0), (1, .int s9), (2, .int d), (3, .int (nI i))] → W p l e { frames := 1, cells := 0, slots := 0, locals := 22 } s m args below meth c H locs 0 0 (MQ below (va_Qi (fun (r : Int32) (u : Int32 × ep_F) => (r, u) = ek_doubled dn E nB fi ma us) (fun u t8 => ey_Post (dC, dI) vwCl A ((fun (u : Int32 × ep_F) => [(k0, .inr (4, [.int u.1, .int (nI nB), .int dn, .int wr, .int lf, .int (nI E), .ref a1, .ref a2, .ref a3, .ref a4, .ref a5, .int ch, .ref a6, .ref a7, .ref a8, .int (nI t), .ref a9])), (a2, .inl (cI, 200, .inl fi)), (a3, .inl (cI, 200, .inl ma)), (a7, .inl (cZ, 128, .inl u.2))]) u) t8) A) args s 0 0 A) (F0 m 60 ls []) := by
  obtain ⟨hx, hb, hml, hown, hts, hr, hlocks, hA⟩ := id C0
  intro fuel
  induction fuel with
  | zero =>
    intro i d hi hin hu H locs hP hD hS ls hl
    exact absurd hi (by omega)
  | succ fuel ih =>
    intro i d hi hin hu H locs hP hD hS ls hl
    refine lv_iload_n hx hb d_K_doubled_60 rfl (lv_at hl 3 rfl) ?_
    refine lv_aload_n hx hb d_K_doubled_61 rfl (lv_at hl 0 rfl) ?_
    refine va_get (D := (dC, dI)) (ci := 4) (v := .int (nI nB)) (C := R_K) (T := T_K) (N := 17) hx hb hts in_K hown hK hP 0 rfl rfl 1 (by decide) (hts _ ew_420) (fun _ h9 => h9) rfl d_K_doubled_62 ?_
    refine lv_icmp_ge (tgt := 91) hx hb d_K_doubled_65 (by decide) (fun c_65 => ?_) (fun c_65 => ?_)
    · refine lv_iload_n hx hb d_K_doubled_91 rfl (lv_at hl 1 rfl) ?_
      refine lv_iload_n hx hb d_K_doubled_92 rfl (lv_at hl 2 rfl) ?_
      refine lv_isub hx hb d_K_doubled_93 ?_
      refine lv_iconst (v := 2) hx hb d_K_doubled_94 (by decide) ?_
      refine lv_iadd hx hb d_K_doubled_95 ?_
      exact ey_iret (W1 := fun (u : Int32 × ep_F) => [(k0, .inr (4, [.int u.1, .int (nI nB), .int dn, .int wr, .int lf, .int (nI E), .ref a1, .ref a2, .ref a3, .ref a4, .ref a5, .int ch, .ref a6, .ref a7, .ref a8, .int (nI t), .ref a9])), (a2, .inl (cI, 200, .inl fi)), (a3, .inl (cI, 200, .inl ma)), (a7, .inl (cZ, 128, .inl u.2))]) hx hb hr hlocks hP hD hS (0, ek_mark fi ma E us) [0, 1, 2, 3] rfl (by decide) (by rw [ek_doubled, if_pos hk0, ← ea, ← hu, ek_df, if_pos c_65]) d_K_doubled_96 (Nat.le_of_ble_eq_true rfl) (Nat.le_of_ble_eq_true rfl)
    · refine lv_iload_n hx hb d_K_doubled_68 rfl (lv_at hl 2 rfl) ?_
      refine lv_aload_n hx hb d_K_doubled_69 rfl (lv_at hl 0 rfl) ?_
      refine va_get (D := (dC, dI)) (ci := 4) (v := .ref a7) (C := R_K) (T := T_K) (N := 17) hx hb hts in_K hown hK hP 0 rfl rfl 13 (by decide) (hts _ ew_432) (fun _ h9 => h9) rfl d_K_doubled_70 ?_
      refine lv_iload_n hx hb d_K_doubled_73 rfl (lv_at hl 3 rfl) ?_
      refine va_zald hx hb hK hP 3 3 rfl rfl (vp_in_nI (by have h9 := ek_ltE (show i ≤ nB by omega) (show nB < 2 ^ 30 by omega) c_65; omega) (by decide)) d_K_doubled_74 ?_
      refine lv_if_eq (tgt := 82) hx hb d_K_doubled_75 (by decide) (fun c_75 => ?_) (fun c_75 => ?_)
      · refine lv_iconst (v := 0) hx hb d_K_doubled_82 (by decide) ?_
        refine lv_iadd hx hb d_K_doubled_83 ?_
        refine lv_istore_n (lv' := [(2, .int (d + 0)), (0, .ref k0), (1, .int s9), (3, .int (nI i))]) hx hb d_K_doubled_84 rfl hl (by decide) rfl (fun ls hl => ?_)
        refine lv_iinc (v := nI (i + 1)) (lv' := [(3, .int (nI (i + 1))), (2, .int (d + 0)), (0, .ref k0), (1, .int s9)]) hx hb d_K_doubled_85 hl (k := 3) rfl (nI_1 i) (by decide) rfl (fun ls hl => ?_)
        refine lv_goto (tgt := 60) hx hb d_K_doubled_88 (by decide) ?_
        exact ih (i + 1) (d + 0) (by omega) (ek_ltE (by omega) (by omega) c_65) (by rw [← hu, ek_df, if_neg c_65, if_pos c_75]) _ _ hP hD hS ls (lv_sub hl [2, 3, 1, 0] rfl)
      · refine lv_iconst (v := 1) hx hb d_K_doubled_78 (by decide) ?_
        refine lv_goto (tgt := 83) hx hb d_K_doubled_79 (by decide) ?_
        refine lv_iadd hx hb d_K_doubled_83 ?_
        refine lv_istore_n (lv' := [(2, .int (d + 1)), (0, .ref k0), (1, .int s9), (3, .int (nI i))]) hx hb d_K_doubled_84 rfl hl (by decide) rfl (fun ls hl => ?_)
        refine lv_iinc (v := nI (i + 1)) (lv' := [(3, .int (nI (i + 1))), (2, .int (d + 1)), (0, .ref k0), (1, .int s9)]) hx hb d_K_doubled_85 hl (k := 3) rfl (nI_1 i) (by decide) rfl (fun ls hl => ?_)
        refine lv_goto (tgt := 60) hx hb d_K_doubled_88 (by decide) ?_
        exact ih (i + 1) (d + 1) (by omega) (ek_ltE (by omega) (by omega) c_65) (by rw [← hu, ek_df, if_neg c_65, if_neg c_75]) _ _ hP hD hS ls (lv_sub hl [2, 3, 1, 0] rfl)
set_option maxHeartbeats 4000000 in
set_option maxRecDepth 100000 in
theorem c_k_dbl_A {p : Program} {l : Launch} {e : Env} {s : State} {m : MethodId} {args : Array Value} {below : List Frame} {meth : Method} {c : Code} {dC : Nat → ClassId} {dI : Nat → Nat → Nat} {cI cB cJ cZ : ClassId} {A : Nat → Prop} {k0 a1 a2 a3 a4 a5 a6 a7 a8 a9 : Nat} {co : Int32} {nB : Nat} {dn wr lf : Int32} {E : Nat} {ch : Int32} {t : Nat} {fi ma us : ep_F} {sz : ep_F} (hB : nB ≤ 128) (hE : E ≤ 199) (hok : ek_ok nB fi ma sz E) (hB2 : 2 ≤ nB) (hk0 : ek_kdown dn = 0) (hK : va_K (dC, dI) vwCl (ey_kt cI cB cJ cZ) s) (hG : ex_G s) (C0 : ey_Cx p s m args meth c b_K_doubled 4 R_K ew_T (some .int) A)  :
    ∀ (fuel : Nat) (i : Nat) (a : Int32) (hi : i + fuel = E + 1) (hin : i ≤ E) (hu : ek_sm ma E fuel i a = ek_sm ma E (E + 1) 0 0), ∀ (H : Heap) (locs : List Loc), va_P (dC, dI) vwCl [(k0, .inr (4, [.int 0, .int (nI nB), .int dn, .int wr, .int lf, .int (nI E), .ref a1, .ref a2, .ref a3, .ref a4, .ref a5, .int ch, .ref a6, .ref a7, .ref a8, .int (nI t), .ref a9])), (a2, .inl (cI, 200, .inl fi)), (a3, .inl (cI, 200, .inl ma)), (a7, .inl (cZ, 128, .inl (ek_mark fi ma E us)))] H → va_D A [(k0, .inr (4, [.int 0, .int (nI nB), .int dn, .int wr, .int lf, .int (nI E), .ref a1, .ref a2, .ref a3, .ref a4, .ref a5, .int ch, .ref a6, .ref a7, .ref a8, .int (nI t), .ref a9])), (a2, .inl (cI, 200, .inl fi)), (a3, .inl (cI, 200, .inl ma)), (a7, .inl (cZ, 128, .inl (ek_mark fi ma E us)))] → va_S A s.heap H locs → ∀ (ls : Array Slot), lv_has ls 4 [(0, .ref k0), (1, .int a), (2, .int 2), (3, .int (nI i))] → W p l e { frames := 1, cells := 0, slots := 0, locals := 22 } s m args below meth c H locs 0 0 (MQ below (va_Qi (fun (r : Int32) (u : Int32 × ep_F) => (r, u) = ek_doubled dn E nB fi ma us) (fun u t8 => ey_Post (dC, dI) vwCl A ((fun (u : Int32 × ep_F) => [(k0, .inr (4, [.int u.1, .int (nI nB), .int dn, .int wr, .int lf, .int (nI E), .ref a1, .ref a2, .ref a3, .ref a4, .ref a5, .int ch, .ref a6, .ref a7, .ref a8, .int (nI t), .ref a9])), (a2, .inl (cI, 200, .inl fi)), (a3, .inl (cI, 200, .inl ma)), (a7, .inl (cZ, 128, .inl u.2))]) u) t8) A) args s 0 0 A) (F0 m 35 ls []) := by
  obtain ⟨hx, hb, hml, hown, hts, hr, hlocks, hA⟩ := id C0
  intro fuel
  induction fuel with
  | zero =>
    intro i a hi hin hu H locs hP hD hS ls hl
    exact absurd hi (by omega)
  | succ fuel ih =>
    intro i a hi hin hu H locs hP hD hS ls hl
    refine lv_iload_n hx hb d_K_doubled_35 rfl (lv_at hl 3 rfl) ?_
    refine lv_aload_n hx hb d_K_doubled_36 rfl (lv_at hl 0 rfl) ?_
    refine va_get (D := (dC, dI)) (ci := 4) (v := .int (nI E)) (C := R_K) (T := T_K) (N := 17) hx hb hts in_K hown hK hP 0 rfl rfl 5 (by decide) (hts _ ew_424) (fun _ h9 => h9) rfl d_K_doubled_37 ?_
    refine lv_icmp_ge (tgt := 58) hx hb d_K_doubled_40 (by decide) (fun c_40 => ?_) (fun c_40 => ?_)
    · refine lv_iconst (v := nI 2) hx hb d_K_doubled_58 (by decide) ?_
      refine lv_istore_n (lv' := [(3, .int (nI 2)), (0, .ref k0), (1, .int a), (2, .int 2)]) hx hb d_K_doubled_59 rfl hl (by decide) rfl (fun ls hl => ?_)
      have ea : a = ek_sm ma E (E + 1) 0 0 := by rw [← hu, ek_sm, if_pos c_40]
      exact c_k_dbl_B (k0 := k0) (a1 := a1) (a2 := a2) (a3 := a3) (a4 := a4) (a5 := a5) (a6 := a6) (a7 := a7) (a8 := a8) (a9 := a9) (co := co) (nB := nB) (dn := dn) (wr := wr) (lf := lf) (E := E) (ch := ch) (t := t) (fi := fi) (ma := ma) (us := us) (sz := sz) hB hE hok hB2 hk0 a ea hK hG C0 nB 2 2 (by omega) (by omega) rfl _ _ hP hD hS ls (lv_sub hl [1, 2, 3, 0] rfl)
    · refine lv_iload_n hx hb d_K_doubled_43 rfl (lv_at hl 1 rfl) ?_
      refine lv_aload_n hx hb d_K_doubled_44 rfl (lv_at hl 0 rfl) ?_
      refine va_get (D := (dC, dI)) (ci := 4) (v := .ref a3) (C := R_K) (T := T_K) (N := 17) hx hb hts in_K hown hK hP 0 rfl rfl 8 (by decide) (hts _ ew_427) (fun _ h9 => h9) rfl d_K_doubled_45 ?_
      refine lv_iload_n hx hb d_K_doubled_48 rfl (lv_at hl 3 rfl) ?_
      refine va_iald hx hb hK hP 2 0 rfl rfl (vp_in_nI (by have h9 := ek_ltE (show i ≤ E by omega) (show E < 2 ^ 30 by omega) c_40; omega) (by decide)) d_K_doubled_49 ?_
      refine lv_iadd hx hb d_K_doubled_50 ?_
      refine lv_istore_n (lv' := [(1, .int (a + (ma (nI i).toNatClampNeg))), (0, .ref k0), (2, .int 2), (3, .int (nI i))]) hx hb d_K_doubled_51 rfl hl (by decide) rfl (fun ls hl => ?_)
      refine lv_iinc (v := nI (i + 1)) (lv' := [(3, .int (nI (i + 1))), (1, .int (a + (ma (nI i).toNatClampNeg))), (0, .ref k0), (2, .int 2)]) hx hb d_K_doubled_52 hl (k := 3) rfl (nI_1 i) (by decide) rfl (fun ls hl => ?_)
      refine lv_goto (tgt := 35) hx hb d_K_doubled_55 (by decide) ?_
      exact ih (i + 1) (a + ma (nI i).toNatClampNeg) (by omega) (ek_ltE (by omega) (by omega) c_40) (by rw [← hu, ek_sm, if_neg c_40]) _ _ hP hD hS ls (lv_sub hl [2, 1, 3, 0] rfl)
set_option maxHeartbeats 4000000 in
set_option maxRecDepth 100000 in
theorem c_k_doubled (l : Launch) (dC : Nat → ClassId) (dI : Nat → Nat → Nat) (cI cB cJ cZ : ClassId) (k0 a1 a2 a3 a4 a5 a6 a7 a8 a9 : Nat) (co : Int32) (nB : Nat) (dn wr lf : Int32) (E : Nat) (ch : Int32) (t : Nat) (fi ma us : ep_F) (sz : ep_F) (hB : nB ≤ 128) (hE : E ≤ 199) (hok : ek_ok nB fi ma sz E) (hB2 : 2 ≤ nB) : ey_Mi l y_K_doubled w_K_doubled { frames := 1, cells := 0, slots := 0, locals := 22 } (dC, dI) vwCl (ey_kt cI cB cJ cZ) [.ref k0] [(k0, .inr (4, [.int co, .int (nI nB), .int dn, .int wr, .int lf, .int (nI E), .ref a1, .ref a2, .ref a3, .ref a4, .ref a5, .int ch, .ref a6, .ref a7, .ref a8, .int (nI t), .ref a9])), (a2, .inl (cI, 200, .inl fi)), (a3, .inl (cI, 200, .inl ma)), (a7, .inl (cZ, 128, .inl us))] (fun (r : Int32) (u : Int32 × ep_F) => (r, u) = ek_doubled dn E nB fi ma us) (fun (u : Int32 × ep_F) => [(k0, .inr (4, [.int u.1, .int (nI nB), .int dn, .int wr, .int lf, .int (nI E), .ref a1, .ref a2, .ref a3, .ref a4, .ref a5, .int ch, .ref a6, .ref a7, .ref a8, .int (nI t), .ref a9])), (a2, .inl (cI, 200, .inl fi)), (a3, .inl (cI, 200, .inl ma)), (a7, .inl (cZ, 128, .inl u.2))]) 0 0 := by
  intro sz
  refine Met.ofW (cc := b_K_doubled) (maxL := 4) (ret := (some .int)) (by decide) rfl ?_
  intro p e s m args below meth c s₁ B hml hv
  obtain ⟨rfl, hsz, hP, hK, hG, hD0⟩ := hv
  have hx := B.exec
  have hb := B.bytes
  have hr := B.returns
  have hts := fun (w : Cond) (h : w ∈ ew_T) => atoms_spec (ws := w_K_doubled) B.pre w (List.mem_cons_of_mem _ h)
  have hown : s.vm.findClass R_K = some m.cls := findClass_of_methodNamed B.named
  have hlocks := B.notSynchronized
  subst hsz
  have hD := hD0.self (sz := s.heap.size)
  generalize hAe : va_A [(k0, .inr (4, [.int co, .int (nI nB), .int dn, .int wr, .int lf, .int (nI E), .ref a1, .ref a2, .ref a3, .ref a4, .ref a5, .int ch, .ref a6, .ref a7, .ref a8, .int (nI t), .ref a9])), (a2, .inl (cI, 200, .inl fi)), (a3, .inl (cI, 200, .inl ma)), (a7, .inl (cZ, 128, .inl us))] s.heap.size = A at hD ⊢
  have hA : ∀ q : Nat, s.heap.size ≤ q → A q := fun q h => by rw [← hAe]; exact Or.inr h
  have hS : va_S A s.heap s.heap [] := va_S.rf
  have hP : va_P (dC, dI) vwCl [(k0, .inr (4, [.int co, .int (nI nB), .int dn, .int wr, .int lf, .int (nI E), .ref a1, .ref a2, .ref a3, .ref a4, .ref a5, .int ch, .ref a6, .ref a7, .ref a8, .int (nI t), .ref a9])), (a2, .inl (cI, 200, .inl fi)), (a3, .inl (cI, 200, .inl ma)), (a7, .inl (cZ, 128, .inl us))] s.heap := hP
  have hl := lv_entry ([.ref k0]) (n := 4) (Nat.le_of_ble_eq_true rfl)
  rw [lg_entry_eq]
  generalize (lg_sl ([.ref k0]) ++ List.replicate (4 - (lg_sl ([.ref k0])).length) Slot.unset).toArray = ls at hl ⊢
  have hl : lv_has ls 4 [(0, .ref k0)] := hl
  have C0 : ey_Cx p s m [.ref k0].toArray meth c b_K_doubled 4 R_K ew_T (some .int) A := ⟨hx, hb, hml, hown, hts, hr, hlocks, hA⟩
  refine lv_aload_n hx hb d_K_doubled_0 rfl (lv_at hl 0 rfl) ?_
  refine lv_aload_n hx hb d_K_doubled_1 rfl (lv_at hl 0 rfl) ?_
  refine va_get (D := (dC, dI)) (ci := 4) (v := .int dn) (C := R_K) (T := T_K) (N := 17) hx hb hts in_K hown hK hP 0 rfl rfl 2 (by decide) (hts _ ew_421) (fun _ h9 => h9) rfl d_K_doubled_2 ?_
  refine lv_if_eq (tgt := 12) hx hb d_K_doubled_5 (by decide) (fun c_5 => ?_) (fun c_5 => ?_)
  · refine lv_iconst (v := 0) hx hb d_K_doubled_12 (by decide) ?_
    refine va_put (D := (dC, dI)) (ci := 4) (v := .int 0) (ty := .int) (C := R_K) (T := T_K) (N := 17) hx hb hts in_K t_K t_K_ok n_K hown hK hP hD hS 0 rfl rfl 0 (by decide) (hts _ ew_419) (fun _ h9 => h9) rfl (by decide +kernel) rfl rfl (Nat.le_of_ble_eq_true rfl) d_K_doubled_13 (fun H locs hP hD hS => ?_)
    have hP : va_P (dC, dI) vwCl [(k0, .inr (4, [.int 0, .int (nI nB), .int dn, .int wr, .int lf, .int (nI E), .ref a1, .ref a2, .ref a3, .ref a4, .ref a5, .int ch, .ref a6, .ref a7, .ref a8, .int (nI t), .ref a9])), (a2, .inl (cI, 200, .inl fi)), (a3, .inl (cI, 200, .inl ma)), (a7, .inl (cZ, 128, .inl us))] H := hP
    have hD : va_D A [(k0, .inr (4, [.int 0, .int (nI nB), .int dn, .int wr, .int lf, .int (nI E), .ref a1, .ref a2, .ref a3, .ref a4, .ref a5, .int ch, .ref a6, .ref a7, .ref a8, .int (nI t), .ref a9])), (a2, .inl (cI, 200, .inl fi)), (a3, .inl (cI, 200, .inl ma)), (a7, .inl (cZ, 128, .inl us))] := hD
    refine lv_aload_n hx hb d_K_doubled_16 rfl (lv_at hl 0 rfl) ?_
    refine va_get (D := (dC, dI)) (ci := 4) (v := .int 0) (C := R_K) (T := T_K) (N := 17) hx hb hts in_K hown hK hP 0 rfl rfl 0 (by decide) (hts _ ew_419) (fun _ h9 => h9) rfl d_K_doubled_17 ?_
    refine lv_if_le (tgt := 25) hx hb d_K_doubled_20 (by decide) (fun c_20 => ?_) (fun c_20 => ?_)
    · refine lv_iconst (v := 0) hx hb d_K_doubled_25 (by decide) ?_
      refine lv_istore_n (lv' := [(1, .int 0), (0, .ref k0)]) hx hb d_K_doubled_26 rfl hl (by decide) rfl (fun ls hl => ?_)
      refine lv_iconst (v := 2) hx hb d_K_doubled_27 (by decide) ?_
      refine lv_istore_n (lv' := [(2, .int 2), (1, .int 0), (0, .ref k0)]) hx hb d_K_doubled_28 rfl hl (by decide) rfl (fun ls hl => ?_)
      refine lv_aload_n hx hb d_K_doubled_29 rfl (lv_at hl 2 rfl) ?_
      refine ey_Vv (Wc := [(k0, .inr (4, [.int 0, .int (nI nB), .int dn, .int wr, .int lf, .int (nI E), .ref a1, .ref a2, .ref a3, .ref a4, .ref a5, .int ch, .ref a6, .ref a7, .ref a8, .int (nI t), .ref a9])), (a2, .inl (cI, 200, .inl fi)), (a3, .inl (cI, 200, .inl ma)), (a7, .inl (cZ, 128, .inl us))]) (wr := []) (As := []) (rest := []) ⟨hx, hb, hml, hown, hts⟩ (c_k_mark l dC dI cI cB cJ cZ k0 a1 a2 a3 a4 a5 a6 a7 a8 a9 0 nB dn wr lf E ch t fi ma us sz hB hE hok) (cwV 0 hts (ew_V ew_509 ew_511 ew_8 ew_18 g_K_mark) rfl rfl rfl (by decide +kernel) ⟨Nat.le_of_ble_eq_true rfl, Nat.le_of_ble_eq_true rfl⟩) hK hG hP hD hS hA [0, 1, 2, 3] [] rfl rfl (by decide) (by decide) (by decide) (ci := 4) (q0 := 0) rfl rfl rfl hl.1 rfl (Nat.le_of_ble_eq_true rfl) d_K_doubled_30 ⟨Nat.le_of_ble_eq_true rfl, Nat.le_of_ble_eq_true rfl⟩ (fun u_2 H locs e_3 hP hD hS => ?_)
      have hP : va_P (dC, dI) vwCl [(k0, .inr (4, [.int 0, .int (nI nB), .int dn, .int wr, .int lf, .int (nI E), .ref a1, .ref a2, .ref a3, .ref a4, .ref a5, .int ch, .ref a6, .ref a7, .ref a8, .int (nI t), .ref a9])), (a2, .inl (cI, 200, .inl fi)), (a3, .inl (cI, 200, .inl ma)), (a7, .inl (cZ, 128, .inl u_2))] H := hP
      have hD : va_D A [(k0, .inr (4, [.int 0, .int (nI nB), .int dn, .int wr, .int lf, .int (nI E), .ref a1, .ref a2, .ref a3, .ref a4, .ref a5, .int ch, .ref a6, .ref a7, .ref a8, .int (nI t), .ref a9])), (a2, .inl (cI, 200, .inl fi)), (a3, .inl (cI, 200, .inl ma)), (a7, .inl (cZ, 128, .inl u_2))] := hD
      subst e_3
      refine lv_iconst (v := nI 0) hx hb d_K_doubled_33 (by decide) ?_
      refine lv_istore_n (lv' := [(3, .int (nI 0)), (2, .int 2), (1, .int 0), (0, .ref k0)]) hx hb d_K_doubled_34 rfl hl (by decide) rfl (fun ls hl => ?_)
      exact c_k_dbl_A (k0 := k0) (a1 := a1) (a2 := a2) (a3 := a3) (a4 := a4) (a5 := a5) (a6 := a6) (a7 := a7) (a8 := a8) (a9 := a9) (co := co) (nB := nB) (dn := dn) (wr := wr) (lf := lf) (E := E) (ch := ch) (t := t) (fi := fi) (ma := ma) (us := us) (sz := sz) hB hE hok hB2 (by rw [ek_kdown, if_pos c_5]) hK hG C0 (E + 1) 0 0 (by omega) (by omega) rfl _ _ hP hD hS ls (lv_sub hl [3, 2, 1, 0] rfl)
    · exact absurd c_20 (by decide)
  · refine lv_iconst (v := 1) hx hb d_K_doubled_8 (by decide) ?_
    refine lv_goto (tgt := 13) hx hb d_K_doubled_9 (by decide) ?_
    refine va_put (D := (dC, dI)) (ci := 4) (v := .int 1) (ty := .int) (C := R_K) (T := T_K) (N := 17) hx hb hts in_K t_K t_K_ok n_K hown hK hP hD hS 0 rfl rfl 0 (by decide) (hts _ ew_419) (fun _ h9 => h9) rfl (by decide +kernel) rfl rfl (Nat.le_of_ble_eq_true rfl) d_K_doubled_13 (fun H locs hP hD hS => ?_)
    have hP : va_P (dC, dI) vwCl [(k0, .inr (4, [.int 1, .int (nI nB), .int dn, .int wr, .int lf, .int (nI E), .ref a1, .ref a2, .ref a3, .ref a4, .ref a5, .int ch, .ref a6, .ref a7, .ref a8, .int (nI t), .ref a9])), (a2, .inl (cI, 200, .inl fi)), (a3, .inl (cI, 200, .inl ma)), (a7, .inl (cZ, 128, .inl us))] H := hP
    have hD : va_D A [(k0, .inr (4, [.int 1, .int (nI nB), .int dn, .int wr, .int lf, .int (nI E), .ref a1, .ref a2, .ref a3, .ref a4, .ref a5, .int ch, .ref a6, .ref a7, .ref a8, .int (nI t), .ref a9])), (a2, .inl (cI, 200, .inl fi)), (a3, .inl (cI, 200, .inl ma)), (a7, .inl (cZ, 128, .inl us))] := hD
    refine lv_aload_n hx hb d_K_doubled_16 rfl (lv_at hl 0 rfl) ?_
    refine va_get (D := (dC, dI)) (ci := 4) (v := .int 1) (C := R_K) (T := T_K) (N := 17) hx hb hts in_K hown hK hP 0 rfl rfl 0 (by decide) (hts _ ew_419) (fun _ h9 => h9) rfl d_K_doubled_17 ?_
    refine lv_if_le (tgt := 25) hx hb d_K_doubled_20 (by decide) (fun c_20 => ?_) (fun c_20 => ?_)
    · exact absurd c_20 (by decide)
    · refine lv_iconst (v := 0) hx hb d_K_doubled_23 (by decide) ?_
      exact ey_iret (W1 := fun (u : Int32 × ep_F) => [(k0, .inr (4, [.int u.1, .int (nI nB), .int dn, .int wr, .int lf, .int (nI E), .ref a1, .ref a2, .ref a3, .ref a4, .ref a5, .int ch, .ref a6, .ref a7, .ref a8, .int (nI t), .ref a9])), (a2, .inl (cI, 200, .inl fi)), (a3, .inl (cI, 200, .inl ma)), (a7, .inl (cZ, 128, .inl u.2))]) hx hb hr hlocks hP hD hS (1, us) [0, 1, 2, 3] rfl (by decide) (by rw [ek_doubled, show ek_kdown dn = 1 from by rw [ek_kdown, if_neg c_5], if_neg (by decide)]) d_K_doubled_24 (Nat.le_of_ble_eq_true rfl) (Nat.le_of_ble_eq_true rfl)
