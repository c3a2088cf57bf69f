set_option maxHeartbeats 4000000 in
set_option maxRecDepth 100000 in
theorem c_ed_blocks (l : Launch) (dC : Nat → ClassId) (dI : Nat → Nat → Nat) (cI cB cJ cZ : ClassId) (x : Int32) : ey_Mi l y_D_blocksFor w_D_blocksFor { frames := 0, cells := 0, slots := 0, locals := 0 } (dC, dI) vwCl (ey_kt cI cB cJ cZ) [.int x] [] (fun (r : Int32) (u : Unit) => r = ep_blocks x) (fun (u : Unit) => []) 0 0 := by
  intro sz
  refine Met.ofW (cc := b_D_blocksFor) (maxL := 1) (ret := (some .int)) (by decide) rfl ?_
  intro p e s m args below meth c s₁ B hml hv
  obtain ⟨rfl, hsz, hP, hK, hG, hD0⟩ := hv
  have hx := B.exec
  have hb := B.bytes
  have hr := B.returns
  have hts := fun (w : Cond) (h : w ∈ ew_T) => atoms_spec (ws := w_D_blocksFor) B.pre w (List.mem_cons_of_mem _ h)
  have hown : s.vm.findClass R_D = some m.cls := findClass_of_methodNamed B.named
  have hlocks := B.notSynchronized
  subst hsz
  have hD := hD0.self (sz := s.heap.size)
  generalize hAe : va_A [] s.heap.size = A at hD ⊢
  have hA : ∀ q : Nat, s.heap.size ≤ q → A q := fun q h => by rw [← hAe]; exact Or.inr h
  have hS : va_S A s.heap s.heap [] := va_S.rf
  have hP : va_P (dC, dI) vwCl [] s.heap := hP
  have hl := lv_entry ([.int x]) (n := 1) (Nat.le_of_ble_eq_true rfl)
  rw [lg_entry_eq]
  generalize (lg_sl ([.int x]) ++ List.replicate (1 - (lg_sl ([.int x])).length) Slot.unset).toArray = ls at hl ⊢
  have hl : lv_has ls 1 [(0, .int x)] := hl
  refine lv_iload_n hx hb d_D_blocksFor_0 rfl (lv_at hl 0 rfl) ?_
  refine lv_sipush (v := 4096) hx hb d_D_blocksFor_1 (by decide) ?_
  refine lv_iadd hx hb d_D_blocksFor_4 ?_
  refine lv_iconst (v := 1) hx hb d_D_blocksFor_5 (by decide) ?_
  refine lv_isub hx hb d_D_blocksFor_6 ?_
  refine lv_sipush (v := 4096) hx hb d_D_blocksFor_7 (by decide) ?_
  refine lv_idiv hx hb d_D_blocksFor_10 (by decide) ?_
  exact ey_iret (W1 := fun (u : Unit) => []) hx hb hr hlocks hP hD hS () [] rfl (by decide) rfl d_D_blocksFor_11 (Nat.le_of_ble_eq_true rfl) (Nat.le_of_ble_eq_true rfl)
set_option maxHeartbeats 4000000 in
set_option maxRecDepth 100000 in
theorem c_mf_count_I {p : Program} {l : Launch} {e : Env} {s : State} {m : MethodId} {args : Array Value} {below : List Frame} {meth : Method} {c : Code} {dC : Nat → ClassId} {dI : Nat → Nat → Nat} {cI cB cJ cZ : ClassId} {A : Nat → Prop} {h0 h1 h2 h3 h4 : Nat} {ex ch : Int32} {fi si : ep_F} {h5 n : Nat} {t0 : ep_F} (hn : n < 2 ^ 30) (hK : va_K (dC, dI) vwCl (ey_kt cI cB cJ cZ) s) (hG : ex_G s) (C0 : ey_Cx p s m args meth c b_M_countTenants 5 R_M ew_T none A) (i : Nat) (en : Int32) (tf : ep_F) (kk : ∀ (H : Heap) (locs : List Loc) (ls : Array Slot), va_P (dC, dI) vwCl [(h0, .inr (0, [.ref h1, .ref h2, .ref h3, .ref h4, .int ex, .int ch])), (h2, .inl (cI, 200, .inl fi)), (h3, .inl (cI, 200, .inl si)), (h5, .inl (cI, n, .inl tf))] H → va_D A [(h0, .inr (0, [.ref h1, .ref h2, .ref h3, .ref h4, .int ex, .int ch])), (h2, .inl (cI, 200, .inl fi)), (h3, .inl (cI, 200, .inl si)), (h5, .inl (cI, n, .inl tf))] → va_S A s.heap H locs → lv_has ls 5 [(0, .ref h0), (1, .ref h5), (2, .int (nI i))] → W p l e { frames := 1, cells := 0, slots := 0, locals := 23 } s m args below meth c H locs 0 0 (MQ below (va_Qv (fun (u : ep_F) => u = ep_ten fi si ex n t0) (fun u t8 => ey_Post (dC, dI) vwCl A ((fun (u : ep_F) => [(h0, .inr (0, [.ref h1, .ref h2, .ref h3, .ref h4, .int ex, .int ch])), (h2, .inl (cI, 200, .inl fi)), (h3, .inl (cI, 200, .inl si)), (h5, .inl (cI, n, .inl u))]) u) t8) A) args s 0 0 A) (F0 m 78 ls [])) :
    ∀ (fuel : Nat) (b : Int32) (t : ep_F) (hb0 : ¬ b < 0) (hf : n < fuel + b.toNatClampNeg) (hf1 : 1 ≤ fuel) (hu : ep_ct1 n en fuel b t = tf), ∀ (H : Heap) (locs : List Loc), va_P (dC, dI) vwCl [(h0, .inr (0, [.ref h1, .ref h2, .ref h3, .ref h4, .int ex, .int ch])), (h2, .inl (cI, 200, .inl fi)), (h3, .inl (cI, 200, .inl si)), (h5, .inl (cI, n, .inl t))] H → va_D A [(h0, .inr (0, [.ref h1, .ref h2, .ref h3, .ref h4, .int ex, .int ch])), (h2, .inl (cI, 200, .inl fi)), (h3, .inl (cI, 200, .inl si)), (h5, .inl (cI, n, .inl t))] → va_S A s.heap H locs → ∀ (ls : Array Slot), lv_has ls 5 [(0, .ref h0), (1, .ref h5), (2, .int (nI i)), (3, .int en), (4, .int b)] → W p l e { frames := 1, cells := 0, slots := 0, locals := 23 } s m args below meth c H locs 0 0 (MQ below (va_Qv (fun (u : ep_F) => u = ep_ten fi si ex n t0) (fun u t8 => ey_Post (dC, dI) vwCl A ((fun (u : ep_F) => [(h0, .inr (0, [.ref h1, .ref h2, .ref h3, .ref h4, .int ex, .int ch])), (h2, .inl (cI, 200, .inl fi)), (h3, .inl (cI, 200, .inl si)), (h5, .inl (cI, n, .inl u))]) u) t8) A) args s 0 0 A) (F0 m 51 ls []) := by
  obtain ⟨hx, hb, hml, hown, hts, hr, hlocks, hA⟩ := id C0
  intro fuel
  induction fuel with
  | zero =>
    intro b t hb0 hf hf1 hu H locs hP hD hS ls hl
    exact absurd hf1 (by omega)
  | succ fuel ih =>
    intro b t hb0 hf hf1 hu H locs hP hD hS ls hl
    refine lv_iload hx hb d_M_countTenants_51 (lv_at hl 4 rfl) ?_
    refine lv_iload_n hx hb d_M_countTenants_53 rfl (lv_at hl 3 rfl) ?_
    refine lv_icmp_ge (tgt := 78) hx hb d_M_countTenants_54 (by decide) (fun c_54 => ?_) (fun c_54 => ?_)
    · have et : t = tf := by rw [← hu]; simp only [ep_ct1, ↓reduceIte, c_54]
      subst et
      exact kk _ _ _ hP hD hS (lv_sub hl [0, 1, 2] rfl)
    · refine lv_iload hx hb d_M_countTenants_57 (lv_at hl 4 rfl) ?_
      refine lv_aload_n hx hb d_M_countTenants_59 rfl (lv_at hl 1 rfl) ?_
      refine va_alen hx hb hK hP 3 0 rfl rfl (v := nI n) rfl d_M_countTenants_60 ?_
      refine lv_icmp_ge (tgt := 78) hx hb d_M_countTenants_61 (by decide) (fun c_61 => ?_) (fun c_61 => ?_)
      · have et : t = tf := by rw [← hu]; simp only [ep_ct1, ↓reduceIte, c_54, c_61]
        subst et
        exact kk _ _ _ hP hD hS (lv_sub hl [0, 1, 2] rfl)
      · refine lv_aload_n hx hb d_M_countTenants_64 rfl (lv_at hl 1 rfl) ?_
        refine lv_iload hx hb d_M_countTenants_65 (lv_at hl 4 rfl) ?_
        refine lv_dup2_11 hx hb d_M_countTenants_67 rfl rfl ?_
        refine va_iald hx hb hK hP 3 0 rfl rfl (ey_in (by omega) hb0 c_61) d_M_countTenants_68 ?_
        refine lv_iconst (v := 1) hx hb d_M_countTenants_69 (by decide) ?_
        refine lv_iadd hx hb d_M_countTenants_70 ?_
        refine va_iast hx hb hK hP hD hS 3 0 rfl rfl (ey_in (by omega) hb0 c_61) d_M_countTenants_71 (fun H locs hP hD hS => ?_)
        have hP : va_P (dC, dI) vwCl [(h0, .inr (0, [.ref h1, .ref h2, .ref h3, .ref h4, .int ex, .int ch])), (h2, .inl (cI, 200, .inl fi)), (h3, .inl (cI, 200, .inl si)), (h5, .inl (cI, n, .inl (upd t b.toNatClampNeg ((t b.toNatClampNeg) + 1))))] H := hP
        have hD : va_D A [(h0, .inr (0, [.ref h1, .ref h2, .ref h3, .ref h4, .int ex, .int ch])), (h2, .inl (cI, 200, .inl fi)), (h3, .inl (cI, 200, .inl si)), (h5, .inl (cI, n, .inl (upd t b.toNatClampNeg ((t b.toNatClampNeg) + 1))))] := hD
        refine lv_iinc (v := b + 1) (lv' := [(4, .int (b + 1)), (0, .ref h0), (1, .ref h5), (2, .int (nI i)), (3, .int en)]) hx hb d_M_countTenants_72 hl (k := 4) rfl (rfl) (by decide) rfl (fun ls hl => ?_)
        refine lv_goto (tgt := 51) hx hb d_M_countTenants_75 (by decide) ?_
        exact ih (b + 1) (upd t b.toNatClampNeg ((t b.toNatClampNeg) + 1)) (ey_ct_b hn c_61 hb0) (ey_ct_f hn c_61 hb0 hf) (ey_ct_1 hn c_61 hb0 hf) (by rw [← hu]; simp only [ep_ct1, ↓reduceIte, c_54, c_61]) _ _ hP hD hS ls (lv_sub hl [1, 2, 3, 4, 0] rfl)
set_option maxHeartbeats 4000000 in
set_option maxRecDepth 100000 in
theorem c_mf_count_L {p : Program} {l : Launch} {e : Env} {s : State} {m : MethodId} {args : Array Value} {below : List Frame} {meth : Method} {c : Code} {dC : Nat → ClassId} {dI : Nat → Nat → Nat} {cI cB cJ cZ : ClassId} {A : Nat → Prop} {h0 h1 h2 h3 h4 : Nat} {ex ch : Int32} {fi si : ep_F} {h5 n : Nat} {t0 : ep_F} (hn : n < 2 ^ 30) (hK : va_K (dC, dI) vwCl (ey_kt cI cB cJ cZ) s) (hG : ex_G s) (C0 : ey_Cx p s m args meth c b_M_countTenants 5 R_M ew_T none A)  :
    ∀ (fuel : Nat) (i : Nat) (t : ep_F) (hi : i + fuel = 201) (hin : i ≤ 200) (hu : ep_ct fi si ex n fuel i t = ep_ct fi si ex n 201 0 (ep_fill n 0 t0)), ∀ (H : Heap) (locs : List Loc), va_P (dC, dI) vwCl [(h0, .inr (0, [.ref h1, .ref h2, .ref h3, .ref h4, .int ex, .int ch])), (h2, .inl (cI, 200, .inl fi)), (h3, .inl (cI, 200, .inl si)), (h5, .inl (cI, n, .inl t))] H → va_D A [(h0, .inr (0, [.ref h1, .ref h2, .ref h3, .ref h4, .int ex, .int ch])), (h2, .inl (cI, 200, .inl fi)), (h3, .inl (cI, 200, .inl si)), (h5, .inl (cI, n, .inl t))] → va_S A s.heap H locs → ∀ (ls : Array Slot), lv_has ls 5 [(0, .ref h0), (1, .ref h5), (2, .int (nI i))] → W p l e { frames := 1, cells := 0, slots := 0, locals := 23 } s m args below meth c H locs 0 0 (MQ below (va_Qv (fun (u : ep_F) => u = ep_ten fi si ex n t0) (fun u t8 => ey_Post (dC, dI) vwCl A ((fun (u : ep_F) => [(h0, .inr (0, [.ref h1, .ref h2, .ref h3, .ref h4, .int ex, .int ch])), (h2, .inl (cI, 200, .inl fi)), (h3, .inl (cI, 200, .inl si)), (h5, .inl (cI, n, .inl u))]) u) t8) A) args s 0 0 A) (F0 m 7 ls []) := by
  obtain ⟨hx, hb, hml, hown, hts, hr, hlocks, hA⟩ := id C0
  intro fuel
  induction fuel with
  | zero =>
    intro i t hi hin hu H locs hP hD hS ls hl
    exact absurd hi (by omega)
  | succ fuel ih =>
    intro i t hi hin hu H locs hP hD hS ls hl
    refine lv_iload_n hx hb d_M_countTenants_7 rfl (lv_at hl 2 rfl) ?_
    refine lv_aload_n hx hb d_M_countTenants_8 rfl (lv_at hl 0 rfl) ?_
    refine va_get (D := (dC, dI)) (ci := 0) (v := .int ex) (C := R_M) (T := T_M) (N := 6) hx hb hts in_M hown hK hP 0 rfl rfl 4 (by decide) (hts _ ew_91) (fun _ h9 => h9) rfl d_M_countTenants_9 ?_
    refine lv_icmp_ge (tgt := 84) hx hb d_M_countTenants_12 (by decide) (fun c_12 => ?_) (fun c_12 => ?_)
    · exact ey_vret (W1 := fun (u : ep_F) => [(h0, .inr (0, [.ref h1, .ref h2, .ref h3, .ref h4, .int ex, .int ch])), (h2, .inl (cI, 200, .inl fi)), (h3, .inl (cI, 200, .inl si)), (h5, .inl (cI, n, .inl u))]) hx hb hr hlocks hP hD hS t [0, 1, 2, 3] rfl (by decide) (by rw [ep_ten, ← hu]; simp only [ep_ct, ↓reduceIte, c_12]) d_M_countTenants_84 (Nat.le_of_ble_eq_true rfl) (Nat.le_of_ble_eq_true rfl)
    · refine lv_iload_n hx hb d_M_countTenants_15 rfl (lv_at hl 2 rfl) ?_
      refine lv_sipush (v := 200) hx hb d_M_countTenants_16 (by decide) ?_
      refine lv_icmp_ge (tgt := 84) hx hb d_M_countTenants_19 (by decide) (fun c_19 => ?_) (fun c_19 => ?_)
      · exact ey_vret (W1 := fun (u : ep_F) => [(h0, .inr (0, [.ref h1, .ref h2, .ref h3, .ref h4, .int ex, .int ch])), (h2, .inl (cI, 200, .inl fi)), (h3, .inl (cI, 200, .inl si)), (h5, .inl (cI, n, .inl u))]) hx hb hr hlocks hP hD hS t [0, 1, 2, 3] rfl (by decide) (by rw [ep_ten, ← hu]; simp only [ep_ct, ↓reduceIte, c_12, c_19]) d_M_countTenants_84 (Nat.le_of_ble_eq_true rfl) (Nat.le_of_ble_eq_true rfl)
      · have hlt : i < 200 := ey_lt200 (by omega) c_19
        refine lv_aload_n hx hb d_M_countTenants_22 rfl (lv_at hl 0 rfl) ?_
        refine va_get (D := (dC, dI)) (ci := 0) (v := .ref h2) (C := R_M) (T := T_M) (N := 6) hx hb hts in_M hown hK hP 0 rfl rfl 1 (by decide) (hts _ ew_85) (fun _ h9 => h9) rfl d_M_countTenants_23 ?_
        refine lv_iload_n hx hb d_M_countTenants_26 rfl (lv_at hl 2 rfl) ?_
        refine va_iald hx hb hK hP 1 0 rfl rfl (vp_in_nI hlt (by decide)) d_M_countTenants_27 ?_
        refine lv_aload_n hx hb d_M_countTenants_28 rfl (lv_at hl 0 rfl) ?_
        refine va_get (D := (dC, dI)) (ci := 0) (v := .ref h3) (C := R_M) (T := T_M) (N := 6) hx hb hts in_M hown hK hP 0 rfl rfl 2 (by decide) (hts _ ew_87) (fun _ h9 => h9) rfl d_M_countTenants_29 ?_
        refine lv_iload_n hx hb d_M_countTenants_32 rfl (lv_at hl 2 rfl) ?_
        refine va_iald hx hb hK hP 2 0 rfl rfl (vp_in_nI hlt (by decide)) d_M_countTenants_33 ?_
        refine ey_SNi (Wc := []) (wr := [(h0, .inr (0, [.ref h1, .ref h2, .ref h3, .ref h4, .int ex, .int ch])), (h2, .inl (cI, 200, .inl fi)), (h3, .inl (cI, 200, .inl si)), (h5, .inl (cI, n, .inl t))]) (As := [.int (si (nI i).toNatClampNeg)]) (rest := [.int (fi (nI i).toNatClampNeg)]) ⟨hx, hb, hml, hown, hts⟩ (c_ed_blocks l dC dI cI cB cJ cZ (si (nI i).toNatClampNeg)) (va_cnB 1 hts g_D_blocksFor rfl rfl rfl (ex_nest_R_M_44 hG) (hts _ ew_13) (by decide +kernel) ⟨Nat.le_of_ble_eq_true rfl, Nat.le_of_ble_eq_true rfl⟩) (hts _ ew_328) hK hG hP hD hS hA [] [0, 1, 2, 3] rfl rfl (by decide) (by decide) (by decide) rfl hl.1 rfl (Nat.le_of_ble_eq_true rfl) d_M_countTenants_34 ⟨Nat.le_of_ble_eq_true rfl, Nat.le_of_ble_eq_true rfl⟩ (fun r_1 u_2 H locs e_3 hP hD hS => ?_)
        have hP : va_P (dC, dI) vwCl [(h0, .inr (0, [.ref h1, .ref h2, .ref h3, .ref h4, .int ex, .int ch])), (h2, .inl (cI, 200, .inl fi)), (h3, .inl (cI, 200, .inl si)), (h5, .inl (cI, n, .inl t))] H := hP
        have hD : va_D A [(h0, .inr (0, [.ref h1, .ref h2, .ref h3, .ref h4, .int ex, .int ch])), (h2, .inl (cI, 200, .inl fi)), (h3, .inl (cI, 200, .inl si)), (h5, .inl (cI, n, .inl t))] := hD
        subst e_3
        refine lv_iadd hx hb d_M_countTenants_37 ?_
        refine lv_istore_n (lv' := [(3, .int ((fi (nI i).toNatClampNeg) + (ep_blocks (si (nI i).toNatClampNeg)))), (0, .ref h0), (1, .ref h5), (2, .int (nI i))]) hx hb d_M_countTenants_38 rfl hl (by decide) rfl (fun ls hl => ?_)
        refine lv_iconst (v := 0) hx hb d_M_countTenants_39 (by decide) ?_
        refine lv_aload_n hx hb d_M_countTenants_40 rfl (lv_at hl 1 rfl) ?_
        refine va_get (D := (dC, dI)) (ci := 0) (v := .ref h2) (C := R_M) (T := T_M) (N := 6) hx hb hts in_M hown hK hP 0 rfl rfl 1 (by decide) (hts _ ew_85) (fun _ h9 => h9) rfl d_M_countTenants_41 ?_
        refine lv_iload_n hx hb d_M_countTenants_44 rfl (lv_at hl 3 rfl) ?_
        refine va_iald hx hb hK hP 1 0 rfl rfl (vp_in_nI hlt (by decide)) d_M_countTenants_45 ?_
        refine va_mmax hx hb (by rw [hml]; exact hl.1.symm) hown (hts _ ew_339) (hts _ ew_38) (hts _ ew_14) (hts _ ew_39) (Nat.le_of_ble_eq_true rfl) (Nat.le_of_ble_eq_true rfl) (Nat.le_of_ble_eq_true rfl) (Nat.le_of_ble_eq_true rfl) d_M_countTenants_46 ?_
        refine lv_istore (lv' := [(4, .int (if 0 < (fi (nI i).toNatClampNeg) then (fi (nI i).toNatClampNeg) else 0 : Int32)), (3, .int ((fi (nI i).toNatClampNeg) + (ep_blocks (si (nI i).toNatClampNeg)))), (0, .ref h0), (1, .ref h5), (2, .int (nI i))]) hx hb d_M_countTenants_49 hl (by decide) rfl (fun ls hl => ?_)
        refine c_mf_count_I (h0 := h0) (h1 := h1) (h2 := h2) (h3 := h3) (h4 := h4) (ex := ex) (ch := ch) (fi := fi) (si := si) (h5 := h5) (n := n) (t0 := t0) hn hK hG C0 i ((fi (nI i).toNatClampNeg) + (ep_blocks (si (nI i).toNatClampNeg))) (ep_ct1 n ((fi (nI i).toNatClampNeg) + (ep_blocks (si (nI i).toNatClampNeg))) (n + 1) (if 0 < (fi (nI i).toNatClampNeg) then (fi (nI i).toNatClampNeg) else 0 : Int32) t) (fun H locs ls hP hD hS hl => ?_) (n + 1) (if 0 < (fi (nI i).toNatClampNeg) then (fi (nI i).toNatClampNeg) else 0 : Int32) t (ey_max0 _) (by omega) (by omega) rfl _ _ (ey_P (is := [0, 1, 2, 3]) hP rfl) (hD.sub [0, 1, 2, 3] (by decide) rfl) hS ls (lv_sub hl [2, 3, 4, 1, 0] rfl)
        refine lv_iinc (v := nI (i + 1)) (lv' := [(2, .int (nI (i + 1))), (0, .ref h0), (1, .ref h5)]) hx hb d_M_countTenants_78 hl (k := 2) rfl (nI_1 i) (by decide) rfl (fun ls hl => ?_)
        refine lv_goto (tgt := 7) hx hb d_M_countTenants_81 (by decide) ?_
        exact ih (i + 1) (ep_ct1 n ((fi (nI i).toNatClampNeg) + (ep_blocks (si (nI i).toNatClampNeg))) (n + 1) (if 0 < (fi (nI i).toNatClampNeg) then (fi (nI i).toNatClampNeg) else 0 : Int32) t) (by omega) (by omega) (by rw [← hu]; simp only [ep_ct, ↓reduceIte, c_12, c_19]) _ _ hP hD hS ls (lv_sub hl [1, 2, 0] rfl)
set_option maxHeartbeats 4000000 in
set_option maxRecDepth 100000 in
theorem c_mf_count (l : Launch) (dC : Nat → ClassId) (dI : Nat → Nat → Nat) (cI cB cJ cZ : ClassId) (h0 h1 h2 h3 h4 : Nat) (ex ch : Int32) (fi si : ep_F) (h5 n : Nat) (t0 : ep_F) (hn : n < 2 ^ 30) : ey_Mv l y_M_countTenants w_M_countTenants { frames := 1, cells := 0, slots := 0, locals := 23 } (dC, dI) vwCl (ey_kt cI cB cJ cZ) [.ref h0, .ref h5] [(h0, .inr (0, [.ref h1, .ref h2, .ref h3, .ref h4, .int ex, .int ch])), (h2, .inl (cI, 200, .inl fi)), (h3, .inl (cI, 200, .inl si)), (h5, .inl (cI, n, .inl t0))] (fun (u : ep_F) => u = ep_ten fi si ex n t0) (fun (u : ep_F) => [(h0, .inr (0, [.ref h1, .ref h2, .ref h3, .ref h4, .int ex, .int ch])), (h2, .inl (cI, 200, .inl fi)), (h3, .inl (cI, 200, .inl si)), (h5, .inl (cI, n, .inl u))]) 0 0 := by
  intro sz
  refine Met.ofW (cc := b_M_countTenants) (maxL := 5) (ret := none) (by decide) rfl ?_
  intro p e s m args below meth c s₁ B hml hv
  obtain ⟨rfl, hsz, hP, hK, hG, hD0⟩ := hv
  have hx := B.exec
  have hb := B.bytes
  have hr := B.returns
  have hts := fun (w : Cond) (h : w ∈ ew_T) => atoms_spec (ws := w_M_countTenants) B.pre w (List.mem_cons_of_mem _ h)
  have hown : s.vm.findClass R_M = some m.cls := findClass_of_methodNamed B.named
  have hlocks := B.notSynchronized
  subst hsz
  have hD := hD0.self (sz := s.heap.size)
  generalize hAe : va_A [(h0, .inr (0, [.ref h1, .ref h2, .ref h3, .ref h4, .int ex, .int ch])), (h2, .inl (cI, 200, .inl fi)), (h3, .inl (cI, 200, .inl si)), (h5, .inl (cI, n, .inl t0))] s.heap.size = A at hD ⊢
  have hA : ∀ q : Nat, s.heap.size ≤ q → A q := fun q h => by rw [← hAe]; exact Or.inr h
  have hS : va_S A s.heap s.heap [] := va_S.rf
  have hP : va_P (dC, dI) vwCl [(h0, .inr (0, [.ref h1, .ref h2, .ref h3, .ref h4, .int ex, .int ch])), (h2, .inl (cI, 200, .inl fi)), (h3, .inl (cI, 200, .inl si)), (h5, .inl (cI, n, .inl t0))] s.heap := hP
  have hl := lv_entry ([.ref h0, .ref h5]) (n := 5) (Nat.le_of_ble_eq_true rfl)
  rw [lg_entry_eq]
  generalize (lg_sl ([.ref h0, .ref h5]) ++ List.replicate (5 - (lg_sl ([.ref h0, .ref h5])).length) Slot.unset).toArray = ls at hl ⊢
  have hl : lv_has ls 5 [(0, .ref h0), (1, .ref h5)] := hl
  have C0 : ey_Cx p s m [.ref h0, .ref h5].toArray meth c b_M_countTenants 5 R_M ew_T none A := ⟨hx, hb, hml, hown, hts, hr, hlocks, hA⟩
  refine lv_aload_n hx hb d_M_countTenants_0 rfl (lv_at hl 1 rfl) ?_
  refine lv_iconst (v := 0) hx hb d_M_countTenants_1 (by decide) ?_
  refine ey_Sv (Wc := [(h5, .inl (cI, n, .inl t0))]) (wr := [(h0, .inr (0, [.ref h1, .ref h2, .ref h3, .ref h4, .int ex, .int ch])), (h2, .inl (cI, 200, .inl fi)), (h3, .inl (cI, 200, .inl si))]) (As := [.ref h5, .int 0]) (rest := []) ⟨hx, hb, hml, hown, hts⟩ (c_ar_fill l dC dI cI cB cJ cZ h5 n t0 0 (by omega)) (va_cwS 2 hts (ew_S ew_147 ew_148 ew_24 g_A_fill) rfl rfl rfl (by decide +kernel) ⟨Nat.le_of_ble_eq_true rfl, Nat.le_of_ble_eq_true rfl⟩) hK hG hP hD hS hA [3] [0, 1, 2] rfl rfl (by decide) (by decide) (by decide) rfl hl.1 rfl (Nat.le_of_ble_eq_true rfl) d_M_countTenants_2 ⟨Nat.le_of_ble_eq_true rfl, Nat.le_of_ble_eq_true rfl⟩ (fun u_2 H locs e_3 hP hD hS => ?_)
  have hP : va_P (dC, dI) vwCl [(h0, .inr (0, [.ref h1, .ref h2, .ref h3, .ref h4, .int ex, .int ch])), (h2, .inl (cI, 200, .inl fi)), (h3, .inl (cI, 200, .inl si)), (h5, .inl (cI, n, .inl u_2))] H := hP
  have hD : va_D A [(h0, .inr (0, [.ref h1, .ref h2, .ref h3, .ref h4, .int ex, .int ch])), (h2, .inl (cI, 200, .inl fi)), (h3, .inl (cI, 200, .inl si)), (h5, .inl (cI, n, .inl u_2))] := hD
  subst e_3
  refine lv_iconst (v := nI 0) hx hb d_M_countTenants_5 (by decide) ?_
  refine lv_istore_n (lv' := [(2, .int (nI 0)), (0, .ref h0), (1, .ref h5)]) hx hb d_M_countTenants_6 rfl hl (by decide) rfl (fun ls hl => ?_)
  exact c_mf_count_L (h0 := h0) (h1 := h1) (h2 := h2) (h3 := h3) (h4 := h4) (ex := ex) (ch := ch) (fi := fi) (si := si) (h5 := h5) (n := n) (t0 := t0) hn hK hG C0 201 0 (ep_fill n 0 t0) rfl (by omega) rfl _ _ hP hD hS ls (lv_sub hl [1, 2, 0] rfl)
