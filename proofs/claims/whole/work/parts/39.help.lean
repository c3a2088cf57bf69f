set_option maxHeartbeats 4000000 in
set_option maxRecDepth 100000 in
theorem c_h_put (l : Launch) (dC : Nat → ClassId) (dI : Nat → Nat → Nat) (cI cB cJ cZ : ClassId) (hl9 : l.stackTraces = false) (d0 pl tp wi pg te nw nx : Nat) (pb : Nat) (dn wr pw : Int32) (tb : Nat) (ln : Int32) (nt : Nat) (tf : ep_F) (v : Int64) (x : Int32) (oa : Nat) (of : Nat → Int64) (hnt : nt < 2 ^ 30) : ey_Hn l y_L_put w_L_put { frames := 8, cells := 1, slots := 6, locals := 200 } (dC, dI) vwCl (ey_kt cI cB cJ cZ) [.ref d0, .long v, .int x, .ref oa] [(d0, .inr (3, [.ref pl, .ref tp, .ref wi, .ref pg, .ref te, .ref nw, .ref nx])), (pl, .inr (1, [.ref pb, .int dn, .int wr, .int pw])), (tp, .inr (2, [.ref tb, .int ln])), (tb, .inl (cB, nt, .inl tf)), (oa, .inl (cJ, 1, .inr (.inl of)))] (fun (r : Int32) (u : ep_T × (Nat → Int64)) => (ep_kput dn nt ln x = 0 ∧ r = 0 ∧ ∃ a9 : Int32, (a9 = u.1.2 ∧ u.1 = ep_putl nt v 9 (x - 1) (tf, ln)) ∧ u.2 = vp_updL of (0 : Int32).toNatClampNeg a9.toInt64) ∨ (ep_kput dn nt ln x = 1 ∧ r = 1 ∧ u = ((tf, ln), of)) ∨ (ep_kput dn nt ln x = 2 ∧ r = 2 ∧ u = ((tf, ln), of))) (fun (u : ep_T × (Nat → Int64)) => [(d0, .inr (3, [.ref pl, .ref tp, .ref wi, .ref pg, .ref te, .ref nw, .ref nx])), (pl, .inr (1, [.ref pb, .int dn, .int wr, .int pw])), (tp, .inr (2, [.ref tb, .int u.1.2])), (tb, .inl (cB, nt, .inl u.1.1)), (oa, .inl (cJ, 1, .inr (.inl u.2)))]) 1 6 := by
  intro sz
  refine va_MetW (cc := b_L_put) (maxL := 6) (ret := (some .int)) (hh := [(0, 11, 14, 13), (0, 11, 18, 15)]) (by decide) rfl ?_
  intro p e s m args below meth c s₁ B hml hv
  obtain ⟨rfl, hN, hZ, hsz, hP, hK, hG, hD0⟩ := hv
  have htab := vx_table (x := y_L_put) B (atoms_spec (ws := w_L_put) B.pre _ List.mem_cons_self)
  have hx := B.exec
  have hb := B.bytes
  have hr := B.returns
  have hts := fun (w : Cond) (h : w ∈ ew_T) => atoms_spec (ws := w_L_put) B.pre w (List.mem_cons_of_mem _ h)
  have hown : s.vm.findClass R_L = some m.cls := findClass_of_methodNamed B.named
  have hlocks := B.notSynchronized
  subst hsz
  have hD := hD0.self (sz := s.heap.size)
  generalize hAe : va_A [(d0, .inr (3, [.ref pl, .ref tp, .ref wi, .ref pg, .ref te, .ref nw, .ref nx])), (pl, .inr (1, [.ref pb, .int dn, .int wr, .int pw])), (tp, .inr (2, [.ref tb, .int ln])), (tb, .inl (cB, nt, .inl tf)), (oa, .inl (cJ, 1, .inr (.inl of)))] s.heap.size = A at hD hZ ⊢
  have hA : ∀ q : Nat, s.heap.size ≤ q → A q := fun q h => by rw [← hAe]; exact Or.inr h
  have hS : va_S A s.heap s.heap [] := va_S.rf
  have hP : va_P (dC, dI) vwCl [(d0, .inr (3, [.ref pl, .ref tp, .ref wi, .ref pg, .ref te, .ref nw, .ref nx])), (pl, .inr (1, [.ref pb, .int dn, .int wr, .int pw])), (tp, .inr (2, [.ref tb, .int ln])), (tb, .inl (cB, nt, .inl tf)), (oa, .inl (cJ, 1, .inr (.inl of)))] s.heap := hP
  have hl := lv_entry ([.ref d0, .long v, .int x, .ref oa]) (n := 6) (Nat.le_of_ble_eq_true rfl)
  rw [lg_entry_eq]
  generalize (lg_sl ([.ref d0, .long v, .int x, .ref oa]) ++ List.replicate (6 - (lg_sl ([.ref d0, .long v, .int x, .ref oa])).length) Slot.unset).toArray = ls at hl ⊢
  have hl : lv_has ls 6 [(0, .ref d0), (1, .long v), (3, .int x), (4, .ref oa)] := hl
  refine lv_aload hx hb d_L_put_0 (lv_at hl 3 rfl) ?_
  refine lv_iconst (v := 0) hx hb d_L_put_2 (by decide) ?_
  refine lv_aload_n hx hb d_L_put_3 rfl (lv_at hl 0 rfl) ?_
  refine lv_lload_n hx hb d_L_put_4 rfl (lv_at hl 1 rfl) ?_
  refine lv_iload_n hx hb d_L_put_5 rfl (lv_at hl 2 rfl) ?_
  refine ey_XVi (Wc := [(d0, .inr (3, [.ref pl, .ref tp, .ref wi, .ref pg, .ref te, .ref nw, .ref nx])), (pl, .inr (1, [.ref pb, .int dn, .int wr, .int pw])), (tp, .inr (2, [.ref tb, .int ln])), (tb, .inl (cB, nt, .inl tf))]) (wr := [(oa, .inl (cJ, 1, .inr (.inl of)))]) (As := [.long v, .int x]) (rest := [.int 0, .ref oa]) ⟨hx, hb, hml, hown, hts⟩ (c_ed_put l dC dI cI cB cJ cZ hl9 d0 pl tp wi pg te nw nx pb dn wr pw tb ln nt tf v x hnt) (cwV 2 hts (ew_V ew_186 ew_187 ew_188 ew_13 g_D_put) rfl rfl rfl (by decide +kernel) ⟨Nat.le_of_ble_eq_true rfl, Nat.le_of_ble_eq_true rfl⟩) hK hG hZ hP hD hS hA [0, 1, 2, 3] [4] rfl rfl (by decide) (by decide) (by decide) (ci := 3) (q0 := 0) rfl rfl rfl hl.1 rfl (Nat.le_of_ble_eq_true rfl) d_L_put_6 ⟨Nat.le_of_ble_eq_true rfl, Nat.le_of_ble_eq_true rfl⟩ (fun E9 ce9 q9 H locs ht9 hP hD hS h19 h29 h39 => ?_) (fun r_1 u_2 H locs e_3 hP hD hS => ?_)
  · have hP : va_P (dC, dI) vwCl [(oa, .inl (cJ, 1, .inr (.inl of))), (d0, .inr (3, [.ref pl, .ref tp, .ref wi, .ref pg, .ref te, .ref nw, .ref nx])), (pl, .inr (1, [.ref pb, .int dn, .int wr, .int pw])), (tp, .inr (2, [.ref tb, .int ln])), (tb, .inl (cB, nt, .inl tf))] H := hP
    have hD : va_D A [(oa, .inl (cJ, 1, .inr (.inl of))), (d0, .inr (3, [.ref pl, .ref tp, .ref wi, .ref pg, .ref te, .ref nw, .ref nx])), (pl, .inr (1, [.ref pb, .int dn, .int wr, .int pw])), (tp, .inr (2, [.ref tb, .int ln])), (tb, .inl (cB, nt, .inl tf))] := hD
    rcases ht9 with ⟨rfl, hk9⟩ | ⟨rfl, hk9⟩
    · refine vx_catch (own := R_L) (name := "java/lang/IllegalArgumentException") hown [] ⟨0, 11, 14, 13⟩ [⟨0, 11, 18, 15⟩] htab (fun z hz => absurd hz List.not_mem_nil) (by decide) (by decide) (hts _ ew_184) (va_Nw.use rfl hG.2.2.1) h19 h29 h39 ?_
      refine lv_astore (lv' := [(5, .ref q9), (0, .ref d0), (1, .long v), (3, .int x), (4, .ref oa)]) hx hb d_L_put_14 hl (by decide) rfl (fun ls hl => ?_)
      refine lv_iconst (v := 1) hx hb d_L_put_16 (by decide) ?_
      exact ey_iret (W1 := fun (u : ep_T × (Nat → Int64)) => [(d0, .inr (3, [.ref pl, .ref tp, .ref wi, .ref pg, .ref te, .ref nw, .ref nx])), (pl, .inr (1, [.ref pb, .int dn, .int wr, .int pw])), (tp, .inr (2, [.ref tb, .int u.1.2])), (tb, .inl (cB, nt, .inl u.1.1)), (oa, .inl (cJ, 1, .inr (.inl u.2)))]) hx hb hr hlocks hP hD hS ((tf, ln), of) [1, 2, 3, 4, 0] rfl (by decide) (Or.inr (Or.inl ⟨hk9, rfl, rfl⟩)) d_L_put_17 (Nat.le_of_ble_eq_true rfl) (Nat.le_of_ble_eq_true rfl)
    · refine vx_catch (own := R_L) (name := "java/lang/IllegalStateException") hown [⟨0, 11, 14, 13⟩] ⟨0, 11, 18, 15⟩ [] htab (fun z hz => by rw [List.mem_singleton.mp hz]; exact Or.inr ⟨by decide, "java/lang/IllegalArgumentException", hts _ ew_184, hN⟩) (by decide) (by decide) (hts _ ew_185) (va_Nw.use rfl hG.2.2.2.1) h19 h29 h39 ?_
      refine lv_astore (lv' := [(5, .ref q9), (0, .ref d0), (1, .long v), (3, .int x), (4, .ref oa)]) hx hb d_L_put_18 hl (by decide) rfl (fun ls hl => ?_)
      refine lv_iconst (v := 2) hx hb d_L_put_20 (by decide) ?_
      exact ey_iret (W1 := fun (u : ep_T × (Nat → Int64)) => [(d0, .inr (3, [.ref pl, .ref tp, .ref wi, .ref pg, .ref te, .ref nw, .ref nx])), (pl, .inr (1, [.ref pb, .int dn, .int wr, .int pw])), (tp, .inr (2, [.ref tb, .int u.1.2])), (tb, .inl (cB, nt, .inl u.1.1)), (oa, .inl (cJ, 1, .inr (.inl u.2)))]) hx hb hr hlocks hP hD hS ((tf, ln), of) [1, 2, 3, 4, 0] rfl (by decide) (Or.inr (Or.inr ⟨hk9, rfl, rfl⟩)) d_L_put_21 (Nat.le_of_ble_eq_true rfl) (Nat.le_of_ble_eq_true rfl)
  · have hP : va_P (dC, dI) vwCl [(oa, .inl (cJ, 1, .inr (.inl of))), (d0, .inr (3, [.ref pl, .ref tp, .ref wi, .ref pg, .ref te, .ref nw, .ref nx])), (pl, .inr (1, [.ref pb, .int dn, .int wr, .int pw])), (tp, .inr (2, [.ref tb, .int u_2.2])), (tb, .inl (cB, nt, .inl u_2.1))] H := hP
    have hD : va_D A [(oa, .inl (cJ, 1, .inr (.inl of))), (d0, .inr (3, [.ref pl, .ref tp, .ref wi, .ref pg, .ref te, .ref nw, .ref nx])), (pl, .inr (1, [.ref pb, .int dn, .int wr, .int pw])), (tp, .inr (2, [.ref tb, .int u_2.2])), (tb, .inl (cB, nt, .inl u_2.1))] := hD
    refine lv_i2l (v := r_1.toInt64) hx hb d_L_put_9 rfl ?_
    refine va_last hx hb hK hP hD hS 0 2 rfl rfl ey_in0 d_L_put_10 (fun H locs hP hD hS => ?_)
    have hP : va_P (dC, dI) vwCl [(oa, .inl (cJ, 1, .inr (.inl (vp_updL of (0 : Int32).toNatClampNeg r_1.toInt64)))), (d0, .inr (3, [.ref pl, .ref tp, .ref wi, .ref pg, .ref te, .ref nw, .ref nx])), (pl, .inr (1, [.ref pb, .int dn, .int wr, .int pw])), (tp, .inr (2, [.ref tb, .int u_2.2])), (tb, .inl (cB, nt, .inl u_2.1))] H := hP
    have hD : va_D A [(oa, .inl (cJ, 1, .inr (.inl (vp_updL of (0 : Int32).toNatClampNeg r_1.toInt64)))), (d0, .inr (3, [.ref pl, .ref tp, .ref wi, .ref pg, .ref te, .ref nw, .ref nx])), (pl, .inr (1, [.ref pb, .int dn, .int wr, .int pw])), (tp, .inr (2, [.ref tb, .int u_2.2])), (tb, .inl (cB, nt, .inl u_2.1))] := hD
    refine lv_goto (tgt := 22) hx hb d_L_put_11 (by decide) ?_
    refine lv_iconst (v := 0) hx hb d_L_put_22 (by decide) ?_
    exact ey_iret (W1 := fun (u : ep_T × (Nat → Int64)) => [(d0, .inr (3, [.ref pl, .ref tp, .ref wi, .ref pg, .ref te, .ref nw, .ref nx])), (pl, .inr (1, [.ref pb, .int dn, .int wr, .int pw])), (tp, .inr (2, [.ref tb, .int u.1.2])), (tb, .inl (cB, nt, .inl u.1.1)), (oa, .inl (cJ, 1, .inr (.inl u.2)))]) hx hb hr hlocks hP hD hS (u_2, vp_updL of (0 : Int32).toNatClampNeg r_1.toInt64) [1, 2, 3, 4, 0] rfl (by decide) (Or.inl ⟨e_3.1, rfl, r_1, e_3.2, rfl⟩) d_L_put_23 (Nat.le_of_ble_eq_true rfl) (Nat.le_of_ble_eq_true rfl)
set_option maxHeartbeats 4000000 in
set_option maxRecDepth 100000 in
theorem c_h_fill (l : Launch) (dC : Nat → ClassId) (dI : Nat → Nat → Nat) (cI cB cJ cZ : ClassId) (hl9 : l.stackTraces = false) (d0 pl tp wi pg te nw nx : Nat) (pb : Nat) (dn wr pw : Int32) (tb : Nat) (ln : Int32) (nt : Nat) (tf : ep_F) (b x : Int32) (oa : Nat) (of : Nat → Int64) (hnt : nt < 2 ^ 30) : ey_Hn l y_L_fill w_L_fill { frames := 8, cells := 1, slots := 6, locals := 200 } (dC, dI) vwCl (ey_kt cI cB cJ cZ) [.ref d0, .int b, .int x, .ref oa] [(d0, .inr (3, [.ref pl, .ref tp, .ref wi, .ref pg, .ref te, .ref nw, .ref nx])), (pl, .inr (1, [.ref pb, .int dn, .int wr, .int pw])), (tp, .inr (2, [.ref tb, .int ln])), (tb, .inl (cB, nt, .inl tf)), (oa, .inl (cJ, 1, .inr (.inl of)))] (fun (r : Int32) (u : ep_T × (Nat → Int64)) => (ep_kfill dn nt ln x = 0 ∧ r = 0 ∧ ∃ a9 : Int32, (a9 = u.1.2 ∧ u.1 = ep_fll nt b x (x.toNatClampNeg + 1) 0 (tf, ln)) ∧ u.2 = vp_updL of (0 : Int32).toNatClampNeg a9.toInt64) ∨ (ep_kfill dn nt ln x = 1 ∧ r = 1 ∧ u = ((tf, ln), of)) ∨ (ep_kfill dn nt ln x = 2 ∧ r = 2 ∧ u = ((tf, ln), of))) (fun (u : ep_T × (Nat → Int64)) => [(d0, .inr (3, [.ref pl, .ref tp, .ref wi, .ref pg, .ref te, .ref nw, .ref nx])), (pl, .inr (1, [.ref pb, .int dn, .int wr, .int pw])), (tp, .inr (2, [.ref tb, .int u.1.2])), (tb, .inl (cB, nt, .inl u.1.1)), (oa, .inl (cJ, 1, .inr (.inl u.2)))]) 1 6 := by
  intro sz
  refine va_MetW (cc := b_L_fill) (maxL := 5) (ret := (some .int)) (hh := [(0, 10, 13, 13), (0, 10, 17, 15)]) (by decide) rfl ?_
  intro p e s m args below meth c s₁ B hml hv
  obtain ⟨rfl, hN, hZ, hsz, hP, hK, hG, hD0⟩ := hv
  have htab := vx_table (x := y_L_fill) B (atoms_spec (ws := w_L_fill) B.pre _ List.mem_cons_self)
  have hx := B.exec
  have hb := B.bytes
  have hr := B.returns
  have hts := fun (w : Cond) (h : w ∈ ew_T) => atoms_spec (ws := w_L_fill) B.pre w (List.mem_cons_of_mem _ h)
  have hown : s.vm.findClass R_L = some m.cls := findClass_of_methodNamed B.named
  have hlocks := B.notSynchronized
  subst hsz
  have hD := hD0.self (sz := s.heap.size)
  generalize hAe : va_A [(d0, .inr (3, [.ref pl, .ref tp, .ref wi, .ref pg, .ref te, .ref nw, .ref nx])), (pl, .inr (1, [.ref pb, .int dn, .int wr, .int pw])), (tp, .inr (2, [.ref tb, .int ln])), (tb, .inl (cB, nt, .inl tf)), (oa, .inl (cJ, 1, .inr (.inl of)))] s.heap.size = A at hD hZ ⊢
  have hA : ∀ q : Nat, s.heap.size ≤ q → A q := fun q h => by rw [← hAe]; exact Or.inr h
  have hS : va_S A s.heap s.heap [] := va_S.rf
  have hP : va_P (dC, dI) vwCl [(d0, .inr (3, [.ref pl, .ref tp, .ref wi, .ref pg, .ref te, .ref nw, .ref nx])), (pl, .inr (1, [.ref pb, .int dn, .int wr, .int pw])), (tp, .inr (2, [.ref tb, .int ln])), (tb, .inl (cB, nt, .inl tf)), (oa, .inl (cJ, 1, .inr (.inl of)))] s.heap := hP
  have hl := lv_entry ([.ref d0, .int b, .int x, .ref oa]) (n := 5) (Nat.le_of_ble_eq_true rfl)
  rw [lg_entry_eq]
  generalize (lg_sl ([.ref d0, .int b, .int x, .ref oa]) ++ List.replicate (5 - (lg_sl ([.ref d0, .int b, .int x, .ref oa])).length) Slot.unset).toArray = ls at hl ⊢
  have hl : lv_has ls 5 [(0, .ref d0), (1, .int b), (2, .int x), (3, .ref oa)] := hl
  refine lv_aload_n hx hb d_L_fill_0 rfl (lv_at hl 3 rfl) ?_
  refine lv_iconst (v := 0) hx hb d_L_fill_1 (by decide) ?_
  refine lv_aload_n hx hb d_L_fill_2 rfl (lv_at hl 0 rfl) ?_
  refine lv_iload_n hx hb d_L_fill_3 rfl (lv_at hl 1 rfl) ?_
  refine lv_iload_n hx hb d_L_fill_4 rfl (lv_at hl 2 rfl) ?_
  refine ey_XVi (Wc := [(d0, .inr (3, [.ref pl, .ref tp, .ref wi, .ref pg, .ref te, .ref nw, .ref nx])), (pl, .inr (1, [.ref pb, .int dn, .int wr, .int pw])), (tp, .inr (2, [.ref tb, .int ln])), (tb, .inl (cB, nt, .inl tf))]) (wr := [(oa, .inl (cJ, 1, .inr (.inl of)))]) (As := [.int b, .int x]) (rest := [.int 0, .ref oa]) ⟨hx, hb, hml, hown, hts⟩ (c_ed_fill l dC dI cI cB cJ cZ hl9 d0 pl tp wi pg te nw nx pb dn wr pw tb ln nt tf b x hnt) (cwV 2 hts (ew_V ew_283 ew_284 ew_285 ew_13 g_D_fill) rfl rfl rfl (by decide +kernel) ⟨Nat.le_of_ble_eq_true rfl, Nat.le_of_ble_eq_true rfl⟩) hK hG hZ hP hD hS hA [0, 1, 2, 3] [4] rfl rfl (by decide) (by decide) (by decide) (ci := 3) (q0 := 0) rfl rfl rfl hl.1 rfl (Nat.le_of_ble_eq_true rfl) d_L_fill_5 ⟨Nat.le_of_ble_eq_true rfl, Nat.le_of_ble_eq_true rfl⟩ (fun E9 ce9 q9 H locs ht9 hP hD hS h19 h29 h39 => ?_) (fun r_1 u_2 H locs e_3 hP hD hS => ?_)
  · have hP : va_P (dC, dI) vwCl [(oa, .inl (cJ, 1, .inr (.inl of))), (d0, .inr (3, [.ref pl, .ref tp, .ref wi, .ref pg, .ref te, .ref nw, .ref nx])), (pl, .inr (1, [.ref pb, .int dn, .int wr, .int pw])), (tp, .inr (2, [.ref tb, .int ln])), (tb, .inl (cB, nt, .inl tf))] H := hP
    have hD : va_D A [(oa, .inl (cJ, 1, .inr (.inl of))), (d0, .inr (3, [.ref pl, .ref tp, .ref wi, .ref pg, .ref te, .ref nw, .ref nx])), (pl, .inr (1, [.ref pb, .int dn, .int wr, .int pw])), (tp, .inr (2, [.ref tb, .int ln])), (tb, .inl (cB, nt, .inl tf))] := hD
    rcases ht9 with ⟨rfl, hk9⟩ | ⟨rfl, hk9⟩
    · refine vx_catch (own := R_L) (name := "java/lang/IllegalArgumentException") hown [] ⟨0, 10, 13, 13⟩ [⟨0, 10, 17, 15⟩] htab (fun z hz => absurd hz List.not_mem_nil) (by decide) (by decide) (hts _ ew_184) (va_Nw.use rfl hG.2.2.1) h19 h29 h39 ?_
      refine lv_astore (lv' := [(4, .ref q9), (0, .ref d0), (1, .int b), (2, .int x), (3, .ref oa)]) hx hb d_L_fill_13 hl (by decide) rfl (fun ls hl => ?_)
      refine lv_iconst (v := 1) hx hb d_L_fill_15 (by decide) ?_
      exact ey_iret (W1 := fun (u : ep_T × (Nat → Int64)) => [(d0, .inr (3, [.ref pl, .ref tp, .ref wi, .ref pg, .ref te, .ref nw, .ref nx])), (pl, .inr (1, [.ref pb, .int dn, .int wr, .int pw])), (tp, .inr (2, [.ref tb, .int u.1.2])), (tb, .inl (cB, nt, .inl u.1.1)), (oa, .inl (cJ, 1, .inr (.inl u.2)))]) hx hb hr hlocks hP hD hS ((tf, ln), of) [1, 2, 3, 4, 0] rfl (by decide) (Or.inr (Or.inl ⟨hk9, rfl, rfl⟩)) d_L_fill_16 (Nat.le_of_ble_eq_true rfl) (Nat.le_of_ble_eq_true rfl)
    · refine vx_catch (own := R_L) (name := "java/lang/IllegalStateException") hown [⟨0, 10, 13, 13⟩] ⟨0, 10, 17, 15⟩ [] htab (fun z hz => by rw [List.mem_singleton.mp hz]; exact Or.inr ⟨by decide, "java/lang/IllegalArgumentException", hts _ ew_184, hN⟩) (by decide) (by decide) (hts _ ew_185) (va_Nw.use rfl hG.2.2.2.1) h19 h29 h39 ?_
      refine lv_astore (lv' := [(4, .ref q9), (0, .ref d0), (1, .int b), (2, .int x), (3, .ref oa)]) hx hb d_L_fill_17 hl (by decide) rfl (fun ls hl => ?_)
      refine lv_iconst (v := 2) hx hb d_L_fill_19 (by decide) ?_
      exact ey_iret (W1 := fun (u : ep_T × (Nat → Int64)) => [(d0, .inr (3, [.ref pl, .ref tp, .ref wi, .ref pg, .ref te, .ref nw, .ref nx])), (pl, .inr (1, [.ref pb, .int dn, .int wr, .int pw])), (tp, .inr (2, [.ref tb, .int u.1.2])), (tb, .inl (cB, nt, .inl u.1.1)), (oa, .inl (cJ, 1, .inr (.inl u.2)))]) hx hb hr hlocks hP hD hS ((tf, ln), of) [1, 2, 3, 4, 0] rfl (by decide) (Or.inr (Or.inr ⟨hk9, rfl, rfl⟩)) d_L_fill_20 (Nat.le_of_ble_eq_true rfl) (Nat.le_of_ble_eq_true rfl)
  · have hP : va_P (dC, dI) vwCl [(oa, .inl (cJ, 1, .inr (.inl of))), (d0, .inr (3, [.ref pl, .ref tp, .ref wi, .ref pg, .ref te, .ref nw, .ref nx])), (pl, .inr (1, [.ref pb, .int dn, .int wr, .int pw])), (tp, .inr (2, [.ref tb, .int u_2.2])), (tb, .inl (cB, nt, .inl u_2.1))] H := hP
    have hD : va_D A [(oa, .inl (cJ, 1, .inr (.inl of))), (d0, .inr (3, [.ref pl, .ref tp, .ref wi, .ref pg, .ref te, .ref nw, .ref nx])), (pl, .inr (1, [.ref pb, .int dn, .int wr, .int pw])), (tp, .inr (2, [.ref tb, .int u_2.2])), (tb, .inl (cB, nt, .inl u_2.1))] := hD
    refine lv_i2l (v := r_1.toInt64) hx hb d_L_fill_8 rfl ?_
    refine va_last hx hb hK hP hD hS 0 2 rfl rfl ey_in0 d_L_fill_9 (fun H locs hP hD hS => ?_)
    have hP : va_P (dC, dI) vwCl [(oa, .inl (cJ, 1, .inr (.inl (vp_updL of (0 : Int32).toNatClampNeg r_1.toInt64)))), (d0, .inr (3, [.ref pl, .ref tp, .ref wi, .ref pg, .ref te, .ref nw, .ref nx])), (pl, .inr (1, [.ref pb, .int dn, .int wr, .int pw])), (tp, .inr (2, [.ref tb, .int u_2.2])), (tb, .inl (cB, nt, .inl u_2.1))] H := hP
    have hD : va_D A [(oa, .inl (cJ, 1, .inr (.inl (vp_updL of (0 : Int32).toNatClampNeg r_1.toInt64)))), (d0, .inr (3, [.ref pl, .ref tp, .ref wi, .ref pg, .ref te, .ref nw, .ref nx])), (pl, .inr (1, [.ref pb, .int dn, .int wr, .int pw])), (tp, .inr (2, [.ref tb, .int u_2.2])), (tb, .inl (cB, nt, .inl u_2.1))] := hD
    refine lv_goto (tgt := 21) hx hb d_L_fill_10 (by decide) ?_
    refine lv_iconst (v := 0) hx hb d_L_fill_21 (by decide) ?_
    exact ey_iret (W1 := fun (u : ep_T × (Nat → Int64)) => [(d0, .inr (3, [.ref pl, .ref tp, .ref wi, .ref pg, .ref te, .ref nw, .ref nx])), (pl, .inr (1, [.ref pb, .int dn, .int wr, .int pw])), (tp, .inr (2, [.ref tb, .int u.1.2])), (tb, .inl (cB, nt, .inl u.1.1)), (oa, .inl (cJ, 1, .inr (.inl u.2)))]) hx hb hr hlocks hP hD hS (u_2, vp_updL of (0 : Int32).toNatClampNeg r_1.toInt64) [1, 2, 3, 4, 0] rfl (by decide) (Or.inl ⟨e_3.1, rfl, r_1, e_3.2, rfl⟩) d_L_fill_22 (Nat.le_of_ble_eq_true rfl) (Nat.le_of_ble_eq_true rfl)
set_option maxHeartbeats 4000000 in
set_option maxRecDepth 100000 in
theorem c_h_drop (l : Launch) (dC : Nat → ClassId) (dI : Nat → Nat → Nat) (cI cB cJ cZ : ClassId) (hl9 : l.stackTraces = false) (d0 pl tp wi pg te nw nx : Nat) (pb : Nat) (dn wr pw : Int32) (tb : Nat) (ln : Int32) (oa : Nat) (of : Nat → Int64) : ey_Hn l y_L_drop w_L_drop { frames := 8, cells := 1, slots := 6, locals := 200 } (dC, dI) vwCl (ey_kt cI cB cJ cZ) [.ref d0, .ref oa] [(d0, .inr (3, [.ref pl, .ref tp, .ref wi, .ref pg, .ref te, .ref nw, .ref nx])), (pl, .inr (1, [.ref pb, .int dn, .int wr, .int pw])), (tp, .inr (2, [.ref tb, .int ln])), (oa, .inl (cJ, 1, .inr (.inl of)))] (fun (r : Int32) (u : Int32 × (Nat → Int64)) => (ep_kdown dn = 0 ∧ r = 0 ∧ ∃ a9 : Int32, (a9 = ln ∧ u.1 = 0) ∧ u.2 = vp_updL of (0 : Int32).toNatClampNeg a9.toInt64) ∨ (ep_kdown dn = 1 ∧ r = 9 ∧ u = (ln, of)) ∨ (ep_kdown dn = 2 ∧ r = 1 ∧ u = (ln, of))) (fun (u : Int32 × (Nat → Int64)) => [(d0, .inr (3, [.ref pl, .ref tp, .ref wi, .ref pg, .ref te, .ref nw, .ref nx])), (pl, .inr (1, [.ref pb, .int dn, .int wr, .int pw])), (tp, .inr (2, [.ref tb, .int u.1])), (oa, .inl (cJ, 1, .inr (.inl u.2)))]) 1 6 := by
  intro sz
  refine va_MetW (cc := b_L_drop) (maxL := 3) (ret := (some .int)) (hh := [(0, 8, 11, 15)]) (by decide) rfl ?_
  intro p e s m args below meth c s₁ B hml hv
  obtain ⟨rfl, hN, hZ, hsz, hP, hK, hG, hD0⟩ := hv
  have htab := vx_table (x := y_L_drop) B (atoms_spec (ws := w_L_drop) B.pre _ List.mem_cons_self)
  have hx := B.exec
  have hb := B.bytes
  have hr := B.returns
  have hts := fun (w : Cond) (h : w ∈ ew_T) => atoms_spec (ws := w_L_drop) B.pre w (List.mem_cons_of_mem _ h)
  have hown : s.vm.findClass R_L = some m.cls := findClass_of_methodNamed B.named
  have hlocks := B.notSynchronized
  subst hsz
  have hD := hD0.self (sz := s.heap.size)
  generalize hAe : va_A [(d0, .inr (3, [.ref pl, .ref tp, .ref wi, .ref pg, .ref te, .ref nw, .ref nx])), (pl, .inr (1, [.ref pb, .int dn, .int wr, .int pw])), (tp, .inr (2, [.ref tb, .int ln])), (oa, .inl (cJ, 1, .inr (.inl of)))] s.heap.size = A at hD hZ ⊢
  have hA : ∀ q : Nat, s.heap.size ≤ q → A q := fun q h => by rw [← hAe]; exact Or.inr h
  have hS : va_S A s.heap s.heap [] := va_S.rf
  have hP : va_P (dC, dI) vwCl [(d0, .inr (3, [.ref pl, .ref tp, .ref wi, .ref pg, .ref te, .ref nw, .ref nx])), (pl, .inr (1, [.ref pb, .int dn, .int wr, .int pw])), (tp, .inr (2, [.ref tb, .int ln])), (oa, .inl (cJ, 1, .inr (.inl of)))] s.heap := hP
  have hl := lv_entry ([.ref d0, .ref oa]) (n := 3) (Nat.le_of_ble_eq_true rfl)
  rw [lg_entry_eq]
  generalize (lg_sl ([.ref d0, .ref oa]) ++ List.replicate (3 - (lg_sl ([.ref d0, .ref oa])).length) Slot.unset).toArray = ls at hl ⊢
  have hl : lv_has ls 3 [(0, .ref d0), (1, .ref oa)] := hl
  refine lv_aload_n hx hb d_L_drop_0 rfl (lv_at hl 1 rfl) ?_
  refine lv_iconst (v := 0) hx hb d_L_drop_1 (by decide) ?_
  refine lv_aload_n hx hb d_L_drop_2 rfl (lv_at hl 0 rfl) ?_
  refine ey_XVi (Wc := [(d0, .inr (3, [.ref pl, .ref tp, .ref wi, .ref pg, .ref te, .ref nw, .ref nx])), (pl, .inr (1, [.ref pb, .int dn, .int wr, .int pw])), (tp, .inr (2, [.ref tb, .int ln]))]) (wr := [(oa, .inl (cJ, 1, .inr (.inl of)))]) (As := []) (rest := [.int 0, .ref oa]) ⟨hx, hb, hml, hown, hts⟩ (c_ed_drop l dC dI cI cB cJ cZ hl9 d0 pl tp wi pg te nw nx pb dn wr pw tb ln) (cwV 0 hts (ew_V ew_292 ew_293 ew_294 ew_13 g_D_drop) rfl rfl rfl (by decide +kernel) ⟨Nat.le_of_ble_eq_true rfl, Nat.le_of_ble_eq_true rfl⟩) hK hG hZ hP hD hS hA [0, 1, 2] [3] rfl rfl (by decide) (by decide) (by decide) (ci := 3) (q0 := 0) rfl rfl rfl hl.1 rfl (Nat.le_of_ble_eq_true rfl) d_L_drop_3 ⟨Nat.le_of_ble_eq_true rfl, Nat.le_of_ble_eq_true rfl⟩ (fun E9 ce9 q9 H locs ht9 hP hD hS h19 h29 h39 => ?_) (fun r_1 u_2 H locs e_3 hP hD hS => ?_)
  · have hP : va_P (dC, dI) vwCl [(oa, .inl (cJ, 1, .inr (.inl of))), (d0, .inr (3, [.ref pl, .ref tp, .ref wi, .ref pg, .ref te, .ref nw, .ref nx])), (pl, .inr (1, [.ref pb, .int dn, .int wr, .int pw])), (tp, .inr (2, [.ref tb, .int ln]))] H := hP
    have hD : va_D A [(oa, .inl (cJ, 1, .inr (.inl of))), (d0, .inr (3, [.ref pl, .ref tp, .ref wi, .ref pg, .ref te, .ref nw, .ref nx])), (pl, .inr (1, [.ref pb, .int dn, .int wr, .int pw])), (tp, .inr (2, [.ref tb, .int ln]))] := hD
    rcases ht9 with ⟨rfl, hk9⟩ | ⟨rfl, hk9⟩
    · exact absurd hk9 (ep_kdown_n1 dn)
    · refine vx_catch (own := R_L) (name := "java/lang/IllegalStateException") hown [] ⟨0, 8, 11, 15⟩ [] htab (fun z hz => absurd hz List.not_mem_nil) (by decide) (by decide) (hts _ ew_185) (va_Nw.use rfl hG.2.2.2.1) h19 h29 h39 ?_
      refine lv_astore_n (lv' := [(2, .ref q9), (0, .ref d0), (1, .ref oa)]) hx hb d_L_drop_11 rfl hl (by decide) rfl (fun ls hl => ?_)
      refine lv_iconst (v := 1) hx hb d_L_drop_12 (by decide) ?_
      exact ey_iret (W1 := fun (u : Int32 × (Nat → Int64)) => [(d0, .inr (3, [.ref pl, .ref tp, .ref wi, .ref pg, .ref te, .ref nw, .ref nx])), (pl, .inr (1, [.ref pb, .int dn, .int wr, .int pw])), (tp, .inr (2, [.ref tb, .int u.1])), (oa, .inl (cJ, 1, .inr (.inl u.2)))]) hx hb hr hlocks hP hD hS (ln, of) [1, 2, 3, 0] rfl (by decide) (Or.inr (Or.inr ⟨hk9, rfl, rfl⟩)) d_L_drop_13 (Nat.le_of_ble_eq_true rfl) (Nat.le_of_ble_eq_true rfl)
  · have hP : va_P (dC, dI) vwCl [(oa, .inl (cJ, 1, .inr (.inl of))), (d0, .inr (3, [.ref pl, .ref tp, .ref wi, .ref pg, .ref te, .ref nw, .ref nx])), (pl, .inr (1, [.ref pb, .int dn, .int wr, .int pw])), (tp, .inr (2, [.ref tb, .int 0]))] H := hP
    have hD : va_D A [(oa, .inl (cJ, 1, .inr (.inl of))), (d0, .inr (3, [.ref pl, .ref tp, .ref wi, .ref pg, .ref te, .ref nw, .ref nx])), (pl, .inr (1, [.ref pb, .int dn, .int wr, .int pw])), (tp, .inr (2, [.ref tb, .int 0]))] := hD
    refine lv_i2l (v := r_1.toInt64) hx hb d_L_drop_6 rfl ?_
    refine va_last hx hb hK hP hD hS 0 2 rfl rfl ey_in0 d_L_drop_7 (fun H locs hP hD hS => ?_)
    have hP : va_P (dC, dI) vwCl [(oa, .inl (cJ, 1, .inr (.inl (vp_updL of (0 : Int32).toNatClampNeg r_1.toInt64)))), (d0, .inr (3, [.ref pl, .ref tp, .ref wi, .ref pg, .ref te, .ref nw, .ref nx])), (pl, .inr (1, [.ref pb, .int dn, .int wr, .int pw])), (tp, .inr (2, [.ref tb, .int 0]))] H := hP
    have hD : va_D A [(oa, .inl (cJ, 1, .inr (.inl (vp_updL of (0 : Int32).toNatClampNeg r_1.toInt64)))), (d0, .inr (3, [.ref pl, .ref tp, .ref wi, .ref pg, .ref te, .ref nw, .ref nx])), (pl, .inr (1, [.ref pb, .int dn, .int wr, .int pw])), (tp, .inr (2, [.ref tb, .int 0]))] := hD
    refine lv_goto (tgt := 14) hx hb d_L_drop_8 (by decide) ?_
    refine lv_iconst (v := 0) hx hb d_L_drop_14 (by decide) ?_
    exact ey_iret (W1 := fun (u : Int32 × (Nat → Int64)) => [(d0, .inr (3, [.ref pl, .ref tp, .ref wi, .ref pg, .ref te, .ref nw, .ref nx])), (pl, .inr (1, [.ref pb, .int dn, .int wr, .int pw])), (tp, .inr (2, [.ref tb, .int u.1])), (oa, .inl (cJ, 1, .inr (.inl u.2)))]) hx hb hr hlocks hP hD hS (0, vp_updL of (0 : Int32).toNatClampNeg r_1.toInt64) [1, 2, 3, 0] rfl (by decide) (Or.inl ⟨e_3.1, rfl, r_1, ⟨e_3.2, rfl⟩, rfl⟩) d_L_drop_15 (Nat.le_of_ble_eq_true rfl) (Nat.le_of_ble_eq_true rfl)
set_option maxHeartbeats 4000000 in
set_option maxRecDepth 100000 in
theorem c_h_wish (l : Launch) (dC : Nat → ClassId) (dI : Nat → Nat → Nat) (cI cB cJ cZ : ClassId) (hl9 : l.stackTraces = false) (d0 pl tp wi pg te nw nx : Nat) (pb : Nat) (dn wr pw : Int32) (wf : ep_F) (x y : Int32) (oa : Nat) (of : Nat → Int64) : ey_Hn l y_L_wish w_L_wish { frames := 8, cells := 1, slots := 6, locals := 200 } (dC, dI) vwCl (ey_kt cI cB cJ cZ) [.ref d0, .int x, .int y, .ref oa] [(d0, .inr (3, [.ref pl, .ref tp, .ref wi, .ref pg, .ref te, .ref nw, .ref nx])), (pl, .inr (1, [.ref pb, .int dn, .int wr, .int pw])), (wi, .inl (cI, 24, .inl wf)), (oa, .inl (cJ, 1, .inr (.inl of)))] (fun (r : Int32) (u : ep_F × (Nat → Int64)) => (ep_knote dn x = 0 ∧ r = 0 ∧ ∃ a9 : Int32, (a9 = wf x.toNatClampNeg ∧ u.1 = upd wf x.toNatClampNeg y) ∧ u.2 = vp_updL of (0 : Int32).toNatClampNeg a9.toInt64) ∨ (ep_knote dn x = 1 ∧ r = 1 ∧ u = (wf, of)) ∨ (ep_knote dn x = 2 ∧ r = 2 ∧ u = (wf, of))) (fun (u : ep_F × (Nat → Int64)) => [(d0, .inr (3, [.ref pl, .ref tp, .ref wi, .ref pg, .ref te, .ref nw, .ref nx])), (pl, .inr (1, [.ref pb, .int dn, .int wr, .int pw])), (wi, .inl (cI, 24, .inl u.1)), (oa, .inl (cJ, 1, .inr (.inl u.2)))]) 1 6 := by
  intro sz
  refine va_MetW (cc := b_L_wish) (maxL := 5) (ret := (some .int)) (hh := [(0, 10, 13, 13), (0, 10, 17, 15)]) (by decide) rfl ?_
  intro p e s m args below meth c s₁ B hml hv
  obtain ⟨rfl, hN, hZ, hsz, hP, hK, hG, hD0⟩ := hv
  have htab := vx_table (x := y_L_wish) B (atoms_spec (ws := w_L_wish) B.pre _ List.mem_cons_self)
  have hx := B.exec
  have hb := B.bytes
  have hr := B.returns
  have hts := fun (w : Cond) (h : w ∈ ew_T) => atoms_spec (ws := w_L_wish) B.pre w (List.mem_cons_of_mem _ h)
  have hown : s.vm.findClass R_L = some m.cls := findClass_of_methodNamed B.named
  have hlocks := B.notSynchronized
  subst hsz
  have hD := hD0.self (sz := s.heap.size)
  generalize hAe : va_A [(d0, .inr (3, [.ref pl, .ref tp, .ref wi, .ref pg, .ref te, .ref nw, .ref nx])), (pl, .inr (1, [.ref pb, .int dn, .int wr, .int pw])), (wi, .inl (cI, 24, .inl wf)), (oa, .inl (cJ, 1, .inr (.inl of)))] s.heap.size = A at hD hZ ⊢
  have hA : ∀ q : Nat, s.heap.size ≤ q → A q := fun q h => by rw [← hAe]; exact Or.inr h
  have hS : va_S A s.heap s.heap [] := va_S.rf
  have hP : va_P (dC, dI) vwCl [(d0, .inr (3, [.ref pl, .ref tp, .ref wi, .ref pg, .ref te, .ref nw, .ref nx])), (pl, .inr (1, [.ref pb, .int dn, .int wr, .int pw])), (wi, .inl (cI, 24, .inl wf)), (oa, .inl (cJ, 1, .inr (.inl of)))] s.heap := hP
  have hl := lv_entry ([.ref d0, .int x, .int y, .ref oa]) (n := 5) (Nat.le_of_ble_eq_true rfl)
  rw [lg_entry_eq]
  generalize (lg_sl ([.ref d0, .int x, .int y, .ref oa]) ++ List.replicate (5 - (lg_sl ([.ref d0, .int x, .int y, .ref oa])).length) Slot.unset).toArray = ls at hl ⊢
  have hl : lv_has ls 5 [(0, .ref d0), (1, .int x), (2, .int y), (3, .ref oa)] := hl
  refine lv_aload_n hx hb d_L_wish_0 rfl (lv_at hl 3 rfl) ?_
  refine lv_iconst (v := 0) hx hb d_L_wish_1 (by decide) ?_
  refine lv_aload_n hx hb d_L_wish_2 rfl (lv_at hl 0 rfl) ?_
  refine lv_iload_n hx hb d_L_wish_3 rfl (lv_at hl 1 rfl) ?_
  refine lv_iload_n hx hb d_L_wish_4 rfl (lv_at hl 2 rfl) ?_
  refine ey_XVi (Wc := [(d0, .inr (3, [.ref pl, .ref tp, .ref wi, .ref pg, .ref te, .ref nw, .ref nx])), (pl, .inr (1, [.ref pb, .int dn, .int wr, .int pw])), (wi, .inl (cI, 24, .inl wf))]) (wr := [(oa, .inl (cJ, 1, .inr (.inl of)))]) (As := [.int x, .int y]) (rest := [.int 0, .ref oa]) ⟨hx, hb, hml, hown, hts⟩ (c_ed_wish l dC dI cI cB cJ cZ hl9 d0 pl tp wi pg te nw nx pb dn wr pw wf x y) (cwV 2 hts (ew_V ew_300 ew_301 ew_302 ew_13 g_D_wish) rfl rfl rfl (by decide +kernel) ⟨Nat.le_of_ble_eq_true rfl, Nat.le_of_ble_eq_true rfl⟩) hK hG hZ hP hD hS hA [0, 1, 2] [3] rfl rfl (by decide) (by decide) (by decide) (ci := 3) (q0 := 0) rfl rfl rfl hl.1 rfl (Nat.le_of_ble_eq_true rfl) d_L_wish_5 ⟨Nat.le_of_ble_eq_true rfl, Nat.le_of_ble_eq_true rfl⟩ (fun E9 ce9 q9 H locs ht9 hP hD hS h19 h29 h39 => ?_) (fun r_1 u_2 H locs e_3 hP hD hS => ?_)
  · have hP : va_P (dC, dI) vwCl [(oa, .inl (cJ, 1, .inr (.inl of))), (d0, .inr (3, [.ref pl, .ref tp, .ref wi, .ref pg, .ref te, .ref nw, .ref nx])), (pl, .inr (1, [.ref pb, .int dn, .int wr, .int pw])), (wi, .inl (cI, 24, .inl wf))] H := hP
    have hD : va_D A [(oa, .inl (cJ, 1, .inr (.inl of))), (d0, .inr (3, [.ref pl, .ref tp, .ref wi, .ref pg, .ref te, .ref nw, .ref nx])), (pl, .inr (1, [.ref pb, .int dn, .int wr, .int pw])), (wi, .inl (cI, 24, .inl wf))] := hD
    rcases ht9 with ⟨rfl, hk9⟩ | ⟨rfl, hk9⟩
    · refine vx_catch (own := R_L) (name := "java/lang/IllegalArgumentException") hown [] ⟨0, 10, 13, 13⟩ [⟨0, 10, 17, 15⟩] htab (fun z hz => absurd hz List.not_mem_nil) (by decide) (by decide) (hts _ ew_184) (va_Nw.use rfl hG.2.2.1) h19 h29 h39 ?_
      refine lv_astore (lv' := [(4, .ref q9), (0, .ref d0), (1, .int x), (2, .int y), (3, .ref oa)]) hx hb d_L_wish_13 hl (by decide) rfl (fun ls hl => ?_)
      refine lv_iconst (v := 1) hx hb d_L_wish_15 (by decide) ?_
      exact ey_iret (W1 := fun (u : ep_F × (Nat → Int64)) => [(d0, .inr (3, [.ref pl, .ref tp, .ref wi, .ref pg, .ref te, .ref nw, .ref nx])), (pl, .inr (1, [.ref pb, .int dn, .int wr, .int pw])), (wi, .inl (cI, 24, .inl u.1)), (oa, .inl (cJ, 1, .inr (.inl u.2)))]) hx hb hr hlocks hP hD hS (wf, of) [1, 2, 3, 0] rfl (by decide) (Or.inr (Or.inl ⟨hk9, rfl, rfl⟩)) d_L_wish_16 (Nat.le_of_ble_eq_true rfl) (Nat.le_of_ble_eq_true rfl)
    · refine vx_catch (own := R_L) (name := "java/lang/IllegalStateException") hown [⟨0, 10, 13, 13⟩] ⟨0, 10, 17, 15⟩ [] htab (fun z hz => by rw [List.mem_singleton.mp hz]; exact Or.inr ⟨by decide, "java/lang/IllegalArgumentException", hts _ ew_184, hN⟩) (by decide) (by decide) (hts _ ew_185) (va_Nw.use rfl hG.2.2.2.1) h19 h29 h39 ?_
      refine lv_astore (lv' := [(4, .ref q9), (0, .ref d0), (1, .int x), (2, .int y), (3, .ref oa)]) hx hb d_L_wish_17 hl (by decide) rfl (fun ls hl => ?_)
      refine lv_iconst (v := 2) hx hb d_L_wish_19 (by decide) ?_
      exact ey_iret (W1 := fun (u : ep_F × (Nat → Int64)) => [(d0, .inr (3, [.ref pl, .ref tp, .ref wi, .ref pg, .ref te, .ref nw, .ref nx])), (pl, .inr (1, [.ref pb, .int dn, .int wr, .int pw])), (wi, .inl (cI, 24, .inl u.1)), (oa, .inl (cJ, 1, .inr (.inl u.2)))]) hx hb hr hlocks hP hD hS (wf, of) [1, 2, 3, 0] rfl (by decide) (Or.inr (Or.inr ⟨hk9, rfl, rfl⟩)) d_L_wish_20 (Nat.le_of_ble_eq_true rfl) (Nat.le_of_ble_eq_true rfl)
  · have hP : va_P (dC, dI) vwCl [(oa, .inl (cJ, 1, .inr (.inl of))), (d0, .inr (3, [.ref pl, .ref tp, .ref wi, .ref pg, .ref te, .ref nw, .ref nx])), (pl, .inr (1, [.ref pb, .int dn, .int wr, .int pw])), (wi, .inl (cI, 24, .inl u_2))] H := hP
    have hD : va_D A [(oa, .inl (cJ, 1, .inr (.inl of))), (d0, .inr (3, [.ref pl, .ref tp, .ref wi, .ref pg, .ref te, .ref nw, .ref nx])), (pl, .inr (1, [.ref pb, .int dn, .int wr, .int pw])), (wi, .inl (cI, 24, .inl u_2))] := hD
    refine lv_i2l (v := r_1.toInt64) hx hb d_L_wish_8 rfl ?_
    refine va_last hx hb hK hP hD hS 0 2 rfl rfl ey_in0 d_L_wish_9 (fun H locs hP hD hS => ?_)
    have hP : va_P (dC, dI) vwCl [(oa, .inl (cJ, 1, .inr (.inl (vp_updL of (0 : Int32).toNatClampNeg r_1.toInt64)))), (d0, .inr (3, [.ref pl, .ref tp, .ref wi, .ref pg, .ref te, .ref nw, .ref nx])), (pl, .inr (1, [.ref pb, .int dn, .int wr, .int pw])), (wi, .inl (cI, 24, .inl u_2))] H := hP
    have hD : va_D A [(oa, .inl (cJ, 1, .inr (.inl (vp_updL of (0 : Int32).toNatClampNeg r_1.toInt64)))), (d0, .inr (3, [.ref pl, .ref tp, .ref wi, .ref pg, .ref te, .ref nw, .ref nx])), (pl, .inr (1, [.ref pb, .int dn, .int wr, .int pw])), (wi, .inl (cI, 24, .inl u_2))] := hD
    refine lv_goto (tgt := 21) hx hb d_L_wish_10 (by decide) ?_
    refine lv_iconst (v := 0) hx hb d_L_wish_21 (by decide) ?_
    exact ey_iret (W1 := fun (u : ep_F × (Nat → Int64)) => [(d0, .inr (3, [.ref pl, .ref tp, .ref wi, .ref pg, .ref te, .ref nw, .ref nx])), (pl, .inr (1, [.ref pb, .int dn, .int wr, .int pw])), (wi, .inl (cI, 24, .inl u.1)), (oa, .inl (cJ, 1, .inr (.inl u.2)))]) hx hb hr hlocks hP hD hS (u_2, vp_updL of (0 : Int32).toNatClampNeg r_1.toInt64) [1, 2, 3, 0] rfl (by decide) (Or.inl ⟨e_3.1, rfl, r_1, e_3.2, rfl⟩) d_L_wish_22 (Nat.le_of_ble_eq_true rfl) (Nat.le_of_ble_eq_true rfl)
set_option maxHeartbeats 4000000 in
set_option maxRecDepth 100000 in
theorem c_h_note (l : Launch) (dC : Nat → ClassId) (dI : Nat → Nat → Nat) (cI cB cJ cZ : ClassId) (hl9 : l.stackTraces = false) (d0 pl tp wi pg te nw nx : Nat) (pb : Nat) (dn wr pw : Int32) (n1 n2 n3 n4 : Nat) (ex ch : Int32) (no : ep_F) (x : Int32) (oa : Nat) (of : Nat → Int64) : ey_Hn l y_L_note w_L_note { frames := 8, cells := 1, slots := 6, locals := 200 } (dC, dI) vwCl (ey_kt cI cB cJ cZ) [.ref d0, .int x, .ref oa] [(d0, .inr (3, [.ref pl, .ref tp, .ref wi, .ref pg, .ref te, .ref nw, .ref nx])), (pl, .inr (1, [.ref pb, .int dn, .int wr, .int pw])), (nw, .inr (0, [.ref n1, .ref n2, .ref n3, .ref n4, .int ex, .int ch])), (n4, .inl (cI, 24, .inl no)), (oa, .inl (cJ, 1, .inr (.inl of)))] (fun (r : Int32) (u : Unit × (Nat → Int64)) => (ep_knote dn x = 0 ∧ r = 0 ∧ ∃ a9 : Int32, (a9 = no x.toNatClampNeg) ∧ u.2 = vp_updL of (0 : Int32).toNatClampNeg a9.toInt64) ∨ (ep_knote dn x = 1 ∧ r = 1 ∧ u = ((), of)) ∨ (ep_knote dn x = 2 ∧ r = 2 ∧ u = ((), of))) (fun (u : Unit × (Nat → Int64)) => [(d0, .inr (3, [.ref pl, .ref tp, .ref wi, .ref pg, .ref te, .ref nw, .ref nx])), (pl, .inr (1, [.ref pb, .int dn, .int wr, .int pw])), (nw, .inr (0, [.ref n1, .ref n2, .ref n3, .ref n4, .int ex, .int ch])), (n4, .inl (cI, 24, .inl no)), (oa, .inl (cJ, 1, .inr (.inl u.2)))]) 1 6 := by
  intro sz
  refine va_MetW (cc := b_L_note) (maxL := 4) (ret := (some .int)) (hh := [(0, 9, 12, 13), (0, 9, 15, 15)]) (by decide) rfl ?_
  intro p e s m args below meth c s₁ B hml hv
  obtain ⟨rfl, hN, hZ, hsz, hP, hK, hG, hD0⟩ := hv
  have htab := vx_table (x := y_L_note) B (atoms_spec (ws := w_L_note) B.pre _ List.mem_cons_self)
  have hx := B.exec
  have hb := B.bytes
  have hr := B.returns
  have hts := fun (w : Cond) (h : w ∈ ew_T) => atoms_spec (ws := w_L_note) B.pre w (List.mem_cons_of_mem _ h)
  have hown : s.vm.findClass R_L = some m.cls := findClass_of_methodNamed B.named
  have hlocks := B.notSynchronized
  subst hsz
  have hD := hD0.self (sz := s.heap.size)
  generalize hAe : va_A [(d0, .inr (3, [.ref pl, .ref tp, .ref wi, .ref pg, .ref te, .ref nw, .ref nx])), (pl, .inr (1, [.ref pb, .int dn, .int wr, .int pw])), (nw, .inr (0, [.ref n1, .ref n2, .ref n3, .ref n4, .int ex, .int ch])), (n4, .inl (cI, 24, .inl no)), (oa, .inl (cJ, 1, .inr (.inl of)))] s.heap.size = A at hD hZ ⊢
  have hA : ∀ q : Nat, s.heap.size ≤ q → A q := fun q h => by rw [← hAe]; exact Or.inr h
  have hS : va_S A s.heap s.heap [] := va_S.rf
  have hP : va_P (dC, dI) vwCl [(d0, .inr (3, [.ref pl, .ref tp, .ref wi, .ref pg, .ref te, .ref nw, .ref nx])), (pl, .inr (1, [.ref pb, .int dn, .int wr, .int pw])), (nw, .inr (0, [.ref n1, .ref n2, .ref n3, .ref n4, .int ex, .int ch])), (n4, .inl (cI, 24, .inl no)), (oa, .inl (cJ, 1, .inr (.inl of)))] s.heap := hP
  have hl := lv_entry ([.ref d0, .int x, .ref oa]) (n := 4) (Nat.le_of_ble_eq_true rfl)
  rw [lg_entry_eq]
  generalize (lg_sl ([.ref d0, .int x, .ref oa]) ++ List.replicate (4 - (lg_sl ([.ref d0, .int x, .ref oa])).length) Slot.unset).toArray = ls at hl ⊢
  have hl : lv_has ls 4 [(0, .ref d0), (1, .int x), (2, .ref oa)] := hl
  refine lv_aload_n hx hb d_L_note_0 rfl (lv_at hl 2 rfl) ?_
  refine lv_iconst (v := 0) hx hb d_L_note_1 (by decide) ?_
  refine lv_aload_n hx hb d_L_note_2 rfl (lv_at hl 0 rfl) ?_
  refine lv_iload_n hx hb d_L_note_3 rfl (lv_at hl 1 rfl) ?_
  refine ey_XVi (Wc := [(d0, .inr (3, [.ref pl, .ref tp, .ref wi, .ref pg, .ref te, .ref nw, .ref nx])), (pl, .inr (1, [.ref pb, .int dn, .int wr, .int pw])), (nw, .inr (0, [.ref n1, .ref n2, .ref n3, .ref n4, .int ex, .int ch])), (n4, .inl (cI, 24, .inl no))]) (wr := [(oa, .inl (cJ, 1, .inr (.inl of)))]) (As := [.int x]) (rest := [.int 0, .ref oa]) ⟨hx, hb, hml, hown, hts⟩ (c_ed_note l dC dI cI cB cJ cZ hl9 d0 pl tp wi pg te nw nx pb dn wr pw n1 n2 n3 n4 ex ch no x) (cwV 1 hts (ew_V ew_308 ew_309 ew_310 ew_13 g_D_note) rfl rfl rfl (by decide +kernel) ⟨Nat.le_of_ble_eq_true rfl, Nat.le_of_ble_eq_true rfl⟩) hK hG hZ hP hD hS hA [0, 1, 2, 3] [4] rfl rfl (by decide) (by decide) (by decide) (ci := 3) (q0 := 0) rfl rfl rfl hl.1 rfl (Nat.le_of_ble_eq_true rfl) d_L_note_4 ⟨Nat.le_of_ble_eq_true rfl, Nat.le_of_ble_eq_true rfl⟩ (fun E9 ce9 q9 H locs ht9 hP hD hS h19 h29 h39 => ?_) (fun r_1 u_2 H locs e_3 hP hD hS => ?_)
  · have hP : va_P (dC, dI) vwCl [(oa, .inl (cJ, 1, .inr (.inl of))), (d0, .inr (3, [.ref pl, .ref tp, .ref wi, .ref pg, .ref te, .ref nw, .ref nx])), (pl, .inr (1, [.ref pb, .int dn, .int wr, .int pw])), (nw, .inr (0, [.ref n1, .ref n2, .ref n3, .ref n4, .int ex, .int ch])), (n4, .inl (cI, 24, .inl no))] H := hP
    have hD : va_D A [(oa, .inl (cJ, 1, .inr (.inl of))), (d0, .inr (3, [.ref pl, .ref tp, .ref wi, .ref pg, .ref te, .ref nw, .ref nx])), (pl, .inr (1, [.ref pb, .int dn, .int wr, .int pw])), (nw, .inr (0, [.ref n1, .ref n2, .ref n3, .ref n4, .int ex, .int ch])), (n4, .inl (cI, 24, .inl no))] := hD
    rcases ht9 with ⟨rfl, hk9⟩ | ⟨rfl, hk9⟩
    · refine vx_catch (own := R_L) (name := "java/lang/IllegalArgumentException") hown [] ⟨0, 9, 12, 13⟩ [⟨0, 9, 15, 15⟩] htab (fun z hz => absurd hz List.not_mem_nil) (by decide) (by decide) (hts _ ew_184) (va_Nw.use rfl hG.2.2.1) h19 h29 h39 ?_
      refine lv_astore_n (lv' := [(3, .ref q9), (0, .ref d0), (1, .int x), (2, .ref oa)]) hx hb d_L_note_12 rfl hl (by decide) rfl (fun ls hl => ?_)
      refine lv_iconst (v := 1) hx hb d_L_note_13 (by decide) ?_
      exact ey_iret (W1 := fun (u : Unit × (Nat → Int64)) => [(d0, .inr (3, [.ref pl, .ref tp, .ref wi, .ref pg, .ref te, .ref nw, .ref nx])), (pl, .inr (1, [.ref pb, .int dn, .int wr, .int pw])), (nw, .inr (0, [.ref n1, .ref n2, .ref n3, .ref n4, .int ex, .int ch])), (n4, .inl (cI, 24, .inl no)), (oa, .inl (cJ, 1, .inr (.inl u.2)))]) hx hb hr hlocks hP hD hS ((), of) [1, 2, 3, 4, 0] rfl (by decide) (Or.inr (Or.inl ⟨hk9, rfl, rfl⟩)) d_L_note_14 (Nat.le_of_ble_eq_true rfl) (Nat.le_of_ble_eq_true rfl)
    · refine vx_catch (own := R_L) (name := "java/lang/IllegalStateException") hown [⟨0, 9, 12, 13⟩] ⟨0, 9, 15, 15⟩ [] htab (fun z hz => by rw [List.mem_singleton.mp hz]; exact Or.inr ⟨by decide, "java/lang/IllegalArgumentException", hts _ ew_184, hN⟩) (by decide) (by decide) (hts _ ew_185) (va_Nw.use rfl hG.2.2.2.1) h19 h29 h39 ?_
      refine lv_astore_n (lv' := [(3, .ref q9), (0, .ref d0), (1, .int x), (2, .ref oa)]) hx hb d_L_note_15 rfl hl (by decide) rfl (fun ls hl => ?_)
      refine lv_iconst (v := 2) hx hb d_L_note_16 (by decide) ?_
      exact ey_iret (W1 := fun (u : Unit × (Nat → Int64)) => [(d0, .inr (3, [.ref pl, .ref tp, .ref wi, .ref pg, .ref te, .ref nw, .ref nx])), (pl, .inr (1, [.ref pb, .int dn, .int wr, .int pw])), (nw, .inr (0, [.ref n1, .ref n2, .ref n3, .ref n4, .int ex, .int ch])), (n4, .inl (cI, 24, .inl no)), (oa, .inl (cJ, 1, .inr (.inl u.2)))]) hx hb hr hlocks hP hD hS ((), of) [1, 2, 3, 4, 0] rfl (by decide) (Or.inr (Or.inr ⟨hk9, rfl, rfl⟩)) d_L_note_17 (Nat.le_of_ble_eq_true rfl) (Nat.le_of_ble_eq_true rfl)
  · have hP : va_P (dC, dI) vwCl [(oa, .inl (cJ, 1, .inr (.inl of))), (d0, .inr (3, [.ref pl, .ref tp, .ref wi, .ref pg, .ref te, .ref nw, .ref nx])), (pl, .inr (1, [.ref pb, .int dn, .int wr, .int pw])), (nw, .inr (0, [.ref n1, .ref n2, .ref n3, .ref n4, .int ex, .int ch])), (n4, .inl (cI, 24, .inl no))] H := hP
    have hD : va_D A [(oa, .inl (cJ, 1, .inr (.inl of))), (d0, .inr (3, [.ref pl, .ref tp, .ref wi, .ref pg, .ref te, .ref nw, .ref nx])), (pl, .inr (1, [.ref pb, .int dn, .int wr, .int pw])), (nw, .inr (0, [.ref n1, .ref n2, .ref n3, .ref n4, .int ex, .int ch])), (n4, .inl (cI, 24, .inl no))] := hD
    refine lv_i2l (v := r_1.toInt64) hx hb d_L_note_7 rfl ?_
    refine va_last hx hb hK hP hD hS 0 2 rfl rfl ey_in0 d_L_note_8 (fun H locs hP hD hS => ?_)
    have hP : va_P (dC, dI) vwCl [(oa, .inl (cJ, 1, .inr (.inl (vp_updL of (0 : Int32).toNatClampNeg r_1.toInt64)))), (d0, .inr (3, [.ref pl, .ref tp, .ref wi, .ref pg, .ref te, .ref nw, .ref nx])), (pl, .inr (1, [.ref pb, .int dn, .int wr, .int pw])), (nw, .inr (0, [.ref n1, .ref n2, .ref n3, .ref n4, .int ex, .int ch])), (n4, .inl (cI, 24, .inl no))] H := hP
    have hD : va_D A [(oa, .inl (cJ, 1, .inr (.inl (vp_updL of (0 : Int32).toNatClampNeg r_1.toInt64)))), (d0, .inr (3, [.ref pl, .ref tp, .ref wi, .ref pg, .ref te, .ref nw, .ref nx])), (pl, .inr (1, [.ref pb, .int dn, .int wr, .int pw])), (nw, .inr (0, [.ref n1, .ref n2, .ref n3, .ref n4, .int ex, .int ch])), (n4, .inl (cI, 24, .inl no))] := hD
    refine lv_goto (tgt := 18) hx hb d_L_note_9 (by decide) ?_
    refine lv_iconst (v := 0) hx hb d_L_note_18 (by decide) ?_
    exact ey_iret (W1 := fun (u : Unit × (Nat → Int64)) => [(d0, .inr (3, [.ref pl, .ref tp, .ref wi, .ref pg, .ref te, .ref nw, .ref nx])), (pl, .inr (1, [.ref pb, .int dn, .int wr, .int pw])), (nw, .inr (0, [.ref n1, .ref n2, .ref n3, .ref n4, .int ex, .int ch])), (n4, .inl (cI, 24, .inl no)), (oa, .inl (cJ, 1, .inr (.inl u.2)))]) hx hb hr hlocks hP hD hS ((), vp_updL of (0 : Int32).toNatClampNeg r_1.toInt64) [1, 2, 3, 4, 0] rfl (by decide) (Or.inl ⟨e_3.1, rfl, r_1, e_3.2, rfl⟩) d_L_note_19 (Nat.le_of_ble_eq_true rfl) (Nat.le_of_ble_eq_true rfl)
set_option maxHeartbeats 4000000 in
set_option maxRecDepth 100000 in
theorem c_h_extent (l : Launch) (dC : Nat → ClassId) (dI : Nat → Nat → Nat) (cI cB cJ cZ : ClassId) (hl9 : l.stackTraces = false) (d0 pl tp wi pg te nw nx : Nat) (n1 n2 n3 n4 : Nat) (ex ch : Int32) (la fi si : ep_F) (x y : Int32) (oa : Nat) (of : Nat → Int64) : ey_Hn l y_L_extent w_L_extent { frames := 8, cells := 1, slots := 6, locals := 200 } (dC, dI) vwCl (ey_kt cI cB cJ cZ) [.ref d0, .int x, .int y, .ref oa] [(d0, .inr (3, [.ref pl, .ref tp, .ref wi, .ref pg, .ref te, .ref nw, .ref nx])), (nw, .inr (0, [.ref n1, .ref n2, .ref n3, .ref n4, .int ex, .int ch])), (n1, .inl (cI, 200, .inl la)), (n2, .inl (cI, 200, .inl fi)), (n3, .inl (cI, 200, .inl si)), (oa, .inl (cJ, 1, .inr (.inl of)))] (fun (r : Int32) (u : Unit × (Nat → Int64)) => (ep_kext ex x y = 0 ∧ r = 0 ∧ ∃ a9 : Int32, (a9 = ep_ext la fi si x y) ∧ u.2 = vp_updL of (0 : Int32).toNatClampNeg a9.toInt64) ∨ (ep_kext ex x y = 1 ∧ r = 1 ∧ u = ((), of)) ∨ (ep_kext ex x y = 2 ∧ r = 2 ∧ u = ((), of))) (fun (u : Unit × (Nat → Int64)) => [(d0, .inr (3, [.ref pl, .ref tp, .ref wi, .ref pg, .ref te, .ref nw, .ref nx])), (nw, .inr (0, [.ref n1, .ref n2, .ref n3, .ref n4, .int ex, .int ch])), (n1, .inl (cI, 200, .inl la)), (n2, .inl (cI, 200, .inl fi)), (n3, .inl (cI, 200, .inl si)), (oa, .inl (cJ, 1, .inr (.inl u.2)))]) 1 6 := by
  intro sz
  refine va_MetW (cc := b_L_extent) (maxL := 5) (ret := (some .int)) (hh := [(0, 10, 13, 13)]) (by decide) rfl ?_
  intro p e s m args below meth c s₁ B hml hv
  obtain ⟨rfl, hN, hZ, hsz, hP, hK, hG, hD0⟩ := hv
  have htab := vx_table (x := y_L_extent) B (atoms_spec (ws := w_L_extent) B.pre _ List.mem_cons_self)
  have hx := B.exec
  have hb := B.bytes
  have hr := B.returns
  have hts := fun (w : Cond) (h : w ∈ ew_T) => atoms_spec (ws := w_L_extent) B.pre w (List.mem_cons_of_mem _ h)
  have hown : s.vm.findClass R_L = some m.cls := findClass_of_methodNamed B.named
  have hlocks := B.notSynchronized
  subst hsz
  have hD := hD0.self (sz := s.heap.size)
  generalize hAe : va_A [(d0, .inr (3, [.ref pl, .ref tp, .ref wi, .ref pg, .ref te, .ref nw, .ref nx])), (nw, .inr (0, [.ref n1, .ref n2, .ref n3, .ref n4, .int ex, .int ch])), (n1, .inl (cI, 200, .inl la)), (n2, .inl (cI, 200, .inl fi)), (n3, .inl (cI, 200, .inl si)), (oa, .inl (cJ, 1, .inr (.inl of)))] s.heap.size = A at hD hZ ⊢
  have hA : ∀ q : Nat, s.heap.size ≤ q → A q := fun q h => by rw [← hAe]; exact Or.inr h
  have hS : va_S A s.heap s.heap [] := va_S.rf
  have hP : va_P (dC, dI) vwCl [(d0, .inr (3, [.ref pl, .ref tp, .ref wi, .ref pg, .ref te, .ref nw, .ref nx])), (nw, .inr (0, [.ref n1, .ref n2, .ref n3, .ref n4, .int ex, .int ch])), (n1, .inl (cI, 200, .inl la)), (n2, .inl (cI, 200, .inl fi)), (n3, .inl (cI, 200, .inl si)), (oa, .inl (cJ, 1, .inr (.inl of)))] s.heap := hP
  have hl := lv_entry ([.ref d0, .int x, .int y, .ref oa]) (n := 5) (Nat.le_of_ble_eq_true rfl)
  rw [lg_entry_eq]
  generalize (lg_sl ([.ref d0, .int x, .int y, .ref oa]) ++ List.replicate (5 - (lg_sl ([.ref d0, .int x, .int y, .ref oa])).length) Slot.unset).toArray = ls at hl ⊢
  have hl : lv_has ls 5 [(0, .ref d0), (1, .int x), (2, .int y), (3, .ref oa)] := hl
  refine lv_aload_n hx hb d_L_extent_0 rfl (lv_at hl 3 rfl) ?_
  refine lv_iconst (v := 0) hx hb d_L_extent_1 (by decide) ?_
  refine lv_aload_n hx hb d_L_extent_2 rfl (lv_at hl 0 rfl) ?_
  refine lv_iload_n hx hb d_L_extent_3 rfl (lv_at hl 1 rfl) ?_
  refine lv_iload_n hx hb d_L_extent_4 rfl (lv_at hl 2 rfl) ?_
  refine ey_XVi (Wc := [(d0, .inr (3, [.ref pl, .ref tp, .ref wi, .ref pg, .ref te, .ref nw, .ref nx])), (nw, .inr (0, [.ref n1, .ref n2, .ref n3, .ref n4, .int ex, .int ch])), (n1, .inl (cI, 200, .inl la)), (n2, .inl (cI, 200, .inl fi)), (n3, .inl (cI, 200, .inl si))]) (wr := [(oa, .inl (cJ, 1, .inr (.inl of)))]) (As := [.int x, .int y]) (rest := [.int 0, .ref oa]) ⟨hx, hb, hml, hown, hts⟩ (c_ed_extent l dC dI cI cB cJ cZ hl9 d0 pl tp wi pg te nw nx n1 n2 n3 n4 ex ch la fi si x y) (cwV 2 hts (ew_V ew_367 ew_368 ew_369 ew_13 g_D_extent) rfl rfl rfl (by decide +kernel) ⟨Nat.le_of_ble_eq_true rfl, Nat.le_of_ble_eq_true rfl⟩) hK hG hZ hP hD hS hA [0, 1, 2, 3, 4] [5] rfl rfl (by decide) (by decide) (by decide) (ci := 3) (q0 := 0) rfl rfl rfl hl.1 rfl (Nat.le_of_ble_eq_true rfl) d_L_extent_5 ⟨Nat.le_of_ble_eq_true rfl, Nat.le_of_ble_eq_true rfl⟩ (fun E9 ce9 q9 H locs ht9 hP hD hS h19 h29 h39 => ?_) (fun r_1 u_2 H locs e_3 hP hD hS => ?_)
  · have hP : va_P (dC, dI) vwCl [(oa, .inl (cJ, 1, .inr (.inl of))), (d0, .inr (3, [.ref pl, .ref tp, .ref wi, .ref pg, .ref te, .ref nw, .ref nx])), (nw, .inr (0, [.ref n1, .ref n2, .ref n3, .ref n4, .int ex, .int ch])), (n1, .inl (cI, 200, .inl la)), (n2, .inl (cI, 200, .inl fi)), (n3, .inl (cI, 200, .inl si))] H := hP
    have hD : va_D A [(oa, .inl (cJ, 1, .inr (.inl of))), (d0, .inr (3, [.ref pl, .ref tp, .ref wi, .ref pg, .ref te, .ref nw, .ref nx])), (nw, .inr (0, [.ref n1, .ref n2, .ref n3, .ref n4, .int ex, .int ch])), (n1, .inl (cI, 200, .inl la)), (n2, .inl (cI, 200, .inl fi)), (n3, .inl (cI, 200, .inl si))] := hD
    rcases ht9 with ⟨rfl, hk9⟩ | ⟨rfl, hk9⟩
    · refine vx_catch (own := R_L) (name := "java/lang/IllegalArgumentException") hown [] ⟨0, 10, 13, 13⟩ [] htab (fun z hz => absurd hz List.not_mem_nil) (by decide) (by decide) (hts _ ew_184) (va_Nw.use rfl hG.2.2.1) h19 h29 h39 ?_
      refine lv_astore (lv' := [(4, .ref q9), (0, .ref d0), (1, .int x), (2, .int y), (3, .ref oa)]) hx hb d_L_extent_13 hl (by decide) rfl (fun ls hl => ?_)
      refine lv_iconst (v := 1) hx hb d_L_extent_15 (by decide) ?_
      exact ey_iret (W1 := fun (u : Unit × (Nat → Int64)) => [(d0, .inr (3, [.ref pl, .ref tp, .ref wi, .ref pg, .ref te, .ref nw, .ref nx])), (nw, .inr (0, [.ref n1, .ref n2, .ref n3, .ref n4, .int ex, .int ch])), (n1, .inl (cI, 200, .inl la)), (n2, .inl (cI, 200, .inl fi)), (n3, .inl (cI, 200, .inl si)), (oa, .inl (cJ, 1, .inr (.inl u.2)))]) hx hb hr hlocks hP hD hS ((), of) [1, 2, 3, 4, 5, 0] rfl (by decide) (Or.inr (Or.inl ⟨hk9, rfl, rfl⟩)) d_L_extent_16 (Nat.le_of_ble_eq_true rfl) (Nat.le_of_ble_eq_true rfl)
    · exact absurd hk9 (ep_kext_n2 ex x y)
  · have hP : va_P (dC, dI) vwCl [(oa, .inl (cJ, 1, .inr (.inl of))), (d0, .inr (3, [.ref pl, .ref tp, .ref wi, .ref pg, .ref te, .ref nw, .ref nx])), (nw, .inr (0, [.ref n1, .ref n2, .ref n3, .ref n4, .int ex, .int ch])), (n1, .inl (cI, 200, .inl la)), (n2, .inl (cI, 200, .inl fi)), (n3, .inl (cI, 200, .inl si))] H := hP
    have hD : va_D A [(oa, .inl (cJ, 1, .inr (.inl of))), (d0, .inr (3, [.ref pl, .ref tp, .ref wi, .ref pg, .ref te, .ref nw, .ref nx])), (nw, .inr (0, [.ref n1, .ref n2, .ref n3, .ref n4, .int ex, .int ch])), (n1, .inl (cI, 200, .inl la)), (n2, .inl (cI, 200, .inl fi)), (n3, .inl (cI, 200, .inl si))] := hD
    refine lv_i2l (v := r_1.toInt64) hx hb d_L_extent_8 rfl ?_
    refine va_last hx hb hK hP hD hS 0 2 rfl rfl ey_in0 d_L_extent_9 (fun H locs hP hD hS => ?_)
    have hP : va_P (dC, dI) vwCl [(oa, .inl (cJ, 1, .inr (.inl (vp_updL of (0 : Int32).toNatClampNeg r_1.toInt64)))), (d0, .inr (3, [.ref pl, .ref tp, .ref wi, .ref pg, .ref te, .ref nw, .ref nx])), (nw, .inr (0, [.ref n1, .ref n2, .ref n3, .ref n4, .int ex, .int ch])), (n1, .inl (cI, 200, .inl la)), (n2, .inl (cI, 200, .inl fi)), (n3, .inl (cI, 200, .inl si))] H := hP
    have hD : va_D A [(oa, .inl (cJ, 1, .inr (.inl (vp_updL of (0 : Int32).toNatClampNeg r_1.toInt64)))), (d0, .inr (3, [.ref pl, .ref tp, .ref wi, .ref pg, .ref te, .ref nw, .ref nx])), (nw, .inr (0, [.ref n1, .ref n2, .ref n3, .ref n4, .int ex, .int ch])), (n1, .inl (cI, 200, .inl la)), (n2, .inl (cI, 200, .inl fi)), (n3, .inl (cI, 200, .inl si))] := hD
    refine lv_goto (tgt := 17) hx hb d_L_extent_10 (by decide) ?_
    refine lv_iconst (v := 0) hx hb d_L_extent_17 (by decide) ?_
    exact ey_iret (W1 := fun (u : Unit × (Nat → Int64)) => [(d0, .inr (3, [.ref pl, .ref tp, .ref wi, .ref pg, .ref te, .ref nw, .ref nx])), (nw, .inr (0, [.ref n1, .ref n2, .ref n3, .ref n4, .int ex, .int ch])), (n1, .inl (cI, 200, .inl la)), (n2, .inl (cI, 200, .inl fi)), (n3, .inl (cI, 200, .inl si)), (oa, .inl (cJ, 1, .inr (.inl u.2)))]) hx hb hr hlocks hP hD hS ((), vp_updL of (0 : Int32).toNatClampNeg r_1.toInt64) [1, 2, 3, 4, 5, 0] rfl (by decide) (Or.inl ⟨e_3.1, rfl, r_1, e_3.2, rfl⟩) d_L_extent_18 (Nat.le_of_ble_eq_true rfl) (Nat.le_of_ble_eq_true rfl)
set_option maxHeartbeats 4000000 in
set_option maxRecDepth 100000 in
theorem c_h_byteAt (l : Launch) (dC : Nat → ClassId) (dI : Nat → Nat → Nat) (cI cB cJ cZ : ClassId) (hl9 : l.stackTraces = false) (d0 pl tp wi pg te nw nx : Nat) (pb : Nat) (dn wr pw : Int32) (nb : Nat) (pf : ep_F) (n1 n2 n3 n4 : Nat) (ex ch : Int32) (fi si : ep_F) (x y : Int32) (oa : Nat) (of : Nat → Int64) (hnb : nb < 2 ^ 30) : ey_Hn l y_L_byteAt w_L_byteAt { frames := 8, cells := 1, slots := 6, locals := 200 } (dC, dI) vwCl (ey_kt cI cB cJ cZ) [.ref d0, .int x, .int y, .ref oa] [(d0, .inr (3, [.ref pl, .ref tp, .ref wi, .ref pg, .ref te, .ref nw, .ref nx])), (pl, .inr (1, [.ref pb, .int dn, .int wr, .int pw])), (pb, .inl (cB, nb, .inl pf)), (nw, .inr (0, [.ref n1, .ref n2, .ref n3, .ref n4, .int ex, .int ch])), (n2, .inl (cI, 200, .inl fi)), (n3, .inl (cI, 200, .inl si)), (oa, .inl (cJ, 1, .inr (.inl of)))] (fun (r : Int32) (u : Unit × (Nat → Int64)) => (ep_kbyte ex x y (si x.toNatClampNeg) = 0 ∧ r = 0 ∧ ∃ a9 : Int32, (a9 = ep_read nb pf (fi x.toNatClampNeg * 4096 + y)) ∧ u.2 = vp_updL of (0 : Int32).toNatClampNeg a9.toInt64) ∨ (ep_kbyte ex x y (si x.toNatClampNeg) = 1 ∧ r = 1 ∧ u = ((), of)) ∨ (ep_kbyte ex x y (si x.toNatClampNeg) = 2 ∧ r = 2 ∧ u = ((), of))) (fun (u : Unit × (Nat → Int64)) => [(d0, .inr (3, [.ref pl, .ref tp, .ref wi, .ref pg, .ref te, .ref nw, .ref nx])), (pl, .inr (1, [.ref pb, .int dn, .int wr, .int pw])), (pb, .inl (cB, nb, .inl pf)), (nw, .inr (0, [.ref n1, .ref n2, .ref n3, .ref n4, .int ex, .int ch])), (n2, .inl (cI, 200, .inl fi)), (n3, .inl (cI, 200, .inl si)), (oa, .inl (cJ, 1, .inr (.inl u.2)))]) 1 6 := by
  intro sz
  refine va_MetW (cc := b_L_byteAt) (maxL := 5) (ret := (some .int)) (hh := [(0, 10, 13, 13)]) (by decide) rfl ?_
  intro p e s m args below meth c s₁ B hml hv
  obtain ⟨rfl, hN, hZ, hsz, hP, hK, hG, hD0⟩ := hv
  have htab := vx_table (x := y_L_byteAt) B (atoms_spec (ws := w_L_byteAt) B.pre _ List.mem_cons_self)
  have hx := B.exec
  have hb := B.bytes
  have hr := B.returns
  have hts := fun (w : Cond) (h : w ∈ ew_T) => atoms_spec (ws := w_L_byteAt) B.pre w (List.mem_cons_of_mem _ h)
  have hown : s.vm.findClass R_L = some m.cls := findClass_of_methodNamed B.named
  have hlocks := B.notSynchronized
  subst hsz
  have hD := hD0.self (sz := s.heap.size)
  generalize hAe : va_A [(d0, .inr (3, [.ref pl, .ref tp, .ref wi, .ref pg, .ref te, .ref nw, .ref nx])), (pl, .inr (1, [.ref pb, .int dn, .int wr, .int pw])), (pb, .inl (cB, nb, .inl pf)), (nw, .inr (0, [.ref n1, .ref n2, .ref n3, .ref n4, .int ex, .int ch])), (n2, .inl (cI, 200, .inl fi)), (n3, .inl (cI, 200, .inl si)), (oa, .inl (cJ, 1, .inr (.inl of)))] s.heap.size = A at hD hZ ⊢
  have hA : ∀ q : Nat, s.heap.size ≤ q → A q := fun q h => by rw [← hAe]; exact Or.inr h
  have hS : va_S A s.heap s.heap [] := va_S.rf
  have hP : va_P (dC, dI) vwCl [(d0, .inr (3, [.ref pl, .ref tp, .ref wi, .ref pg, .ref te, .ref nw, .ref nx])), (pl, .inr (1, [.ref pb, .int dn, .int wr, .int pw])), (pb, .inl (cB, nb, .inl pf)), (nw, .inr (0, [.ref n1, .ref n2, .ref n3, .ref n4, .int ex, .int ch])), (n2, .inl (cI, 200, .inl fi)), (n3, .inl (cI, 200, .inl si)), (oa, .inl (cJ, 1, .inr (.inl of)))] s.heap := hP
  have hl := lv_entry ([.ref d0, .int x, .int y, .ref oa]) (n := 5) (Nat.le_of_ble_eq_true rfl)
  rw [lg_entry_eq]
  generalize (lg_sl ([.ref d0, .int x, .int y, .ref oa]) ++ List.replicate (5 - (lg_sl ([.ref d0, .int x, .int y, .ref oa])).length) Slot.unset).toArray = ls at hl ⊢
  have hl : lv_has ls 5 [(0, .ref d0), (1, .int x), (2, .int y), (3, .ref oa)] := hl
  refine lv_aload_n hx hb d_L_byteAt_0 rfl (lv_at hl 3 rfl) ?_
  refine lv_iconst (v := 0) hx hb d_L_byteAt_1 (by decide) ?_
  refine lv_aload_n hx hb d_L_byteAt_2 rfl (lv_at hl 0 rfl) ?_
  refine lv_iload_n hx hb d_L_byteAt_3 rfl (lv_at hl 1 rfl) ?_
  refine lv_iload_n hx hb d_L_byteAt_4 rfl (lv_at hl 2 rfl) ?_
  refine ey_XVi (Wc := [(d0, .inr (3, [.ref pl, .ref tp, .ref wi, .ref pg, .ref te, .ref nw, .ref nx])), (pl, .inr (1, [.ref pb, .int dn, .int wr, .int pw])), (pb, .inl (cB, nb, .inl pf)), (nw, .inr (0, [.ref n1, .ref n2, .ref n3, .ref n4, .int ex, .int ch])), (n2, .inl (cI, 200, .inl fi)), (n3, .inl (cI, 200, .inl si))]) (wr := [(oa, .inl (cJ, 1, .inr (.inl of)))]) (As := [.int x, .int y]) (rest := [.int 0, .ref oa]) ⟨hx, hb, hml, hown, hts⟩ (c_ed_byte l dC dI cI cB cJ cZ hl9 d0 pl tp wi pg te nw nx pb dn wr pw nb pf n1 n2 n3 n4 ex ch fi si x y hnb) (cwV 2 hts (ew_V ew_380 ew_381 ew_382 ew_13 g_D_byteAt) rfl rfl rfl (by decide +kernel) ⟨Nat.le_of_ble_eq_true rfl, Nat.le_of_ble_eq_true rfl⟩) hK hG hZ hP hD hS hA [0, 1, 2, 3, 4, 5] [6] rfl rfl (by decide) (by decide) (by decide) (ci := 3) (q0 := 0) rfl rfl rfl hl.1 rfl (Nat.le_of_ble_eq_true rfl) d_L_byteAt_5 ⟨Nat.le_of_ble_eq_true rfl, Nat.le_of_ble_eq_true rfl⟩ (fun E9 ce9 q9 H locs ht9 hP hD hS h19 h29 h39 => ?_) (fun r_1 u_2 H locs e_3 hP hD hS => ?_)
  · have hP : va_P (dC, dI) vwCl [(oa, .inl (cJ, 1, .inr (.inl of))), (d0, .inr (3, [.ref pl, .ref tp, .ref wi, .ref pg, .ref te, .ref nw, .ref nx])), (pl, .inr (1, [.ref pb, .int dn, .int wr, .int pw])), (pb, .inl (cB, nb, .inl pf)), (nw, .inr (0, [.ref n1, .ref n2, .ref n3, .ref n4, .int ex, .int ch])), (n2, .inl (cI, 200, .inl fi)), (n3, .inl (cI, 200, .inl si))] H := hP
    have hD : va_D A [(oa, .inl (cJ, 1, .inr (.inl of))), (d0, .inr (3, [.ref pl, .ref tp, .ref wi, .ref pg, .ref te, .ref nw, .ref nx])), (pl, .inr (1, [.ref pb, .int dn, .int wr, .int pw])), (pb, .inl (cB, nb, .inl pf)), (nw, .inr (0, [.ref n1, .ref n2, .ref n3, .ref n4, .int ex, .int ch])), (n2, .inl (cI, 200, .inl fi)), (n3, .inl (cI, 200, .inl si))] := hD
    rcases ht9 with ⟨rfl, hk9⟩ | ⟨rfl, hk9⟩
    · refine vx_catch (own := R_L) (name := "java/lang/IllegalArgumentException") hown [] ⟨0, 10, 13, 13⟩ [] htab (fun z hz => absurd hz List.not_mem_nil) (by decide) (by decide) (hts _ ew_184) (va_Nw.use rfl hG.2.2.1) h19 h29 h39 ?_
      refine lv_astore (lv' := [(4, .ref q9), (0, .ref d0), (1, .int x), (2, .int y), (3, .ref oa)]) hx hb d_L_byteAt_13 hl (by decide) rfl (fun ls hl => ?_)
      refine lv_iconst (v := 1) hx hb d_L_byteAt_15 (by decide) ?_
      exact ey_iret (W1 := fun (u : Unit × (Nat → Int64)) => [(d0, .inr (3, [.ref pl, .ref tp, .ref wi, .ref pg, .ref te, .ref nw, .ref nx])), (pl, .inr (1, [.ref pb, .int dn, .int wr, .int pw])), (pb, .inl (cB, nb, .inl pf)), (nw, .inr (0, [.ref n1, .ref n2, .ref n3, .ref n4, .int ex, .int ch])), (n2, .inl (cI, 200, .inl fi)), (n3, .inl (cI, 200, .inl si)), (oa, .inl (cJ, 1, .inr (.inl u.2)))]) hx hb hr hlocks hP hD hS ((), of) [1, 2, 3, 4, 5, 6, 0] rfl (by decide) (Or.inr (Or.inl ⟨hk9, rfl, rfl⟩)) d_L_byteAt_16 (Nat.le_of_ble_eq_true rfl) (Nat.le_of_ble_eq_true rfl)
    · exact absurd hk9 (ep_kbyte_n2 ex x y (si x.toNatClampNeg))
  · have hP : va_P (dC, dI) vwCl [(oa, .inl (cJ, 1, .inr (.inl of))), (d0, .inr (3, [.ref pl, .ref tp, .ref wi, .ref pg, .ref te, .ref nw, .ref nx])), (pl, .inr (1, [.ref pb, .int dn, .int wr, .int pw])), (pb, .inl (cB, nb, .inl pf)), (nw, .inr (0, [.ref n1, .ref n2, .ref n3, .ref n4, .int ex, .int ch])), (n2, .inl (cI, 200, .inl fi)), (n3, .inl (cI, 200, .inl si))] H := hP
    have hD : va_D A [(oa, .inl (cJ, 1, .inr (.inl of))), (d0, .inr (3, [.ref pl, .ref tp, .ref wi, .ref pg, .ref te, .ref nw, .ref nx])), (pl, .inr (1, [.ref pb, .int dn, .int wr, .int pw])), (pb, .inl (cB, nb, .inl pf)), (nw, .inr (0, [.ref n1, .ref n2, .ref n3, .ref n4, .int ex, .int ch])), (n2, .inl (cI, 200, .inl fi)), (n3, .inl (cI, 200, .inl si))] := hD
    refine lv_i2l (v := r_1.toInt64) hx hb d_L_byteAt_8 rfl ?_
    refine va_last hx hb hK hP hD hS 0 2 rfl rfl ey_in0 d_L_byteAt_9 (fun H locs hP hD hS => ?_)
    have hP : va_P (dC, dI) vwCl [(oa, .inl (cJ, 1, .inr (.inl (vp_updL of (0 : Int32).toNatClampNeg r_1.toInt64)))), (d0, .inr (3, [.ref pl, .ref tp, .ref wi, .ref pg, .ref te, .ref nw, .ref nx])), (pl, .inr (1, [.ref pb, .int dn, .int wr, .int pw])), (pb, .inl (cB, nb, .inl pf)), (nw, .inr (0, [.ref n1, .ref n2, .ref n3, .ref n4, .int ex, .int ch])), (n2, .inl (cI, 200, .inl fi)), (n3, .inl (cI, 200, .inl si))] H := hP
    have hD : va_D A [(oa, .inl (cJ, 1, .inr (.inl (vp_updL of (0 : Int32).toNatClampNeg r_1.toInt64)))), (d0, .inr (3, [.ref pl, .ref tp, .ref wi, .ref pg, .ref te, .ref nw, .ref nx])), (pl, .inr (1, [.ref pb, .int dn, .int wr, .int pw])), (pb, .inl (cB, nb, .inl pf)), (nw, .inr (0, [.ref n1, .ref n2, .ref n3, .ref n4, .int ex, .int ch])), (n2, .inl (cI, 200, .inl fi)), (n3, .inl (cI, 200, .inl si))] := hD
    refine lv_goto (tgt := 17) hx hb d_L_byteAt_10 (by decide) ?_
    refine lv_iconst (v := 0) hx hb d_L_byteAt_17 (by decide) ?_
    exact ey_iret (W1 := fun (u : Unit × (Nat → Int64)) => [(d0, .inr (3, [.ref pl, .ref tp, .ref wi, .ref pg, .ref te, .ref nw, .ref nx])), (pl, .inr (1, [.ref pb, .int dn, .int wr, .int pw])), (pb, .inl (cB, nb, .inl pf)), (nw, .inr (0, [.ref n1, .ref n2, .ref n3, .ref n4, .int ex, .int ch])), (n2, .inl (cI, 200, .inl fi)), (n3, .inl (cI, 200, .inl si)), (oa, .inl (cJ, 1, .inr (.inl u.2)))]) hx hb hr hlocks hP hD hS ((), vp_updL of (0 : Int32).toNatClampNeg r_1.toInt64) [1, 2, 3, 4, 5, 6, 0] rfl (by decide) (Or.inl ⟨e_3.1, rfl, r_1, e_3.2, rfl⟩) d_L_byteAt_18 (Nat.le_of_ble_eq_true rfl) (Nat.le_of_ble_eq_true rfl)
