set_option maxHeartbeats 4000000 in
set_option maxRecDepth 100000 in
theorem c_ed_count (l : Launch) (dC : Nat → ClassId) (dI : Nat → Nat → Nat) (cI cB cJ cZ : ClassId) (hl9 : l.stackTraces = false) (d0 pl tp wi pg te nw nx : Nat) (pb : Nat) (dn wr pw : Int32) (tb : Nat) (ln : Int32) (n1 n2 n3 n4 : Nat) (ex ch : Int32) (fi si : ep_F) (n : Nat) (t0 : ep_F) (x : Int32) (hn : n < 2 ^ 30) (hn2 : 2 ≤ n) : ey_Xi l y_D_count w_D_count { frames := 6, cells := 1, slots := 6, locals := 90 } (dC, dI) vwCl (ey_kt cI cB cJ cZ) [.ref d0, .int x] [(d0, .inr (3, [.ref pl, .ref tp, .ref wi, .ref pg, .ref te, .ref nw, .ref nx])), (pl, .inr (1, [.ref pb, .int dn, .int wr, .int pw])), (tp, .inr (2, [.ref tb, .int ln])), (nw, .inr (0, [.ref n1, .ref n2, .ref n3, .ref n4, .int ex, .int ch])), (n2, .inl (cI, 200, .inl fi)), (n3, .inl (cI, 200, .inl si)), (te, .inl (cI, n, .inl t0))] (fun (r : Int32) (u : ep_F) => ep_kcount dn x = 0 ∧ (r, u) = ep_count x ex ch ln fi si n t0) (fun (u : ep_F) => [(d0, .inr (3, [.ref pl, .ref tp, .ref wi, .ref pg, .ref te, .ref nw, .ref nx])), (pl, .inr (1, [.ref pb, .int dn, .int wr, .int pw])), (tp, .inr (2, [.ref tb, .int ln])), (nw, .inr (0, [.ref n1, .ref n2, .ref n3, .ref n4, .int ex, .int ch])), (n2, .inl (cI, 200, .inl fi)), (n3, .inl (cI, 200, .inl si)), (te, .inl (cI, n, .inl u))]) (fun E => (E = "java/lang/IllegalArgumentException" ∧ ep_kcount dn x = 1) ∨ (E = "java/lang/IllegalStateException" ∧ ep_kcount dn x = 2)) 1 6 := by
  intro sz
  refine vx_ofW (cc := b_D_count) (maxL := 2) (ret := (some .int)) (by decide) rfl ?_
  intro p e s m args below meth c s₁ B hml hno hv
  obtain ⟨rfl, hZ, hsz, hP, hK, hG, hD0⟩ := hv
  have hx := B.exec
  have hb := B.bytes
  have hr := B.returns
  have hts := fun (w : Cond) (h : w ∈ ew_T) => atoms_spec (ws := w_D_count) B.pre w (List.mem_cons_of_mem _ h)
  have hown : s.vm.findClass R_D = some m.cls := findClass_of_methodNamed B.named
  have hlocks := B.notSynchronized
  subst hsz
  have hD := hD0.self (sz := s.heap.size)
  generalize hAe : va_A [(d0, .inr (3, [.ref pl, .ref tp, .ref wi, .ref pg, .ref te, .ref nw, .ref nx])), (pl, .inr (1, [.ref pb, .int dn, .int wr, .int pw])), (tp, .inr (2, [.ref tb, .int ln])), (nw, .inr (0, [.ref n1, .ref n2, .ref n3, .ref n4, .int ex, .int ch])), (n2, .inl (cI, 200, .inl fi)), (n3, .inl (cI, 200, .inl si)), (te, .inl (cI, n, .inl t0))] s.heap.size = A at hD hZ ⊢
  have hA : ∀ q : Nat, s.heap.size ≤ q → A q := fun q h => by rw [← hAe]; exact Or.inr h
  have hS : va_S A s.heap s.heap [] := va_S.rf
  have hP : va_P (dC, dI) vwCl [(d0, .inr (3, [.ref pl, .ref tp, .ref wi, .ref pg, .ref te, .ref nw, .ref nx])), (pl, .inr (1, [.ref pb, .int dn, .int wr, .int pw])), (tp, .inr (2, [.ref tb, .int ln])), (nw, .inr (0, [.ref n1, .ref n2, .ref n3, .ref n4, .int ex, .int ch])), (n2, .inl (cI, 200, .inl fi)), (n3, .inl (cI, 200, .inl si)), (te, .inl (cI, n, .inl t0))] s.heap := hP
  have hl := lv_entry ([.ref d0, .int x]) (n := 2) (Nat.le_of_ble_eq_true rfl)
  rw [lg_entry_eq]
  generalize (lg_sl ([.ref d0, .int x]) ++ List.replicate (2 - (lg_sl ([.ref d0, .int x])).length) Slot.unset).toArray = ls at hl ⊢
  have hl : lv_has ls 2 [(0, .ref d0), (1, .int x)] := hl
  refine lv_iload_n hx hb d_D_count_0 rfl (lv_at hl 1 rfl) ?_
  refine lv_if_lt (tgt := 9) hx hb d_D_count_1 (by decide) (fun c_1 => ?_) (fun c_1 => ?_)
  · have hP9 : va_P (dC, dI) vwCl [(d0, .inr (3, [.ref pl, .ref tp, .ref wi, .ref pg, .ref te, .ref nw, .ref nx])), (pl, .inr (1, [.ref pb, .int dn, .int wr, .int pw])), (tp, .inr (2, [.ref tb, .int ln])), (nw, .inr (0, [.ref n1, .ref n2, .ref n3, .ref n4, .int ex, .int ch])), (n2, .inl (cI, 200, .inl fi)), (n3, .inl (cI, 200, .inl si)), (te, .inl (cI, n, .inl t0))] _ := ey_P (is := [0, 1, 2, 3, 4, 5, 6]) hP rfl
    have hD9 : va_D A [(d0, .inr (3, [.ref pl, .ref tp, .ref wi, .ref pg, .ref te, .ref nw, .ref nx])), (pl, .inr (1, [.ref pb, .int dn, .int wr, .int pw])), (tp, .inr (2, [.ref tb, .int ln])), (nw, .inr (0, [.ref n1, .ref n2, .ref n3, .ref n4, .int ex, .int ch])), (n2, .inl (cI, 200, .inl fi)), (n3, .inl (cI, 200, .inl si)), (te, .inl (cI, n, .inl t0))] := hD.sub [0, 1, 2, 3, 4, 5, 6] (by decide) rfl
    obtain ⟨sa9, hstr9⟩ := ex_str (k := 129) (t := "what is not 0 .. 3") hG (by decide +kernel)
    exact vx_throwS (names := ["java/lang/RuntimeException", "java/lang/Exception"]) hx hb hl9 hown (by decide +kernel) (by decide +kernel) (hts _ ew_190) (hts _ ew_22) hstr9 (ex_hatA hG hts) ex_goodA hZ.1 hZ.2 hS (by rw [hml]; exact hl.1) d_D_count_9 d_D_count_12 d_D_count_13 d_D_count_15 d_D_count_18 (fun x h9 => (hno x h9).elim) (Nat.le_of_ble_eq_true rfl) (Nat.le_of_ble_eq_true rfl) (Nat.le_of_ble_eq_true rfl) (Nat.le_of_ble_eq_true rfl) hlocks (fun t _ hz hk => ⟨(), trivial, ⟨Or.inl ⟨rfl, by simp only [ep_kcount, ↓reduceIte, not_true_eq_false, not_false_eq_true, c_1]⟩, (ey_keptX hP9 hD9 hS hz hk).1⟩, (ey_keptX hP9 hD9 hS hz hk).2⟩) hS.2.2 (Nat.le_of_ble_eq_true rfl) (Nat.le_of_ble_eq_true rfl)
  · refine lv_iload_n hx hb d_D_count_4 rfl (lv_at hl 1 rfl) ?_
    refine lv_iconst (v := 3) hx hb d_D_count_5 (by decide) ?_
    refine lv_icmp_le (tgt := 19) hx hb d_D_count_6 (by decide) (fun c_6 => ?_) (fun c_6 => ?_)
    · refine lv_aload_n hx hb d_D_count_19 rfl (lv_at hl 0 rfl) ?_
      refine va_get (D := (dC, dI)) (ci := 3) (v := .ref pl) (C := R_D) (T := T_D) (N := 7) hx hb hts in_D hown hK hP 0 rfl rfl 0 (by decide) (hts _ ew_109) (fun _ h9 => h9) rfl d_D_count_20 ?_
      refine va_get (D := (dC, dI)) (ci := 1) (v := .int dn) (C := R_P) (T := T_P) (N := 4) hx hb hts in_P hown hK hP 1 rfl rfl 1 (by decide) (hts _ ew_48) (fun _ h9 => h9) rfl d_D_count_23 ?_
      refine lv_if_eq (tgt := 39) hx hb d_D_count_26 (by decide) (fun c_26 => ?_) (fun c_26 => ?_)
      · refine lv_iload_n hx hb d_D_count_39 rfl (lv_at hl 1 rfl) ?_
        by_cases s_40_0 : x = 0
        · refine lv_tableIn (off := 28) (tgt := 68) hx hb d_D_count_40 (by rw [s_40_0]; decide) (by rw [s_40_0]; decide) (by rw [s_40_0]; decide) (by decide) ?_
          refine lv_aload_n hx hb d_D_count_68 rfl (lv_at hl 0 rfl) ?_
          refine va_get (D := (dC, dI)) (ci := 3) (v := .ref nw) (C := R_D) (T := T_D) (N := 7) hx hb hts in_D hown hK hP 0 rfl rfl 5 (by decide) (hts _ ew_114) (fun _ h9 => h9) rfl d_D_count_69 ?_
          refine va_get (D := (dC, dI)) (ci := 0) (v := .int ex) (C := R_M) (T := T_M) (N := 6) hx hb hts in_M hown hK hP 3 rfl rfl 4 (by decide) (hts _ ew_92) (fun _ h9 => h9) rfl d_D_count_72 ?_
          refine vx_ret ?_
          exact ey_iret (W1 := fun (u : ep_F) => [(d0, .inr (3, [.ref pl, .ref tp, .ref wi, .ref pg, .ref te, .ref nw, .ref nx])), (pl, .inr (1, [.ref pb, .int dn, .int wr, .int pw])), (tp, .inr (2, [.ref tb, .int ln])), (nw, .inr (0, [.ref n1, .ref n2, .ref n3, .ref n4, .int ex, .int ch])), (n2, .inl (cI, 200, .inl fi)), (n3, .inl (cI, 200, .inl si)), (te, .inl (cI, n, .inl u))]) hx hb hr hlocks hP hD hS t0 [0, 1, 2, 3, 4, 5, 6] rfl (by decide) (⟨by simp only [ep_kcount, ↓reduceIte, not_true_eq_false, not_false_eq_true, c_1, c_6, c_26], by rw [ep_count, if_pos s_40_0]⟩) d_D_count_75 (Nat.le_of_ble_eq_true rfl) (Nat.le_of_ble_eq_true rfl)
        by_cases s_40_1 : x = 1
        · refine lv_tableIn (off := 36) (tgt := 76) hx hb d_D_count_40 (by rw [s_40_1]; decide) (by rw [s_40_1]; decide) (by rw [s_40_1]; decide) (by decide) ?_
          refine lv_aload_n hx hb d_D_count_76 rfl (lv_at hl 0 rfl) ?_
          refine ey_Vi (Wc := [(d0, .inr (3, [.ref pl, .ref tp, .ref wi, .ref pg, .ref te, .ref nw, .ref nx])), (nw, .inr (0, [.ref n1, .ref n2, .ref n3, .ref n4, .int ex, .int ch])), (n2, .inl (cI, 200, .inl fi)), (n3, .inl (cI, 200, .inl si)), (te, .inl (cI, n, .inl t0))]) (wr := [(pl, .inr (1, [.ref pb, .int dn, .int wr, .int pw])), (tp, .inr (2, [.ref tb, .int ln]))]) (As := []) (rest := []) ⟨hx, hb, hml, hown, hts⟩ (c_ed_free l dC dI cI cB cJ cZ d0 pl tp wi pg te nw nx n1 n2 n3 n4 ex ch fi si n t0 hn hn2) (cwV 0 hts (ew_V ew_401 ew_403 ew_5 ew_13 g_D_freeBlocks) rfl rfl rfl (by decide +kernel) ⟨Nat.le_of_ble_eq_true rfl, Nat.le_of_ble_eq_true rfl⟩) hK hG hP hD hS hA [0, 3, 4, 5, 6] [1, 2] rfl rfl (by decide) (by decide) (by decide) (ci := 3) (q0 := 0) rfl rfl rfl hl.1 rfl (Nat.le_of_ble_eq_true rfl) d_D_count_77 ⟨Nat.le_of_ble_eq_true rfl, Nat.le_of_ble_eq_true rfl⟩ (fun r_1 u_2 H locs e_3 hP hD hS => ?_)
          have hP : va_P (dC, dI) vwCl [(pl, .inr (1, [.ref pb, .int dn, .int wr, .int pw])), (tp, .inr (2, [.ref tb, .int ln])), (d0, .inr (3, [.ref pl, .ref tp, .ref wi, .ref pg, .ref te, .ref nw, .ref nx])), (nw, .inr (0, [.ref n1, .ref n2, .ref n3, .ref n4, .int ex, .int ch])), (n2, .inl (cI, 200, .inl fi)), (n3, .inl (cI, 200, .inl si)), (te, .inl (cI, n, .inl u_2))] H := hP
          have hD : va_D A [(pl, .inr (1, [.ref pb, .int dn, .int wr, .int pw])), (tp, .inr (2, [.ref tb, .int ln])), (d0, .inr (3, [.ref pl, .ref tp, .ref wi, .ref pg, .ref te, .ref nw, .ref nx])), (nw, .inr (0, [.ref n1, .ref n2, .ref n3, .ref n4, .int ex, .int ch])), (n2, .inl (cI, 200, .inl fi)), (n3, .inl (cI, 200, .inl si)), (te, .inl (cI, n, .inl u_2))] := hD
          obtain ⟨rfl, rfl⟩ : r_1 = (ep_free fi si ex n t0).1 ∧ u_2 = (ep_free fi si ex n t0).2 := ⟨congrArg Prod.fst e_3, congrArg Prod.snd e_3⟩
          refine vx_ret ?_
          exact ey_iret (W1 := fun (u : ep_F) => [(d0, .inr (3, [.ref pl, .ref tp, .ref wi, .ref pg, .ref te, .ref nw, .ref nx])), (pl, .inr (1, [.ref pb, .int dn, .int wr, .int pw])), (tp, .inr (2, [.ref tb, .int ln])), (nw, .inr (0, [.ref n1, .ref n2, .ref n3, .ref n4, .int ex, .int ch])), (n2, .inl (cI, 200, .inl fi)), (n3, .inl (cI, 200, .inl si)), (te, .inl (cI, n, .inl u))]) hx hb hr hlocks hP hD hS ((ep_free fi si ex n t0).2) [2, 0, 1, 3, 4, 5, 6] rfl (by decide) (⟨by simp only [ep_kcount, ↓reduceIte, not_true_eq_false, not_false_eq_true, c_1, c_6, c_26], by rw [ep_count, if_neg s_40_0, if_pos s_40_1]⟩) d_D_count_80 (Nat.le_of_ble_eq_true rfl) (Nat.le_of_ble_eq_true rfl)
        by_cases s_40_2 : x = 2
        · refine lv_tableIn (off := 41) (tgt := 81) hx hb d_D_count_40 (by rw [s_40_2]; decide) (by rw [s_40_2]; decide) (by rw [s_40_2]; decide) (by decide) ?_
          refine lv_aload_n hx hb d_D_count_81 rfl (lv_at hl 0 rfl) ?_
          refine va_get (D := (dC, dI)) (ci := 3) (v := .ref tp) (C := R_D) (T := T_D) (N := 7) hx hb hts in_D hown hK hP 0 rfl rfl 1 (by decide) (hts _ ew_110) (fun _ h9 => h9) rfl d_D_count_82 ?_
          refine va_get (D := (dC, dI)) (ci := 2) (v := .int ln) (C := R_Tp) (T := T_Tp) (N := 2) hx hb hts in_Tp hown hK hP 2 rfl rfl 1 (by decide) (hts _ ew_71) (fun _ h9 => h9) rfl d_D_count_85 ?_
          refine vx_ret ?_
          exact ey_iret (W1 := fun (u : ep_F) => [(d0, .inr (3, [.ref pl, .ref tp, .ref wi, .ref pg, .ref te, .ref nw, .ref nx])), (pl, .inr (1, [.ref pb, .int dn, .int wr, .int pw])), (tp, .inr (2, [.ref tb, .int ln])), (nw, .inr (0, [.ref n1, .ref n2, .ref n3, .ref n4, .int ex, .int ch])), (n2, .inl (cI, 200, .inl fi)), (n3, .inl (cI, 200, .inl si)), (te, .inl (cI, n, .inl u))]) hx hb hr hlocks hP hD hS t0 [0, 1, 2, 3, 4, 5, 6] rfl (by decide) (⟨by simp only [ep_kcount, ↓reduceIte, not_true_eq_false, not_false_eq_true, c_1, c_6, c_26], by rw [ep_count, if_neg s_40_0, if_neg s_40_1, if_pos s_40_2]⟩) d_D_count_88 (Nat.le_of_ble_eq_true rfl) (Nat.le_of_ble_eq_true rfl)
        refine lv_tableOut (tgt := 89) hx hb d_D_count_40 (by have a0 := lv_neT (a := 0) s_40_0 (by decide); have a1 := lv_neT (a := 1) s_40_1 (by decide); have a2 := lv_neT (a := 2) s_40_2 (by decide); omega) (by decide) ?_
        refine lv_aload_n hx hb d_D_count_89 rfl (lv_at hl 0 rfl) ?_
        refine va_get (D := (dC, dI)) (ci := 3) (v := .ref nw) (C := R_D) (T := T_D) (N := 7) hx hb hts in_D hown hK hP 0 rfl rfl 5 (by decide) (hts _ ew_114) (fun _ h9 => h9) rfl d_D_count_90 ?_
        refine va_get (D := (dC, dI)) (ci := 0) (v := .int ch) (C := R_M) (T := T_M) (N := 6) hx hb hts in_M hown hK hP 3 rfl rfl 5 (by decide) (hts _ ew_94) (fun _ h9 => h9) rfl d_D_count_93 ?_
        refine vx_ret ?_
        exact ey_iret (W1 := fun (u : ep_F) => [(d0, .inr (3, [.ref pl, .ref tp, .ref wi, .ref pg, .ref te, .ref nw, .ref nx])), (pl, .inr (1, [.ref pb, .int dn, .int wr, .int pw])), (tp, .inr (2, [.ref tb, .int ln])), (nw, .inr (0, [.ref n1, .ref n2, .ref n3, .ref n4, .int ex, .int ch])), (n2, .inl (cI, 200, .inl fi)), (n3, .inl (cI, 200, .inl si)), (te, .inl (cI, n, .inl u))]) hx hb hr hlocks hP hD hS t0 [0, 1, 2, 3, 4, 5, 6] rfl (by decide) (⟨by simp only [ep_kcount, ↓reduceIte, not_true_eq_false, not_false_eq_true, c_1, c_6, c_26], by rw [ep_count, if_neg s_40_0, if_neg s_40_1, if_neg s_40_2]⟩) d_D_count_96 (Nat.le_of_ble_eq_true rfl) (Nat.le_of_ble_eq_true rfl)
      · have hP9 : va_P (dC, dI) vwCl [(d0, .inr (3, [.ref pl, .ref tp, .ref wi, .ref pg, .ref te, .ref nw, .ref nx])), (pl, .inr (1, [.ref pb, .int dn, .int wr, .int pw])), (tp, .inr (2, [.ref tb, .int ln])), (nw, .inr (0, [.ref n1, .ref n2, .ref n3, .ref n4, .int ex, .int ch])), (n2, .inl (cI, 200, .inl fi)), (n3, .inl (cI, 200, .inl si)), (te, .inl (cI, n, .inl t0))] _ := ey_P (is := [0, 1, 2, 3, 4, 5, 6]) hP rfl
        have hD9 : va_D A [(d0, .inr (3, [.ref pl, .ref tp, .ref wi, .ref pg, .ref te, .ref nw, .ref nx])), (pl, .inr (1, [.ref pb, .int dn, .int wr, .int pw])), (tp, .inr (2, [.ref tb, .int ln])), (nw, .inr (0, [.ref n1, .ref n2, .ref n3, .ref n4, .int ex, .int ch])), (n2, .inl (cI, 200, .inl fi)), (n3, .inl (cI, 200, .inl si)), (te, .inl (cI, n, .inl t0))] := hD.sub [0, 1, 2, 3, 4, 5, 6] (by decide) rfl
        obtain ⟨sa9, hstr9⟩ := ex_str (k := 86) (t := "the store is down") hG (by decide +kernel)
        exact vx_throwS (names := ["java/lang/RuntimeException", "java/lang/Exception"]) hx hb hl9 hown (by decide +kernel) (by decide +kernel) (hts _ ew_260) (hts _ ew_23) hstr9 (ex_hatS hG hts) ex_goodS hZ.1 hZ.2 hS (by rw [hml]; exact hl.1) d_D_count_29 d_D_count_32 d_D_count_33 d_D_count_35 d_D_count_38 (fun x h9 => (hno x h9).elim) (Nat.le_of_ble_eq_true rfl) (Nat.le_of_ble_eq_true rfl) (Nat.le_of_ble_eq_true rfl) (Nat.le_of_ble_eq_true rfl) hlocks (fun t _ hz hk => ⟨(), trivial, ⟨Or.inr ⟨rfl, by simp only [ep_kcount, ↓reduceIte, not_true_eq_false, not_false_eq_true, c_1, c_6, c_26]⟩, (ey_keptX hP9 hD9 hS hz hk).1⟩, (ey_keptX hP9 hD9 hS hz hk).2⟩) hS.2.2 (Nat.le_of_ble_eq_true rfl) (Nat.le_of_ble_eq_true rfl)
    · have hP9 : va_P (dC, dI) vwCl [(d0, .inr (3, [.ref pl, .ref tp, .ref wi, .ref pg, .ref te, .ref nw, .ref nx])), (pl, .inr (1, [.ref pb, .int dn, .int wr, .int pw])), (tp, .inr (2, [.ref tb, .int ln])), (nw, .inr (0, [.ref n1, .ref n2, .ref n3, .ref n4, .int ex, .int ch])), (n2, .inl (cI, 200, .inl fi)), (n3, .inl (cI, 200, .inl si)), (te, .inl (cI, n, .inl t0))] _ := ey_P (is := [0, 1, 2, 3, 4, 5, 6]) hP rfl
      have hD9 : va_D A [(d0, .inr (3, [.ref pl, .ref tp, .ref wi, .ref pg, .ref te, .ref nw, .ref nx])), (pl, .inr (1, [.ref pb, .int dn, .int wr, .int pw])), (tp, .inr (2, [.ref tb, .int ln])), (nw, .inr (0, [.ref n1, .ref n2, .ref n3, .ref n4, .int ex, .int ch])), (n2, .inl (cI, 200, .inl fi)), (n3, .inl (cI, 200, .inl si)), (te, .inl (cI, n, .inl t0))] := hD.sub [0, 1, 2, 3, 4, 5, 6] (by decide) rfl
      obtain ⟨sa9, hstr9⟩ := ex_str (k := 129) (t := "what is not 0 .. 3") hG (by decide +kernel)
      exact vx_throwS (names := ["java/lang/RuntimeException", "java/lang/Exception"]) hx hb hl9 hown (by decide +kernel) (by decide +kernel) (hts _ ew_190) (hts _ ew_22) hstr9 (ex_hatA hG hts) ex_goodA hZ.1 hZ.2 hS (by rw [hml]; exact hl.1) d_D_count_9 d_D_count_12 d_D_count_13 d_D_count_15 d_D_count_18 (fun x h9 => (hno x h9).elim) (Nat.le_of_ble_eq_true rfl) (Nat.le_of_ble_eq_true rfl) (Nat.le_of_ble_eq_true rfl) (Nat.le_of_ble_eq_true rfl) hlocks (fun t _ hz hk => ⟨(), trivial, ⟨Or.inl ⟨rfl, by simp only [ep_kcount, ↓reduceIte, not_true_eq_false, not_false_eq_true, c_1, c_6]⟩, (ey_keptX hP9 hD9 hS hz hk).1⟩, (ey_keptX hP9 hD9 hS hz hk).2⟩) hS.2.2 (Nat.le_of_ble_eq_true rfl) (Nat.le_of_ble_eq_true rfl)
set_option maxHeartbeats 4000000 in
set_option maxRecDepth 100000 in
theorem c_ed_doubled_L {p : Program} {l : Launch} {e : Env} {s : State} {m : MethodId} {args : Array Value} {below : List Frame} {meth : Method} {c : Code} {dC : Nat → ClassId} {dI : Nat → Nat → Nat} {cI cB cJ cZ : ClassId} {A : Nat → Prop} {d0 pl tp wi pg te nw nx : Nat} {pb : Nat} {dn wr pw : Int32} {n1 n2 n3 n4 : Nat} {ex ch : Int32} {fi si : ep_F} {n : Nat} {t0 : ep_F} (hn : n < 2 ^ 30) (hk0 : ep_kdown dn = 0) (hK : va_K (dC, dI) vwCl (ey_kt cI cB cJ cZ) s) (hG : ex_G s) (C0 : ey_Cx p s m args meth c b_D_doubled 3 R_D ew_T (some .int) A)  :
    ∀ (fuel : Nat) (i : Nat) (a : Int32) (hi : i + fuel = n + 1) (hin : i ≤ n) (hu : ep_db n (ep_ten fi si ex n t0) fuel i a = ep_db n (ep_ten fi si ex n t0) (n + 1) 0 0), ∀ (H : Heap) (locs : List Loc), va_P (dC, dI) vwCl [(d0, .inr (3, [.ref pl, .ref tp, .ref wi, .ref pg, .ref te, .ref nw, .ref nx])), (pl, .inr (1, [.ref pb, .int dn, .int wr, .int pw])), (nw, .inr (0, [.ref n1, .ref n2, .ref n3, .ref n4, .int ex, .int ch])), (n2, .inl (cI, 200, .inl fi)), (n3, .inl (cI, 200, .inl si)), (te, .inl (cI, n, .inl (ep_ten fi si ex n t0)))] H → va_D A [(d0, .inr (3, [.ref pl, .ref tp, .ref wi, .ref pg, .ref te, .ref nw, .ref nx])), (pl, .inr (1, [.ref pb, .int dn, .int wr, .int pw])), (nw, .inr (0, [.ref n1, .ref n2, .ref n3, .ref n4, .int ex, .int ch])), (n2, .inl (cI, 200, .inl fi)), (n3, .inl (cI, 200, .inl si)), (te, .inl (cI, n, .inl (ep_ten fi si ex n t0)))] → va_S A s.heap H locs → ∀ (ls : Array Slot), lv_has ls 3 [(0, .ref d0), (1, .int a), (2, .int (nI i))] → W p l e { frames := 6, cells := 1, slots := 6, locals := 90 } s m args below meth c H locs 0 0 (vx_MQ below (va_Qi (fun (r : Int32) (u : ep_F) => ep_kdown dn = 0 ∧ (r, u) = ep_doubled fi si ex n t0) (fun u t8 => ey_Post (dC, dI) vwCl A ((fun (u : ep_F) => [(d0, .inr (3, [.ref pl, .ref tp, .ref wi, .ref pg, .ref te, .ref nw, .ref nx])), (pl, .inr (1, [.ref pb, .int dn, .int wr, .int pw])), (nw, .inr (0, [.ref n1, .ref n2, .ref n3, .ref n4, .int ex, .int ch])), (n2, .inl (cI, 200, .inl fi)), (n3, .inl (cI, 200, .inl si)), (te, .inl (cI, n, .inl u))]) u) t8) A) (vx_X (fun _ : Unit => True) (fun E _ t8 => (fun E => (E = "java/lang/IllegalArgumentException" ∧ ep_kdown dn = 1) ∨ (E = "java/lang/IllegalStateException" ∧ ep_kdown dn = 2)) E ∧ ey_Post (dC, dI) vwCl A [(d0, .inr (3, [.ref pl, .ref tp, .ref wi, .ref pg, .ref te, .ref nw, .ref nx])), (pl, .inr (1, [.ref pb, .int dn, .int wr, .int pw])), (nw, .inr (0, [.ref n1, .ref n2, .ref n3, .ref n4, .int ex, .int ch])), (n2, .inl (cI, 200, .inl fi)), (n3, .inl (cI, 200, .inl si)), (te, .inl (cI, n, .inl t0))] t8) A) args s 1 6 A) (F0 m 35 ls []) := by
  obtain ⟨hx, hb, hml, hown, hts, hr, hlocks, hA⟩ := id C0
  intro fuel
  induction fuel with
  | zero =>
    intro i a hi hin hu H locs hP hD hS ls hl
    exact absurd hi (by omega)
  | succ fuel ih =>
    intro i a hi hin hu H locs hP hD hS ls hl
    refine lv_iload_n hx hb d_D_doubled_35 rfl (lv_at hl 2 rfl) ?_
    refine lv_aload_n hx hb d_D_doubled_36 rfl (lv_at hl 0 rfl) ?_
    refine va_get (D := (dC, dI)) (ci := 3) (v := .ref te) (C := R_D) (T := T_D) (N := 7) hx hb hts in_D hown hK hP 0 rfl rfl 4 (by decide) (hts _ ew_113) (fun _ h9 => h9) rfl d_D_doubled_37 ?_
    refine va_alen hx hb hK hP 5 0 rfl rfl (v := nI n) rfl d_D_doubled_40 ?_
    refine lv_icmp_ge (tgt := 65) hx hb d_D_doubled_41 (by decide) (fun c_41 => ?_) (fun c_41 => ?_)
    · refine lv_iload_n hx hb d_D_doubled_65 rfl (lv_at hl 1 rfl) ?_
      refine vx_ret ?_
      exact ey_iret (W1 := fun (u : ep_F) => [(d0, .inr (3, [.ref pl, .ref tp, .ref wi, .ref pg, .ref te, .ref nw, .ref nx])), (pl, .inr (1, [.ref pb, .int dn, .int wr, .int pw])), (nw, .inr (0, [.ref n1, .ref n2, .ref n3, .ref n4, .int ex, .int ch])), (n2, .inl (cI, 200, .inl fi)), (n3, .inl (cI, 200, .inl si)), (te, .inl (cI, n, .inl u))]) hx hb hr hlocks hP hD hS (ep_ten fi si ex n t0) [0, 1, 2, 3, 4, 5] rfl (by decide) (⟨hk0, by rw [ep_doubled, ← hu]; simp only [ep_db, ↓reduceIte, c_41]⟩) d_D_doubled_66 (Nat.le_of_ble_eq_true rfl) (Nat.le_of_ble_eq_true rfl)
    · refine lv_iload_n hx hb d_D_doubled_44 rfl (lv_at hl 1 rfl) ?_
      refine lv_iconst (v := 0) hx hb d_D_doubled_45 (by decide) ?_
      refine lv_aload_n hx hb d_D_doubled_46 rfl (lv_at hl 0 rfl) ?_
      refine va_get (D := (dC, dI)) (ci := 3) (v := .ref te) (C := R_D) (T := T_D) (N := 7) hx hb hts in_D hown hK hP 0 rfl rfl 4 (by decide) (hts _ ew_113) (fun _ h9 => h9) rfl d_D_doubled_47 ?_
      refine lv_iload_n hx hb d_D_doubled_50 rfl (lv_at hl 2 rfl) ?_
      refine va_iald hx hb hK hP 5 0 rfl rfl (vp_in_nI (by rw [nI_leI (by omega) (by omega)] at c_41; omega) (by omega)) d_D_doubled_51 ?_
      refine lv_iconst (v := 1) hx hb d_D_doubled_52 (by decide) ?_
      refine lv_isub hx hb d_D_doubled_53 ?_
      refine va_mmax hx hb (by rw [hml]; exact hl.1.symm) hown (hts _ ew_37) (hts _ ew_38) (hts _ ew_14) (hts _ ew_39) (Nat.le_of_ble_eq_true rfl) (Nat.le_of_ble_eq_true rfl) (Nat.le_of_ble_eq_true rfl) (Nat.le_of_ble_eq_true rfl) d_D_doubled_54 ?_
      refine lv_iadd hx hb d_D_doubled_57 ?_
      refine lv_istore_n (lv' := [(1, .int (a + (if 0 < (((ep_ten fi si ex n t0) (nI i).toNatClampNeg) - 1) then (((ep_ten fi si ex n t0) (nI i).toNatClampNeg) - 1) else 0 : Int32))), (0, .ref d0), (2, .int (nI i))]) hx hb d_D_doubled_58 rfl hl (by decide) rfl (fun ls hl => ?_)
      refine lv_iinc (v := nI (i + 1)) (lv' := [(2, .int (nI (i + 1))), (1, .int (a + (if 0 < (((ep_ten fi si ex n t0) (nI i).toNatClampNeg) - 1) then (((ep_ten fi si ex n t0) (nI i).toNatClampNeg) - 1) else 0 : Int32))), (0, .ref d0)]) hx hb d_D_doubled_59 hl (k := 2) rfl (nI_1 i) (by decide) rfl (fun ls hl => ?_)
      refine lv_goto (tgt := 35) hx hb d_D_doubled_62 (by decide) ?_
      exact ih (i + 1) (a + (if 0 < (ep_ten fi si ex n t0) (nI i).toNatClampNeg - 1 then (ep_ten fi si ex n t0) (nI i).toNatClampNeg - 1 else 0)) (by omega) (by rw [nI_leI (by omega) (by omega)] at c_41; omega) (by rw [← hu]; simp only [ep_db, ↓reduceIte, c_41]) _ _ hP hD hS ls (lv_sub hl [2, 1, 0] rfl)
set_option maxHeartbeats 4000000 in
set_option maxRecDepth 100000 in
theorem c_ed_doubled (l : Launch) (dC : Nat → ClassId) (dI : Nat → Nat → Nat) (cI cB cJ cZ : ClassId) (hl9 : l.stackTraces = false) (d0 pl tp wi pg te nw nx : Nat) (pb : Nat) (dn wr pw : Int32) (n1 n2 n3 n4 : Nat) (ex ch : Int32) (fi si : ep_F) (n : Nat) (t0 : ep_F) (hn : n < 2 ^ 30) : ey_Xi l y_D_doubled w_D_doubled { frames := 6, cells := 1, slots := 6, locals := 90 } (dC, dI) vwCl (ey_kt cI cB cJ cZ) [.ref d0] [(d0, .inr (3, [.ref pl, .ref tp, .ref wi, .ref pg, .ref te, .ref nw, .ref nx])), (pl, .inr (1, [.ref pb, .int dn, .int wr, .int pw])), (nw, .inr (0, [.ref n1, .ref n2, .ref n3, .ref n4, .int ex, .int ch])), (n2, .inl (cI, 200, .inl fi)), (n3, .inl (cI, 200, .inl si)), (te, .inl (cI, n, .inl t0))] (fun (r : Int32) (u : ep_F) => ep_kdown dn = 0 ∧ (r, u) = ep_doubled fi si ex n t0) (fun (u : ep_F) => [(d0, .inr (3, [.ref pl, .ref tp, .ref wi, .ref pg, .ref te, .ref nw, .ref nx])), (pl, .inr (1, [.ref pb, .int dn, .int wr, .int pw])), (nw, .inr (0, [.ref n1, .ref n2, .ref n3, .ref n4, .int ex, .int ch])), (n2, .inl (cI, 200, .inl fi)), (n3, .inl (cI, 200, .inl si)), (te, .inl (cI, n, .inl u))]) (fun E => (E = "java/lang/IllegalArgumentException" ∧ ep_kdown dn = 1) ∨ (E = "java/lang/IllegalStateException" ∧ ep_kdown dn = 2)) 1 6 := by
  intro sz
  refine vx_ofW (cc := b_D_doubled) (maxL := 3) (ret := (some .int)) (by decide) rfl ?_
  intro p e s m args below meth c s₁ B hml hno hv
  obtain ⟨rfl, hZ, hsz, hP, hK, hG, hD0⟩ := hv
  have hx := B.exec
  have hb := B.bytes
  have hr := B.returns
  have hts := fun (w : Cond) (h : w ∈ ew_T) => atoms_spec (ws := w_D_doubled) B.pre w (List.mem_cons_of_mem _ h)
  have hown : s.vm.findClass R_D = some m.cls := findClass_of_methodNamed B.named
  have hlocks := B.notSynchronized
  subst hsz
  have hD := hD0.self (sz := s.heap.size)
  generalize hAe : va_A [(d0, .inr (3, [.ref pl, .ref tp, .ref wi, .ref pg, .ref te, .ref nw, .ref nx])), (pl, .inr (1, [.ref pb, .int dn, .int wr, .int pw])), (nw, .inr (0, [.ref n1, .ref n2, .ref n3, .ref n4, .int ex, .int ch])), (n2, .inl (cI, 200, .inl fi)), (n3, .inl (cI, 200, .inl si)), (te, .inl (cI, n, .inl t0))] s.heap.size = A at hD hZ ⊢
  have hA : ∀ q : Nat, s.heap.size ≤ q → A q := fun q h => by rw [← hAe]; exact Or.inr h
  have hS : va_S A s.heap s.heap [] := va_S.rf
  have hP : va_P (dC, dI) vwCl [(d0, .inr (3, [.ref pl, .ref tp, .ref wi, .ref pg, .ref te, .ref nw, .ref nx])), (pl, .inr (1, [.ref pb, .int dn, .int wr, .int pw])), (nw, .inr (0, [.ref n1, .ref n2, .ref n3, .ref n4, .int ex, .int ch])), (n2, .inl (cI, 200, .inl fi)), (n3, .inl (cI, 200, .inl si)), (te, .inl (cI, n, .inl t0))] s.heap := hP
  have hl := lv_entry ([.ref d0]) (n := 3) (Nat.le_of_ble_eq_true rfl)
  rw [lg_entry_eq]
  generalize (lg_sl ([.ref d0]) ++ List.replicate (3 - (lg_sl ([.ref d0])).length) Slot.unset).toArray = ls at hl ⊢
  have hl : lv_has ls 3 [(0, .ref d0)] := hl
  have C0 : ey_Cx p s m [.ref d0].toArray meth c b_D_doubled 3 R_D ew_T (some .int) A := ⟨hx, hb, hml, hown, hts, hr, hlocks, hA⟩
  refine lv_aload_n hx hb d_D_doubled_0 rfl (lv_at hl 0 rfl) ?_
  refine va_get (D := (dC, dI)) (ci := 3) (v := .ref pl) (C := R_D) (T := T_D) (N := 7) hx hb hts in_D hown hK hP 0 rfl rfl 0 (by decide) (hts _ ew_109) (fun _ h9 => h9) rfl d_D_doubled_1 ?_
  refine va_get (D := (dC, dI)) (ci := 1) (v := .int dn) (C := R_P) (T := T_P) (N := 4) hx hb hts in_P hown hK hP 1 rfl rfl 1 (by decide) (hts _ ew_48) (fun _ h9 => h9) rfl d_D_doubled_4 ?_
  refine lv_if_eq (tgt := 20) hx hb d_D_doubled_7 (by decide) (fun c_7 => ?_) (fun c_7 => ?_)
  · refine lv_aload_n hx hb d_D_doubled_20 rfl (lv_at hl 0 rfl) ?_
    refine va_get (D := (dC, dI)) (ci := 3) (v := .ref nw) (C := R_D) (T := T_D) (N := 7) hx hb hts in_D hown hK hP 0 rfl rfl 5 (by decide) (hts _ ew_114) (fun _ h9 => h9) rfl d_D_doubled_21 ?_
    refine lv_aload_n hx hb d_D_doubled_24 rfl (lv_at hl 0 rfl) ?_
    refine va_get (D := (dC, dI)) (ci := 3) (v := .ref te) (C := R_D) (T := T_D) (N := 7) hx hb hts in_D hown hK hP 0 rfl rfl 4 (by decide) (hts _ ew_113) (fun _ h9 => h9) rfl d_D_doubled_25 ?_
    refine ey_Vv (Wc := [(nw, .inr (0, [.ref n1, .ref n2, .ref n3, .ref n4, .int ex, .int ch])), (n2, .inl (cI, 200, .inl fi)), (n3, .inl (cI, 200, .inl si)), (te, .inl (cI, n, .inl t0))]) (wr := [(d0, .inr (3, [.ref pl, .ref tp, .ref wi, .ref pg, .ref te, .ref nw, .ref nx])), (pl, .inr (1, [.ref pb, .int dn, .int wr, .int pw]))]) (As := [.ref te]) (rest := []) ⟨hx, hb, hml, hown, hts⟩ (c_mf_count l dC dI cI cB cJ cZ nw n1 n2 n3 n4 ex ch fi si te n t0 hn) (cwV 1 hts (ew_V ew_334 ew_335 ew_336 ew_17 g_M_countTenants) rfl rfl rfl (by decide +kernel) ⟨Nat.le_of_ble_eq_true rfl, Nat.le_of_ble_eq_true rfl⟩) hK hG hP hD hS hA [2, 3, 4, 5] [0, 1] rfl rfl (by decide) (by decide) (by decide) (ci := 0) (q0 := 0) rfl rfl rfl hl.1 rfl (Nat.le_of_ble_eq_true rfl) d_D_doubled_28 ⟨Nat.le_of_ble_eq_true rfl, Nat.le_of_ble_eq_true rfl⟩ (fun u_2 H locs e_3 hP hD hS => ?_)
    have hP : va_P (dC, dI) vwCl [(d0, .inr (3, [.ref pl, .ref tp, .ref wi, .ref pg, .ref te, .ref nw, .ref nx])), (pl, .inr (1, [.ref pb, .int dn, .int wr, .int pw])), (nw, .inr (0, [.ref n1, .ref n2, .ref n3, .ref n4, .int ex, .int ch])), (n2, .inl (cI, 200, .inl fi)), (n3, .inl (cI, 200, .inl si)), (te, .inl (cI, n, .inl u_2))] H := hP
    have hD : va_D A [(d0, .inr (3, [.ref pl, .ref tp, .ref wi, .ref pg, .ref te, .ref nw, .ref nx])), (pl, .inr (1, [.ref pb, .int dn, .int wr, .int pw])), (nw, .inr (0, [.ref n1, .ref n2, .ref n3, .ref n4, .int ex, .int ch])), (n2, .inl (cI, 200, .inl fi)), (n3, .inl (cI, 200, .inl si)), (te, .inl (cI, n, .inl u_2))] := hD
    subst e_3
    refine lv_iconst (v := 0) hx hb d_D_doubled_31 (by decide) ?_
    refine lv_istore_n (lv' := [(1, .int 0), (0, .ref d0)]) hx hb d_D_doubled_32 rfl hl (by decide) rfl (fun ls hl => ?_)
    refine lv_iconst (v := nI 0) hx hb d_D_doubled_33 (by decide) ?_
    refine lv_istore_n (lv' := [(2, .int (nI 0)), (1, .int 0), (0, .ref d0)]) hx hb d_D_doubled_34 rfl hl (by decide) rfl (fun ls hl => ?_)
    have hk0 : ep_kdown dn = 0 := by simp only [ep_kdown, ↓reduceIte, not_true_eq_false, not_false_eq_true, c_7]
    exact c_ed_doubled_L (d0 := d0) (pl := pl) (tp := tp) (wi := wi) (pg := pg) (te := te) (nw := nw) (nx := nx) (pb := pb) (dn := dn) (wr := wr) (pw := pw) (n1 := n1) (n2 := n2) (n3 := n3) (n4 := n4) (ex := ex) (ch := ch) (fi := fi) (si := si) (n := n) (t0 := t0) hn hk0 hK hG C0 (n + 1) 0 0 (by omega) (by omega) rfl _ _ hP hD hS ls (lv_sub hl [2, 1, 0] rfl)
  · have hP9 : va_P (dC, dI) vwCl [(d0, .inr (3, [.ref pl, .ref tp, .ref wi, .ref pg, .ref te, .ref nw, .ref nx])), (pl, .inr (1, [.ref pb, .int dn, .int wr, .int pw])), (nw, .inr (0, [.ref n1, .ref n2, .ref n3, .ref n4, .int ex, .int ch])), (n2, .inl (cI, 200, .inl fi)), (n3, .inl (cI, 200, .inl si)), (te, .inl (cI, n, .inl t0))] _ := ey_P (is := [0, 1, 2, 3, 4, 5]) hP rfl
    have hD9 : va_D A [(d0, .inr (3, [.ref pl, .ref tp, .ref wi, .ref pg, .ref te, .ref nw, .ref nx])), (pl, .inr (1, [.ref pb, .int dn, .int wr, .int pw])), (nw, .inr (0, [.ref n1, .ref n2, .ref n3, .ref n4, .int ex, .int ch])), (n2, .inl (cI, 200, .inl fi)), (n3, .inl (cI, 200, .inl si)), (te, .inl (cI, n, .inl t0))] := hD.sub [0, 1, 2, 3, 4, 5] (by decide) rfl
    obtain ⟨sa9, hstr9⟩ := ex_str (k := 86) (t := "the store is down") hG (by decide +kernel)
    exact vx_throwS (names := ["java/lang/RuntimeException", "java/lang/Exception"]) hx hb hl9 hown (by decide +kernel) (by decide +kernel) (hts _ ew_260) (hts _ ew_23) hstr9 (ex_hatS hG hts) ex_goodS hZ.1 hZ.2 hS (by rw [hml]; exact hl.1) d_D_doubled_10 d_D_doubled_13 d_D_doubled_14 d_D_doubled_16 d_D_doubled_19 (fun x h9 => (hno x h9).elim) (Nat.le_of_ble_eq_true rfl) (Nat.le_of_ble_eq_true rfl) (Nat.le_of_ble_eq_true rfl) (Nat.le_of_ble_eq_true rfl) hlocks (fun t _ hz hk => ⟨(), trivial, ⟨Or.inr ⟨rfl, by simp only [ep_kdown, ↓reduceIte, not_true_eq_false, not_false_eq_true, c_7]⟩, (ey_keptX hP9 hD9 hS hz hk).1⟩, (ey_keptX hP9 hD9 hS hz hk).2⟩) hS.2.2 (Nat.le_of_ble_eq_true rfl) (Nat.le_of_ble_eq_true rfl)
