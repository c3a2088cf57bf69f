set_option maxHeartbeats 4000000 in
set_option maxRecDepth 100000 in
theorem c_ed_put_L {p : Program} {l : Launch} {e : Env} {s : State} {m : MethodId} {args : Array Value} {below : List Frame} {meth : Method} {c : Code} {dC : Nat → ClassId} {dI : Nat → Nat → Nat} {cI cB cJ cZ : ClassId} {A : Nat → Prop} {d0 pl tp wi pg te nw nx : Nat} {pb : Nat} {dn wr pw : Int32} {tb : Nat} {ln : Int32} {nt : Nat} {tf : ep_F} {v : Int64} {x : Int32} (hnt : nt < 2 ^ 30) (hk0 : ep_kput dn nt ln x = 0) (hK : va_K (dC, dI) vwCl (ey_kt cI cB cJ cZ) s) (hG : ex_G s) (C0 : ey_Cx p s m args meth c b_D_put 5 R_D ew_T (some .int) A)  :
    ∀ (fuel : Nat) (y : Int32) (q : ep_T) (hy1 : -1 ≤ y.toInt) (hy2 : y.toInt + 2 ≤ (fuel : Int)) (hu : ep_putl nt v fuel y q = ep_putl nt v 9 (x - 1) (tf, ln)), ∀ (H : Heap) (locs : List Loc), va_P (dC, dI) vwCl [(d0, .inr (3, [.ref pl, .ref tp, .ref wi, .ref pg, .ref te, .ref nw, .ref nx])), (pl, .inr (1, [.ref pb, .int dn, .int wr, .int pw])), (tp, .inr (2, [.ref tb, .int q.2])), (tb, .inl (cB, nt, .inl q.1))] H → va_D A [(d0, .inr (3, [.ref pl, .ref tp, .ref wi, .ref pg, .ref te, .ref nw, .ref nx])), (pl, .inr (1, [.ref pb, .int dn, .int wr, .int pw])), (tp, .inr (2, [.ref tb, .int q.2])), (tb, .inl (cB, nt, .inl q.1))] → va_S A s.heap H locs → ∀ (ls : Array Slot), lv_has ls 5 [(0, .ref d0), (1, .long v), (3, .int x), (4, .int y)] → W p l e { frames := 6, cells := 1, slots := 6, locals := 90 } s m args below meth c H locs 0 0 (vx_MQ below (va_Qi (fun (r : Int32) (u : ep_T) => ep_kput dn nt ln x = 0 ∧ r = u.2 ∧ u = ep_putl nt v 9 (x - 1) (tf, ln)) (fun u t8 => ey_Post (dC, dI) vwCl A ((fun (u : ep_T) => [(d0, .inr (3, [.ref pl, .ref tp, .ref wi, .ref pg, .ref te, .ref nw, .ref nx])), (pl, .inr (1, [.ref pb, .int dn, .int wr, .int pw])), (tp, .inr (2, [.ref tb, .int u.2])), (tb, .inl (cB, nt, .inl u.1))]) u) t8) A) (vx_X (fun _ : Unit => True) (fun E _ t8 => (fun E => (E = "java/lang/IllegalArgumentException" ∧ ep_kput dn nt ln x = 1) ∨ (E = "java/lang/IllegalStateException" ∧ ep_kput dn nt ln x = 2)) E ∧ ey_Post (dC, dI) vwCl A [(d0, .inr (3, [.ref pl, .ref tp, .ref wi, .ref pg, .ref te, .ref nw, .ref nx])), (pl, .inr (1, [.ref pb, .int dn, .int wr, .int pw])), (tp, .inr (2, [.ref tb, .int ln])), (tb, .inl (cB, nt, .inl tf))] t8) A) args s 1 6 A) (F0 m 57 ls []) := by
  obtain ⟨hx, hb, hml, hown, hts, hr, hlocks, hA⟩ := id C0
  intro fuel
  induction fuel with
  | zero =>
    intro y q hy1 hy2 hu H locs hP hD hS ls hl
    exact absurd hy2 (by omega)
  | succ fuel ih =>
    intro y q hy1 hy2 hu H locs hP hD hS ls hl
    refine lv_iload hx hb d_D_put_57 (lv_at hl 3 rfl) ?_
    refine lv_if_lt (tgt := 84) hx hb d_D_put_59 (by decide) (fun c_59 => ?_) (fun c_59 => ?_)
    · refine lv_aload_n hx hb d_D_put_84 rfl (lv_at hl 0 rfl) ?_
      refine va_get (D := (dC, dI)) (ci := 3) (v := .ref tp) (C := R_D) (T := T_D) (N := 7) hx hb hts in_D hown hK hP 0 rfl rfl 1 (by decide) (hts _ ew_110) (fun _ h9 => h9) rfl d_D_put_85 ?_
      refine va_get (D := (dC, dI)) (ci := 2) (v := .int q.2) (C := R_Tp) (T := T_Tp) (N := 2) hx hb hts in_Tp hown hK hP 2 rfl rfl 1 (by decide) (hts _ ew_71) (fun _ h9 => h9) rfl d_D_put_88 ?_
      refine vx_ret ?_
      exact ey_iret (W1 := fun (u : ep_T) => [(d0, .inr (3, [.ref pl, .ref tp, .ref wi, .ref pg, .ref te, .ref nw, .ref nx])), (pl, .inr (1, [.ref pb, .int dn, .int wr, .int pw])), (tp, .inr (2, [.ref tb, .int u.2])), (tb, .inl (cB, nt, .inl u.1))]) hx hb hr hlocks hP hD hS q [0, 1, 2, 3] rfl (by decide) (⟨hk0, rfl, by rw [← hu]; simp only [ep_putl, ↓reduceIte, c_59]⟩) d_D_put_91 (Nat.le_of_ble_eq_true rfl) (Nat.le_of_ble_eq_true rfl)
    · refine lv_aload_n hx hb d_D_put_62 rfl (lv_at hl 0 rfl) ?_
      refine va_get (D := (dC, dI)) (ci := 3) (v := .ref tp) (C := R_D) (T := T_D) (N := 7) hx hb hts in_D hown hK hP 0 rfl rfl 1 (by decide) (hts _ ew_110) (fun _ h9 => h9) rfl d_D_put_63 ?_
      refine lv_lload_n hx hb d_D_put_66 rfl (lv_at hl 1 rfl) ?_
      refine lv_bipush (v := 8) hx hb d_D_put_67 (by decide) ?_
      refine lv_iload hx hb d_D_put_69 (lv_at hl 3 rfl) ?_
      refine lv_imul hx hb d_D_put_71 ?_
      refine lv_lushr (v := ey_lushr v (8 * y)) hx hb d_D_put_72 rfl ?_
      refine lv_l2i (v := (ey_lushr v (8 * y)).toInt32) hx hb d_D_put_73 rfl ?_
      refine lv_i2b (v := ((ey_lushr v (8 * y)).toInt32).toInt8.toInt32) hx hb d_D_put_74 rfl ?_
      refine ey_Vv (Wc := [(tp, .inr (2, [.ref tb, .int q.2])), (tb, .inl (cB, nt, .inl q.1))]) (wr := [(d0, .inr (3, [.ref pl, .ref tp, .ref wi, .ref pg, .ref te, .ref nw, .ref nx])), (pl, .inr (1, [.ref pb, .int dn, .int wr, .int pw]))]) (As := [.int (((ey_lushr v (8 * y)).toInt32).toInt8.toInt32)]) (rest := []) ⟨hx, hb, hml, hown, hts⟩ (c_tp_app l dC dI cI cB cJ cZ tp tb q.2 nt q.1 (((ey_lushr v (8 * y)).toInt32).toInt8.toInt32) (by omega)) (cwV 1 hts (ew_V ew_276 ew_277 ew_278 ew_16 g_Tp_append) rfl rfl rfl (by decide +kernel) ⟨Nat.le_of_ble_eq_true rfl, Nat.le_of_ble_eq_true rfl⟩) hK hG hP hD hS hA [2, 3] [0, 1] rfl rfl (by decide) (by decide) (by decide) (ci := 2) (q0 := 0) rfl rfl rfl hl.1 rfl (Nat.le_of_ble_eq_true rfl) d_D_put_75 ⟨Nat.le_of_ble_eq_true rfl, Nat.le_of_ble_eq_true rfl⟩ (fun u_2 H locs e_3 hP hD hS => ?_)
      have hP : va_P (dC, dI) vwCl [(d0, .inr (3, [.ref pl, .ref tp, .ref wi, .ref pg, .ref te, .ref nw, .ref nx])), (pl, .inr (1, [.ref pb, .int dn, .int wr, .int pw])), (tp, .inr (2, [.ref tb, .int u_2.2])), (tb, .inl (cB, nt, .inl u_2.1))] H := hP
      have hD : va_D A [(d0, .inr (3, [.ref pl, .ref tp, .ref wi, .ref pg, .ref te, .ref nw, .ref nx])), (pl, .inr (1, [.ref pb, .int dn, .int wr, .int pw])), (tp, .inr (2, [.ref tb, .int u_2.2])), (tb, .inl (cB, nt, .inl u_2.1))] := hD
      subst e_3
      refine lv_iinc (v := y + -1) (lv' := [(4, .int (y + -1)), (0, .ref d0), (1, .long v), (3, .int x)]) hx hb d_D_put_78 hl (k := 3) rfl (rfl) (by decide) rfl (fun ls hl => ?_)
      refine lv_goto (tgt := 57) hx hb d_D_put_81 (by decide) ?_
      exact ih (y + -1) (ep_app nt q (ey_lushr v (8 * y)).toInt32.toInt8.toInt32) (ey_dec1 c_59) (ey_dec2 c_59 hy2) (by rw [← hu]; simp only [ep_putl, ↓reduceIte, c_59]) _ _ hP hD hS ls (lv_sub hl [1, 2, 3, 0] rfl)
set_option maxHeartbeats 4000000 in
set_option maxRecDepth 100000 in
theorem c_ed_put (l : Launch) (dC : Nat → ClassId) (dI : Nat → Nat → Nat) (cI cB cJ cZ : ClassId) (hl9 : l.stackTraces = false) (d0 pl tp wi pg te nw nx : Nat) (pb : Nat) (dn wr pw : Int32) (tb : Nat) (ln : Int32) (nt : Nat) (tf : ep_F) (v : Int64) (x : Int32) (hnt : nt < 2 ^ 30) : ey_Xi l y_D_put w_D_put { frames := 6, cells := 1, slots := 6, locals := 90 } (dC, dI) vwCl (ey_kt cI cB cJ cZ) [.ref d0, .long v, .int x] [(d0, .inr (3, [.ref pl, .ref tp, .ref wi, .ref pg, .ref te, .ref nw, .ref nx])), (pl, .inr (1, [.ref pb, .int dn, .int wr, .int pw])), (tp, .inr (2, [.ref tb, .int ln])), (tb, .inl (cB, nt, .inl tf))] (fun (r : Int32) (u : ep_T) => ep_kput dn nt ln x = 0 ∧ r = u.2 ∧ u = ep_putl nt v 9 (x - 1) (tf, ln)) (fun (u : ep_T) => [(d0, .inr (3, [.ref pl, .ref tp, .ref wi, .ref pg, .ref te, .ref nw, .ref nx])), (pl, .inr (1, [.ref pb, .int dn, .int wr, .int pw])), (tp, .inr (2, [.ref tb, .int u.2])), (tb, .inl (cB, nt, .inl u.1))]) (fun E => (E = "java/lang/IllegalArgumentException" ∧ ep_kput dn nt ln x = 1) ∨ (E = "java/lang/IllegalStateException" ∧ ep_kput dn nt ln x = 2)) 1 6 := by
  intro sz
  refine vx_ofW (cc := b_D_put) (maxL := 5) (ret := (some .int)) (by decide) rfl ?_
  intro p e s m args below meth c s₁ B hml hno hv
  obtain ⟨rfl, hZ, hsz, hP, hK, hG, hD0⟩ := hv
  have hx := B.exec
  have hb := B.bytes
  have hr := B.returns
  have hts := fun (w : Cond) (h : w ∈ ew_T) => atoms_spec (ws := w_D_put) B.pre w (List.mem_cons_of_mem _ h)
  have hown : s.vm.findClass R_D = some m.cls := findClass_of_methodNamed B.named
  have hlocks := B.notSynchronized
  subst hsz
  have hD := hD0.self (sz := s.heap.size)
  generalize hAe : va_A [(d0, .inr (3, [.ref pl, .ref tp, .ref wi, .ref pg, .ref te, .ref nw, .ref nx])), (pl, .inr (1, [.ref pb, .int dn, .int wr, .int pw])), (tp, .inr (2, [.ref tb, .int ln])), (tb, .inl (cB, nt, .inl tf))] s.heap.size = A at hD hZ ⊢
  have hA : ∀ q : Nat, s.heap.size ≤ q → A q := fun q h => by rw [← hAe]; exact Or.inr h
  have hS : va_S A s.heap s.heap [] := va_S.rf
  have hP : va_P (dC, dI) vwCl [(d0, .inr (3, [.ref pl, .ref tp, .ref wi, .ref pg, .ref te, .ref nw, .ref nx])), (pl, .inr (1, [.ref pb, .int dn, .int wr, .int pw])), (tp, .inr (2, [.ref tb, .int ln])), (tb, .inl (cB, nt, .inl tf))] s.heap := hP
  have hl := lv_entry ([.ref d0, .long v, .int x]) (n := 5) (Nat.le_of_ble_eq_true rfl)
  rw [lg_entry_eq]
  generalize (lg_sl ([.ref d0, .long v, .int x]) ++ List.replicate (5 - (lg_sl ([.ref d0, .long v, .int x])).length) Slot.unset).toArray = ls at hl ⊢
  have hl : lv_has ls 5 [(0, .ref d0), (1, .long v), (3, .int x)] := hl
  have C0 : ey_Cx p s m [.ref d0, .long v, .int x].toArray meth c b_D_put 5 R_D ew_T (some .int) A := ⟨hx, hb, hml, hown, hts, hr, hlocks, hA⟩
  refine lv_iload_n hx hb d_D_put_0 rfl (lv_at hl 2 rfl) ?_
  refine lv_iconst (v := 1) hx hb d_D_put_1 (by decide) ?_
  refine lv_icmp_lt (tgt := 11) hx hb d_D_put_2 (by decide) (fun c_2 => ?_) (fun c_2 => ?_)
  · have hP9 : va_P (dC, dI) vwCl [(d0, .inr (3, [.ref pl, .ref tp, .ref wi, .ref pg, .ref te, .ref nw, .ref nx])), (pl, .inr (1, [.ref pb, .int dn, .int wr, .int pw])), (tp, .inr (2, [.ref tb, .int ln])), (tb, .inl (cB, nt, .inl tf))] _ := ey_P (is := [0, 1, 2, 3]) hP rfl
    have hD9 : va_D A [(d0, .inr (3, [.ref pl, .ref tp, .ref wi, .ref pg, .ref te, .ref nw, .ref nx])), (pl, .inr (1, [.ref pb, .int dn, .int wr, .int pw])), (tp, .inr (2, [.ref tb, .int ln])), (tb, .inl (cB, nt, .inl tf))] := hD.sub [0, 1, 2, 3] (by decide) rfl
    obtain ⟨sa9, hstr9⟩ := ex_str (k := 57) (t := "n is not 1 .. 8") hG (by decide +kernel)
    exact vx_throwS (names := ["java/lang/RuntimeException", "java/lang/Exception"]) hx hb hl9 hown (by decide +kernel) (by decide +kernel) (hts _ ew_190) (hts _ ew_22) hstr9 (ex_hatA hG hts) ex_goodA hZ.1 hZ.2 hS (by rw [hml]; exact hl.1) d_D_put_11 d_D_put_14 d_D_put_15 d_D_put_17 d_D_put_20 (fun x h9 => (hno x h9).elim) (Nat.le_of_ble_eq_true rfl) (Nat.le_of_ble_eq_true rfl) (Nat.le_of_ble_eq_true rfl) (Nat.le_of_ble_eq_true rfl) hlocks (fun t _ hz hk => ⟨(), trivial, ⟨Or.inl ⟨rfl, by simp only [ep_kput, ↓reduceIte, not_true_eq_false, not_false_eq_true, c_2]⟩, (ey_keptX hP9 hD9 hS hz hk).1⟩, (ey_keptX hP9 hD9 hS hz hk).2⟩) hS.2.2 (Nat.le_of_ble_eq_true rfl) (Nat.le_of_ble_eq_true rfl)
  · refine lv_iload_n hx hb d_D_put_5 rfl (lv_at hl 2 rfl) ?_
    refine lv_bipush (v := 8) hx hb d_D_put_6 (by decide) ?_
    refine lv_icmp_le (tgt := 21) hx hb d_D_put_8 (by decide) (fun c_8 => ?_) (fun c_8 => ?_)
    · refine lv_aload_n hx hb d_D_put_21 rfl (lv_at hl 0 rfl) ?_
      refine va_get (D := (dC, dI)) (ci := 3) (v := .ref pl) (C := R_D) (T := T_D) (N := 7) hx hb hts in_D hown hK hP 0 rfl rfl 0 (by decide) (hts _ ew_109) (fun _ h9 => h9) rfl d_D_put_22 ?_
      refine va_get (D := (dC, dI)) (ci := 1) (v := .int dn) (C := R_P) (T := T_P) (N := 4) hx hb hts in_P hown hK hP 1 rfl rfl 1 (by decide) (hts _ ew_48) (fun _ h9 => h9) rfl d_D_put_25 ?_
      refine lv_if_ne (tgt := 42) hx hb d_D_put_28 (by decide) (fun c_28 => ?_) (fun c_28 => ?_)
      · have hP9 : va_P (dC, dI) vwCl [(d0, .inr (3, [.ref pl, .ref tp, .ref wi, .ref pg, .ref te, .ref nw, .ref nx])), (pl, .inr (1, [.ref pb, .int dn, .int wr, .int pw])), (tp, .inr (2, [.ref tb, .int ln])), (tb, .inl (cB, nt, .inl tf))] _ := ey_P (is := [0, 1, 2, 3]) hP rfl
        have hD9 : va_D A [(d0, .inr (3, [.ref pl, .ref tp, .ref wi, .ref pg, .ref te, .ref nw, .ref nx])), (pl, .inr (1, [.ref pb, .int dn, .int wr, .int pw])), (tp, .inr (2, [.ref tb, .int ln])), (tb, .inl (cB, nt, .inl tf))] := hD.sub [0, 1, 2, 3] (by decide) rfl
        obtain ⟨sa9, hstr9⟩ := ex_str (k := 72) (t := "the store is down, or the tape has no room") hG (by decide +kernel)
        exact vx_throwS (names := ["java/lang/RuntimeException", "java/lang/Exception"]) hx hb hl9 hown (by decide +kernel) (by decide +kernel) (hts _ ew_260) (hts _ ew_23) hstr9 (ex_hatS hG hts) ex_goodS hZ.1 hZ.2 hS (by rw [hml]; exact hl.1) d_D_put_42 d_D_put_45 d_D_put_46 d_D_put_48 d_D_put_51 (fun x h9 => (hno x h9).elim) (Nat.le_of_ble_eq_true rfl) (Nat.le_of_ble_eq_true rfl) (Nat.le_of_ble_eq_true rfl) (Nat.le_of_ble_eq_true rfl) hlocks (fun t _ hz hk => ⟨(), trivial, ⟨Or.inr ⟨rfl, by simp only [ep_kput, ↓reduceIte, not_true_eq_false, not_false_eq_true, c_2, c_8, c_28]⟩, (ey_keptX hP9 hD9 hS hz hk).1⟩, (ey_keptX hP9 hD9 hS hz hk).2⟩) hS.2.2 (Nat.le_of_ble_eq_true rfl) (Nat.le_of_ble_eq_true rfl)
      · refine lv_aload_n hx hb d_D_put_31 rfl (lv_at hl 0 rfl) ?_
        refine va_get (D := (dC, dI)) (ci := 3) (v := .ref tp) (C := R_D) (T := T_D) (N := 7) hx hb hts in_D hown hK hP 0 rfl rfl 1 (by decide) (hts _ ew_110) (fun _ h9 => h9) rfl d_D_put_32 ?_
        refine lv_iload_n hx hb d_D_put_35 rfl (lv_at hl 2 rfl) ?_
        refine ey_Vi (Wc := [(tp, .inr (2, [.ref tb, .int ln])), (tb, .inl (cB, nt, .inl tf))]) (wr := [(d0, .inr (3, [.ref pl, .ref tp, .ref wi, .ref pg, .ref te, .ref nw, .ref nx])), (pl, .inr (1, [.ref pb, .int dn, .int wr, .int pw]))]) (As := [.int x]) (rest := []) ⟨hx, hb, hml, hown, hts⟩ (c_tp_room l dC dI cI cB cJ cZ tp tb ln nt tf x) (cwV 1 hts (ew_V ew_256 ew_257 ew_258 ew_16 g_Tp_hasRoomFor) rfl rfl rfl (by decide +kernel) ⟨Nat.le_of_ble_eq_true rfl, Nat.le_of_ble_eq_true rfl⟩) hK hG hP hD hS hA [2, 3] [0, 1] rfl rfl (by decide) (by decide) (by decide) (ci := 2) (q0 := 0) rfl rfl rfl hl.1 rfl (Nat.le_of_ble_eq_true rfl) d_D_put_36 ⟨Nat.le_of_ble_eq_true rfl, Nat.le_of_ble_eq_true rfl⟩ (fun r_1 u_2 H locs e_3 hP hD hS => ?_)
        have hP : va_P (dC, dI) vwCl [(d0, .inr (3, [.ref pl, .ref tp, .ref wi, .ref pg, .ref te, .ref nw, .ref nx])), (pl, .inr (1, [.ref pb, .int dn, .int wr, .int pw])), (tp, .inr (2, [.ref tb, .int ln])), (tb, .inl (cB, nt, .inl tf))] H := hP
        have hD : va_D A [(d0, .inr (3, [.ref pl, .ref tp, .ref wi, .ref pg, .ref te, .ref nw, .ref nx])), (pl, .inr (1, [.ref pb, .int dn, .int wr, .int pw])), (tp, .inr (2, [.ref tb, .int ln])), (tb, .inl (cB, nt, .inl tf))] := hD
        subst e_3
        refine lv_if_ne (tgt := 52) hx hb d_D_put_39 (by decide) (fun c_39 => ?_) (fun c_39 => ?_)
        · refine lv_iload_n hx hb d_D_put_52 rfl (lv_at hl 2 rfl) ?_
          refine lv_iconst (v := 1) hx hb d_D_put_53 (by decide) ?_
          refine lv_isub hx hb d_D_put_54 ?_
          refine lv_istore (lv' := [(4, .int (x - 1)), (0, .ref d0), (1, .long v), (3, .int x)]) hx hb d_D_put_55 hl (by decide) rfl (fun ls hl => ?_)
          have hk0 : ep_kput dn nt ln x = 0 := by simp only [ep_kput, ↓reduceIte, not_true_eq_false, not_false_eq_true, c_2, c_8, c_28, c_39]
          exact c_ed_put_L (d0 := d0) (pl := pl) (tp := tp) (wi := wi) (pg := pg) (te := te) (nw := nw) (nx := nx) (pb := pb) (dn := dn) (wr := wr) (pw := pw) (tb := tb) (ln := ln) (nt := nt) (tf := tf) (v := v) (x := x) hnt hk0 hK hG C0 9 (x - 1) (tf, ln) (ey_put1 c_2 c_8) (ey_put2 c_2 c_8) rfl _ _ hP hD hS ls (lv_sub hl [1, 2, 3, 0] rfl)
        · have hP9 : va_P (dC, dI) vwCl [(d0, .inr (3, [.ref pl, .ref tp, .ref wi, .ref pg, .ref te, .ref nw, .ref nx])), (pl, .inr (1, [.ref pb, .int dn, .int wr, .int pw])), (tp, .inr (2, [.ref tb, .int ln])), (tb, .inl (cB, nt, .inl tf))] _ := ey_P (is := [0, 1, 2, 3]) hP rfl
          have hD9 : va_D A [(d0, .inr (3, [.ref pl, .ref tp, .ref wi, .ref pg, .ref te, .ref nw, .ref nx])), (pl, .inr (1, [.ref pb, .int dn, .int wr, .int pw])), (tp, .inr (2, [.ref tb, .int ln])), (tb, .inl (cB, nt, .inl tf))] := hD.sub [0, 1, 2, 3] (by decide) rfl
          obtain ⟨sa9, hstr9⟩ := ex_str (k := 72) (t := "the store is down, or the tape has no room") hG (by decide +kernel)
          exact vx_throwS (names := ["java/lang/RuntimeException", "java/lang/Exception"]) hx hb hl9 hown (by decide +kernel) (by decide +kernel) (hts _ ew_260) (hts _ ew_23) hstr9 (ex_hatS hG hts) ex_goodS hZ.1 hZ.2 hS (by rw [hml]; exact hl.1) d_D_put_42 d_D_put_45 d_D_put_46 d_D_put_48 d_D_put_51 (fun x h9 => (hno x h9).elim) (Nat.le_of_ble_eq_true rfl) (Nat.le_of_ble_eq_true rfl) (Nat.le_of_ble_eq_true rfl) (Nat.le_of_ble_eq_true rfl) hlocks (fun t _ hz hk => ⟨(), trivial, ⟨Or.inr ⟨rfl, by simp only [ep_kput, ↓reduceIte, not_true_eq_false, not_false_eq_true, c_2, c_8, c_28, c_39]⟩, (ey_keptX hP9 hD9 hS hz hk).1⟩, (ey_keptX hP9 hD9 hS hz hk).2⟩) hS.2.2 (Nat.le_of_ble_eq_true rfl) (Nat.le_of_ble_eq_true rfl)
    · have hP9 : va_P (dC, dI) vwCl [(d0, .inr (3, [.ref pl, .ref tp, .ref wi, .ref pg, .ref te, .ref nw, .ref nx])), (pl, .inr (1, [.ref pb, .int dn, .int wr, .int pw])), (tp, .inr (2, [.ref tb, .int ln])), (tb, .inl (cB, nt, .inl tf))] _ := ey_P (is := [0, 1, 2, 3]) hP rfl
      have hD9 : va_D A [(d0, .inr (3, [.ref pl, .ref tp, .ref wi, .ref pg, .ref te, .ref nw, .ref nx])), (pl, .inr (1, [.ref pb, .int dn, .int wr, .int pw])), (tp, .inr (2, [.ref tb, .int ln])), (tb, .inl (cB, nt, .inl tf))] := hD.sub [0, 1, 2, 3] (by decide) rfl
      obtain ⟨sa9, hstr9⟩ := ex_str (k := 57) (t := "n is not 1 .. 8") hG (by decide +kernel)
      exact vx_throwS (names := ["java/lang/RuntimeException", "java/lang/Exception"]) hx hb hl9 hown (by decide +kernel) (by decide +kernel) (hts _ ew_190) (hts _ ew_22) hstr9 (ex_hatA hG hts) ex_goodA hZ.1 hZ.2 hS (by rw [hml]; exact hl.1) d_D_put_11 d_D_put_14 d_D_put_15 d_D_put_17 d_D_put_20 (fun x h9 => (hno x h9).elim) (Nat.le_of_ble_eq_true rfl) (Nat.le_of_ble_eq_true rfl) (Nat.le_of_ble_eq_true rfl) (Nat.le_of_ble_eq_true rfl) hlocks (fun t _ hz hk => ⟨(), trivial, ⟨Or.inl ⟨rfl, by simp only [ep_kput, ↓reduceIte, not_true_eq_false, not_false_eq_true, c_2, c_8]⟩, (ey_keptX hP9 hD9 hS hz hk).1⟩, (ey_keptX hP9 hD9 hS hz hk).2⟩) hS.2.2 (Nat.le_of_ble_eq_true rfl) (Nat.le_of_ble_eq_true rfl)
set_option maxHeartbeats 4000000 in
set_option maxRecDepth 100000 in
theorem c_ed_fill_L {p : Program} {l : Launch} {e : Env} {s : State} {m : MethodId} {args : Array Value} {below : List Frame} {meth : Method} {c : Code} {dC : Nat → ClassId} {dI : Nat → Nat → Nat} {cI cB cJ cZ : ClassId} {A : Nat → Prop} {d0 pl tp wi pg te nw nx : Nat} {pb : Nat} {dn wr pw : Int32} {tb : Nat} {ln : Int32} {nt : Nat} {tf : ep_F} {b x : Int32} (hnt : nt < 2 ^ 30) (hk0 : ep_kfill dn nt ln x = 0) (hx9 : ¬ x < 0) (hK : va_K (dC, dI) vwCl (ey_kt cI cB cJ cZ) s) (hG : ex_G s) (C0 : ey_Cx p s m args meth c b_D_fill 4 R_D ew_T (some .int) A)  :
    ∀ (fuel : Nat) (i : Nat) (q : ep_T) (hi : i + fuel = x.toNatClampNeg + 1) (hin : i ≤ x.toNatClampNeg) (hu : ep_fll nt b x fuel i q = ep_fll nt b x (x.toNatClampNeg + 1) 0 (tf, ln)), ∀ (H : Heap) (locs : List Loc), va_P (dC, dI) vwCl [(d0, .inr (3, [.ref pl, .ref tp, .ref wi, .ref pg, .ref te, .ref nw, .ref nx])), (pl, .inr (1, [.ref pb, .int dn, .int wr, .int pw])), (tp, .inr (2, [.ref tb, .int q.2])), (tb, .inl (cB, nt, .inl q.1))] H → va_D A [(d0, .inr (3, [.ref pl, .ref tp, .ref wi, .ref pg, .ref te, .ref nw, .ref nx])), (pl, .inr (1, [.ref pb, .int dn, .int wr, .int pw])), (tp, .inr (2, [.ref tb, .int q.2])), (tb, .inl (cB, nt, .inl q.1))] → va_S A s.heap H locs → ∀ (ls : Array Slot), lv_has ls 4 [(0, .ref d0), (1, .int b), (2, .int x), (3, .int (nI i))] → W p l e { frames := 6, cells := 1, slots := 6, locals := 90 } s m args below meth c H locs 0 0 (vx_MQ below (va_Qi (fun (r : Int32) (u : ep_T) => ep_kfill dn nt ln x = 0 ∧ r = u.2 ∧ u = ep_fll nt b x (x.toNatClampNeg + 1) 0 (tf, ln)) (fun u t8 => ey_Post (dC, dI) vwCl A ((fun (u : ep_T) => [(d0, .inr (3, [.ref pl, .ref tp, .ref wi, .ref pg, .ref te, .ref nw, .ref nx])), (pl, .inr (1, [.ref pb, .int dn, .int wr, .int pw])), (tp, .inr (2, [.ref tb, .int u.2])), (tb, .inl (cB, nt, .inl u.1))]) u) t8) A) (vx_X (fun _ : Unit => True) (fun E _ t8 => (fun E => (E = "java/lang/IllegalArgumentException" ∧ ep_kfill dn nt ln x = 1) ∨ (E = "java/lang/IllegalStateException" ∧ ep_kfill dn nt ln x = 2)) E ∧ ey_Post (dC, dI) vwCl A [(d0, .inr (3, [.ref pl, .ref tp, .ref wi, .ref pg, .ref te, .ref nw, .ref nx])), (pl, .inr (1, [.ref pb, .int dn, .int wr, .int pw])), (tp, .inr (2, [.ref tb, .int ln])), (tb, .inl (cB, nt, .inl tf))] t8) A) args s 1 6 A) (F0 m 54 ls []) := by
  obtain ⟨hx, hb, hml, hown, hts, hr, hlocks, hA⟩ := id C0
  intro fuel
  induction fuel with
  | zero =>
    intro i q hi hin hu H locs hP hD hS ls hl
    exact absurd hi (by omega)
  | succ fuel ih =>
    intro i q hi hin hu H locs hP hD hS ls hl
    refine lv_iload_n hx hb d_D_fill_54 rfl (lv_at hl 3 rfl) ?_
    refine lv_iload_n hx hb d_D_fill_55 rfl (lv_at hl 2 rfl) ?_
    refine lv_icmp_ge (tgt := 76) hx hb d_D_fill_56 (by decide) (fun c_56 => ?_) (fun c_56 => ?_)
    · refine lv_aload_n hx hb d_D_fill_76 rfl (lv_at hl 0 rfl) ?_
      refine va_get (D := (dC, dI)) (ci := 3) (v := .ref tp) (C := R_D) (T := T_D) (N := 7) hx hb hts in_D hown hK hP 0 rfl rfl 1 (by decide) (hts _ ew_110) (fun _ h9 => h9) rfl d_D_fill_77 ?_
      refine va_get (D := (dC, dI)) (ci := 2) (v := .int q.2) (C := R_Tp) (T := T_Tp) (N := 2) hx hb hts in_Tp hown hK hP 2 rfl rfl 1 (by decide) (hts _ ew_71) (fun _ h9 => h9) rfl d_D_fill_80 ?_
      refine vx_ret ?_
      exact ey_iret (W1 := fun (u : ep_T) => [(d0, .inr (3, [.ref pl, .ref tp, .ref wi, .ref pg, .ref te, .ref nw, .ref nx])), (pl, .inr (1, [.ref pb, .int dn, .int wr, .int pw])), (tp, .inr (2, [.ref tb, .int u.2])), (tb, .inl (cB, nt, .inl u.1))]) hx hb hr hlocks hP hD hS q [0, 1, 2, 3] rfl (by decide) (⟨hk0, rfl, by rw [← hu]; simp only [ep_fll, ↓reduceIte, c_56]⟩) d_D_fill_83 (Nat.le_of_ble_eq_true rfl) (Nat.le_of_ble_eq_true rfl)
    · refine lv_aload_n hx hb d_D_fill_59 rfl (lv_at hl 0 rfl) ?_
      refine va_get (D := (dC, dI)) (ci := 3) (v := .ref tp) (C := R_D) (T := T_D) (N := 7) hx hb hts in_D hown hK hP 0 rfl rfl 1 (by decide) (hts _ ew_110) (fun _ h9 => h9) rfl d_D_fill_60 ?_
      refine lv_iload_n hx hb d_D_fill_63 rfl (lv_at hl 1 rfl) ?_
      refine lv_iload_n hx hb d_D_fill_64 rfl (lv_at hl 3 rfl) ?_
      refine lv_iadd hx hb d_D_fill_65 ?_
      refine lv_i2b (v := (b + (nI i)).toInt8.toInt32) hx hb d_D_fill_66 rfl ?_
      refine ey_Vv (Wc := [(tp, .inr (2, [.ref tb, .int q.2])), (tb, .inl (cB, nt, .inl q.1))]) (wr := [(d0, .inr (3, [.ref pl, .ref tp, .ref wi, .ref pg, .ref te, .ref nw, .ref nx])), (pl, .inr (1, [.ref pb, .int dn, .int wr, .int pw]))]) (As := [.int ((b + (nI i)).toInt8.toInt32)]) (rest := []) ⟨hx, hb, hml, hown, hts⟩ (c_tp_app l dC dI cI cB cJ cZ tp tb q.2 nt q.1 ((b + (nI i)).toInt8.toInt32) (by omega)) (cwV 1 hts (ew_V ew_276 ew_277 ew_278 ew_16 g_Tp_append) rfl rfl rfl (by decide +kernel) ⟨Nat.le_of_ble_eq_true rfl, Nat.le_of_ble_eq_true rfl⟩) hK hG hP hD hS hA [2, 3] [0, 1] rfl rfl (by decide) (by decide) (by decide) (ci := 2) (q0 := 0) rfl rfl rfl hl.1 rfl (Nat.le_of_ble_eq_true rfl) d_D_fill_67 ⟨Nat.le_of_ble_eq_true rfl, Nat.le_of_ble_eq_true rfl⟩ (fun u_2 H locs e_3 hP hD hS => ?_)
      have hP : va_P (dC, dI) vwCl [(d0, .inr (3, [.ref pl, .ref tp, .ref wi, .ref pg, .ref te, .ref nw, .ref nx])), (pl, .inr (1, [.ref pb, .int dn, .int wr, .int pw])), (tp, .inr (2, [.ref tb, .int u_2.2])), (tb, .inl (cB, nt, .inl u_2.1))] H := hP
      have hD : va_D A [(d0, .inr (3, [.ref pl, .ref tp, .ref wi, .ref pg, .ref te, .ref nw, .ref nx])), (pl, .inr (1, [.ref pb, .int dn, .int wr, .int pw])), (tp, .inr (2, [.ref tb, .int u_2.2])), (tb, .inl (cB, nt, .inl u_2.1))] := hD
      subst e_3
      refine lv_iinc (v := nI (i + 1)) (lv' := [(3, .int (nI (i + 1))), (0, .ref d0), (1, .int b), (2, .int x)]) hx hb d_D_fill_70 hl (k := 3) rfl (nI_1 i) (by decide) rfl (fun ls hl => ?_)
      refine lv_goto (tgt := 54) hx hb d_D_fill_73 (by decide) ?_
      exact ih (i + 1) (ep_app nt q (b + nI i).toInt8.toInt32) (by omega) (ey_fl_i hx9 hin c_56) (by rw [← hu]; simp only [ep_fll, ↓reduceIte, c_56]) _ _ hP hD hS ls (lv_sub hl [1, 2, 3, 0] rfl)
set_option maxHeartbeats 4000000 in
set_option maxRecDepth 100000 in
theorem c_ed_fill (l : Launch) (dC : Nat → ClassId) (dI : Nat → Nat → Nat) (cI cB cJ cZ : ClassId) (hl9 : l.stackTraces = false) (d0 pl tp wi pg te nw nx : Nat) (pb : Nat) (dn wr pw : Int32) (tb : Nat) (ln : Int32) (nt : Nat) (tf : ep_F) (b x : Int32) (hnt : nt < 2 ^ 30) : ey_Xi l y_D_fill w_D_fill { frames := 6, cells := 1, slots := 6, locals := 90 } (dC, dI) vwCl (ey_kt cI cB cJ cZ) [.ref d0, .int b, .int x] [(d0, .inr (3, [.ref pl, .ref tp, .ref wi, .ref pg, .ref te, .ref nw, .ref nx])), (pl, .inr (1, [.ref pb, .int dn, .int wr, .int pw])), (tp, .inr (2, [.ref tb, .int ln])), (tb, .inl (cB, nt, .inl tf))] (fun (r : Int32) (u : ep_T) => ep_kfill dn nt ln x = 0 ∧ r = u.2 ∧ u = ep_fll nt b x (x.toNatClampNeg + 1) 0 (tf, ln)) (fun (u : ep_T) => [(d0, .inr (3, [.ref pl, .ref tp, .ref wi, .ref pg, .ref te, .ref nw, .ref nx])), (pl, .inr (1, [.ref pb, .int dn, .int wr, .int pw])), (tp, .inr (2, [.ref tb, .int u.2])), (tb, .inl (cB, nt, .inl u.1))]) (fun E => (E = "java/lang/IllegalArgumentException" ∧ ep_kfill dn nt ln x = 1) ∨ (E = "java/lang/IllegalStateException" ∧ ep_kfill dn nt ln x = 2)) 1 6 := by
  intro sz
  refine vx_ofW (cc := b_D_fill) (maxL := 4) (ret := (some .int)) (by decide) rfl ?_
  intro p e s m args below meth c s₁ B hml hno hv
  obtain ⟨rfl, hZ, hsz, hP, hK, hG, hD0⟩ := hv
  have hx := B.exec
  have hb := B.bytes
  have hr := B.returns
  have hts := fun (w : Cond) (h : w ∈ ew_T) => atoms_spec (ws := w_D_fill) B.pre w (List.mem_cons_of_mem _ h)
  have hown : s.vm.findClass R_D = some m.cls := findClass_of_methodNamed B.named
  have hlocks := B.notSynchronized
  subst hsz
  have hD := hD0.self (sz := s.heap.size)
  generalize hAe : va_A [(d0, .inr (3, [.ref pl, .ref tp, .ref wi, .ref pg, .ref te, .ref nw, .ref nx])), (pl, .inr (1, [.ref pb, .int dn, .int wr, .int pw])), (tp, .inr (2, [.ref tb, .int ln])), (tb, .inl (cB, nt, .inl tf))] s.heap.size = A at hD hZ ⊢
  have hA : ∀ q : Nat, s.heap.size ≤ q → A q := fun q h => by rw [← hAe]; exact Or.inr h
  have hS : va_S A s.heap s.heap [] := va_S.rf
  have hP : va_P (dC, dI) vwCl [(d0, .inr (3, [.ref pl, .ref tp, .ref wi, .ref pg, .ref te, .ref nw, .ref nx])), (pl, .inr (1, [.ref pb, .int dn, .int wr, .int pw])), (tp, .inr (2, [.ref tb, .int ln])), (tb, .inl (cB, nt, .inl tf))] s.heap := hP
  have hl := lv_entry ([.ref d0, .int b, .int x]) (n := 4) (Nat.le_of_ble_eq_true rfl)
  rw [lg_entry_eq]
  generalize (lg_sl ([.ref d0, .int b, .int x]) ++ List.replicate (4 - (lg_sl ([.ref d0, .int b, .int x])).length) Slot.unset).toArray = ls at hl ⊢
  have hl : lv_has ls 4 [(0, .ref d0), (1, .int b), (2, .int x)] := hl
  have C0 : ey_Cx p s m [.ref d0, .int b, .int x].toArray meth c b_D_fill 4 R_D ew_T (some .int) A := ⟨hx, hb, hml, hown, hts, hr, hlocks, hA⟩
  refine lv_iload_n hx hb d_D_fill_0 rfl (lv_at hl 2 rfl) ?_
  refine lv_iconst (v := 1) hx hb d_D_fill_1 (by decide) ?_
  refine lv_icmp_lt (tgt := 11) hx hb d_D_fill_2 (by decide) (fun c_2 => ?_) (fun c_2 => ?_)
  · have hP9 : va_P (dC, dI) vwCl [(d0, .inr (3, [.ref pl, .ref tp, .ref wi, .ref pg, .ref te, .ref nw, .ref nx])), (pl, .inr (1, [.ref pb, .int dn, .int wr, .int pw])), (tp, .inr (2, [.ref tb, .int ln])), (tb, .inl (cB, nt, .inl tf))] _ := ey_P (is := [0, 1, 2, 3]) hP rfl
    have hD9 : va_D A [(d0, .inr (3, [.ref pl, .ref tp, .ref wi, .ref pg, .ref te, .ref nw, .ref nx])), (pl, .inr (1, [.ref pb, .int dn, .int wr, .int pw])), (tp, .inr (2, [.ref tb, .int ln])), (tb, .inl (cB, nt, .inl tf))] := hD.sub [0, 1, 2, 3] (by decide) rfl
    obtain ⟨sa9, hstr9⟩ := ex_str (k := 84) (t := "n is not 1 .. 100000") hG (by decide +kernel)
    exact vx_throwS (names := ["java/lang/RuntimeException", "java/lang/Exception"]) hx hb hl9 hown (by decide +kernel) (by decide +kernel) (hts _ ew_190) (hts _ ew_22) hstr9 (ex_hatA hG hts) ex_goodA hZ.1 hZ.2 hS (by rw [hml]; exact hl.1) d_D_fill_11 d_D_fill_14 d_D_fill_15 d_D_fill_17 d_D_fill_20 (fun x h9 => (hno x h9).elim) (Nat.le_of_ble_eq_true rfl) (Nat.le_of_ble_eq_true rfl) (Nat.le_of_ble_eq_true rfl) (Nat.le_of_ble_eq_true rfl) hlocks (fun t _ hz hk => ⟨(), trivial, ⟨Or.inl ⟨rfl, by simp only [ep_kfill, ↓reduceIte, not_true_eq_false, not_false_eq_true, c_2]⟩, (ey_keptX hP9 hD9 hS hz hk).1⟩, (ey_keptX hP9 hD9 hS hz hk).2⟩) hS.2.2 (Nat.le_of_ble_eq_true rfl) (Nat.le_of_ble_eq_true rfl)
  · refine lv_iload_n hx hb d_D_fill_5 rfl (lv_at hl 2 rfl) ?_
    refine lv_ldc hx hb hown (hts _ ew_287) d_D_fill_6 ?_
    refine lv_icmp_le (tgt := 21) hx hb d_D_fill_8 (by decide) (fun c_8 => ?_) (fun c_8 => ?_)
    · refine lv_aload_n hx hb d_D_fill_21 rfl (lv_at hl 0 rfl) ?_
      refine va_get (D := (dC, dI)) (ci := 3) (v := .ref pl) (C := R_D) (T := T_D) (N := 7) hx hb hts in_D hown hK hP 0 rfl rfl 0 (by decide) (hts _ ew_109) (fun _ h9 => h9) rfl d_D_fill_22 ?_
      refine va_get (D := (dC, dI)) (ci := 1) (v := .int dn) (C := R_P) (T := T_P) (N := 4) hx hb hts in_P hown hK hP 1 rfl rfl 1 (by decide) (hts _ ew_48) (fun _ h9 => h9) rfl d_D_fill_25 ?_
      refine lv_if_ne (tgt := 42) hx hb d_D_fill_28 (by decide) (fun c_28 => ?_) (fun c_28 => ?_)
      · have hP9 : va_P (dC, dI) vwCl [(d0, .inr (3, [.ref pl, .ref tp, .ref wi, .ref pg, .ref te, .ref nw, .ref nx])), (pl, .inr (1, [.ref pb, .int dn, .int wr, .int pw])), (tp, .inr (2, [.ref tb, .int ln])), (tb, .inl (cB, nt, .inl tf))] _ := ey_P (is := [0, 1, 2, 3]) hP rfl
        have hD9 : va_D A [(d0, .inr (3, [.ref pl, .ref tp, .ref wi, .ref pg, .ref te, .ref nw, .ref nx])), (pl, .inr (1, [.ref pb, .int dn, .int wr, .int pw])), (tp, .inr (2, [.ref tb, .int ln])), (tb, .inl (cB, nt, .inl tf))] := hD.sub [0, 1, 2, 3] (by decide) rfl
        obtain ⟨sa9, hstr9⟩ := ex_str (k := 72) (t := "the store is down, or the tape has no room") hG (by decide +kernel)
        exact vx_throwS (names := ["java/lang/RuntimeException", "java/lang/Exception"]) hx hb hl9 hown (by decide +kernel) (by decide +kernel) (hts _ ew_260) (hts _ ew_23) hstr9 (ex_hatS hG hts) ex_goodS hZ.1 hZ.2 hS (by rw [hml]; exact hl.1) d_D_fill_42 d_D_fill_45 d_D_fill_46 d_D_fill_48 d_D_fill_51 (fun x h9 => (hno x h9).elim) (Nat.le_of_ble_eq_true rfl) (Nat.le_of_ble_eq_true rfl) (Nat.le_of_ble_eq_true rfl) (Nat.le_of_ble_eq_true rfl) hlocks (fun t _ hz hk => ⟨(), trivial, ⟨Or.inr ⟨rfl, by simp only [ep_kfill, ↓reduceIte, not_true_eq_false, not_false_eq_true, c_2, c_8, c_28]⟩, (ey_keptX hP9 hD9 hS hz hk).1⟩, (ey_keptX hP9 hD9 hS hz hk).2⟩) hS.2.2 (Nat.le_of_ble_eq_true rfl) (Nat.le_of_ble_eq_true rfl)
      · refine lv_aload_n hx hb d_D_fill_31 rfl (lv_at hl 0 rfl) ?_
        refine va_get (D := (dC, dI)) (ci := 3) (v := .ref tp) (C := R_D) (T := T_D) (N := 7) hx hb hts in_D hown hK hP 0 rfl rfl 1 (by decide) (hts _ ew_110) (fun _ h9 => h9) rfl d_D_fill_32 ?_
        refine lv_iload_n hx hb d_D_fill_35 rfl (lv_at hl 2 rfl) ?_
        refine ey_Vi (Wc := [(tp, .inr (2, [.ref tb, .int ln])), (tb, .inl (cB, nt, .inl tf))]) (wr := [(d0, .inr (3, [.ref pl, .ref tp, .ref wi, .ref pg, .ref te, .ref nw, .ref nx])), (pl, .inr (1, [.ref pb, .int dn, .int wr, .int pw]))]) (As := [.int x]) (rest := []) ⟨hx, hb, hml, hown, hts⟩ (c_tp_room l dC dI cI cB cJ cZ tp tb ln nt tf x) (cwV 1 hts (ew_V ew_256 ew_257 ew_258 ew_16 g_Tp_hasRoomFor) rfl rfl rfl (by decide +kernel) ⟨Nat.le_of_ble_eq_true rfl, Nat.le_of_ble_eq_true rfl⟩) hK hG hP hD hS hA [2, 3] [0, 1] rfl rfl (by decide) (by decide) (by decide) (ci := 2) (q0 := 0) rfl rfl rfl hl.1 rfl (Nat.le_of_ble_eq_true rfl) d_D_fill_36 ⟨Nat.le_of_ble_eq_true rfl, Nat.le_of_ble_eq_true rfl⟩ (fun r_1 u_2 H locs e_3 hP hD hS => ?_)
        have hP : va_P (dC, dI) vwCl [(d0, .inr (3, [.ref pl, .ref tp, .ref wi, .ref pg, .ref te, .ref nw, .ref nx])), (pl, .inr (1, [.ref pb, .int dn, .int wr, .int pw])), (tp, .inr (2, [.ref tb, .int ln])), (tb, .inl (cB, nt, .inl tf))] H := hP
        have hD : va_D A [(d0, .inr (3, [.ref pl, .ref tp, .ref wi, .ref pg, .ref te, .ref nw, .ref nx])), (pl, .inr (1, [.ref pb, .int dn, .int wr, .int pw])), (tp, .inr (2, [.ref tb, .int ln])), (tb, .inl (cB, nt, .inl tf))] := hD
        subst e_3
        refine lv_if_ne (tgt := 52) hx hb d_D_fill_39 (by decide) (fun c_39 => ?_) (fun c_39 => ?_)
        · refine lv_iconst (v := nI 0) hx hb d_D_fill_52 (by decide) ?_
          refine lv_istore_n (lv' := [(3, .int (nI 0)), (0, .ref d0), (1, .int b), (2, .int x)]) hx hb d_D_fill_53 rfl hl (by decide) rfl (fun ls hl => ?_)
          have hk0 : ep_kfill dn nt ln x = 0 := by simp only [ep_kfill, ↓reduceIte, not_true_eq_false, not_false_eq_true, c_2, c_8, c_28, c_39]
          exact c_ed_fill_L (d0 := d0) (pl := pl) (tp := tp) (wi := wi) (pg := pg) (te := te) (nw := nw) (nx := nx) (pb := pb) (dn := dn) (wr := wr) (pw := pw) (tb := tb) (ln := ln) (nt := nt) (tf := tf) (b := b) (x := x) hnt hk0 (ey_fl_x c_2) hK hG C0 (x.toNatClampNeg + 1) 0 (tf, ln) (by omega) (by omega) rfl _ _ hP hD hS ls (lv_sub hl [1, 2, 3, 0] rfl)
        · have hP9 : va_P (dC, dI) vwCl [(d0, .inr (3, [.ref pl, .ref tp, .ref wi, .ref pg, .ref te, .ref nw, .ref nx])), (pl, .inr (1, [.ref pb, .int dn, .int wr, .int pw])), (tp, .inr (2, [.ref tb, .int ln])), (tb, .inl (cB, nt, .inl tf))] _ := ey_P (is := [0, 1, 2, 3]) hP rfl
          have hD9 : va_D A [(d0, .inr (3, [.ref pl, .ref tp, .ref wi, .ref pg, .ref te, .ref nw, .ref nx])), (pl, .inr (1, [.ref pb, .int dn, .int wr, .int pw])), (tp, .inr (2, [.ref tb, .int ln])), (tb, .inl (cB, nt, .inl tf))] := hD.sub [0, 1, 2, 3] (by decide) rfl
          obtain ⟨sa9, hstr9⟩ := ex_str (k := 72) (t := "the store is down, or the tape has no room") hG (by decide +kernel)
          exact vx_throwS (names := ["java/lang/RuntimeException", "java/lang/Exception"]) hx hb hl9 hown (by decide +kernel) (by decide +kernel) (hts _ ew_260) (hts _ ew_23) hstr9 (ex_hatS hG hts) ex_goodS hZ.1 hZ.2 hS (by rw [hml]; exact hl.1) d_D_fill_42 d_D_fill_45 d_D_fill_46 d_D_fill_48 d_D_fill_51 (fun x h9 => (hno x h9).elim) (Nat.le_of_ble_eq_true rfl) (Nat.le_of_ble_eq_true rfl) (Nat.le_of_ble_eq_true rfl) (Nat.le_of_ble_eq_true rfl) hlocks (fun t _ hz hk => ⟨(), trivial, ⟨Or.inr ⟨rfl, by simp only [ep_kfill, ↓reduceIte, not_true_eq_false, not_false_eq_true, c_2, c_8, c_28, c_39]⟩, (ey_keptX hP9 hD9 hS hz hk).1⟩, (ey_keptX hP9 hD9 hS hz hk).2⟩) hS.2.2 (Nat.le_of_ble_eq_true rfl) (Nat.le_of_ble_eq_true rfl)
    · have hP9 : va_P (dC, dI) vwCl [(d0, .inr (3, [.ref pl, .ref tp, .ref wi, .ref pg, .ref te, .ref nw, .ref nx])), (pl, .inr (1, [.ref pb, .int dn, .int wr, .int pw])), (tp, .inr (2, [.ref tb, .int ln])), (tb, .inl (cB, nt, .inl tf))] _ := ey_P (is := [0, 1, 2, 3]) hP rfl
      have hD9 : va_D A [(d0, .inr (3, [.ref pl, .ref tp, .ref wi, .ref pg, .ref te, .ref nw, .ref nx])), (pl, .inr (1, [.ref pb, .int dn, .int wr, .int pw])), (tp, .inr (2, [.ref tb, .int ln])), (tb, .inl (cB, nt, .inl tf))] := hD.sub [0, 1, 2, 3] (by decide) rfl
      obtain ⟨sa9, hstr9⟩ := ex_str (k := 84) (t := "n is not 1 .. 100000") hG (by decide +kernel)
      exact vx_throwS (names := ["java/lang/RuntimeException", "java/lang/Exception"]) hx hb hl9 hown (by decide +kernel) (by decide +kernel) (hts _ ew_190) (hts _ ew_22) hstr9 (ex_hatA hG hts) ex_goodA hZ.1 hZ.2 hS (by rw [hml]; exact hl.1) d_D_fill_11 d_D_fill_14 d_D_fill_15 d_D_fill_17 d_D_fill_20 (fun x h9 => (hno x h9).elim) (Nat.le_of_ble_eq_true rfl) (Nat.le_of_ble_eq_true rfl) (Nat.le_of_ble_eq_true rfl) (Nat.le_of_ble_eq_true rfl) hlocks (fun t _ hz hk => ⟨(), trivial, ⟨Or.inl ⟨rfl, by simp only [ep_kfill, ↓reduceIte, not_true_eq_false, not_false_eq_true, c_2, c_8]⟩, (ey_keptX hP9 hD9 hS hz hk).1⟩, (ey_keptX hP9 hD9 hS hz hk).2⟩) hS.2.2 (Nat.le_of_ble_eq_true rfl) (Nat.le_of_ble_eq_true rfl)
