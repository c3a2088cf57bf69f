set_option maxHeartbeats 4000000 in
set_option maxRecDepth 100000 in
theorem el_head {p : Program} {l : Launch} {e : Env} {s : State} {m : MethodId} {below : List Frame} {meth : Method} {c : Code} {A : Nat → Prop} {dC : Nat → ClassId} {dI : Nat → Nat → Nat} {cI cB cJ cZ : ClassId} {b nB : Nat} {L : Nat} {xs : Nat → Int32} (C0 : el_C p l s m meth c A dC dI cI cB cJ cZ b L xs nB) {i K : Nat} (hi5 : i ≤ 5000) (hK5 : K ≤ 600) (kk : i + 4 ≤ L → el_G p l e s m below meth c A dC dI cI cB cJ cZ b nB 847 i (K + 1)) : el_G p l e s m below meth c A dC dI cI cB cJ cZ b nB 33 i K := by
  obtain ⟨hx, hb, hr, hml, hown, hts, hX, hbl, hlocks, hK, hG, hN, hZ, hl9, hA, hAf, hbA, hB8, hB, hL⟩ := id C0
  intro d0 pl tp wi pg te nw nx pb tb n1 n2 n3 n4 x1 x2 x3 x4 pf tf wf pgf t0 la fi si no xla xfi xsi xno dn wr pw ln ex chc xex xch k0 a1 a2 a3 a4 a5 a6 a7 a8 a9 co dn2 wr2 lf ch E t lk fk mk sk nk dk us wk tk oa of hsim H locs hP hD hS ls hl
  refine lv_iload hx hb d_L_law_33 (lv_at hl 0 rfl) ?_
  refine lv_aload_n hx hb d_L_law_35 rfl (lv_at hl 1 rfl) ?_
  refine va_slen hx hb hX hbl hbA hS d_L_law_36 ?_
  refine lv_iconst (v := 4) hx hb d_L_law_37 (by decide) ?_
  refine lv_isub hx hb d_L_law_38 ?_
  refine lv_icmp_gt (tgt := 853) hx hb d_L_law_39 (by decide) (fun c_39 => ?_) (fun c_39 => ?_)
  · refine lv_iconst (v := 1) hx hb d_L_law_853 (by decide) ?_
    refine va_forget (fun q hq => hAf _ (hS.2.2 q hq)) ?_
    refine W.widen (k := 601024) (n := 7293000) (by omega) (by omega) ?_
    exact lw_ret hx hb hr hlocks d_L_law_854
  · have hi := el_le hi5 hL c_39
    have kk := kk hi
    refine lv_aload_n hx hb d_L_law_42 rfl (lv_at hl 1 rfl) ?_
    refine lv_iload hx hb d_L_law_43 (lv_at hl 0 rfl) ?_
    refine va_sld hx hb hX hbl hbA hS (vp_in_nI (by omega) (by omega)) d_L_law_45 ?_
    refine lv_bipush (v := 15) hx hb d_L_law_46 (by decide) ?_
    refine lv_iand hx hb d_L_law_48 ?_
    by_cases s_49_0 : (xs (nI i).toNatClampNeg) &&& 15 = 0
    · refine lv_tableIn (off := 71) (tgt := 120) hx hb d_L_law_49 (by rw [s_49_0]; decide) (by rw [s_49_0]; decide) (by rw [s_49_0]; decide) (by decide) ?_
      exact el_put C0 hi hK5 kk d0 pl tp wi pg te nw nx pb tb n1 n2 n3 n4 x1 x2 x3 x4 pf tf wf pgf t0 la fi si no xla xfi xsi xno dn wr pw ln ex chc xex xch k0 a1 a2 a3 a4 a5 a6 a7 a8 a9 co dn2 wr2 lf ch E t lk fk mk sk nk dk us wk tk oa of hsim _ _ hP hD hS ls (lv_sub hl [0, 1, 2, 3, 4] rfl)
    by_cases s_49_1 : (xs (nI i).toNatClampNeg) &&& 15 = 1
    · refine lv_tableIn (off := 171) (tgt := 220) hx hb d_L_law_49 (by rw [s_49_1]; decide) (by rw [s_49_1]; decide) (by rw [s_49_1]; decide) (by decide) ?_
      exact el_fill C0 hi hK5 kk d0 pl tp wi pg te nw nx pb tb n1 n2 n3 n4 x1 x2 x3 x4 pf tf wf pgf t0 la fi si no xla xfi xsi xno dn wr pw ln ex chc xex xch k0 a1 a2 a3 a4 a5 a6 a7 a8 a9 co dn2 wr2 lf ch E t lk fk mk sk nk dk us wk tk oa of hsim _ _ hP hD hS ls (lv_sub hl [0, 1, 2, 3, 4] rfl)
    by_cases s_49_2 : (xs (nI i).toNatClampNeg) &&& 15 = 2
    · refine lv_tableIn (off := 239) (tgt := 288) hx hb d_L_law_49 (by rw [s_49_2]; decide) (by rw [s_49_2]; decide) (by rw [s_49_2]; decide) (by decide) ?_
      exact el_drop C0 hi hK5 kk d0 pl tp wi pg te nw nx pb tb n1 n2 n3 n4 x1 x2 x3 x4 pf tf wf pgf t0 la fi si no xla xfi xsi xno dn wr pw ln ex chc xex xch k0 a1 a2 a3 a4 a5 a6 a7 a8 a9 co dn2 wr2 lf ch E t lk fk mk sk nk dk us wk tk oa of hsim _ _ hP hD hS ls (lv_sub hl [0, 1, 2, 3, 4] rfl)
    by_cases s_49_3 : (xs (nI i).toNatClampNeg) &&& 15 = 3
    · refine lv_tableIn (off := 283) (tgt := 332) hx hb d_L_law_49 (by rw [s_49_3]; decide) (by rw [s_49_3]; decide) (by rw [s_49_3]; decide) (by decide) ?_
      exact el_wish C0 hi hK5 kk d0 pl tp wi pg te nw nx pb tb n1 n2 n3 n4 x1 x2 x3 x4 pf tf wf pgf t0 la fi si no xla xfi xsi xno dn wr pw ln ex chc xex xch k0 a1 a2 a3 a4 a5 a6 a7 a8 a9 co dn2 wr2 lf ch E t lk fk mk sk nk dk us wk tk oa of hsim _ _ hP hD hS ls (lv_sub hl [0, 1, 2, 3, 4] rfl)
    by_cases s_49_4 : (xs (nI i).toNatClampNeg) &&& 15 = 4
    · refine lv_tableIn (off := 351) (tgt := 400) hx hb d_L_law_49 (by rw [s_49_4]; decide) (by rw [s_49_4]; decide) (by rw [s_49_4]; decide) (by decide) ?_
      exact el_note C0 hi hK5 kk d0 pl tp wi pg te nw nx pb tb n1 n2 n3 n4 x1 x2 x3 x4 pf tf wf pgf t0 la fi si no xla xfi xsi xno dn wr pw ln ex chc xex xch k0 a1 a2 a3 a4 a5 a6 a7 a8 a9 co dn2 wr2 lf ch E t lk fk mk sk nk dk us wk tk oa of hsim _ _ hP hD hS ls (lv_sub hl [0, 1, 2, 3, 4] rfl)
    by_cases s_49_5 : (xs (nI i).toNatClampNeg) &&& 15 = 5
    · refine lv_tableIn (off := 407) (tgt := 456) hx hb d_L_law_49 (by rw [s_49_5]; decide) (by rw [s_49_5]; decide) (by rw [s_49_5]; decide) (by decide) ?_
      exact el_change C0 hi hK5 kk d0 pl tp wi pg te nw nx pb tb n1 n2 n3 n4 x1 x2 x3 x4 pf tf wf pgf t0 la fi si no xla xfi xsi xno dn wr pw ln ex chc xex xch k0 a1 a2 a3 a4 a5 a6 a7 a8 a9 co dn2 wr2 lf ch E t lk fk mk sk nk dk us wk tk oa of hsim _ _ hP hD hS ls (lv_sub hl [0, 1, 2, 3, 4] rfl)
    by_cases s_49_6 : (xs (nI i).toNatClampNeg) &&& 15 = 6
    · refine lv_tableIn (off := 487) (tgt := 536) hx hb d_L_law_49 (by rw [s_49_6]; decide) (by rw [s_49_6]; decide) (by rw [s_49_6]; decide) (by decide) ?_
      exact el_extent C0 hi hK5 kk d0 pl tp wi pg te nw nx pb tb n1 n2 n3 n4 x1 x2 x3 x4 pf tf wf pgf t0 la fi si no xla xfi xsi xno dn wr pw ln ex chc xex xch k0 a1 a2 a3 a4 a5 a6 a7 a8 a9 co dn2 wr2 lf ch E t lk fk mk sk nk dk us wk tk oa of hsim _ _ hP hD hS ls (lv_sub hl [0, 1, 2, 3, 4] rfl)
    by_cases s_49_7 : (xs (nI i).toNatClampNeg) &&& 15 = 7
    · refine lv_tableIn (off := 555) (tgt := 604) hx hb d_L_law_49 (by rw [s_49_7]; decide) (by rw [s_49_7]; decide) (by rw [s_49_7]; decide) (by decide) ?_
      exact el_byteAt C0 hi hK5 kk d0 pl tp wi pg te nw nx pb tb n1 n2 n3 n4 x1 x2 x3 x4 pf tf wf pgf t0 la fi si no xla xfi xsi xno dn wr pw ln ex chc xex xch k0 a1 a2 a3 a4 a5 a6 a7 a8 a9 co dn2 wr2 lf ch E t lk fk mk sk nk dk us wk tk oa of hsim _ _ hP hD hS ls (lv_sub hl [0, 1, 2, 3, 4] rfl)
    by_cases s_49_8 : (xs (nI i).toNatClampNeg) &&& 15 = 8
    · refine lv_tableIn (off := 623) (tgt := 672) hx hb d_L_law_49 (by rw [s_49_8]; decide) (by rw [s_49_8]; decide) (by rw [s_49_8]; decide) (by decide) ?_
      exact el_crash C0 hi hK5 kk d0 pl tp wi pg te nw nx pb tb n1 n2 n3 n4 x1 x2 x3 x4 pf tf wf pgf t0 la fi si no xla xfi xsi xno dn wr pw ln ex chc xex xch k0 a1 a2 a3 a4 a5 a6 a7 a8 a9 co dn2 wr2 lf ch E t lk fk mk sk nk dk us wk tk oa of hsim _ _ hP hD hS ls (lv_sub hl [0, 1, 2, 3, 4] rfl)
    by_cases s_49_9 : (xs (nI i).toNatClampNeg) &&& 15 = 9
    · refine lv_tableIn (off := 659) (tgt := 708) hx hb d_L_law_49 (by rw [s_49_9]; decide) (by rw [s_49_9]; decide) (by rw [s_49_9]; decide) (by decide) ?_
      exact el_recover C0 hi hK5 kk d0 pl tp wi pg te nw nx pb tb n1 n2 n3 n4 x1 x2 x3 x4 pf tf wf pgf t0 la fi si no xla xfi xsi xno dn wr pw ln ex chc xex xch k0 a1 a2 a3 a4 a5 a6 a7 a8 a9 co dn2 wr2 lf ch E t lk fk mk sk nk dk us wk tk oa of hsim _ _ hP hD hS ls (lv_sub hl [0, 1, 2, 3, 4] rfl)
    by_cases s_49_10 : (xs (nI i).toNatClampNeg) &&& 15 = 10
    · refine lv_tableIn (off := 672) (tgt := 721) hx hb d_L_law_49 (by rw [s_49_10]; decide) (by rw [s_49_10]; decide) (by rw [s_49_10]; decide) (by decide) ?_
      exact el_isDown C0 hi hK5 kk d0 pl tp wi pg te nw nx pb tb n1 n2 n3 n4 x1 x2 x3 x4 pf tf wf pgf t0 la fi si no xla xfi xsi xno dn wr pw ln ex chc xex xch k0 a1 a2 a3 a4 a5 a6 a7 a8 a9 co dn2 wr2 lf ch E t lk fk mk sk nk dk us wk tk oa of hsim _ _ hP hD hS ls (lv_sub hl [0, 1, 2, 3, 4] rfl)
    by_cases s_49_11 : (xs (nI i).toNatClampNeg) &&& 15 = 11
    · refine lv_tableIn (off := 685) (tgt := 734) hx hb d_L_law_49 (by rw [s_49_11]; decide) (by rw [s_49_11]; decide) (by rw [s_49_11]; decide) (by decide) ?_
      exact el_writes C0 hi hK5 kk d0 pl tp wi pg te nw nx pb tb n1 n2 n3 n4 x1 x2 x3 x4 pf tf wf pgf t0 la fi si no xla xfi xsi xno dn wr pw ln ex chc xex xch k0 a1 a2 a3 a4 a5 a6 a7 a8 a9 co dn2 wr2 lf ch E t lk fk mk sk nk dk us wk tk oa of hsim _ _ hP hD hS ls (lv_sub hl [0, 1, 2, 3, 4] rfl)
    by_cases s_49_12 : (xs (nI i).toNatClampNeg) &&& 15 = 12
    · refine lv_tableIn (off := 698) (tgt := 747) hx hb d_L_law_49 (by rw [s_49_12]; decide) (by rw [s_49_12]; decide) (by rw [s_49_12]; decide) (by decide) ?_
      exact el_count C0 hi hK5 kk d0 pl tp wi pg te nw nx pb tb n1 n2 n3 n4 x1 x2 x3 x4 pf tf wf pgf t0 la fi si no xla xfi xsi xno dn wr pw ln ex chc xex xch k0 a1 a2 a3 a4 a5 a6 a7 a8 a9 co dn2 wr2 lf ch E t lk fk mk sk nk dk us wk tk oa of hsim _ _ hP hD hS ls (lv_sub hl [0, 1, 2, 3, 4] rfl)
    by_cases s_49_13 : (xs (nI i).toNatClampNeg) &&& 15 = 13
    · refine lv_tableIn (off := 754) (tgt := 803) hx hb d_L_law_49 (by rw [s_49_13]; decide) (by rw [s_49_13]; decide) (by rw [s_49_13]; decide) (by decide) ?_
      exact el_doubled C0 hi hK5 kk d0 pl tp wi pg te nw nx pb tb n1 n2 n3 n4 x1 x2 x3 x4 pf tf wf pgf t0 la fi si no xla xfi xsi xno dn wr pw ln ex chc xex xch k0 a1 a2 a3 a4 a5 a6 a7 a8 a9 co dn2 wr2 lf ch E t lk fk mk sk nk dk us wk tk oa of hsim _ _ hP hD hS ls (lv_sub hl [0, 1, 2, 3, 4] rfl)
    refine lv_tableOut (tgt := 847) hx hb d_L_law_49 (by have a0 := lv_neT (a := 0) s_49_0 (by decide); have a1 := lv_neT (a := 1) s_49_1 (by decide); have a2 := lv_neT (a := 2) s_49_2 (by decide); have a3 := lv_neT (a := 3) s_49_3 (by decide); have a4 := lv_neT (a := 4) s_49_4 (by decide); have a5 := lv_neT (a := 5) s_49_5 (by decide); have a6 := lv_neT (a := 6) s_49_6 (by decide); have a7 := lv_neT (a := 7) s_49_7 (by decide); have a8 := lv_neT (a := 8) s_49_8 (by decide); have a9 := lv_neT (a := 9) s_49_9 (by decide); have a10 := lv_neT (a := 10) s_49_10 (by decide); have a11 := lv_neT (a := 11) s_49_11 (by decide); have a12 := lv_neT (a := 12) s_49_12 (by decide); have a13 := lv_neT (a := 13) s_49_13 (by decide); omega) (by decide) ?_
    refine W.widen (k := 29 + (K + 1)) (n := 2109577 + 6 * (K + 1)) (by omega) (by omega) ?_
    exact kk d0 pl tp wi pg te nw nx pb tb n1 n2 n3 n4 x1 x2 x3 x4 pf tf wf pgf t0 la fi si no xla xfi xsi xno dn wr pw ln ex chc xex xch k0 a1 a2 a3 a4 a5 a6 a7 a8 a9 co dn2 wr2 lf ch E t lk fk mk sk nk dk us wk tk oa of (es_S_up hsim (by omega)) _ _ (ey_P (is := [0, 1, 2, 3, 4, 5, 6, 7, 8, 9, 10, 11, 12, 13, 14, 15, 16, 17, 18, 19, 20, 21, 22, 23, 24, 25, 26, 27, 28]) hP rfl) (hD.sub [0, 1, 2, 3, 4, 5, 6, 7, 8, 9, 10, 11, 12, 13, 14, 15, 16, 17, 18, 19, 20, 21, 22, 23, 24, 25, 26, 27, 28] (by decide) rfl) hS ls (lv_sub hl [0, 1, 2, 3, 4] rfl)
set_option maxHeartbeats 4000000 in
set_option maxRecDepth 100000 in
theorem el_next {p : Program} {l : Launch} {e : Env} {s : State} {m : MethodId} {below : List Frame} {meth : Method} {c : Code} {A : Nat → Prop} {dC : Nat → ClassId} {dI : Nat → Nat → Nat} {cI cB cJ cZ : ClassId} {b nB : Nat} {L : Nat} {xs : Nat → Int32} (C0 : el_C p l s m meth c A dC dI cI cB cJ cZ b L xs nB) {i K : Nat} (kk : el_G p l e s m below meth c A dC dI cI cB cJ cZ b nB 33 (i + 4) K) : el_G p l e s m below meth c A dC dI cI cB cJ cZ b nB 847 i K := by
  obtain ⟨hx, hb, hr, hml, hown, hts, hX, hbl, hlocks, hK, hG, hN, hZ, hl9, hA, hAf, hbA, hB8, hB, hL⟩ := id C0
  intro d0 pl tp wi pg te nw nx pb tb n1 n2 n3 n4 x1 x2 x3 x4 pf tf wf pgf t0 la fi si no xla xfi xsi xno dn wr pw ln ex chc xex xch k0 a1 a2 a3 a4 a5 a6 a7 a8 a9 co dn2 wr2 lf ch E t lk fk mk sk nk dk us wk tk oa of hsim H locs hP hD hS ls hl
  refine lv_iinc (v := nI (i + 4)) (lv' := [(4, .int (nI (i + 4))), (0, .ref b), (1, .ref d0), (2, .ref k0), (3, .ref oa)]) hx hb d_L_law_847 hl (k := 0) rfl (nI_add i 4) (by decide) rfl (fun ls hl => ?_)
  refine lv_goto (tgt := 33) hx hb d_L_law_850 (by decide) ?_
  refine W.widen (k := 29 + K) (n := 2109577 + 6 * K) (by omega) (by omega) ?_
  exact kk d0 pl tp wi pg te nw nx pb tb n1 n2 n3 n4 x1 x2 x3 x4 pf tf wf pgf t0 la fi si no xla xfi xsi xno dn wr pw ln ex chc xex xch k0 a1 a2 a3 a4 a5 a6 a7 a8 a9 co dn2 wr2 lf ch E t lk fk mk sk nk dk us wk tk oa of hsim _ _ (ey_P (is := [0, 1, 2, 3, 4, 5, 6, 7, 8, 9, 10, 11, 12, 13, 14, 15, 16, 17, 18, 19, 20, 21, 22, 23, 24, 25, 26, 27, 28]) hP rfl) (hD.sub [0, 1, 2, 3, 4, 5, 6, 7, 8, 9, 10, 11, 12, 13, 14, 15, 16, 17, 18, 19, 20, 21, 22, 23, 24, 25, 26, 27, 28] (by decide) rfl) hS ls (lv_sub hl [0, 1, 2, 3, 4] rfl)
theorem el_loop {p : Program} {l : Launch} {e : Env} {s : State} {m : MethodId} {below : List Frame} {meth : Method} {c : Code} {A : Nat → Prop} {dC : Nat → ClassId} {dI : Nat → Nat → Nat} {cI cB cJ cZ : ClassId} {b nB : Nat} {L : Nat} {xs : Nat → Int32} (C0 : el_C p l s m meth c A dC dI cI cB cJ cZ b L xs nB) : ∀ n i K : Nat, L < i + 4 * n → i + 4 * n ≤ 5000 → K + n ≤ 600 → el_G p l e s m below meth c A dC dI cI cB cJ cZ b nB 33 i K := by
  intro n
  induction n with
  | zero =>
    intro i K h1 h2 h3
    exact el_head C0 (by omega) (by omega) (fun h => by omega)
  | succ n ih =>
    intro i K h1 h2 h3
    exact el_head C0 (by omega) (by omega) (fun _ => el_next C0 (ih (i + 4) (K + 1) (by omega) (by omega) (by omega)))
