set_option maxHeartbeats 4000000 in
set_option maxRecDepth 100000 in
theorem c_k_put_L {p : Program} {l : Launch} {e : Env} {s : State} {m : MethodId} {args : Array Value} {below : List Frame} {meth : Method} {c : Code} {dC : Nat → ClassId} {dI : Nat → Nat → Nat} {cI cB cJ cZ : ClassId} {A : Nat → Prop} {k0 a1 a2 a3 a4 a5 a6 a7 a8 a9 : Nat} {co : Int32} {nB : Nat} {dn wr lf : Int32} {E : Nat} {ch : Int32} {t : Nat} {tf : ep_F} {v : Int64} {x : Int32} (hB : nB ≤ 128) (ht : t ≤ 4096 * nB) (hk0 : ek_kput dn x t nB = 0) (hK : va_K (dC, dI) vwCl (ey_kt cI cB cJ cZ) s) (hG : ex_G s) (C0 : ey_Cx p s m args meth c b_K_put 5 R_K ew_T (some .int) A)  :
    ∀ (fuel : Nat) (y : Int32) (q : ek_TT) (hy1 : -1 ≤ y.toInt) (hy2 : y.toInt + 2 ≤ (fuel : Int)) (hq : (q.2 : Int) + y.toInt + 1 ≤ 524288) (hu : ek_putl v fuel y q = ek_putl v 9 (x - 1) (tf, t)), ∀ (H : Heap) (locs : List Loc), va_P (dC, dI) vwCl [(k0, .inr (4, [.int 0, .int (nI nB), .int dn, .int wr, .int lf, .int (nI E), .ref a1, .ref a2, .ref a3, .ref a4, .ref a5, .int ch, .ref a6, .ref a7, .ref a8, .int (nI q.2), .ref a9])), (a9, .inl (cB, 524288, .inl q.1))] H → va_D A [(k0, .inr (4, [.int 0, .int (nI nB), .int dn, .int wr, .int lf, .int (nI E), .ref a1, .ref a2, .ref a3, .ref a4, .ref a5, .int ch, .ref a6, .ref a7, .ref a8, .int (nI q.2), .ref a9])), (a9, .inl (cB, 524288, .inl q.1))] → va_S A s.heap H locs → ∀ (ls : Array Slot), lv_has ls 5 [(0, .ref k0), (1, .long v), (3, .int x), (4, .int y)] → W p l e { frames := 0, cells := 0, slots := 0, locals := 0 } s m args below meth c H locs 0 0 (MQ below (va_Qi (fun (r : Int32) (u : Int32 × ek_TT) => (r, u) = ek_put dn v x t nB tf) (fun u t8 => ey_Post (dC, dI) vwCl A ((fun (u : Int32 × ek_TT) => [(k0, .inr (4, [.int u.1, .int (nI nB), .int dn, .int wr, .int lf, .int (nI E), .ref a1, .ref a2, .ref a3, .ref a4, .ref a5, .int ch, .ref a6, .ref a7, .ref a8, .int (nI u.2.2), .ref a9])), (a9, .inl (cB, 524288, .inl u.2.1))]) u) t8) A) args s 0 0 A) (F0 m 62 ls []) := by
  obtain ⟨hx, hb, hml, hown, hts, hr, hlocks, hA⟩ := id C0
  intro fuel
  induction fuel with
  | zero =>
    intro y q hy1 hy2 hq hu H locs hP hD hS ls hl
    exact absurd hy2 (by omega)
  | succ fuel ih =>
    intro y q hy1 hy2 hq hu H locs hP hD hS ls hl
    refine lv_iload hx hb d_K_put_62 (lv_at hl 3 rfl) ?_
    refine lv_if_lt (tgt := 101) hx hb d_K_put_64 (by decide) (fun c_64 => ?_) (fun c_64 => ?_)
    · refine lv_aload_n hx hb d_K_put_101 rfl (lv_at hl 0 rfl) ?_
      refine va_get (D := (dC, dI)) (ci := 4) (v := .int (nI q.2)) (C := R_K) (T := T_K) (N := 17) hx hb hts in_K hown hK hP 0 rfl rfl 15 (by decide) (hts _ ew_434) (fun _ h9 => h9) rfl d_K_put_102 ?_
      exact ey_iret (W1 := fun (u : Int32 × ek_TT) => [(k0, .inr (4, [.int u.1, .int (nI nB), .int dn, .int wr, .int lf, .int (nI E), .ref a1, .ref a2, .ref a3, .ref a4, .ref a5, .int ch, .ref a6, .ref a7, .ref a8, .int (nI u.2.2), .ref a9])), (a9, .inl (cB, 524288, .inl u.2.1))]) hx hb hr hlocks hP hD hS (0, q) [0, 1] rfl (by decide) (by rw [ek_put, if_pos hk0, ← hu, ek_putl, if_pos c_64]) d_K_put_105 (Nat.le_of_ble_eq_true rfl) (Nat.le_of_ble_eq_true rfl)
    · refine lv_aload_n hx hb d_K_put_67 rfl (lv_at hl 0 rfl) ?_
      refine va_get (D := (dC, dI)) (ci := 4) (v := .ref a9) (C := R_K) (T := T_K) (N := 17) hx hb hts in_K hown hK hP 0 rfl rfl 16 (by decide) (hts _ ew_435) (fun _ h9 => h9) rfl d_K_put_68 ?_
      refine lv_aload_n hx hb d_K_put_71 rfl (lv_at hl 0 rfl) ?_
      refine va_get (D := (dC, dI)) (ci := 4) (v := .int (nI q.2)) (C := R_K) (T := T_K) (N := 17) hx hb hts in_K hown hK hP 0 rfl rfl 15 (by decide) (hts _ ew_434) (fun _ h9 => h9) rfl d_K_put_72 ?_
      refine lv_lload_n hx hb d_K_put_75 rfl (lv_at hl 1 rfl) ?_
      refine lv_bipush (v := 8) hx hb d_K_put_76 (by decide) ?_
      refine lv_iload hx hb d_K_put_78 (lv_at hl 3 rfl) ?_
      refine lv_imul hx hb d_K_put_80 ?_
      refine lv_lshr (v := ey_lshr v (8 * y)) hx hb d_K_put_81 rfl ?_
      refine lv_l2i (v := (ey_lshr v (8 * y)).toInt32) hx hb d_K_put_82 rfl ?_
      refine lv_i2b (v := ((ey_lshr v (8 * y)).toInt32).toInt8.toInt32) hx hb d_K_put_83 rfl ?_
      refine va_bast hx hb hK hP hD hS 1 1 rfl rfl (vp_in_nI (ek_q2 hq c_64) (by decide)) d_K_put_84 (fun H locs hP hD hS => ?_)
      have hP : va_P (dC, dI) vwCl [(k0, .inr (4, [.int 0, .int (nI nB), .int dn, .int wr, .int lf, .int (nI E), .ref a1, .ref a2, .ref a3, .ref a4, .ref a5, .int ch, .ref a6, .ref a7, .ref a8, .int (nI q.2), .ref a9])), (a9, .inl (cB, 524288, .inl (upd q.1 (nI q.2).toNatClampNeg (vp_nar .byte (((ey_lshr v (8 * y)).toInt32).toInt8.toInt32)))))] H := hP
      have hD : va_D A [(k0, .inr (4, [.int 0, .int (nI nB), .int dn, .int wr, .int lf, .int (nI E), .ref a1, .ref a2, .ref a3, .ref a4, .ref a5, .int ch, .ref a6, .ref a7, .ref a8, .int (nI q.2), .ref a9])), (a9, .inl (cB, 524288, .inl (upd q.1 (nI q.2).toNatClampNeg (vp_nar .byte (((ey_lshr v (8 * y)).toInt32).toInt8.toInt32)))))] := hD
      refine lv_aload_n hx hb d_K_put_85 rfl (lv_at hl 0 rfl) ?_
      refine lv_dup hx hb d_K_put_86 rfl ?_
      refine va_get (D := (dC, dI)) (ci := 4) (v := .int (nI q.2)) (C := R_K) (T := T_K) (N := 17) hx hb hts in_K hown hK hP 0 rfl rfl 15 (by decide) (hts _ ew_434) (fun _ h9 => h9) rfl d_K_put_87 ?_
      refine lv_iconst (v := 1) hx hb d_K_put_90 (by decide) ?_
      refine lv_iadd hx hb d_K_put_91 ?_
      rw [show ((nI q.2) + 1) = nI (q.2 + 1) from nI_1 q.2]
      refine va_put (D := (dC, dI)) (ci := 4) (v := .int (nI (q.2 + 1))) (ty := .int) (C := R_K) (T := T_K) (N := 17) hx hb hts in_K t_K t_K_ok n_K hown hK hP hD hS 0 rfl rfl 15 (by decide) (hts _ ew_434) (fun _ h9 => h9) rfl (by decide +kernel) rfl rfl (Nat.le_of_ble_eq_true rfl) d_K_put_92 (fun H locs hP hD hS => ?_)
      have hP : va_P (dC, dI) vwCl [(k0, .inr (4, [.int 0, .int (nI nB), .int dn, .int wr, .int lf, .int (nI E), .ref a1, .ref a2, .ref a3, .ref a4, .ref a5, .int ch, .ref a6, .ref a7, .ref a8, .int (nI (q.2 + 1)), .ref a9])), (a9, .inl (cB, 524288, .inl (upd q.1 (nI q.2).toNatClampNeg (vp_nar .byte (((ey_lshr v (8 * y)).toInt32).toInt8.toInt32)))))] H := hP
      have hD : va_D A [(k0, .inr (4, [.int 0, .int (nI nB), .int dn, .int wr, .int lf, .int (nI E), .ref a1, .ref a2, .ref a3, .ref a4, .ref a5, .int ch, .ref a6, .ref a7, .ref a8, .int (nI (q.2 + 1)), .ref a9])), (a9, .inl (cB, 524288, .inl (upd q.1 (nI q.2).toNatClampNeg (vp_nar .byte (((ey_lshr v (8 * y)).toInt32).toInt8.toInt32)))))] := hD
      refine lv_iinc (v := y + -1) (lv' := [(4, .int (y + -1)), (0, .ref k0), (1, .long v), (3, .int x)]) hx hb d_K_put_95 hl (k := 3) rfl (rfl) (by decide) rfl (fun ls hl => ?_)
      refine lv_goto (tgt := 62) hx hb d_K_put_98 (by decide) ?_
      have hq2 : q.2 < 524288 := ek_q2 hq c_64
      exact ih (y + -1) (upd q.1 (nI q.2).toNatClampNeg (vp_nar .byte (ey_lshr v (8 * y)).toInt32.toInt8.toInt32), q.2 + 1) (ey_dec1 c_64) (ey_dec2 c_64 hy2) (ek_q3 hq c_64) (by rw [← hu, ek_putl, if_neg c_64]) _ _ hP hD hS ls (lv_sub hl [1, 2, 3, 0] rfl)
set_option maxHeartbeats 4000000 in
set_option maxRecDepth 100000 in
theorem c_k_put (l : Launch) (dC : Nat → ClassId) (dI : Nat → Nat → Nat) (cI cB cJ cZ : ClassId) (k0 a1 a2 a3 a4 a5 a6 a7 a8 a9 : Nat) (co : Int32) (nB : Nat) (dn wr lf : Int32) (E : Nat) (ch : Int32) (t : Nat) (tf : ep_F) (v : Int64) (x : Int32) (hB : nB ≤ 128) (ht : t ≤ 4096 * nB) : ey_Mi l y_K_put w_K_put { frames := 0, cells := 0, slots := 0, locals := 0 } (dC, dI) vwCl (ey_kt cI cB cJ cZ) [.ref k0, .long v, .int x] [(k0, .inr (4, [.int co, .int (nI nB), .int dn, .int wr, .int lf, .int (nI E), .ref a1, .ref a2, .ref a3, .ref a4, .ref a5, .int ch, .ref a6, .ref a7, .ref a8, .int (nI t), .ref a9])), (a9, .inl (cB, 524288, .inl tf))] (fun (r : Int32) (u : Int32 × ek_TT) => (r, u) = ek_put dn v x t nB tf) (fun (u : Int32 × ek_TT) => [(k0, .inr (4, [.int u.1, .int (nI nB), .int dn, .int wr, .int lf, .int (nI E), .ref a1, .ref a2, .ref a3, .ref a4, .ref a5, .int ch, .ref a6, .ref a7, .ref a8, .int (nI u.2.2), .ref a9])), (a9, .inl (cB, 524288, .inl u.2.1))]) 0 0 := by
  intro sz
  refine Met.ofW (cc := b_K_put) (maxL := 5) (ret := (some .int)) (by decide) rfl ?_
  intro p e s m args below meth c s₁ B hml hv
  obtain ⟨rfl, hsz, hP, hK, hG, hD0⟩ := hv
  have hx := B.exec
  have hb := B.bytes
  have hr := B.returns
  have hts := fun (w : Cond) (h : w ∈ ew_T) => atoms_spec (ws := w_K_put) B.pre w (List.mem_cons_of_mem _ h)
  have hown : s.vm.findClass R_K = some m.cls := findClass_of_methodNamed B.named
  have hlocks := B.notSynchronized
  subst hsz
  have hD := hD0.self (sz := s.heap.size)
  generalize hAe : va_A [(k0, .inr (4, [.int co, .int (nI nB), .int dn, .int wr, .int lf, .int (nI E), .ref a1, .ref a2, .ref a3, .ref a4, .ref a5, .int ch, .ref a6, .ref a7, .ref a8, .int (nI t), .ref a9])), (a9, .inl (cB, 524288, .inl tf))] s.heap.size = A at hD ⊢
  have hA : ∀ q : Nat, s.heap.size ≤ q → A q := fun q h => by rw [← hAe]; exact Or.inr h
  have hS : va_S A s.heap s.heap [] := va_S.rf
  have hP : va_P (dC, dI) vwCl [(k0, .inr (4, [.int co, .int (nI nB), .int dn, .int wr, .int lf, .int (nI E), .ref a1, .ref a2, .ref a3, .ref a4, .ref a5, .int ch, .ref a6, .ref a7, .ref a8, .int (nI t), .ref a9])), (a9, .inl (cB, 524288, .inl tf))] s.heap := hP
  have hl := lv_entry ([.ref k0, .long v, .int x]) (n := 5) (Nat.le_of_ble_eq_true rfl)
  rw [lg_entry_eq]
  generalize (lg_sl ([.ref k0, .long v, .int x]) ++ List.replicate (5 - (lg_sl ([.ref k0, .long v, .int x])).length) Slot.unset).toArray = ls at hl ⊢
  have hl : lv_has ls 5 [(0, .ref k0), (1, .long v), (3, .int x)] := hl
  have C0 : ey_Cx p s m [.ref k0, .long v, .int x].toArray meth c b_K_put 5 R_K ew_T (some .int) A := ⟨hx, hb, hml, hown, hts, hr, hlocks, hA⟩
  refine lv_aload_n hx hb d_K_put_0 rfl (lv_at hl 0 rfl) ?_
  refine lv_iload_n hx hb d_K_put_1 rfl (lv_at hl 2 rfl) ?_
  refine lv_iconst (v := 1) hx hb d_K_put_2 (by decide) ?_
  refine lv_icmp_lt (tgt := 12) hx hb d_K_put_3 (by decide) (fun c_3 => ?_) (fun c_3 => ?_)
  · refine lv_iconst (v := 1) hx hb d_K_put_12 (by decide) ?_
    refine lv_goto (tgt := 45) hx hb d_K_put_13 (by decide) ?_
    refine va_put (D := (dC, dI)) (ci := 4) (v := .int 1) (ty := .int) (C := R_K) (T := T_K) (N := 17) hx hb hts in_K t_K t_K_ok n_K hown hK hP hD hS 0 rfl rfl 0 (by decide) (hts _ ew_419) (fun _ h9 => h9) rfl (by decide +kernel) rfl rfl (Nat.le_of_ble_eq_true rfl) d_K_put_45 (fun H locs hP hD hS => ?_)
    have hP : va_P (dC, dI) vwCl [(k0, .inr (4, [.int 1, .int (nI nB), .int dn, .int wr, .int lf, .int (nI E), .ref a1, .ref a2, .ref a3, .ref a4, .ref a5, .int ch, .ref a6, .ref a7, .ref a8, .int (nI t), .ref a9])), (a9, .inl (cB, 524288, .inl tf))] H := hP
    have hD : va_D A [(k0, .inr (4, [.int 1, .int (nI nB), .int dn, .int wr, .int lf, .int (nI E), .ref a1, .ref a2, .ref a3, .ref a4, .ref a5, .int ch, .ref a6, .ref a7, .ref a8, .int (nI t), .ref a9])), (a9, .inl (cB, 524288, .inl tf))] := hD
    refine lv_aload_n hx hb d_K_put_48 rfl (lv_at hl 0 rfl) ?_
    refine va_get (D := (dC, dI)) (ci := 4) (v := .int 1) (C := R_K) (T := T_K) (N := 17) hx hb hts in_K hown hK hP 0 rfl rfl 0 (by decide) (hts _ ew_419) (fun _ h9 => h9) rfl d_K_put_49 ?_
    refine lv_if_le (tgt := 57) hx hb d_K_put_52 (by decide) (fun c_52 => ?_) (fun c_52 => ?_)
    · exact absurd c_52 (by decide)
    · refine lv_iconst (v := 0) hx hb d_K_put_55 (by decide) ?_
      exact ey_iret (W1 := fun (u : Int32 × ek_TT) => [(k0, .inr (4, [.int u.1, .int (nI nB), .int dn, .int wr, .int lf, .int (nI E), .ref a1, .ref a2, .ref a3, .ref a4, .ref a5, .int ch, .ref a6, .ref a7, .ref a8, .int (nI u.2.2), .ref a9])), (a9, .inl (cB, 524288, .inl u.2.1))]) hx hb hr hlocks hP hD hS (1, tf, t) [0, 1] rfl (by decide) (by rw [ek_put, show ek_kput dn x t nB = 1 from by rw [ek_kput, if_pos c_3], if_neg (by decide)]) d_K_put_56 (Nat.le_of_ble_eq_true rfl) (Nat.le_of_ble_eq_true rfl)
  · refine lv_iload_n hx hb d_K_put_6 rfl (lv_at hl 2 rfl) ?_
    refine lv_bipush (v := 8) hx hb d_K_put_7 (by decide) ?_
    refine lv_icmp_le (tgt := 16) hx hb d_K_put_9 (by decide) (fun c_9 => ?_) (fun c_9 => ?_)
    · refine lv_aload_n hx hb d_K_put_16 rfl (lv_at hl 0 rfl) ?_
      refine va_get (D := (dC, dI)) (ci := 4) (v := .int dn) (C := R_K) (T := T_K) (N := 17) hx hb hts in_K hown hK hP 0 rfl rfl 2 (by decide) (hts _ ew_421) (fun _ h9 => h9) rfl d_K_put_17 ?_
      refine lv_if_ne (tgt := 40) hx hb d_K_put_20 (by decide) (fun c_20 => ?_) (fun c_20 => ?_)
      · refine lv_iconst (v := 2) hx hb d_K_put_40 (by decide) ?_
        refine lv_goto (tgt := 45) hx hb d_K_put_41 (by decide) ?_
        refine va_put (D := (dC, dI)) (ci := 4) (v := .int 2) (ty := .int) (C := R_K) (T := T_K) (N := 17) hx hb hts in_K t_K t_K_ok n_K hown hK hP hD hS 0 rfl rfl 0 (by decide) (hts _ ew_419) (fun _ h9 => h9) rfl (by decide +kernel) rfl rfl (Nat.le_of_ble_eq_true rfl) d_K_put_45 (fun H locs hP hD hS => ?_)
        have hP : va_P (dC, dI) vwCl [(k0, .inr (4, [.int 2, .int (nI nB), .int dn, .int wr, .int lf, .int (nI E), .ref a1, .ref a2, .ref a3, .ref a4, .ref a5, .int ch, .ref a6, .ref a7, .ref a8, .int (nI t), .ref a9])), (a9, .inl (cB, 524288, .inl tf))] H := hP
        have hD : va_D A [(k0, .inr (4, [.int 2, .int (nI nB), .int dn, .int wr, .int lf, .int (nI E), .ref a1, .ref a2, .ref a3, .ref a4, .ref a5, .int ch, .ref a6, .ref a7, .ref a8, .int (nI t), .ref a9])), (a9, .inl (cB, 524288, .inl tf))] := hD
        refine lv_aload_n hx hb d_K_put_48 rfl (lv_at hl 0 rfl) ?_
        refine va_get (D := (dC, dI)) (ci := 4) (v := .int 2) (C := R_K) (T := T_K) (N := 17) hx hb hts in_K hown hK hP 0 rfl rfl 0 (by decide) (hts _ ew_419) (fun _ h9 => h9) rfl d_K_put_49 ?_
        refine lv_if_le (tgt := 57) hx hb d_K_put_52 (by decide) (fun c_52 => ?_) (fun c_52 => ?_)
        · exact absurd c_52 (by decide)
        · refine lv_iconst (v := 0) hx hb d_K_put_55 (by decide) ?_
          exact ey_iret (W1 := fun (u : Int32 × ek_TT) => [(k0, .inr (4, [.int u.1, .int (nI nB), .int dn, .int wr, .int lf, .int (nI E), .ref a1, .ref a2, .ref a3, .ref a4, .ref a5, .int ch, .ref a6, .ref a7, .ref a8, .int (nI u.2.2), .ref a9])), (a9, .inl (cB, 524288, .inl u.2.1))]) hx hb hr hlocks hP hD hS (2, tf, t) [0, 1] rfl (by decide) (by rw [ek_put, show ek_kput dn x t nB = 2 from by rw [ek_kput, if_neg c_3, if_pos c_9, if_pos c_20], if_neg (by decide)]) d_K_put_56 (Nat.le_of_ble_eq_true rfl) (Nat.le_of_ble_eq_true rfl)
      · refine lv_aload_n hx hb d_K_put_23 rfl (lv_at hl 0 rfl) ?_
        refine va_get (D := (dC, dI)) (ci := 4) (v := .int (nI t)) (C := R_K) (T := T_K) (N := 17) hx hb hts in_K hown hK hP 0 rfl rfl 15 (by decide) (hts _ ew_434) (fun _ h9 => h9) rfl d_K_put_24 ?_
        refine lv_iload_n hx hb d_K_put_27 rfl (lv_at hl 2 rfl) ?_
        refine lv_iadd hx hb d_K_put_28 ?_
        refine lv_sipush (v := 4096) hx hb d_K_put_29 (by decide) ?_
        refine lv_aload_n hx hb d_K_put_32 rfl (lv_at hl 0 rfl) ?_
        refine va_get (D := (dC, dI)) (ci := 4) (v := .int (nI nB)) (C := R_K) (T := T_K) (N := 17) hx hb hts in_K hown hK hP 0 rfl rfl 1 (by decide) (hts _ ew_420) (fun _ h9 => h9) rfl d_K_put_33 ?_
        refine lv_imul hx hb d_K_put_36 ?_
        refine lv_icmp_le (tgt := 44) hx hb d_K_put_37 (by decide) (fun c_37 => ?_) (fun c_37 => ?_)
        · refine lv_iconst (v := 0) hx hb d_K_put_44 (by decide) ?_
          refine va_put (D := (dC, dI)) (ci := 4) (v := .int 0) (ty := .int) (C := R_K) (T := T_K) (N := 17) hx hb hts in_K t_K t_K_ok n_K hown hK hP hD hS 0 rfl rfl 0 (by decide) (hts _ ew_419) (fun _ h9 => h9) rfl (by decide +kernel) rfl rfl (Nat.le_of_ble_eq_true rfl) d_K_put_45 (fun H locs hP hD hS => ?_)
          have hP : va_P (dC, dI) vwCl [(k0, .inr (4, [.int 0, .int (nI nB), .int dn, .int wr, .int lf, .int (nI E), .ref a1, .ref a2, .ref a3, .ref a4, .ref a5, .int ch, .ref a6, .ref a7, .ref a8, .int (nI t), .ref a9])), (a9, .inl (cB, 524288, .inl tf))] H := hP
          have hD : va_D A [(k0, .inr (4, [.int 0, .int (nI nB), .int dn, .int wr, .int lf, .int (nI E), .ref a1, .ref a2, .ref a3, .ref a4, .ref a5, .int ch, .ref a6, .ref a7, .ref a8, .int (nI t), .ref a9])), (a9, .inl (cB, 524288, .inl tf))] := hD
          refine lv_aload_n hx hb d_K_put_48 rfl (lv_at hl 0 rfl) ?_
          refine va_get (D := (dC, dI)) (ci := 4) (v := .int 0) (C := R_K) (T := T_K) (N := 17) hx hb hts in_K hown hK hP 0 rfl rfl 0 (by decide) (hts _ ew_419) (fun _ h9 => h9) rfl d_K_put_49 ?_
          refine lv_if_le (tgt := 57) hx hb d_K_put_52 (by decide) (fun c_52 => ?_) (fun c_52 => ?_)
          · refine lv_iload_n hx hb d_K_put_57 rfl (lv_at hl 2 rfl) ?_
            refine lv_iconst (v := 1) hx hb d_K_put_58 (by decide) ?_
            refine lv_isub hx hb d_K_put_59 ?_
            refine lv_istore (lv' := [(4, .int (x - 1)), (0, .ref k0), (1, .long v), (3, .int x)]) hx hb d_K_put_60 hl (by decide) rfl (fun ls hl => ?_)
            have hk0 : ek_kput dn x t nB = 0 := by rw [ek_kput, if_neg c_3, if_pos c_9, if_neg (fun h9 => h9 c_20), if_pos c_37]
            exact c_k_put_L (k0 := k0) (a1 := a1) (a2 := a2) (a3 := a3) (a4 := a4) (a5 := a5) (a6 := a6) (a7 := a7) (a8 := a8) (a9 := a9) (co := co) (nB := nB) (dn := dn) (wr := wr) (lf := lf) (E := E) (ch := ch) (t := t) (tf := tf) (v := v) (x := x) hB ht hk0 hK hG C0 9 (x - 1) (tf, t) (ey_put1 c_3 c_9) (ey_put2 c_3 c_9) (ek_q1 hB ht c_3 c_9 c_37) rfl _ _ hP hD hS ls (lv_sub hl [1, 2, 3, 0] rfl)
          · exact absurd c_52 (by decide)
        · refine lv_iconst (v := 2) hx hb d_K_put_40 (by decide) ?_
          refine lv_goto (tgt := 45) hx hb d_K_put_41 (by decide) ?_
          refine va_put (D := (dC, dI)) (ci := 4) (v := .int 2) (ty := .int) (C := R_K) (T := T_K) (N := 17) hx hb hts in_K t_K t_K_ok n_K hown hK hP hD hS 0 rfl rfl 0 (by decide) (hts _ ew_419) (fun _ h9 => h9) rfl (by decide +kernel) rfl rfl (Nat.le_of_ble_eq_true rfl) d_K_put_45 (fun H locs hP hD hS => ?_)
          have hP : va_P (dC, dI) vwCl [(k0, .inr (4, [.int 2, .int (nI nB), .int dn, .int wr, .int lf, .int (nI E), .ref a1, .ref a2, .ref a3, .ref a4, .ref a5, .int ch, .ref a6, .ref a7, .ref a8, .int (nI t), .ref a9])), (a9, .inl (cB, 524288, .inl tf))] H := hP
          have hD : va_D A [(k0, .inr (4, [.int 2, .int (nI nB), .int dn, .int wr, .int lf, .int (nI E), .ref a1, .ref a2, .ref a3, .ref a4, .ref a5, .int ch, .ref a6, .ref a7, .ref a8, .int (nI t), .ref a9])), (a9, .inl (cB, 524288, .inl tf))] := hD
          refine lv_aload_n hx hb d_K_put_48 rfl (lv_at hl 0 rfl) ?_
          refine va_get (D := (dC, dI)) (ci := 4) (v := .int 2) (C := R_K) (T := T_K) (N := 17) hx hb hts in_K hown hK hP 0 rfl rfl 0 (by decide) (hts _ ew_419) (fun _ h9 => h9) rfl d_K_put_49 ?_
          refine lv_if_le (tgt := 57) hx hb d_K_put_52 (by decide) (fun c_52 => ?_) (fun c_52 => ?_)
          · exact absurd c_52 (by decide)
          · refine lv_iconst (v := 0) hx hb d_K_put_55 (by decide) ?_
            exact ey_iret (W1 := fun (u : Int32 × ek_TT) => [(k0, .inr (4, [.int u.1, .int (nI nB), .int dn, .int wr, .int lf, .int (nI E), .ref a1, .ref a2, .ref a3, .ref a4, .ref a5, .int ch, .ref a6, .ref a7, .ref a8, .int (nI u.2.2), .ref a9])), (a9, .inl (cB, 524288, .inl u.2.1))]) hx hb hr hlocks hP hD hS (2, tf, t) [0, 1] rfl (by decide) (by rw [ek_put, show ek_kput dn x t nB = 2 from by rw [ek_kput, if_neg c_3, if_pos c_9, if_neg (fun h9 => h9 c_20), if_neg c_37], if_neg (by decide)]) d_K_put_56 (Nat.le_of_ble_eq_true rfl) (Nat.le_of_ble_eq_true rfl)
    · refine lv_iconst (v := 1) hx hb d_K_put_12 (by decide) ?_
      refine lv_goto (tgt := 45) hx hb d_K_put_13 (by decide) ?_
      refine va_put (D := (dC, dI)) (ci := 4) (v := .int 1) (ty := .int) (C := R_K) (T := T_K) (N := 17) hx hb hts in_K t_K t_K_ok n_K hown hK hP hD hS 0 rfl rfl 0 (by decide) (hts _ ew_419) (fun _ h9 => h9) rfl (by decide +kernel) rfl rfl (Nat.le_of_ble_eq_true rfl) d_K_put_45 (fun H locs hP hD hS => ?_)
      have hP : va_P (dC, dI) vwCl [(k0, .inr (4, [.int 1, .int (nI nB), .int dn, .int wr, .int lf, .int (nI E), .ref a1, .ref a2, .ref a3, .ref a4, .ref a5, .int ch, .ref a6, .ref a7, .ref a8, .int (nI t), .ref a9])), (a9, .inl (cB, 524288, .inl tf))] H := hP
      have hD : va_D A [(k0, .inr (4, [.int 1, .int (nI nB), .int dn, .int wr, .int lf, .int (nI E), .ref a1, .ref a2, .ref a3, .ref a4, .ref a5, .int ch, .ref a6, .ref a7, .ref a8, .int (nI t), .ref a9])), (a9, .inl (cB, 524288, .inl tf))] := hD
      refine lv_aload_n hx hb d_K_put_48 rfl (lv_at hl 0 rfl) ?_
      refine va_get (D := (dC, dI)) (ci := 4) (v := .int 1) (C := R_K) (T := T_K) (N := 17) hx hb hts in_K hown hK hP 0 rfl rfl 0 (by decide) (hts _ ew_419) (fun _ h9 => h9) rfl d_K_put_49 ?_
      refine lv_if_le (tgt := 57) hx hb d_K_put_52 (by decide) (fun c_52 => ?_) (fun c_52 => ?_)
      · exact absurd c_52 (by decide)
      · refine lv_iconst (v := 0) hx hb d_K_put_55 (by decide) ?_
        exact ey_iret (W1 := fun (u : Int32 × ek_TT) => [(k0, .inr (4, [.int u.1, .int (nI nB), .int dn, .int wr, .int lf, .int (nI E), .ref a1, .ref a2, .ref a3, .ref a4, .ref a5, .int ch, .ref a6, .ref a7, .ref a8, .int (nI u.2.2), .ref a9])), (a9, .inl (cB, 524288, .inl u.2.1))]) hx hb hr hlocks hP hD hS (1, tf, t) [0, 1] rfl (by decide) (by rw [ek_put, show ek_kput dn x t nB = 1 from by rw [ek_kput, if_neg c_3, if_neg c_9], if_neg (by decide)]) d_K_put_56 (Nat.le_of_ble_eq_true rfl) (Nat.le_of_ble_eq_true rfl)
set_option maxHeartbeats 4000000 in
set_option maxRecDepth 100000 in
theorem c_k_fill_L {p : Program} {l : Launch} {e : Env} {s : State} {m : MethodId} {args : Array Value} {below : List Frame} {meth : Method} {c : Code} {dC : Nat → ClassId} {dI : Nat → Nat → Nat} {cI cB cJ cZ : ClassId} {A : Nat → Prop} {k0 a1 a2 a3 a4 a5 a6 a7 a8 a9 : Nat} {co : Int32} {nB : Nat} {dn wr lf : Int32} {E : Nat} {ch : Int32} {t : Nat} {tf : ep_F} {b x : Int32} (hB : nB ≤ 128) (ht : t ≤ 4096 * nB) (hk0 : ek_kfill dn x t nB = 0) (hx9 : ¬ x < 0) (hK : va_K (dC, dI) vwCl (ey_kt cI cB cJ cZ) s) (hG : ex_G s) (C0 : ey_Cx p s m args meth c b_K_fill 4 R_K ew_T (some .int) A)  :
    ∀ (fuel : Nat) (i : Nat) (q : ek_TT) (hi : i + fuel = x.toNatClampNeg + 1) (hin : i ≤ x.toNatClampNeg) (hq : q.2 + x.toNatClampNeg ≤ 524288 + i) (hu : ek_fll b x fuel i q = ek_fll b x (x.toNatClampNeg + 1) 0 (tf, t)), ∀ (H : Heap) (locs : List Loc), va_P (dC, dI) vwCl [(k0, .inr (4, [.int 0, .int (nI nB), .int dn, .int wr, .int lf, .int (nI E), .ref a1, .ref a2, .ref a3, .ref a4, .ref a5, .int ch, .ref a6, .ref a7, .ref a8, .int (nI q.2), .ref a9])), (a9, .inl (cB, 524288, .inl q.1))] H → va_D A [(k0, .inr (4, [.int 0, .int (nI nB), .int dn, .int wr, .int lf, .int (nI E), .ref a1, .ref a2, .ref a3, .ref a4, .ref a5, .int ch, .ref a6, .ref a7, .ref a8, .int (nI q.2), .ref a9])), (a9, .inl (cB, 524288, .inl q.1))] → va_S A s.heap H locs → ∀ (ls : Array Slot), lv_has ls 4 [(0, .ref k0), (1, .int b), (2, .int x), (3, .int (nI i))] → W p l e { frames := 0, cells := 0, slots := 0, locals := 0 } s m args below meth c H locs 0 0 (MQ below (va_Qi (fun (r : Int32) (u : Int32 × ek_TT) => (r, u) = ek_fill dn b x t nB tf) (fun u t8 => ey_Post (dC, dI) vwCl A ((fun (u : Int32 × ek_TT) => [(k0, .inr (4, [.int u.1, .int (nI nB), .int dn, .int wr, .int lf, .int (nI E), .ref a1, .ref a2, .ref a3, .ref a4, .ref a5, .int ch, .ref a6, .ref a7, .ref a8, .int (nI u.2.2), .ref a9])), (a9, .inl (cB, 524288, .inl u.2.1))]) u) t8) A) args s 0 0 A) (F0 m 59 ls []) := by
  obtain ⟨hx, hb, hml, hown, hts, hr, hlocks, hA⟩ := id C0
  intro fuel
  induction fuel with
  | zero =>
    intro i q hi hin hq hu H locs hP hD hS ls hl
    exact absurd hi (by omega)
  | succ fuel ih =>
    intro i q hi hin hq hu H locs hP hD hS ls hl
    refine lv_iload_n hx hb d_K_fill_59 rfl (lv_at hl 3 rfl) ?_
    refine lv_iload_n hx hb d_K_fill_60 rfl (lv_at hl 2 rfl) ?_
    refine lv_icmp_ge (tgt := 93) hx hb d_K_fill_61 (by decide) (fun c_61 => ?_) (fun c_61 => ?_)
    · refine lv_aload_n hx hb d_K_fill_93 rfl (lv_at hl 0 rfl) ?_
      refine va_get (D := (dC, dI)) (ci := 4) (v := .int (nI q.2)) (C := R_K) (T := T_K) (N := 17) hx hb hts in_K hown hK hP 0 rfl rfl 15 (by decide) (hts _ ew_434) (fun _ h9 => h9) rfl d_K_fill_94 ?_
      exact ey_iret (W1 := fun (u : Int32 × ek_TT) => [(k0, .inr (4, [.int u.1, .int (nI nB), .int dn, .int wr, .int lf, .int (nI E), .ref a1, .ref a2, .ref a3, .ref a4, .ref a5, .int ch, .ref a6, .ref a7, .ref a8, .int (nI u.2.2), .ref a9])), (a9, .inl (cB, 524288, .inl u.2.1))]) hx hb hr hlocks hP hD hS (0, q) [0, 1] rfl (by decide) (by rw [ek_fill, if_pos hk0, ← hu, ek_fll, if_pos c_61]) d_K_fill_97 (Nat.le_of_ble_eq_true rfl) (Nat.le_of_ble_eq_true rfl)
    · refine lv_aload_n hx hb d_K_fill_64 rfl (lv_at hl 0 rfl) ?_
      refine va_get (D := (dC, dI)) (ci := 4) (v := .ref a9) (C := R_K) (T := T_K) (N := 17) hx hb hts in_K hown hK hP 0 rfl rfl 16 (by decide) (hts _ ew_435) (fun _ h9 => h9) rfl d_K_fill_65 ?_
      refine lv_aload_n hx hb d_K_fill_68 rfl (lv_at hl 0 rfl) ?_
      refine va_get (D := (dC, dI)) (ci := 4) (v := .int (nI q.2)) (C := R_K) (T := T_K) (N := 17) hx hb hts in_K hown hK hP 0 rfl rfl 15 (by decide) (hts _ ew_434) (fun _ h9 => h9) rfl d_K_fill_69 ?_
      refine lv_iload_n hx hb d_K_fill_72 rfl (lv_at hl 1 rfl) ?_
      refine lv_iload_n hx hb d_K_fill_73 rfl (lv_at hl 3 rfl) ?_
      refine lv_iadd hx hb d_K_fill_74 ?_
      refine lv_i2b (v := (b + (nI i)).toInt8.toInt32) hx hb d_K_fill_75 rfl ?_
      refine va_bast hx hb hK hP hD hS 1 1 rfl rfl (vp_in_nI (by have h9 := ey_fl_i hx9 hin c_61; omega) (by decide)) d_K_fill_76 (fun H locs hP hD hS => ?_)
      have hP : va_P (dC, dI) vwCl [(k0, .inr (4, [.int 0, .int (nI nB), .int dn, .int wr, .int lf, .int (nI E), .ref a1, .ref a2, .ref a3, .ref a4, .ref a5, .int ch, .ref a6, .ref a7, .ref a8, .int (nI q.2), .ref a9])), (a9, .inl (cB, 524288, .inl (upd q.1 (nI q.2).toNatClampNeg (vp_nar .byte ((b + (nI i)).toInt8.toInt32)))))] H := hP
      have hD : va_D A [(k0, .inr (4, [.int 0, .int (nI nB), .int dn, .int wr, .int lf, .int (nI E), .ref a1, .ref a2, .ref a3, .ref a4, .ref a5, .int ch, .ref a6, .ref a7, .ref a8, .int (nI q.2), .ref a9])), (a9, .inl (cB, 524288, .inl (upd q.1 (nI q.2).toNatClampNeg (vp_nar .byte ((b + (nI i)).toInt8.toInt32)))))] := hD
      refine lv_aload_n hx hb d_K_fill_77 rfl (lv_at hl 0 rfl) ?_
      refine lv_dup hx hb d_K_fill_78 rfl ?_
      refine va_get (D := (dC, dI)) (ci := 4) (v := .int (nI q.2)) (C := R_K) (T := T_K) (N := 17) hx hb hts in_K hown hK hP 0 rfl rfl 15 (by decide) (hts _ ew_434) (fun _ h9 => h9) rfl d_K_fill_79 ?_
      refine lv_iconst (v := 1) hx hb d_K_fill_82 (by decide) ?_
      refine lv_iadd hx hb d_K_fill_83 ?_
      rw [show ((nI q.2) + 1) = nI (q.2 + 1) from nI_1 q.2]
      refine va_put (D := (dC, dI)) (ci := 4) (v := .int (nI (q.2 + 1))) (ty := .int) (C := R_K) (T := T_K) (N := 17) hx hb hts in_K t_K t_K_ok n_K hown hK hP hD hS 0 rfl rfl 15 (by decide) (hts _ ew_434) (fun _ h9 => h9) rfl (by decide +kernel) rfl rfl (Nat.le_of_ble_eq_true rfl) d_K_fill_84 (fun H locs hP hD hS => ?_)
      have hP : va_P (dC, dI) vwCl [(k0, .inr (4, [.int 0, .int (nI nB), .int dn, .int wr, .int lf, .int (nI E), .ref a1, .ref a2, .ref a3, .ref a4, .ref a5, .int ch, .ref a6, .ref a7, .ref a8, .int (nI (q.2 + 1)), .ref a9])), (a9, .inl (cB, 524288, .inl (upd q.1 (nI q.2).toNatClampNeg (vp_nar .byte ((b + (nI i)).toInt8.toInt32)))))] H := hP
      have hD : va_D A [(k0, .inr (4, [.int 0, .int (nI nB), .int dn, .int wr, .int lf, .int (nI E), .ref a1, .ref a2, .ref a3, .ref a4, .ref a5, .int ch, .ref a6, .ref a7, .ref a8, .int (nI (q.2 + 1)), .ref a9])), (a9, .inl (cB, 524288, .inl (upd q.1 (nI q.2).toNatClampNeg (vp_nar .byte ((b + (nI i)).toInt8.toInt32)))))] := hD
      refine lv_iinc (v := nI (i + 1)) (lv' := [(3, .int (nI (i + 1))), (0, .ref k0), (1, .int b), (2, .int x)]) hx hb d_K_fill_87 hl (k := 3) rfl (nI_1 i) (by decide) rfl (fun ls hl => ?_)
      refine lv_goto (tgt := 59) hx hb d_K_fill_90 (by decide) ?_
      exact ih (i + 1) (upd q.1 (nI q.2).toNatClampNeg (vp_nar .byte (b + nI i).toInt8.toInt32), q.2 + 1) (by omega) (ey_fl_i hx9 hin c_61) (by have h9 := ey_fl_i hx9 hin c_61; dsimp only; omega) (by rw [← hu, ek_fll, if_neg c_61]) _ _ hP hD hS ls (lv_sub hl [1, 2, 3, 0] rfl)
set_option maxHeartbeats 4000000 in
set_option maxRecDepth 100000 in
theorem c_k_fill (l : Launch) (dC : Nat → ClassId) (dI : Nat → Nat → Nat) (cI cB cJ cZ : ClassId) (k0 a1 a2 a3 a4 a5 a6 a7 a8 a9 : Nat) (co : Int32) (nB : Nat) (dn wr lf : Int32) (E : Nat) (ch : Int32) (t : Nat) (tf : ep_F) (b x : Int32) (hB : nB ≤ 128) (ht : t ≤ 4096 * nB) : ey_Mi l y_K_fill w_K_fill { frames := 0, cells := 0, slots := 0, locals := 0 } (dC, dI) vwCl (ey_kt cI cB cJ cZ) [.ref k0, .int b, .int x] [(k0, .inr (4, [.int co, .int (nI nB), .int dn, .int wr, .int lf, .int (nI E), .ref a1, .ref a2, .ref a3, .ref a4, .ref a5, .int ch, .ref a6, .ref a7, .ref a8, .int (nI t), .ref a9])), (a9, .inl (cB, 524288, .inl tf))] (fun (r : Int32) (u : Int32 × ek_TT) => (r, u) = ek_fill dn b x t nB tf) (fun (u : Int32 × ek_TT) => [(k0, .inr (4, [.int u.1, .int (nI nB), .int dn, .int wr, .int lf, .int (nI E), .ref a1, .ref a2, .ref a3, .ref a4, .ref a5, .int ch, .ref a6, .ref a7, .ref a8, .int (nI u.2.2), .ref a9])), (a9, .inl (cB, 524288, .inl u.2.1))]) 0 0 := by
  intro sz
  refine Met.ofW (cc := b_K_fill) (maxL := 4) (ret := (some .int)) (by decide) rfl ?_
  intro p e s m args below meth c s₁ B hml hv
  obtain ⟨rfl, hsz, hP, hK, hG, hD0⟩ := hv
  have hx := B.exec
  have hb := B.bytes
  have hr := B.returns
  have hts := fun (w : Cond) (h : w ∈ ew_T) => atoms_spec (ws := w_K_fill) B.pre w (List.mem_cons_of_mem _ h)
  have hown : s.vm.findClass R_K = some m.cls := findClass_of_methodNamed B.named
  have hlocks := B.notSynchronized
  subst hsz
  have hD := hD0.self (sz := s.heap.size)
  generalize hAe : va_A [(k0, .inr (4, [.int co, .int (nI nB), .int dn, .int wr, .int lf, .int (nI E), .ref a1, .ref a2, .ref a3, .ref a4, .ref a5, .int ch, .ref a6, .ref a7, .ref a8, .int (nI t), .ref a9])), (a9, .inl (cB, 524288, .inl tf))] s.heap.size = A at hD ⊢
  have hA : ∀ q : Nat, s.heap.size ≤ q → A q := fun q h => by rw [← hAe]; exact Or.inr h
  have hS : va_S A s.heap s.heap [] := va_S.rf
  have hP : va_P (dC, dI) vwCl [(k0, .inr (4, [.int co, .int (nI nB), .int dn, .int wr, .int lf, .int (nI E), .ref a1, .ref a2, .ref a3, .ref a4, .ref a5, .int ch, .ref a6, .ref a7, .ref a8, .int (nI t), .ref a9])), (a9, .inl (cB, 524288, .inl tf))] s.heap := hP
  have hl := lv_entry ([.ref k0, .int b, .int x]) (n := 4) (Nat.le_of_ble_eq_true rfl)
  rw [lg_entry_eq]
  generalize (lg_sl ([.ref k0, .int b, .int x]) ++ List.replicate (4 - (lg_sl ([.ref k0, .int b, .int x])).length) Slot.unset).toArray = ls at hl ⊢
  have hl : lv_has ls 4 [(0, .ref k0), (1, .int b), (2, .int x)] := hl
  have C0 : ey_Cx p s m [.ref k0, .int b, .int x].toArray meth c b_K_fill 4 R_K ew_T (some .int) A := ⟨hx, hb, hml, hown, hts, hr, hlocks, hA⟩
  refine lv_aload_n hx hb d_K_fill_0 rfl (lv_at hl 0 rfl) ?_
  refine lv_iload_n hx hb d_K_fill_1 rfl (lv_at hl 2 rfl) ?_
  refine lv_iconst (v := 1) hx hb d_K_fill_2 (by decide) ?_
  refine lv_icmp_lt (tgt := 12) hx hb d_K_fill_3 (by decide) (fun c_3 => ?_) (fun c_3 => ?_)
  · refine lv_iconst (v := 1) hx hb d_K_fill_12 (by decide) ?_
    refine lv_goto (tgt := 45) hx hb d_K_fill_13 (by decide) ?_
    refine va_put (D := (dC, dI)) (ci := 4) (v := .int 1) (ty := .int) (C := R_K) (T := T_K) (N := 17) hx hb hts in_K t_K t_K_ok n_K hown hK hP hD hS 0 rfl rfl 0 (by decide) (hts _ ew_419) (fun _ h9 => h9) rfl (by decide +kernel) rfl rfl (Nat.le_of_ble_eq_true rfl) d_K_fill_45 (fun H locs hP hD hS => ?_)
    have hP : va_P (dC, dI) vwCl [(k0, .inr (4, [.int 1, .int (nI nB), .int dn, .int wr, .int lf, .int (nI E), .ref a1, .ref a2, .ref a3, .ref a4, .ref a5, .int ch, .ref a6, .ref a7, .ref a8, .int (nI t), .ref a9])), (a9, .inl (cB, 524288, .inl tf))] H := hP
    have hD : va_D A [(k0, .inr (4, [.int 1, .int (nI nB), .int dn, .int wr, .int lf, .int (nI E), .ref a1, .ref a2, .ref a3, .ref a4, .ref a5, .int ch, .ref a6, .ref a7, .ref a8, .int (nI t), .ref a9])), (a9, .inl (cB, 524288, .inl tf))] := hD
    refine lv_aload_n hx hb d_K_fill_48 rfl (lv_at hl 0 rfl) ?_
    refine va_get (D := (dC, dI)) (ci := 4) (v := .int 1) (C := R_K) (T := T_K) (N := 17) hx hb hts in_K hown hK hP 0 rfl rfl 0 (by decide) (hts _ ew_419) (fun _ h9 => h9) rfl d_K_fill_49 ?_
    refine lv_if_le (tgt := 57) hx hb d_K_fill_52 (by decide) (fun c_52 => ?_) (fun c_52 => ?_)
    · exact absurd c_52 (by decide)
    · refine lv_iconst (v := 0) hx hb d_K_fill_55 (by decide) ?_
      exact ey_iret (W1 := fun (u : Int32 × ek_TT) => [(k0, .inr (4, [.int u.1, .int (nI nB), .int dn, .int wr, .int lf, .int (nI E), .ref a1, .ref a2, .ref a3, .ref a4, .ref a5, .int ch, .ref a6, .ref a7, .ref a8, .int (nI u.2.2), .ref a9])), (a9, .inl (cB, 524288, .inl u.2.1))]) hx hb hr hlocks hP hD hS (1, tf, t) [0, 1] rfl (by decide) (by rw [ek_fill, show ek_kfill dn x t nB = 1 from by rw [ek_kfill, if_pos c_3], if_neg (by decide)]) d_K_fill_56 (Nat.le_of_ble_eq_true rfl) (Nat.le_of_ble_eq_true rfl)
  · refine lv_iload_n hx hb d_K_fill_6 rfl (lv_at hl 2 rfl) ?_
    refine lv_ldc hx hb hown (hts _ ew_484) d_K_fill_7 ?_
    refine lv_icmp_le (tgt := 16) hx hb d_K_fill_9 (by decide) (fun c_9 => ?_) (fun c_9 => ?_)
    · refine lv_aload_n hx hb d_K_fill_16 rfl (lv_at hl 0 rfl) ?_
      refine va_get (D := (dC, dI)) (ci := 4) (v := .int dn) (C := R_K) (T := T_K) (N := 17) hx hb hts in_K hown hK hP 0 rfl rfl 2 (by decide) (hts _ ew_421) (fun _ h9 => h9) rfl d_K_fill_17 ?_
      refine lv_if_ne (tgt := 40) hx hb d_K_fill_20 (by decide) (fun c_20 => ?_) (fun c_20 => ?_)
      · refine lv_iconst (v := 2) hx hb d_K_fill_40 (by decide) ?_
        refine lv_goto (tgt := 45) hx hb d_K_fill_41 (by decide) ?_
        refine va_put (D := (dC, dI)) (ci := 4) (v := .int 2) (ty := .int) (C := R_K) (T := T_K) (N := 17) hx hb hts in_K t_K t_K_ok n_K hown hK hP hD hS 0 rfl rfl 0 (by decide) (hts _ ew_419) (fun _ h9 => h9) rfl (by decide +kernel) rfl rfl (Nat.le_of_ble_eq_true rfl) d_K_fill_45 (fun H locs hP hD hS => ?_)
        have hP : va_P (dC, dI) vwCl [(k0, .inr (4, [.int 2, .int (nI nB), .int dn, .int wr, .int lf, .int (nI E), .ref a1, .ref a2, .ref a3, .ref a4, .ref a5, .int ch, .ref a6, .ref a7, .ref a8, .int (nI t), .ref a9])), (a9, .inl (cB, 524288, .inl tf))] H := hP
        have hD : va_D A [(k0, .inr (4, [.int 2, .int (nI nB), .int dn, .int wr, .int lf, .int (nI E), .ref a1, .ref a2, .ref a3, .ref a4, .ref a5, .int ch, .ref a6, .ref a7, .ref a8, .int (nI t), .ref a9])), (a9, .inl (cB, 524288, .inl tf))] := hD
        refine lv_aload_n hx hb d_K_fill_48 rfl (lv_at hl 0 rfl) ?_
        refine va_get (D := (dC, dI)) (ci := 4) (v := .int 2) (C := R_K) (T := T_K) (N := 17) hx hb hts in_K hown hK hP 0 rfl rfl 0 (by decide) (hts _ ew_419) (fun _ h9 => h9) rfl d_K_fill_49 ?_
        refine lv_if_le (tgt := 57) hx hb d_K_fill_52 (by decide) (fun c_52 => ?_) (fun c_52 => ?_)
        · exact absurd c_52 (by decide)
        · refine lv_iconst (v := 0) hx hb d_K_fill_55 (by decide) ?_
          exact ey_iret (W1 := fun (u : Int32 × ek_TT) => [(k0, .inr (4, [.int u.1, .int (nI nB), .int dn, .int wr, .int lf, .int (nI E), .ref a1, .ref a2, .ref a3, .ref a4, .ref a5, .int ch, .ref a6, .ref a7, .ref a8, .int (nI u.2.2), .ref a9])), (a9, .inl (cB, 524288, .inl u.2.1))]) hx hb hr hlocks hP hD hS (2, tf, t) [0, 1] rfl (by decide) (by rw [ek_fill, show ek_kfill dn x t nB = 2 from by rw [ek_kfill, if_neg c_3, if_pos c_9, if_pos c_20], if_neg (by decide)]) d_K_fill_56 (Nat.le_of_ble_eq_true rfl) (Nat.le_of_ble_eq_true rfl)
      · refine lv_aload_n hx hb d_K_fill_23 rfl (lv_at hl 0 rfl) ?_
        refine va_get (D := (dC, dI)) (ci := 4) (v := .int (nI t)) (C := R_K) (T := T_K) (N := 17) hx hb hts in_K hown hK hP 0 rfl rfl 15 (by decide) (hts _ ew_434) (fun _ h9 => h9) rfl d_K_fill_24 ?_
        refine lv_iload_n hx hb d_K_fill_27 rfl (lv_at hl 2 rfl) ?_
        refine lv_iadd hx hb d_K_fill_28 ?_
        refine lv_sipush (v := 4096) hx hb d_K_fill_29 (by decide) ?_
        refine lv_aload_n hx hb d_K_fill_32 rfl (lv_at hl 0 rfl) ?_
        refine va_get (D := (dC, dI)) (ci := 4) (v := .int (nI nB)) (C := R_K) (T := T_K) (N := 17) hx hb hts in_K hown hK hP 0 rfl rfl 1 (by decide) (hts _ ew_420) (fun _ h9 => h9) rfl d_K_fill_33 ?_
        refine lv_imul hx hb d_K_fill_36 ?_
        refine lv_icmp_le (tgt := 44) hx hb d_K_fill_37 (by decide) (fun c_37 => ?_) (fun c_37 => ?_)
        · refine lv_iconst (v := 0) hx hb d_K_fill_44 (by decide) ?_
          refine va_put (D := (dC, dI)) (ci := 4) (v := .int 0) (ty := .int) (C := R_K) (T := T_K) (N := 17) hx hb hts in_K t_K t_K_ok n_K hown hK hP hD hS 0 rfl rfl 0 (by decide) (hts _ ew_419) (fun _ h9 => h9) rfl (by decide +kernel) rfl rfl (Nat.le_of_ble_eq_true rfl) d_K_fill_45 (fun H locs hP hD hS => ?_)
          have hP : va_P (dC, dI) vwCl [(k0, .inr (4, [.int 0, .int (nI nB), .int dn, .int wr, .int lf, .int (nI E), .ref a1, .ref a2, .ref a3, .ref a4, .ref a5, .int ch, .ref a6, .ref a7, .ref a8, .int (nI t), .ref a9])), (a9, .inl (cB, 524288, .inl tf))] H := hP
          have hD : va_D A [(k0, .inr (4, [.int 0, .int (nI nB), .int dn, .int wr, .int lf, .int (nI E), .ref a1, .ref a2, .ref a3, .ref a4, .ref a5, .int ch, .ref a6, .ref a7, .ref a8, .int (nI t), .ref a9])), (a9, .inl (cB, 524288, .inl tf))] := hD
          refine lv_aload_n hx hb d_K_fill_48 rfl (lv_at hl 0 rfl) ?_
          refine va_get (D := (dC, dI)) (ci := 4) (v := .int 0) (C := R_K) (T := T_K) (N := 17) hx hb hts in_K hown hK hP 0 rfl rfl 0 (by decide) (hts _ ew_419) (fun _ h9 => h9) rfl d_K_fill_49 ?_
          refine lv_if_le (tgt := 57) hx hb d_K_fill_52 (by decide) (fun c_52 => ?_) (fun c_52 => ?_)
          · refine lv_iconst (v := nI 0) hx hb d_K_fill_57 (by decide) ?_
            refine lv_istore_n (lv' := [(3, .int (nI 0)), (0, .ref k0), (1, .int b), (2, .int x)]) hx hb d_K_fill_58 rfl hl (by decide) rfl (fun ls hl => ?_)
            have hk0 : ek_kfill dn x t nB = 0 := by rw [ek_kfill, if_neg c_3, if_pos c_9, if_neg (fun h9 => h9 c_20), if_pos c_37]
            exact c_k_fill_L (k0 := k0) (a1 := a1) (a2 := a2) (a3 := a3) (a4 := a4) (a5 := a5) (a6 := a6) (a7 := a7) (a8 := a8) (a9 := a9) (co := co) (nB := nB) (dn := dn) (wr := wr) (lf := lf) (E := E) (ch := ch) (t := t) (tf := tf) (b := b) (x := x) hB ht hk0 (ey_fl_x c_3) hK hG C0 (x.toNatClampNeg + 1) 0 (tf, t) (by omega) (by omega) (ek_f1 hB ht c_3 c_9 c_37) rfl _ _ hP hD hS ls (lv_sub hl [1, 2, 3, 0] rfl)
          · exact absurd c_52 (by decide)
        · refine lv_iconst (v := 2) hx hb d_K_fill_40 (by decide) ?_
          refine lv_goto (tgt := 45) hx hb d_K_fill_41 (by decide) ?_
          refine va_put (D := (dC, dI)) (ci := 4) (v := .int 2) (ty := .int) (C := R_K) (T := T_K) (N := 17) hx hb hts in_K t_K t_K_ok n_K hown hK hP hD hS 0 rfl rfl 0 (by decide) (hts _ ew_419) (fun _ h9 => h9) rfl (by decide +kernel) rfl rfl (Nat.le_of_ble_eq_true rfl) d_K_fill_45 (fun H locs hP hD hS => ?_)
          have hP : va_P (dC, dI) vwCl [(k0, .inr (4, [.int 2, .int (nI nB), .int dn, .int wr, .int lf, .int (nI E), .ref a1, .ref a2, .ref a3, .ref a4, .ref a5, .int ch, .ref a6, .ref a7, .ref a8, .int (nI t), .ref a9])), (a9, .inl (cB, 524288, .inl tf))] H := hP
          have hD : va_D A [(k0, .inr (4, [.int 2, .int (nI nB), .int dn, .int wr, .int lf, .int (nI E), .ref a1, .ref a2, .ref a3, .ref a4, .ref a5, .int ch, .ref a6, .ref a7, .ref a8, .int (nI t), .ref a9])), (a9, .inl (cB, 524288, .inl tf))] := hD
          refine lv_aload_n hx hb d_K_fill_48 rfl (lv_at hl 0 rfl) ?_
          refine va_get (D := (dC, dI)) (ci := 4) (v := .int 2) (C := R_K) (T := T_K) (N := 17) hx hb hts in_K hown hK hP 0 rfl rfl 0 (by decide) (hts _ ew_419) (fun _ h9 => h9) rfl d_K_fill_49 ?_
          refine lv_if_le (tgt := 57) hx hb d_K_fill_52 (by decide) (fun c_52 => ?_) (fun c_52 => ?_)
          · exact absurd c_52 (by decide)
          · refine lv_iconst (v := 0) hx hb d_K_fill_55 (by decide) ?_
            exact ey_iret (W1 := fun (u : Int32 × ek_TT) => [(k0, .inr (4, [.int u.1, .int (nI nB), .int dn, .int wr, .int lf, .int (nI E), .ref a1, .ref a2, .ref a3, .ref a4, .ref a5, .int ch, .ref a6, .ref a7, .ref a8, .int (nI u.2.2), .ref a9])), (a9, .inl (cB, 524288, .inl u.2.1))]) hx hb hr hlocks hP hD hS (2, tf, t) [0, 1] rfl (by decide) (by rw [ek_fill, show ek_kfill dn x t nB = 2 from by rw [ek_kfill, if_neg c_3, if_pos c_9, if_neg (fun h9 => h9 c_20), if_neg c_37], if_neg (by decide)]) d_K_fill_56 (Nat.le_of_ble_eq_true rfl) (Nat.le_of_ble_eq_true rfl)
    · refine lv_iconst (v := 1) hx hb d_K_fill_12 (by decide) ?_
      refine lv_goto (tgt := 45) hx hb d_K_fill_13 (by decide) ?_
      refine va_put (D := (dC, dI)) (ci := 4) (v := .int 1) (ty := .int) (C := R_K) (T := T_K) (N := 17) hx hb hts in_K t_K t_K_ok n_K hown hK hP hD hS 0 rfl rfl 0 (by decide) (hts _ ew_419) (fun _ h9 => h9) rfl (by decide +kernel) rfl rfl (Nat.le_of_ble_eq_true rfl) d_K_fill_45 (fun H locs hP hD hS => ?_)
      have hP : va_P (dC, dI) vwCl [(k0, .inr (4, [.int 1, .int (nI nB), .int dn, .int wr, .int lf, .int (nI E), .ref a1, .ref a2, .ref a3, .ref a4, .ref a5, .int ch, .ref a6, .ref a7, .ref a8, .int (nI t), .ref a9])), (a9, .inl (cB, 524288, .inl tf))] H := hP
      have hD : va_D A [(k0, .inr (4, [.int 1, .int (nI nB), .int dn, .int wr, .int lf, .int (nI E), .ref a1, .ref a2, .ref a3, .ref a4, .ref a5, .int ch, .ref a6, .ref a7, .ref a8, .int (nI t), .ref a9])), (a9, .inl (cB, 524288, .inl tf))] := hD
      refine lv_aload_n hx hb d_K_fill_48 rfl (lv_at hl 0 rfl) ?_
      refine va_get (D := (dC, dI)) (ci := 4) (v := .int 1) (C := R_K) (T := T_K) (N := 17) hx hb hts in_K hown hK hP 0 rfl rfl 0 (by decide) (hts _ ew_419) (fun _ h9 => h9) rfl d_K_fill_49 ?_
      refine lv_if_le (tgt := 57) hx hb d_K_fill_52 (by decide) (fun c_52 => ?_) (fun c_52 => ?_)
      · exact absurd c_52 (by decide)
      · refine lv_iconst (v := 0) hx hb d_K_fill_55 (by decide) ?_
        exact ey_iret (W1 := fun (u : Int32 × ek_TT) => [(k0, .inr (4, [.int u.1, .int (nI nB), .int dn, .int wr, .int lf, .int (nI E), .ref a1, .ref a2, .ref a3, .ref a4, .ref a5, .int ch, .ref a6, .ref a7, .ref a8, .int (nI u.2.2), .ref a9])), (a9, .inl (cB, 524288, .inl u.2.1))]) hx hb hr hlocks hP hD hS (1, tf, t) [0, 1] rfl (by decide) (by rw [ek_fill, show ek_kfill dn x t nB = 1 from by rw [ek_kfill, if_neg c_3, if_neg c_9], if_neg (by decide)]) d_K_fill_56 (Nat.le_of_ble_eq_true rfl) (Nat.le_of_ble_eq_true rfl)
