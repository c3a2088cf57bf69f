set_option maxHeartbeats 4000000 in
set_option maxRecDepth 100000 in
theorem c_k_goes (l : Launch) (dC : Nat → ClassId) (dI : Nat → Nat → Nat) (cI cB cJ cZ : ClassId) (k0 a1 a2 a3 a4 a5 a6 a7 a8 a9 : Nat) (co : Int32) (nB : Nat) (dn wr lf : Int32) (E : Nat) (ch : Int32) (t : Nat) (la : ep_F) (e9 : Nat) (fr to : Int32) (he : e9 < 200) : ey_Mi l y_K_goes w_K_goes { frames := 0, cells := 0, slots := 0, locals := 0 } (dC, dI) vwCl (ey_kt cI cB cJ cZ) [.ref k0, .int (nI e9), .int fr, .int to] [(k0, .inr (4, [.int co, .int (nI nB), .int dn, .int wr, .int lf, .int (nI E), .ref a1, .ref a2, .ref a3, .ref a4, .ref a5, .int ch, .ref a6, .ref a7, .ref a8, .int (nI t), .ref a9])), (a1, .inl (cI, 200, .inl la))] (fun (r : Int32) (u : Unit) => r = ek_goes la e9 fr to) (fun (u : Unit) => [(k0, .inr (4, [.int co, .int (nI nB), .int dn, .int wr, .int lf, .int (nI E), .ref a1, .ref a2, .ref a3, .ref a4, .ref a5, .int ch, .ref a6, .ref a7, .ref a8, .int (nI t), .ref a9])), (a1, .inl (cI, 200, .inl la))]) 0 0 := by
  intro sz
  refine Met.ofW (cc := b_K_goes) (maxL := 4) (ret := (some .boolean)) (by decide) rfl ?_
  intro p e s m args below meth c s₁ B hml hv
  obtain ⟨rfl, hsz, hP, hK, hG, hD0⟩ := hv
  have hx := B.exec
  have hb := B.bytes
  have hr := B.returns
  have hts := fun (w : Cond) (h : w ∈ ew_T) => atoms_spec (ws := w_K_goes) B.pre w (List.mem_cons_of_mem _ h)
  have hown : s.vm.findClass R_K = some m.cls := findClass_of_methodNamed B.named
  have hlocks := B.notSynchronized
  subst hsz
  have hD := hD0.self (sz := s.heap.size)
  generalize hAe : va_A [(k0, .inr (4, [.int co, .int (nI nB), .int dn, .int wr, .int lf, .int (nI E), .ref a1, .ref a2, .ref a3, .ref a4, .ref a5, .int ch, .ref a6, .ref a7, .ref a8, .int (nI t), .ref a9])), (a1, .inl (cI, 200, .inl la))] s.heap.size = A at hD ⊢
  have hA : ∀ q : Nat, s.heap.size ≤ q → A q := fun q h => by rw [← hAe]; exact Or.inr h
  have hS : va_S A s.heap s.heap [] := va_S.rf
  have hP : va_P (dC, dI) vwCl [(k0, .inr (4, [.int co, .int (nI nB), .int dn, .int wr, .int lf, .int (nI E), .ref a1, .ref a2, .ref a3, .ref a4, .ref a5, .int ch, .ref a6, .ref a7, .ref a8, .int (nI t), .ref a9])), (a1, .inl (cI, 200, .inl la))] s.heap := hP
  have hl := lv_entry ([.ref k0, .int (nI e9), .int fr, .int to]) (n := 4) (Nat.le_of_ble_eq_true rfl)
  rw [lg_entry_eq]
  generalize (lg_sl ([.ref k0, .int (nI e9), .int fr, .int to]) ++ List.replicate (4 - (lg_sl ([.ref k0, .int (nI e9), .int fr, .int to])).length) Slot.unset).toArray = ls at hl ⊢
  have hl : lv_has ls 4 [(0, .ref k0), (1, .int (nI e9)), (2, .int fr), (3, .int to)] := hl
  refine lv_aload_n hx hb d_K_goes_0 rfl (lv_at hl 0 rfl) ?_
  refine va_get (D := (dC, dI)) (ci := 4) (v := .ref a1) (C := R_K) (T := T_K) (N := 17) hx hb hts in_K hown hK hP 0 rfl rfl 6 (by decide) (hts _ ew_425) (fun _ h9 => h9) rfl d_K_goes_1 ?_
  refine lv_iload_n hx hb d_K_goes_4 rfl (lv_at hl 1 rfl) ?_
  refine va_iald hx hb hK hP 1 0 rfl rfl (vp_in_nI he (by decide)) d_K_goes_5 ?_
  refine lv_iload_n hx hb d_K_goes_6 rfl (lv_at hl 2 rfl) ?_
  refine lv_icmp_lt (tgt := 24) hx hb d_K_goes_7 (by decide) (fun c_7 => ?_) (fun c_7 => ?_)
  · refine lv_iconst (v := 0) hx hb d_K_goes_24 (by decide) ?_
    exact ey_zret (W1 := fun (u : Unit) => [(k0, .inr (4, [.int co, .int (nI nB), .int dn, .int wr, .int lf, .int (nI E), .ref a1, .ref a2, .ref a3, .ref a4, .ref a5, .int ch, .ref a6, .ref a7, .ref a8, .int (nI t), .ref a9])), (a1, .inl (cI, 200, .inl la))]) hx hb hr hlocks hP hD hS () [0, 1] rfl (by decide) (by rw [ek_goes, if_pos c_7]) d_K_goes_25 (Nat.le_of_ble_eq_true rfl) (Nat.le_of_ble_eq_true rfl) rfl
  · refine lv_aload_n hx hb d_K_goes_10 rfl (lv_at hl 0 rfl) ?_
    refine va_get (D := (dC, dI)) (ci := 4) (v := .ref a1) (C := R_K) (T := T_K) (N := 17) hx hb hts in_K hown hK hP 0 rfl rfl 6 (by decide) (hts _ ew_425) (fun _ h9 => h9) rfl d_K_goes_11 ?_
    refine lv_iload_n hx hb d_K_goes_14 rfl (lv_at hl 1 rfl) ?_
    refine va_iald hx hb hK hP 1 0 rfl rfl (vp_in_nI he (by decide)) d_K_goes_15 ?_
    refine lv_iload_n hx hb d_K_goes_16 rfl (lv_at hl 3 rfl) ?_
    refine lv_icmp_gt (tgt := 24) hx hb d_K_goes_17 (by decide) (fun c_17 => ?_) (fun c_17 => ?_)
    · refine lv_iconst (v := 0) hx hb d_K_goes_24 (by decide) ?_
      exact ey_zret (W1 := fun (u : Unit) => [(k0, .inr (4, [.int co, .int (nI nB), .int dn, .int wr, .int lf, .int (nI E), .ref a1, .ref a2, .ref a3, .ref a4, .ref a5, .int ch, .ref a6, .ref a7, .ref a8, .int (nI t), .ref a9])), (a1, .inl (cI, 200, .inl la))]) hx hb hr hlocks hP hD hS () [0, 1] rfl (by decide) (by rw [ek_goes, if_neg c_7, if_pos c_17]) d_K_goes_25 (Nat.le_of_ble_eq_true rfl) (Nat.le_of_ble_eq_true rfl) rfl
    · refine lv_iconst (v := 1) hx hb d_K_goes_20 (by decide) ?_
      refine lv_goto (tgt := 25) hx hb d_K_goes_21 (by decide) ?_
      exact ey_zret (W1 := fun (u : Unit) => [(k0, .inr (4, [.int co, .int (nI nB), .int dn, .int wr, .int lf, .int (nI E), .ref a1, .ref a2, .ref a3, .ref a4, .ref a5, .int ch, .ref a6, .ref a7, .ref a8, .int (nI t), .ref a9])), (a1, .inl (cI, 200, .inl la))]) hx hb hr hlocks hP hD hS () [0, 1] rfl (by decide) (by rw [ek_goes, if_neg c_7, if_neg c_17]) d_K_goes_25 (Nat.le_of_ble_eq_true rfl) (Nat.le_of_ble_eq_true rfl) rfl
set_option maxHeartbeats 4000000 in
set_option maxRecDepth 100000 in
theorem c_k_fail (l : Launch) (dC : Nat → ClassId) (dI : Nat → Nat → Nat) (cI cB cJ cZ : ClassId) (k0 a1 a2 a3 a4 a5 a6 a7 a8 a9 : Nat) (co : Int32) (nB : Nat) (dn wr lf : Int32) (E : Nat) (ch : Int32) (t : Nat) : ey_Mv l y_K_fail w_K_fail { frames := 0, cells := 0, slots := 0, locals := 0 } (dC, dI) vwCl (ey_kt cI cB cJ cZ) [.ref k0] [(k0, .inr (4, [.int co, .int (nI nB), .int dn, .int wr, .int lf, .int (nI E), .ref a1, .ref a2, .ref a3, .ref a4, .ref a5, .int ch, .ref a6, .ref a7, .ref a8, .int (nI t), .ref a9]))] (fun (_ : Unit) => True) (fun (u : Unit) => [(k0, .inr (4, [.int co, .int (nI nB), .int 1, .int wr, .int (-1), .int (nI E), .ref a1, .ref a2, .ref a3, .ref a4, .ref a5, .int ch, .ref a6, .ref a7, .ref a8, .int (nI 0), .ref a9]))]) 0 0 := by
  intro sz
  refine Met.ofW (cc := b_K_fail) (maxL := 1) (ret := none) (by decide) rfl ?_
  intro p e s m args below meth c s₁ B hml hv
  obtain ⟨rfl, hsz, hP, hK, hG, hD0⟩ := hv
  have hx := B.exec
  have hb := B.bytes
  have hr := B.returns
  have hts := fun (w : Cond) (h : w ∈ ew_T) => atoms_spec (ws := w_K_fail) B.pre w (List.mem_cons_of_mem _ h)
  have hown : s.vm.findClass R_K = some m.cls := findClass_of_methodNamed B.named
  have hlocks := B.notSynchronized
  subst hsz
  have hD := hD0.self (sz := s.heap.size)
  generalize hAe : va_A [(k0, .inr (4, [.int co, .int (nI nB), .int dn, .int wr, .int lf, .int (nI E), .ref a1, .ref a2, .ref a3, .ref a4, .ref a5, .int ch, .ref a6, .ref a7, .ref a8, .int (nI t), .ref a9]))] s.heap.size = A at hD ⊢
  have hA : ∀ q : Nat, s.heap.size ≤ q → A q := fun q h => by rw [← hAe]; exact Or.inr h
  have hS : va_S A s.heap s.heap [] := va_S.rf
  have hP : va_P (dC, dI) vwCl [(k0, .inr (4, [.int co, .int (nI nB), .int dn, .int wr, .int lf, .int (nI E), .ref a1, .ref a2, .ref a3, .ref a4, .ref a5, .int ch, .ref a6, .ref a7, .ref a8, .int (nI t), .ref a9]))] s.heap := hP
  have hl := lv_entry ([.ref k0]) (n := 1) (Nat.le_of_ble_eq_true rfl)
  rw [lg_entry_eq]
  generalize (lg_sl ([.ref k0]) ++ List.replicate (1 - (lg_sl ([.ref k0])).length) Slot.unset).toArray = ls at hl ⊢
  have hl : lv_has ls 1 [(0, .ref k0)] := hl
  refine lv_aload_n hx hb d_K_fail_0 rfl (lv_at hl 0 rfl) ?_
  refine lv_iconst (v := 1) hx hb d_K_fail_1 (by decide) ?_
  refine va_put (D := (dC, dI)) (ci := 4) (v := .int 1) (ty := .boolean) (C := R_K) (T := T_K) (N := 17) hx hb hts in_K t_K t_K_ok n_K hown hK hP hD hS 0 rfl rfl 2 (by decide) (hts _ ew_421) (fun _ h9 => h9) rfl (by decide +kernel) rfl rfl (Nat.le_of_ble_eq_true rfl) d_K_fail_2 (fun H locs hP hD hS => ?_)
  have hP : va_P (dC, dI) vwCl [(k0, .inr (4, [.int co, .int (nI nB), .int 1, .int wr, .int lf, .int (nI E), .ref a1, .ref a2, .ref a3, .ref a4, .ref a5, .int ch, .ref a6, .ref a7, .ref a8, .int (nI t), .ref a9]))] H := hP
  have hD : va_D A [(k0, .inr (4, [.int co, .int (nI nB), .int 1, .int wr, .int lf, .int (nI E), .ref a1, .ref a2, .ref a3, .ref a4, .ref a5, .int ch, .ref a6, .ref a7, .ref a8, .int (nI t), .ref a9]))] := hD
  refine lv_aload_n hx hb d_K_fail_5 rfl (lv_at hl 0 rfl) ?_
  refine lv_iconst (v := (-1)) hx hb d_K_fail_6 (by decide) ?_
  refine va_put (D := (dC, dI)) (ci := 4) (v := .int (-1)) (ty := .int) (C := R_K) (T := T_K) (N := 17) hx hb hts in_K t_K t_K_ok n_K hown hK hP hD hS 0 rfl rfl 4 (by decide) (hts _ ew_423) (fun _ h9 => h9) rfl (by decide +kernel) rfl rfl (Nat.le_of_ble_eq_true rfl) d_K_fail_7 (fun H locs hP hD hS => ?_)
  have hP : va_P (dC, dI) vwCl [(k0, .inr (4, [.int co, .int (nI nB), .int 1, .int wr, .int (-1), .int (nI E), .ref a1, .ref a2, .ref a3, .ref a4, .ref a5, .int ch, .ref a6, .ref a7, .ref a8, .int (nI t), .ref a9]))] H := hP
  have hD : va_D A [(k0, .inr (4, [.int co, .int (nI nB), .int 1, .int wr, .int (-1), .int (nI E), .ref a1, .ref a2, .ref a3, .ref a4, .ref a5, .int ch, .ref a6, .ref a7, .ref a8, .int (nI t), .ref a9]))] := hD
  refine lv_aload_n hx hb d_K_fail_10 rfl (lv_at hl 0 rfl) ?_
  refine lv_iconst (v := nI 0) hx hb d_K_fail_11 (by decide) ?_
  refine va_put (D := (dC, dI)) (ci := 4) (v := .int (nI 0)) (ty := .int) (C := R_K) (T := T_K) (N := 17) hx hb hts in_K t_K t_K_ok n_K hown hK hP hD hS 0 rfl rfl 15 (by decide) (hts _ ew_434) (fun _ h9 => h9) rfl (by decide +kernel) rfl rfl (Nat.le_of_ble_eq_true rfl) d_K_fail_12 (fun H locs hP hD hS => ?_)
  have hP : va_P (dC, dI) vwCl [(k0, .inr (4, [.int co, .int (nI nB), .int 1, .int wr, .int (-1), .int (nI E), .ref a1, .ref a2, .ref a3, .ref a4, .ref a5, .int ch, .ref a6, .ref a7, .ref a8, .int (nI 0), .ref a9]))] H := hP
  have hD : va_D A [(k0, .inr (4, [.int co, .int (nI nB), .int 1, .int wr, .int (-1), .int (nI E), .ref a1, .ref a2, .ref a3, .ref a4, .ref a5, .int ch, .ref a6, .ref a7, .ref a8, .int (nI 0), .ref a9]))] := hD
  exact ey_vret (W1 := fun (u : Unit) => [(k0, .inr (4, [.int co, .int (nI nB), .int 1, .int wr, .int (-1), .int (nI E), .ref a1, .ref a2, .ref a3, .ref a4, .ref a5, .int ch, .ref a6, .ref a7, .ref a8, .int (nI 0), .ref a9]))]) hx hb hr hlocks hP hD hS () [0] rfl (by decide) trivial d_K_fail_15 (Nat.le_of_ble_eq_true rfl) (Nat.le_of_ble_eq_true rfl)
set_option maxHeartbeats 4000000 in
set_option maxRecDepth 100000 in
theorem c_k_happen_N {p : Program} {l : Launch} {e : Env} {s : State} {m : MethodId} {args : Array Value} {below : List Frame} {meth : Method} {c : Code} {dC : Nat → ClassId} {dI : Nat → Nat → Nat} {cI cB cJ cZ : ClassId} {A : Nat → Prop} {k0 a1 a2 a3 a4 a5 a6 a7 a8 a9 : Nat} {co : Int32} {nB : Nat} {dn wr lf : Int32} {E : Nat} {ch : Int32} {t : Nat} {la fi ma sz no dk wf tf : ep_F} {lab fr to x : Int32} {N : Nat} (hE : E ≤ 199) (ht : t ≤ 524288) (hN : N ≤ 128) (hx9 : nI N ≤ 0 ∨ ∀ k : Nat, k < t → vp_in (4096 * x + nI k) 524288) (q : ek_H) (d9 : ep_F) (hq : ∀ z : ep_F, ek_happen lab fr to x N (la, fi, ma, sz, E) dk tf t no wf = (q, d9, ek_nt wf 25 0 no)) (hK : va_K (dC, dI) vwCl (ey_kt cI cB cJ cZ) s) (hG : ex_G s) (C0 : ey_Cx p s m args meth c b_K_happen 8 R_K ew_T none A)  :
    ∀ (fuel : Nat) (i : Nat) (g : ep_F) (hi : i + fuel = 25) (hin : i ≤ 24) (hu : ek_nt wf fuel i g = ek_nt wf 25 0 no), ∀ (H : Heap) (locs : List Loc), va_P (dC, dI) vwCl [(k0, .inr (4, [.int co, .int (nI nB), .int dn, .int wr, .int lf, .int (nI q.2.2.2.2), .ref a1, .ref a2, .ref a3, .ref a4, .ref a5, .int ch, .ref a6, .ref a7, .ref a8, .int (nI t), .ref a9])), (a1, .inl (cI, 200, .inl q.1)), (a2, .inl (cI, 200, .inl q.2.1)), (a3, .inl (cI, 200, .inl q.2.2.1)), (a4, .inl (cI, 200, .inl q.2.2.2.1)), (a5, .inl (cI, 24, .inl g)), (a6, .inl (cB, 524288, .inl d9)), (a8, .inl (cI, 24, .inl wf)), (a9, .inl (cB, 524288, .inl tf))] H → va_D A [(k0, .inr (4, [.int co, .int (nI nB), .int dn, .int wr, .int lf, .int (nI q.2.2.2.2), .ref a1, .ref a2, .ref a3, .ref a4, .ref a5, .int ch, .ref a6, .ref a7, .ref a8, .int (nI t), .ref a9])), (a1, .inl (cI, 200, .inl q.1)), (a2, .inl (cI, 200, .inl q.2.1)), (a3, .inl (cI, 200, .inl q.2.2.1)), (a4, .inl (cI, 200, .inl q.2.2.2.1)), (a5, .inl (cI, 24, .inl g)), (a6, .inl (cB, 524288, .inl d9)), (a8, .inl (cI, 24, .inl wf)), (a9, .inl (cB, 524288, .inl tf))] → va_S A s.heap H locs → ∀ (ls : Array Slot), lv_has ls 8 [(0, .ref k0), (1, .int lab), (2, .int fr), (3, .int to), (4, .int x), (5, .int (nI N)), (7, .int (nI i))] → W p l e { frames := 1, cells := 0, slots := 0, locals := 24 } s m args below meth c H locs 0 0 (MQ below (va_Qv (fun (u : ek_HR) => u = ek_happen lab fr to x N (la, fi, ma, sz, E) dk tf t no wf) (fun u t8 => ey_Post (dC, dI) vwCl A ((fun (u : ek_HR) => [(k0, .inr (4, [.int co, .int (nI nB), .int dn, .int wr, .int lf, .int (nI u.1.2.2.2.2), .ref a1, .ref a2, .ref a3, .ref a4, .ref a5, .int (ch + 1), .ref a6, .ref a7, .ref a8, .int (nI t), .ref a9])), (a1, .inl (cI, 200, .inl u.1.1)), (a2, .inl (cI, 200, .inl u.1.2.1)), (a3, .inl (cI, 200, .inl u.1.2.2.1)), (a4, .inl (cI, 200, .inl u.1.2.2.2.1)), (a5, .inl (cI, 24, .inl u.2.2)), (a6, .inl (cB, 524288, .inl u.2.1)), (a8, .inl (cI, 24, .inl wf)), (a9, .inl (cB, 524288, .inl tf))]) u) t8) A) args s 0 0 A) (F0 m 199 ls []) := by
  obtain ⟨hx, hb, hml, hown, hts, hr, hlocks, hA⟩ := id C0
  intro fuel
  induction fuel with
  | zero =>
    intro i g hi hin hu H locs hP hD hS ls hl
    exact absurd hi (by omega)
  | succ fuel ih =>
    intro i g hi hin hu H locs hP hD hS ls hl
    refine lv_iload hx hb d_K_happen_199 (lv_at hl 6 rfl) ?_
    refine lv_bipush (v := 24) hx hb d_K_happen_201 (by decide) ?_
    refine lv_icmp_ge (tgt := 226) hx hb d_K_happen_203 (by decide) (fun c_203 => ?_) (fun c_203 => ?_)
    · refine lv_aload_n hx hb d_K_happen_226 rfl (lv_at hl 0 rfl) ?_
      refine lv_dup hx hb d_K_happen_227 rfl ?_
      refine va_get (D := (dC, dI)) (ci := 4) (v := .int ch) (C := R_K) (T := T_K) (N := 17) hx hb hts in_K hown hK hP 0 rfl rfl 11 (by decide) (hts _ ew_430) (fun _ h9 => h9) rfl d_K_happen_228 ?_
      refine lv_iconst (v := 1) hx hb d_K_happen_231 (by decide) ?_
      refine lv_iadd hx hb d_K_happen_232 ?_
      refine va_put (D := (dC, dI)) (ci := 4) (v := .int (ch + 1)) (ty := .int) (C := R_K) (T := T_K) (N := 17) hx hb hts in_K t_K t_K_ok n_K hown hK hP hD hS 0 rfl rfl 11 (by decide) (hts _ ew_430) (fun _ h9 => h9) rfl (by decide +kernel) rfl rfl (Nat.le_of_ble_eq_true rfl) d_K_happen_233 (fun H locs hP hD hS => ?_)
      have hP : va_P (dC, dI) vwCl [(k0, .inr (4, [.int co, .int (nI nB), .int dn, .int wr, .int lf, .int (nI q.2.2.2.2), .ref a1, .ref a2, .ref a3, .ref a4, .ref a5, .int (ch + 1), .ref a6, .ref a7, .ref a8, .int (nI t), .ref a9])), (a1, .inl (cI, 200, .inl q.1)), (a2, .inl (cI, 200, .inl q.2.1)), (a3, .inl (cI, 200, .inl q.2.2.1)), (a4, .inl (cI, 200, .inl q.2.2.2.1)), (a5, .inl (cI, 24, .inl g)), (a6, .inl (cB, 524288, .inl d9)), (a8, .inl (cI, 24, .inl wf)), (a9, .inl (cB, 524288, .inl tf))] H := hP
      have hD : va_D A [(k0, .inr (4, [.int co, .int (nI nB), .int dn, .int wr, .int lf, .int (nI q.2.2.2.2), .ref a1, .ref a2, .ref a3, .ref a4, .ref a5, .int (ch + 1), .ref a6, .ref a7, .ref a8, .int (nI t), .ref a9])), (a1, .inl (cI, 200, .inl q.1)), (a2, .inl (cI, 200, .inl q.2.1)), (a3, .inl (cI, 200, .inl q.2.2.1)), (a4, .inl (cI, 200, .inl q.2.2.2.1)), (a5, .inl (cI, 24, .inl g)), (a6, .inl (cB, 524288, .inl d9)), (a8, .inl (cI, 24, .inl wf)), (a9, .inl (cB, 524288, .inl tf))] := hD
      exact ey_vret (W1 := fun (u : ek_HR) => [(k0, .inr (4, [.int co, .int (nI nB), .int dn, .int wr, .int lf, .int (nI u.1.2.2.2.2), .ref a1, .ref a2, .ref a3, .ref a4, .ref a5, .int (ch + 1), .ref a6, .ref a7, .ref a8, .int (nI t), .ref a9])), (a1, .inl (cI, 200, .inl u.1.1)), (a2, .inl (cI, 200, .inl u.1.2.1)), (a3, .inl (cI, 200, .inl u.1.2.2.1)), (a4, .inl (cI, 200, .inl u.1.2.2.2.1)), (a5, .inl (cI, 24, .inl u.2.2)), (a6, .inl (cB, 524288, .inl u.2.1)), (a8, .inl (cI, 24, .inl wf)), (a9, .inl (cB, 524288, .inl tf))]) hx hb hr hlocks hP hD hS (q, d9, g) [0, 1, 2, 3, 4, 5, 6, 7, 8] rfl (by decide) (by rw [hq g, ← hu, ek_nt, if_pos c_203]) d_K_happen_236 (Nat.le_of_ble_eq_true rfl) (Nat.le_of_ble_eq_true rfl)
    · have hlt : i < 24 := ey_lt24 (by omega) c_203
      refine lv_aload_n hx hb d_K_happen_206 rfl (lv_at hl 0 rfl) ?_
      refine va_get (D := (dC, dI)) (ci := 4) (v := .ref a5) (C := R_K) (T := T_K) (N := 17) hx hb hts in_K hown hK hP 0 rfl rfl 10 (by decide) (hts _ ew_429) (fun _ h9 => h9) rfl d_K_happen_207 ?_
      refine lv_iload hx hb d_K_happen_210 (lv_at hl 6 rfl) ?_
      refine lv_aload_n hx hb d_K_happen_212 rfl (lv_at hl 0 rfl) ?_
      refine va_get (D := (dC, dI)) (ci := 4) (v := .ref a8) (C := R_K) (T := T_K) (N := 17) hx hb hts in_K hown hK hP 0 rfl rfl 14 (by decide) (hts _ ew_433) (fun _ h9 => h9) rfl d_K_happen_213 ?_
      refine lv_iload hx hb d_K_happen_216 (lv_at hl 6 rfl) ?_
      refine va_iald hx hb hK hP 7 0 rfl rfl (vp_in_nI (by omega) (by decide)) d_K_happen_218 ?_
      refine va_iast hx hb hK hP hD hS 5 0 rfl rfl (vp_in_nI (by omega) (by decide)) d_K_happen_219 (fun H locs hP hD hS => ?_)
      have hP : va_P (dC, dI) vwCl [(k0, .inr (4, [.int co, .int (nI nB), .int dn, .int wr, .int lf, .int (nI q.2.2.2.2), .ref a1, .ref a2, .ref a3, .ref a4, .ref a5, .int ch, .ref a6, .ref a7, .ref a8, .int (nI t), .ref a9])), (a1, .inl (cI, 200, .inl q.1)), (a2, .inl (cI, 200, .inl q.2.1)), (a3, .inl (cI, 200, .inl q.2.2.1)), (a4, .inl (cI, 200, .inl q.2.2.2.1)), (a5, .inl (cI, 24, .inl (upd g (nI i).toNatClampNeg (wf (nI i).toNatClampNeg)))), (a6, .inl (cB, 524288, .inl d9)), (a8, .inl (cI, 24, .inl wf)), (a9, .inl (cB, 524288, .inl tf))] H := hP
      have hD : va_D A [(k0, .inr (4, [.int co, .int (nI nB), .int dn, .int wr, .int lf, .int (nI q.2.2.2.2), .ref a1, .ref a2, .ref a3, .ref a4, .ref a5, .int ch, .ref a6, .ref a7, .ref a8, .int (nI t), .ref a9])), (a1, .inl (cI, 200, .inl q.1)), (a2, .inl (cI, 200, .inl q.2.1)), (a3, .inl (cI, 200, .inl q.2.2.1)), (a4, .inl (cI, 200, .inl q.2.2.2.1)), (a5, .inl (cI, 24, .inl (upd g (nI i).toNatClampNeg (wf (nI i).toNatClampNeg)))), (a6, .inl (cB, 524288, .inl d9)), (a8, .inl (cI, 24, .inl wf)), (a9, .inl (cB, 524288, .inl tf))] := hD
      refine lv_iinc (v := nI (i + 1)) (lv' := [(7, .int (nI (i + 1))), (0, .ref k0), (1, .int lab), (2, .int fr), (3, .int to), (4, .int x), (5, .int (nI N))]) hx hb d_K_happen_220 hl (k := 6) rfl (nI_1 i) (by decide) rfl (fun ls hl => ?_)
      refine lv_goto (tgt := 199) hx hb d_K_happen_223 (by decide) ?_
      exact ih (i + 1) (upd g (nI i).toNatClampNeg (wf (nI i).toNatClampNeg)) (by omega) (by omega) (by rw [← hu, ek_nt, if_neg c_203]) _ _ hP hD hS ls (lv_sub hl [1, 2, 3, 4, 5, 6, 0] rfl)
set_option maxHeartbeats 4000000 in
set_option maxRecDepth 100000 in
theorem c_k_happen_D {p : Program} {l : Launch} {e : Env} {s : State} {m : MethodId} {args : Array Value} {below : List Frame} {meth : Method} {c : Code} {dC : Nat → ClassId} {dI : Nat → Nat → Nat} {cI cB cJ cZ : ClassId} {A : Nat → Prop} {k0 a1 a2 a3 a4 a5 a6 a7 a8 a9 : Nat} {co : Int32} {nB : Nat} {dn wr lf : Int32} {E : Nat} {ch : Int32} {t : Nat} {la fi ma sz no dk wf tf : ep_F} {lab fr to x : Int32} {N : Nat} (hE : E ≤ 199) (ht : t ≤ 524288) (hN : N ≤ 128) (hx9 : nI N ≤ 0 ∨ ∀ k : Nat, k < t → vp_in (4096 * x + nI k) 524288) (q : ek_H) (hq : ∀ z : ep_F, ek_happen lab fr to x N (la, fi, ma, sz, E) dk tf t no wf = (q, ek_dk x tf t (t + 1) 0 dk, ek_nt wf 25 0 no)) (hc99 : ¬ nI N ≤ 0) (hK : va_K (dC, dI) vwCl (ey_kt cI cB cJ cZ) s) (hG : ex_G s) (C0 : ey_Cx p s m args meth c b_K_happen 8 R_K ew_T none A)  :
    ∀ (fuel : Nat) (i : Nat) (g : ep_F) (hi : i + fuel = t + 1) (hin : i ≤ t) (hu : ek_dk x tf t fuel i g = ek_dk x tf t (t + 1) 0 dk), ∀ (H : Heap) (locs : List Loc), va_P (dC, dI) vwCl [(k0, .inr (4, [.int co, .int (nI nB), .int dn, .int wr, .int lf, .int (nI q.2.2.2.2), .ref a1, .ref a2, .ref a3, .ref a4, .ref a5, .int ch, .ref a6, .ref a7, .ref a8, .int (nI t), .ref a9])), (a1, .inl (cI, 200, .inl q.1)), (a2, .inl (cI, 200, .inl q.2.1)), (a3, .inl (cI, 200, .inl q.2.2.1)), (a4, .inl (cI, 200, .inl q.2.2.2.1)), (a5, .inl (cI, 24, .inl no)), (a6, .inl (cB, 524288, .inl g)), (a8, .inl (cI, 24, .inl wf)), (a9, .inl (cB, 524288, .inl tf))] H → va_D A [(k0, .inr (4, [.int co, .int (nI nB), .int dn, .int wr, .int lf, .int (nI q.2.2.2.2), .ref a1, .ref a2, .ref a3, .ref a4, .ref a5, .int ch, .ref a6, .ref a7, .ref a8, .int (nI t), .ref a9])), (a1, .inl (cI, 200, .inl q.1)), (a2, .inl (cI, 200, .inl q.2.1)), (a3, .inl (cI, 200, .inl q.2.2.1)), (a4, .inl (cI, 200, .inl q.2.2.2.1)), (a5, .inl (cI, 24, .inl no)), (a6, .inl (cB, 524288, .inl g)), (a8, .inl (cI, 24, .inl wf)), (a9, .inl (cB, 524288, .inl tf))] → va_S A s.heap H locs → ∀ (ls : Array Slot), lv_has ls 8 [(0, .ref k0), (1, .int lab), (2, .int fr), (3, .int to), (4, .int x), (5, .int (nI N)), (7, .int (nI i))] → W p l e { frames := 1, cells := 0, slots := 0, locals := 24 } s m args below meth c H locs 0 0 (MQ below (va_Qv (fun (u : ek_HR) => u = ek_happen lab fr to x N (la, fi, ma, sz, E) dk tf t no wf) (fun u t8 => ey_Post (dC, dI) vwCl A ((fun (u : ek_HR) => [(k0, .inr (4, [.int co, .int (nI nB), .int dn, .int wr, .int lf, .int (nI u.1.2.2.2.2), .ref a1, .ref a2, .ref a3, .ref a4, .ref a5, .int (ch + 1), .ref a6, .ref a7, .ref a8, .int (nI t), .ref a9])), (a1, .inl (cI, 200, .inl u.1.1)), (a2, .inl (cI, 200, .inl u.1.2.1)), (a3, .inl (cI, 200, .inl u.1.2.2.1)), (a4, .inl (cI, 200, .inl u.1.2.2.2.1)), (a5, .inl (cI, 24, .inl u.2.2)), (a6, .inl (cB, 524288, .inl u.2.1)), (a8, .inl (cI, 24, .inl wf)), (a9, .inl (cB, 524288, .inl tf))]) u) t8) A) args s 0 0 A) (F0 m 160 ls []) := by
  obtain ⟨hx, hb, hml, hown, hts, hr, hlocks, hA⟩ := id C0
  intro fuel
  induction fuel with
  | zero =>
    intro i g hi hin hu H locs hP hD hS ls hl
    exact absurd hi (by omega)
  | succ fuel ih =>
    intro i g hi hin hu H locs hP hD hS ls hl
    refine lv_iload hx hb d_K_happen_160 (lv_at hl 6 rfl) ?_
    refine lv_aload_n hx hb d_K_happen_162 rfl (lv_at hl 0 rfl) ?_
    refine va_get (D := (dC, dI)) (ci := 4) (v := .int (nI t)) (C := R_K) (T := T_K) (N := 17) hx hb hts in_K hown hK hP 0 rfl rfl 15 (by decide) (hts _ ew_434) (fun _ h9 => h9) rfl d_K_happen_163 ?_
    refine lv_icmp_ge (tgt := 196) hx hb d_K_happen_166 (by decide) (fun c_166 => ?_) (fun c_166 => ?_)
    · refine lv_iconst (v := nI 0) hx hb d_K_happen_196 (by decide) ?_
      refine lv_istore (lv' := [(7, .int (nI 0)), (0, .ref k0), (1, .int lab), (2, .int fr), (3, .int to), (4, .int x), (5, .int (nI N))]) hx hb d_K_happen_197 hl (by decide) rfl (fun ls hl => ?_)
      have ed : g = ek_dk x tf t (t + 1) 0 dk := by rw [← hu, ek_dk, if_pos c_166]
      subst ed
      exact c_k_happen_N (k0 := k0) (a1 := a1) (a2 := a2) (a3 := a3) (a4 := a4) (a5 := a5) (a6 := a6) (a7 := a7) (a8 := a8) (a9 := a9) (co := co) (nB := nB) (dn := dn) (wr := wr) (lf := lf) (E := E) (ch := ch) (t := t) (la := la) (fi := fi) (ma := ma) (sz := sz) (no := no) (dk := dk) (wf := wf) (tf := tf) (lab := lab) (fr := fr) (to := to) (x := x) (N := N) hE ht hN hx9 q (ek_dk x tf t (t + 1) 0 dk) (fun z => (hq z).trans rfl) hK hG C0 25 0 no rfl (by omega) rfl _ _ hP hD hS ls (lv_sub hl [1, 2, 3, 4, 5, 6, 0] rfl)
    · have hlt : i < t := by have h9 := ek_ltE (by omega) (by omega) c_166; omega
      refine lv_aload_n hx hb d_K_happen_169 rfl (lv_at hl 0 rfl) ?_
      refine va_get (D := (dC, dI)) (ci := 4) (v := .ref a6) (C := R_K) (T := T_K) (N := 17) hx hb hts in_K hown hK hP 0 rfl rfl 12 (by decide) (hts _ ew_431) (fun _ h9 => h9) rfl d_K_happen_170 ?_
      refine lv_sipush (v := 4096) hx hb d_K_happen_173 (by decide) ?_
      refine lv_iload hx hb d_K_happen_176 (lv_at hl 4 rfl) ?_
      refine lv_imul hx hb d_K_happen_178 ?_
      refine lv_iload hx hb d_K_happen_179 (lv_at hl 6 rfl) ?_
      refine lv_iadd hx hb d_K_happen_181 ?_
      refine lv_aload_n hx hb d_K_happen_182 rfl (lv_at hl 0 rfl) ?_
      refine va_get (D := (dC, dI)) (ci := 4) (v := .ref a9) (C := R_K) (T := T_K) (N := 17) hx hb hts in_K hown hK hP 0 rfl rfl 16 (by decide) (hts _ ew_435) (fun _ h9 => h9) rfl d_K_happen_183 ?_
      refine lv_iload hx hb d_K_happen_186 (lv_at hl 6 rfl) ?_
      refine va_bald hx hb hK hP 8 1 rfl rfl (vp_in_nI (by omega) (by decide)) d_K_happen_188 ?_
      refine va_bast hx hb hK hP hD hS 6 1 rfl rfl ((hx9.resolve_left hc99) i hlt) d_K_happen_189 (fun H locs hP hD hS => ?_)
      have hP : va_P (dC, dI) vwCl [(k0, .inr (4, [.int co, .int (nI nB), .int dn, .int wr, .int lf, .int (nI q.2.2.2.2), .ref a1, .ref a2, .ref a3, .ref a4, .ref a5, .int ch, .ref a6, .ref a7, .ref a8, .int (nI t), .ref a9])), (a1, .inl (cI, 200, .inl q.1)), (a2, .inl (cI, 200, .inl q.2.1)), (a3, .inl (cI, 200, .inl q.2.2.1)), (a4, .inl (cI, 200, .inl q.2.2.2.1)), (a5, .inl (cI, 24, .inl no)), (a6, .inl (cB, 524288, .inl (upd g ((4096 * x) + (nI i)).toNatClampNeg (vp_nar .byte (tf (nI i).toNatClampNeg))))), (a8, .inl (cI, 24, .inl wf)), (a9, .inl (cB, 524288, .inl tf))] H := hP
      have hD : va_D A [(k0, .inr (4, [.int co, .int (nI nB), .int dn, .int wr, .int lf, .int (nI q.2.2.2.2), .ref a1, .ref a2, .ref a3, .ref a4, .ref a5, .int ch, .ref a6, .ref a7, .ref a8, .int (nI t), .ref a9])), (a1, .inl (cI, 200, .inl q.1)), (a2, .inl (cI, 200, .inl q.2.1)), (a3, .inl (cI, 200, .inl q.2.2.1)), (a4, .inl (cI, 200, .inl q.2.2.2.1)), (a5, .inl (cI, 24, .inl no)), (a6, .inl (cB, 524288, .inl (upd g ((4096 * x) + (nI i)).toNatClampNeg (vp_nar .byte (tf (nI i).toNatClampNeg))))), (a8, .inl (cI, 24, .inl wf)), (a9, .inl (cB, 524288, .inl tf))] := hD
      refine lv_iinc (v := nI (i + 1)) (lv' := [(7, .int (nI (i + 1))), (0, .ref k0), (1, .int lab), (2, .int fr), (3, .int to), (4, .int x), (5, .int (nI N))]) hx hb d_K_happen_190 hl (k := 6) rfl (nI_1 i) (by decide) rfl (fun ls hl => ?_)
      refine lv_goto (tgt := 160) hx hb d_K_happen_193 (by decide) ?_
      exact ih (i + 1) (upd g ((4096 * x) + (nI i)).toNatClampNeg (vp_nar .byte (tf (nI i).toNatClampNeg))) (by omega) (ek_ltE (by omega) (by omega) c_166) (by rw [← hu, ek_dk, if_neg c_166]) _ _ hP hD hS ls (lv_sub hl [1, 2, 3, 4, 5, 6, 0] rfl)
set_option maxHeartbeats 4000000 in
set_option maxRecDepth 100000 in
theorem c_k_happen_A {p : Program} {l : Launch} {e : Env} {s : State} {m : MethodId} {args : Array Value} {below : List Frame} {meth : Method} {c : Code} {dC : Nat → ClassId} {dI : Nat → Nat → Nat} {cI cB cJ cZ : ClassId} {A : Nat → Prop} {k0 a1 a2 a3 a4 a5 a6 a7 a8 a9 : Nat} {co : Int32} {nB : Nat} {dn wr lf : Int32} {E : Nat} {ch : Int32} {t : Nat} {la fi ma sz no dk wf tf : ep_F} {lab fr to x : Int32} {N : Nat} (hE : E ≤ 199) (ht : t ≤ 524288) (hN : N ≤ 128) (hx9 : nI N ≤ 0 ∨ ∀ k : Nat, k < t → vp_in (4096 * x + nI k) 524288) (hK : va_K (dC, dI) vwCl (ey_kt cI cB cJ cZ) s) (hG : ex_G s) (C0 : ey_Cx p s m args meth c b_K_happen 8 R_K ew_T none A)  :
    ∀ (fuel : Nat) (i : Nat) (q : ek_H) (hi : i + fuel = E + 1) (hin : i ≤ E) (hqi : q.2.2.2.2 ≤ i) (hu : ek_hp fr to E fuel i q = ek_hp fr to E (E + 1) 0 (la, fi, ma, sz, 0)), ∀ (H : Heap) (locs : List Loc), va_P (dC, dI) vwCl [(k0, .inr (4, [.int co, .int (nI nB), .int dn, .int wr, .int lf, .int (nI E), .ref a1, .ref a2, .ref a3, .ref a4, .ref a5, .int ch, .ref a6, .ref a7, .ref a8, .int (nI t), .ref a9])), (a1, .inl (cI, 200, .inl q.1)), (a2, .inl (cI, 200, .inl q.2.1)), (a3, .inl (cI, 200, .inl q.2.2.1)), (a4, .inl (cI, 200, .inl q.2.2.2.1)), (a5, .inl (cI, 24, .inl no)), (a6, .inl (cB, 524288, .inl dk)), (a8, .inl (cI, 24, .inl wf)), (a9, .inl (cB, 524288, .inl tf))] H → va_D A [(k0, .inr (4, [.int co, .int (nI nB), .int dn, .int wr, .int lf, .int (nI E), .ref a1, .ref a2, .ref a3, .ref a4, .ref a5, .int ch, .ref a6, .ref a7, .ref a8, .int (nI t), .ref a9])), (a1, .inl (cI, 200, .inl q.1)), (a2, .inl (cI, 200, .inl q.2.1)), (a3, .inl (cI, 200, .inl q.2.2.1)), (a4, .inl (cI, 200, .inl q.2.2.2.1)), (a5, .inl (cI, 24, .inl no)), (a6, .inl (cB, 524288, .inl dk)), (a8, .inl (cI, 24, .inl wf)), (a9, .inl (cB, 524288, .inl tf))] → va_S A s.heap H locs → ∀ (ls : Array Slot), lv_has ls 8 [(0, .ref k0), (1, .int lab), (2, .int fr), (3, .int to), (4, .int x), (5, .int (nI N)), (6, .int (nI q.2.2.2.2)), (7, .int (nI i))] → W p l e { frames := 1, cells := 0, slots := 0, locals := 24 } s m args below meth c H locs 0 0 (MQ below (va_Qv (fun (u : ek_HR) => u = ek_happen lab fr to x N (la, fi, ma, sz, E) dk tf t no wf) (fun u t8 => ey_Post (dC, dI) vwCl A ((fun (u : ek_HR) => [(k0, .inr (4, [.int co, .int (nI nB), .int dn, .int wr, .int lf, .int (nI u.1.2.2.2.2), .ref a1, .ref a2, .ref a3, .ref a4, .ref a5, .int (ch + 1), .ref a6, .ref a7, .ref a8, .int (nI t), .ref a9])), (a1, .inl (cI, 200, .inl u.1.1)), (a2, .inl (cI, 200, .inl u.1.2.1)), (a3, .inl (cI, 200, .inl u.1.2.2.1)), (a4, .inl (cI, 200, .inl u.1.2.2.2.1)), (a5, .inl (cI, 24, .inl u.2.2)), (a6, .inl (cB, 524288, .inl u.2.1)), (a8, .inl (cI, 24, .inl wf)), (a9, .inl (cB, 524288, .inl tf))]) u) t8) A) args s 0 0 A) (F0 m 6 ls []) := by
  obtain ⟨hx, hb, hml, hown, hts, hr, hlocks, hA⟩ := id C0
  intro fuel
  induction fuel with
  | zero =>
    intro i q hi hin hqi hu H locs hP hD hS ls hl
    exact absurd hi (by omega)
  | succ fuel ih =>
    intro i q hi hin hqi hu H locs hP hD hS ls hl
    refine lv_iload hx hb d_K_happen_6 (lv_at hl 7 rfl) ?_
    refine lv_aload_n hx hb d_K_happen_8 rfl (lv_at hl 0 rfl) ?_
    refine va_get (D := (dC, dI)) (ci := 4) (v := .int (nI E)) (C := R_K) (T := T_K) (N := 17) hx hb hts in_K hown hK hP 0 rfl rfl 5 (by decide) (hts _ ew_424) (fun _ h9 => h9) rfl d_K_happen_9 ?_
    refine lv_icmp_ge (tgt := 91) hx hb d_K_happen_12 (by decide) (fun c_12 => ?_) (fun c_12 => ?_)
    · refine lv_aload_n hx hb d_K_happen_91 rfl (lv_at hl 0 rfl) ?_
      refine lv_iload hx hb d_K_happen_92 (lv_at hl 6 rfl) ?_
      refine va_put (D := (dC, dI)) (ci := 4) (v := .int (nI q.2.2.2.2)) (ty := .int) (C := R_K) (T := T_K) (N := 17) hx hb hts in_K t_K t_K_ok n_K hown hK hP hD hS 0 rfl rfl 5 (by decide) (hts _ ew_424) (fun _ h9 => h9) rfl (by decide +kernel) rfl rfl (Nat.le_of_ble_eq_true rfl) d_K_happen_94 (fun H locs hP hD hS => ?_)
      have hP : va_P (dC, dI) vwCl [(k0, .inr (4, [.int co, .int (nI nB), .int dn, .int wr, .int lf, .int (nI q.2.2.2.2), .ref a1, .ref a2, .ref a3, .ref a4, .ref a5, .int ch, .ref a6, .ref a7, .ref a8, .int (nI t), .ref a9])), (a1, .inl (cI, 200, .inl q.1)), (a2, .inl (cI, 200, .inl q.2.1)), (a3, .inl (cI, 200, .inl q.2.2.1)), (a4, .inl (cI, 200, .inl q.2.2.2.1)), (a5, .inl (cI, 24, .inl no)), (a6, .inl (cB, 524288, .inl dk)), (a8, .inl (cI, 24, .inl wf)), (a9, .inl (cB, 524288, .inl tf))] H := hP
      have hD : va_D A [(k0, .inr (4, [.int co, .int (nI nB), .int dn, .int wr, .int lf, .int (nI q.2.2.2.2), .ref a1, .ref a2, .ref a3, .ref a4, .ref a5, .int ch, .ref a6, .ref a7, .ref a8, .int (nI t), .ref a9])), (a1, .inl (cI, 200, .inl q.1)), (a2, .inl (cI, 200, .inl q.2.1)), (a3, .inl (cI, 200, .inl q.2.2.1)), (a4, .inl (cI, 200, .inl q.2.2.2.1)), (a5, .inl (cI, 24, .inl no)), (a6, .inl (cB, 524288, .inl dk)), (a8, .inl (cI, 24, .inl wf)), (a9, .inl (cB, 524288, .inl tf))] := hD
      refine lv_iload hx hb d_K_happen_97 (lv_at hl 5 rfl) ?_
      refine lv_if_le (tgt := 196) hx hb d_K_happen_99 (by decide) (fun c_99 => ?_) (fun c_99 => ?_)
      · refine lv_iconst (v := nI 0) hx hb d_K_happen_196 (by decide) ?_
        refine lv_istore (lv' := [(7, .int (nI 0)), (0, .ref k0), (1, .int lab), (2, .int fr), (3, .int to), (4, .int x), (5, .int (nI N)), (6, .int (nI q.2.2.2.2))]) hx hb d_K_happen_197 hl (by decide) rfl (fun ls hl => ?_)
        have eq9 : q = ek_hp fr to E (E + 1) 0 (la, fi, ma, sz, 0) := by rw [← hu, ek_hp, if_pos c_12]
        subst eq9
        exact c_k_happen_N (k0 := k0) (a1 := a1) (a2 := a2) (a3 := a3) (a4 := a4) (a5 := a5) (a6 := a6) (a7 := a7) (a8 := a8) (a9 := a9) (co := co) (nB := nB) (dn := dn) (wr := wr) (lf := lf) (E := E) (ch := ch) (t := t) (la := la) (fi := fi) (ma := ma) (sz := sz) (no := no) (dk := dk) (wf := wf) (tf := tf) (lab := lab) (fr := fr) (to := to) (x := x) (N := N) hE ht hN hx9 (ek_hp fr to E (E + 1) 0 (la, fi, ma, sz, 0)) dk (fun z => by rw [ek_happen, if_pos c_99]) hK hG C0 25 0 no rfl (by omega) rfl _ _ hP hD hS ls (lv_sub hl [1, 2, 3, 4, 5, 6, 0] rfl)
      · have hq9 : q.2.2.2.2 ≤ E := by omega
        refine lv_aload_n hx hb d_K_happen_102 rfl (lv_at hl 0 rfl) ?_
        refine va_get (D := (dC, dI)) (ci := 4) (v := .ref a1) (C := R_K) (T := T_K) (N := 17) hx hb hts in_K hown hK hP 0 rfl rfl 6 (by decide) (hts _ ew_425) (fun _ h9 => h9) rfl d_K_happen_103 ?_
        refine lv_aload_n hx hb d_K_happen_106 rfl (lv_at hl 0 rfl) ?_
        refine va_get (D := (dC, dI)) (ci := 4) (v := .int (nI q.2.2.2.2)) (C := R_K) (T := T_K) (N := 17) hx hb hts in_K hown hK hP 0 rfl rfl 5 (by decide) (hts _ ew_424) (fun _ h9 => h9) rfl d_K_happen_107 ?_
        refine lv_iload_n hx hb d_K_happen_110 rfl (lv_at hl 1 rfl) ?_
        refine va_iast hx hb hK hP hD hS 1 0 rfl rfl (vp_in_nI (by omega) (by decide)) d_K_happen_111 (fun H locs hP hD hS => ?_)
        have hP : va_P (dC, dI) vwCl [(k0, .inr (4, [.int co, .int (nI nB), .int dn, .int wr, .int lf, .int (nI q.2.2.2.2), .ref a1, .ref a2, .ref a3, .ref a4, .ref a5, .int ch, .ref a6, .ref a7, .ref a8, .int (nI t), .ref a9])), (a1, .inl (cI, 200, .inl (upd q.1 (nI q.2.2.2.2).toNatClampNeg lab))), (a2, .inl (cI, 200, .inl q.2.1)), (a3, .inl (cI, 200, .inl q.2.2.1)), (a4, .inl (cI, 200, .inl q.2.2.2.1)), (a5, .inl (cI, 24, .inl no)), (a6, .inl (cB, 524288, .inl dk)), (a8, .inl (cI, 24, .inl wf)), (a9, .inl (cB, 524288, .inl tf))] H := hP
        have hD : va_D A [(k0, .inr (4, [.int co, .int (nI nB), .int dn, .int wr, .int lf, .int (nI q.2.2.2.2), .ref a1, .ref a2, .ref a3, .ref a4, .ref a5, .int ch, .ref a6, .ref a7, .ref a8, .int (nI t), .ref a9])), (a1, .inl (cI, 200, .inl (upd q.1 (nI q.2.2.2.2).toNatClampNeg lab))), (a2, .inl (cI, 200, .inl q.2.1)), (a3, .inl (cI, 200, .inl q.2.2.1)), (a4, .inl (cI, 200, .inl q.2.2.2.1)), (a5, .inl (cI, 24, .inl no)), (a6, .inl (cB, 524288, .inl dk)), (a8, .inl (cI, 24, .inl wf)), (a9, .inl (cB, 524288, .inl tf))] := hD
        refine lv_aload_n hx hb d_K_happen_112 rfl (lv_at hl 0 rfl) ?_
        refine va_get (D := (dC, dI)) (ci := 4) (v := .ref a2) (C := R_K) (T := T_K) (N := 17) hx hb hts in_K hown hK hP 0 rfl rfl 7 (by decide) (hts _ ew_426) (fun _ h9 => h9) rfl d_K_happen_113 ?_
        refine lv_aload_n hx hb d_K_happen_116 rfl (lv_at hl 0 rfl) ?_
        refine va_get (D := (dC, dI)) (ci := 4) (v := .int (nI q.2.2.2.2)) (C := R_K) (T := T_K) (N := 17) hx hb hts in_K hown hK hP 0 rfl rfl 5 (by decide) (hts _ ew_424) (fun _ h9 => h9) rfl d_K_happen_117 ?_
        refine lv_iload hx hb d_K_happen_120 (lv_at hl 4 rfl) ?_
        refine va_iast hx hb hK hP hD hS 2 0 rfl rfl (vp_in_nI (by omega) (by decide)) d_K_happen_122 (fun H locs hP hD hS => ?_)
        have hP : va_P (dC, dI) vwCl [(k0, .inr (4, [.int co, .int (nI nB), .int dn, .int wr, .int lf, .int (nI q.2.2.2.2), .ref a1, .ref a2, .ref a3, .ref a4, .ref a5, .int ch, .ref a6, .ref a7, .ref a8, .int (nI t), .ref a9])), (a1, .inl (cI, 200, .inl (upd q.1 (nI q.2.2.2.2).toNatClampNeg lab))), (a2, .inl (cI, 200, .inl (upd q.2.1 (nI q.2.2.2.2).toNatClampNeg x))), (a3, .inl (cI, 200, .inl q.2.2.1)), (a4, .inl (cI, 200, .inl q.2.2.2.1)), (a5, .inl (cI, 24, .inl no)), (a6, .inl (cB, 524288, .inl dk)), (a8, .inl (cI, 24, .inl wf)), (a9, .inl (cB, 524288, .inl tf))] H := hP
        have hD : va_D A [(k0, .inr (4, [.int co, .int (nI nB), .int dn, .int wr, .int lf, .int (nI q.2.2.2.2), .ref a1, .ref a2, .ref a3, .ref a4, .ref a5, .int ch, .ref a6, .ref a7, .ref a8, .int (nI t), .ref a9])), (a1, .inl (cI, 200, .inl (upd q.1 (nI q.2.2.2.2).toNatClampNeg lab))), (a2, .inl (cI, 200, .inl (upd q.2.1 (nI q.2.2.2.2).toNatClampNeg x))), (a3, .inl (cI, 200, .inl q.2.2.1)), (a4, .inl (cI, 200, .inl q.2.2.2.1)), (a5, .inl (cI, 24, .inl no)), (a6, .inl (cB, 524288, .inl dk)), (a8, .inl (cI, 24, .inl wf)), (a9, .inl (cB, 524288, .inl tf))] := hD
        refine lv_aload_n hx hb d_K_happen_123 rfl (lv_at hl 0 rfl) ?_
        refine va_get (D := (dC, dI)) (ci := 4) (v := .ref a3) (C := R_K) (T := T_K) (N := 17) hx hb hts in_K hown hK hP 0 rfl rfl 8 (by decide) (hts _ ew_427) (fun _ h9 => h9) rfl d_K_happen_124 ?_
        refine lv_aload_n hx hb d_K_happen_127 rfl (lv_at hl 0 rfl) ?_
        refine va_get (D := (dC, dI)) (ci := 4) (v := .int (nI q.2.2.2.2)) (C := R_K) (T := T_K) (N := 17) hx hb hts in_K hown hK hP 0 rfl rfl 5 (by decide) (hts _ ew_424) (fun _ h9 => h9) rfl d_K_happen_128 ?_
        refine lv_iload hx hb d_K_happen_131 (lv_at hl 5 rfl) ?_
        refine va_iast hx hb hK hP hD hS 3 0 rfl rfl (vp_in_nI (by omega) (by decide)) d_K_happen_133 (fun H locs hP hD hS => ?_)
        have hP : va_P (dC, dI) vwCl [(k0, .inr (4, [.int co, .int (nI nB), .int dn, .int wr, .int lf, .int (nI q.2.2.2.2), .ref a1, .ref a2, .ref a3, .ref a4, .ref a5, .int ch, .ref a6, .ref a7, .ref a8, .int (nI t), .ref a9])), (a1, .inl (cI, 200, .inl (upd q.1 (nI q.2.2.2.2).toNatClampNeg lab))), (a2, .inl (cI, 200, .inl (upd q.2.1 (nI q.2.2.2.2).toNatClampNeg x))), (a3, .inl (cI, 200, .inl (upd q.2.2.1 (nI q.2.2.2.2).toNatClampNeg (nI N)))), (a4, .inl (cI, 200, .inl q.2.2.2.1)), (a5, .inl (cI, 24, .inl no)), (a6, .inl (cB, 524288, .inl dk)), (a8, .inl (cI, 24, .inl wf)), (a9, .inl (cB, 524288, .inl tf))] H := hP
        have hD : va_D A [(k0, .inr (4, [.int co, .int (nI nB), .int dn, .int wr, .int lf, .int (nI q.2.2.2.2), .ref a1, .ref a2, .ref a3, .ref a4, .ref a5, .int ch, .ref a6, .ref a7, .ref a8, .int (nI t), .ref a9])), (a1, .inl (cI, 200, .inl (upd q.1 (nI q.2.2.2.2).toNatClampNeg lab))), (a2, .inl (cI, 200, .inl (upd q.2.1 (nI q.2.2.2.2).toNatClampNeg x))), (a3, .inl (cI, 200, .inl (upd q.2.2.1 (nI q.2.2.2.2).toNatClampNeg (nI N)))), (a4, .inl (cI, 200, .inl q.2.2.2.1)), (a5, .inl (cI, 24, .inl no)), (a6, .inl (cB, 524288, .inl dk)), (a8, .inl (cI, 24, .inl wf)), (a9, .inl (cB, 524288, .inl tf))] := hD
        refine lv_aload_n hx hb d_K_happen_134 rfl (lv_at hl 0 rfl) ?_
        refine va_get (D := (dC, dI)) (ci := 4) (v := .ref a4) (C := R_K) (T := T_K) (N := 17) hx hb hts in_K hown hK hP 0 rfl rfl 9 (by decide) (hts _ ew_428) (fun _ h9 => h9) rfl d_K_happen_135 ?_
        refine lv_aload_n hx hb d_K_happen_138 rfl (lv_at hl 0 rfl) ?_
        refine va_get (D := (dC, dI)) (ci := 4) (v := .int (nI q.2.2.2.2)) (C := R_K) (T := T_K) (N := 17) hx hb hts in_K hown hK hP 0 rfl rfl 5 (by decide) (hts _ ew_424) (fun _ h9 => h9) rfl d_K_happen_139 ?_
        refine lv_aload_n hx hb d_K_happen_142 rfl (lv_at hl 0 rfl) ?_
        refine va_get (D := (dC, dI)) (ci := 4) (v := .int (nI t)) (C := R_K) (T := T_K) (N := 17) hx hb hts in_K hown hK hP 0 rfl rfl 15 (by decide) (hts _ ew_434) (fun _ h9 => h9) rfl d_K_happen_143 ?_
        refine va_iast hx hb hK hP hD hS 4 0 rfl rfl (vp_in_nI (by omega) (by decide)) d_K_happen_146 (fun H locs hP hD hS => ?_)
        have hP : va_P (dC, dI) vwCl [(k0, .inr (4, [.int co, .int (nI nB), .int dn, .int wr, .int lf, .int (nI q.2.2.2.2), .ref a1, .ref a2, .ref a3, .ref a4, .ref a5, .int ch, .ref a6, .ref a7, .ref a8, .int (nI t), .ref a9])), (a1, .inl (cI, 200, .inl (upd q.1 (nI q.2.2.2.2).toNatClampNeg lab))), (a2, .inl (cI, 200, .inl (upd q.2.1 (nI q.2.2.2.2).toNatClampNeg x))), (a3, .inl (cI, 200, .inl (upd q.2.2.1 (nI q.2.2.2.2).toNatClampNeg (nI N)))), (a4, .inl (cI, 200, .inl (upd q.2.2.2.1 (nI q.2.2.2.2).toNatClampNeg (nI t)))), (a5, .inl (cI, 24, .inl no)), (a6, .inl (cB, 524288, .inl dk)), (a8, .inl (cI, 24, .inl wf)), (a9, .inl (cB, 524288, .inl tf))] H := hP
        have hD : va_D A [(k0, .inr (4, [.int co, .int (nI nB), .int dn, .int wr, .int lf, .int (nI q.2.2.2.2), .ref a1, .ref a2, .ref a3, .ref a4, .ref a5, .int ch, .ref a6, .ref a7, .ref a8, .int (nI t), .ref a9])), (a1, .inl (cI, 200, .inl (upd q.1 (nI q.2.2.2.2).toNatClampNeg lab))), (a2, .inl (cI, 200, .inl (upd q.2.1 (nI q.2.2.2.2).toNatClampNeg x))), (a3, .inl (cI, 200, .inl (upd q.2.2.1 (nI q.2.2.2.2).toNatClampNeg (nI N)))), (a4, .inl (cI, 200, .inl (upd q.2.2.2.1 (nI q.2.2.2.2).toNatClampNeg (nI t)))), (a5, .inl (cI, 24, .inl no)), (a6, .inl (cB, 524288, .inl dk)), (a8, .inl (cI, 24, .inl wf)), (a9, .inl (cB, 524288, .inl tf))] := hD
        refine lv_aload_n hx hb d_K_happen_147 rfl (lv_at hl 0 rfl) ?_
        refine lv_dup hx hb d_K_happen_148 rfl ?_
        refine va_get (D := (dC, dI)) (ci := 4) (v := .int (nI q.2.2.2.2)) (C := R_K) (T := T_K) (N := 17) hx hb hts in_K hown hK hP 0 rfl rfl 5 (by decide) (hts _ ew_424) (fun _ h9 => h9) rfl d_K_happen_149 ?_
        refine lv_iconst (v := 1) hx hb d_K_happen_152 (by decide) ?_
        refine lv_iadd hx hb d_K_happen_153 ?_
        rw [show ((nI q.2.2.2.2) + 1) = nI (q.2.2.2.2 + 1) from nI_1 q.2.2.2.2]
        refine va_put (D := (dC, dI)) (ci := 4) (v := .int (nI (q.2.2.2.2 + 1))) (ty := .int) (C := R_K) (T := T_K) (N := 17) hx hb hts in_K t_K t_K_ok n_K hown hK hP hD hS 0 rfl rfl 5 (by decide) (hts _ ew_424) (fun _ h9 => h9) rfl (by decide +kernel) rfl rfl (Nat.le_of_ble_eq_true rfl) d_K_happen_154 (fun H locs hP hD hS => ?_)
        have hP : va_P (dC, dI) vwCl [(k0, .inr (4, [.int co, .int (nI nB), .int dn, .int wr, .int lf, .int (nI (q.2.2.2.2 + 1)), .ref a1, .ref a2, .ref a3, .ref a4, .ref a5, .int ch, .ref a6, .ref a7, .ref a8, .int (nI t), .ref a9])), (a1, .inl (cI, 200, .inl (upd q.1 (nI q.2.2.2.2).toNatClampNeg lab))), (a2, .inl (cI, 200, .inl (upd q.2.1 (nI q.2.2.2.2).toNatClampNeg x))), (a3, .inl (cI, 200, .inl (upd q.2.2.1 (nI q.2.2.2.2).toNatClampNeg (nI N)))), (a4, .inl (cI, 200, .inl (upd q.2.2.2.1 (nI q.2.2.2.2).toNatClampNeg (nI t)))), (a5, .inl (cI, 24, .inl no)), (a6, .inl (cB, 524288, .inl dk)), (a8, .inl (cI, 24, .inl wf)), (a9, .inl (cB, 524288, .inl tf))] H := hP
        have hD : va_D A [(k0, .inr (4, [.int co, .int (nI nB), .int dn, .int wr, .int lf, .int (nI (q.2.2.2.2 + 1)), .ref a1, .ref a2, .ref a3, .ref a4, .ref a5, .int ch, .ref a6, .ref a7, .ref a8, .int (nI t), .ref a9])), (a1, .inl (cI, 200, .inl (upd q.1 (nI q.2.2.2.2).toNatClampNeg lab))), (a2, .inl (cI, 200, .inl (upd q.2.1 (nI q.2.2.2.2).toNatClampNeg x))), (a3, .inl (cI, 200, .inl (upd q.2.2.1 (nI q.2.2.2.2).toNatClampNeg (nI N)))), (a4, .inl (cI, 200, .inl (upd q.2.2.2.1 (nI q.2.2.2.2).toNatClampNeg (nI t)))), (a5, .inl (cI, 24, .inl no)), (a6, .inl (cB, 524288, .inl dk)), (a8, .inl (cI, 24, .inl wf)), (a9, .inl (cB, 524288, .inl tf))] := hD
        refine lv_iconst (v := nI 0) hx hb d_K_happen_157 (by decide) ?_
        refine lv_istore (lv' := [(7, .int (nI 0)), (0, .ref k0), (1, .int lab), (2, .int fr), (3, .int to), (4, .int x), (5, .int (nI N)), (6, .int (nI q.2.2.2.2))]) hx hb d_K_happen_158 hl (by decide) rfl (fun ls hl => ?_)
        have eq9 : q = ek_hp fr to E (E + 1) 0 (la, fi, ma, sz, 0) := by rw [← hu, ek_hp, if_pos c_12]
        subst eq9
        exact c_k_happen_D (k0 := k0) (a1 := a1) (a2 := a2) (a3 := a3) (a4 := a4) (a5 := a5) (a6 := a6) (a7 := a7) (a8 := a8) (a9 := a9) (co := co) (nB := nB) (dn := dn) (wr := wr) (lf := lf) (E := E) (ch := ch) (t := t) (la := la) (fi := fi) (ma := ma) (sz := sz) (no := no) (dk := dk) (wf := wf) (tf := tf) (lab := lab) (fr := fr) (to := to) (x := x) (N := N) hE ht hN hx9 (ek_new (ek_hp fr to E (E + 1) 0 (la, fi, ma, sz, 0)) lab x N t) (ek_happen_r c_99) c_99 hK hG C0 (t + 1) 0 dk (by omega) (by omega) rfl _ _ hP hD hS ls (lv_sub hl [1, 2, 3, 4, 5, 6, 0] rfl)
    · have hlt : i < E := ek_ltE (by omega) (by omega) c_12
      refine lv_aload_n hx hb d_K_happen_15 rfl (lv_at hl 0 rfl) ?_
      refine lv_iload hx hb d_K_happen_16 (lv_at hl 7 rfl) ?_
      refine lv_iload_n hx hb d_K_happen_18 rfl (lv_at hl 2 rfl) ?_
      refine lv_iload_n hx hb d_K_happen_19 rfl (lv_at hl 3 rfl) ?_
      refine ey_Vi (Wc := [(k0, .inr (4, [.int co, .int (nI nB), .int dn, .int wr, .int lf, .int (nI E), .ref a1, .ref a2, .ref a3, .ref a4, .ref a5, .int ch, .ref a6, .ref a7, .ref a8, .int (nI t), .ref a9])), (a1, .inl (cI, 200, .inl q.1))]) (wr := [(a2, .inl (cI, 200, .inl q.2.1)), (a3, .inl (cI, 200, .inl q.2.2.1)), (a4, .inl (cI, 200, .inl q.2.2.2.1)), (a5, .inl (cI, 24, .inl no)), (a6, .inl (cB, 524288, .inl dk)), (a8, .inl (cI, 24, .inl wf)), (a9, .inl (cB, 524288, .inl tf))]) (As := [.int (nI i), .int fr, .int to]) (rest := []) ⟨hx, hb, hml, hown, hts⟩ (c_k_goes l dC dI cI cB cJ cZ k0 a1 a2 a3 a4 a5 a6 a7 a8 a9 co nB dn wr lf E ch t q.1 i fr to (by omega)) (cwV 3 hts (ew_V ew_501 ew_503 ew_6 ew_18 g_K_goes) rfl rfl rfl (by decide +kernel) ⟨Nat.le_of_ble_eq_true rfl, Nat.le_of_ble_eq_true rfl⟩) hK hG hP hD hS hA [0, 1] [2, 3, 4, 5, 6, 7, 8] rfl rfl (by decide) (by decide) (by decide) (ci := 4) (q0 := 0) rfl rfl rfl hl.1 rfl (Nat.le_of_ble_eq_true rfl) d_K_happen_20 ⟨Nat.le_of_ble_eq_true rfl, Nat.le_of_ble_eq_true rfl⟩ (fun r_1 u_2 H locs e_3 hP hD hS => ?_)
      have hP : va_P (dC, dI) vwCl [(a2, .inl (cI, 200, .inl q.2.1)), (a3, .inl (cI, 200, .inl q.2.2.1)), (a4, .inl (cI, 200, .inl q.2.2.2.1)), (a5, .inl (cI, 24, .inl no)), (a6, .inl (cB, 524288, .inl dk)), (a8, .inl (cI, 24, .inl wf)), (a9, .inl (cB, 524288, .inl tf)), (k0, .inr (4, [.int co, .int (nI nB), .int dn, .int wr, .int lf, .int (nI E), .ref a1, .ref a2, .ref a3, .ref a4, .ref a5, .int ch, .ref a6, .ref a7, .ref a8, .int (nI t), .ref a9])), (a1, .inl (cI, 200, .inl q.1))] H := hP
      have hD : va_D A [(a2, .inl (cI, 200, .inl q.2.1)), (a3, .inl (cI, 200, .inl q.2.2.1)), (a4, .inl (cI, 200, .inl q.2.2.2.1)), (a5, .inl (cI, 24, .inl no)), (a6, .inl (cB, 524288, .inl dk)), (a8, .inl (cI, 24, .inl wf)), (a9, .inl (cB, 524288, .inl tf)), (k0, .inr (4, [.int co, .int (nI nB), .int dn, .int wr, .int lf, .int (nI E), .ref a1, .ref a2, .ref a3, .ref a4, .ref a5, .int ch, .ref a6, .ref a7, .ref a8, .int (nI t), .ref a9])), (a1, .inl (cI, 200, .inl q.1))] := hD
      subst e_3
      refine lv_if_ne (tgt := 85) hx hb d_K_happen_23 (by decide) (fun c_23 => ?_) (fun c_23 => ?_)
      · refine lv_iinc (v := nI (i + 1)) (lv' := [(7, .int (nI (i + 1))), (0, .ref k0), (1, .int lab), (2, .int fr), (3, .int to), (4, .int x), (5, .int (nI N)), (6, .int (nI q.2.2.2.2))]) hx hb d_K_happen_85 hl (k := 7) rfl (nI_1 i) (by decide) rfl (fun ls hl => ?_)
        refine lv_goto (tgt := 6) hx hb d_K_happen_88 (by decide) ?_
        exact ih (i + 1) q (by omega) (by omega) (by first | omega | (dsimp only; omega)) (by rw [← hu, ek_hp, if_neg c_12, if_pos c_23]) _ _ (ey_P (is := [7, 8, 0, 1, 2, 3, 4, 5, 6]) hP rfl) (hD.sub [7, 8, 0, 1, 2, 3, 4, 5, 6] (by decide) rfl) hS ls (lv_sub hl [1, 2, 3, 4, 5, 6, 7, 0] rfl)
      · refine lv_aload_n hx hb d_K_happen_26 rfl (lv_at hl 0 rfl) ?_
        refine va_get (D := (dC, dI)) (ci := 4) (v := .ref a1) (C := R_K) (T := T_K) (N := 17) hx hb hts in_K hown hK hP 7 rfl rfl 6 (by decide) (hts _ ew_425) (fun _ h9 => h9) rfl d_K_happen_27 ?_
        refine lv_iload hx hb d_K_happen_30 (lv_at hl 6 rfl) ?_
        refine lv_aload_n hx hb d_K_happen_32 rfl (lv_at hl 0 rfl) ?_
        refine va_get (D := (dC, dI)) (ci := 4) (v := .ref a1) (C := R_K) (T := T_K) (N := 17) hx hb hts in_K hown hK hP 7 rfl rfl 6 (by decide) (hts _ ew_425) (fun _ h9 => h9) rfl d_K_happen_33 ?_
        refine lv_iload hx hb d_K_happen_36 (lv_at hl 7 rfl) ?_
        refine va_iald hx hb hK hP 8 0 rfl rfl (vp_in_nI (by omega) (by decide)) d_K_happen_38 ?_
        refine va_iast hx hb hK hP hD hS 8 0 rfl rfl (vp_in_nI (by omega) (by decide)) d_K_happen_39 (fun H locs hP hD hS => ?_)
        have hP : va_P (dC, dI) vwCl [(a2, .inl (cI, 200, .inl q.2.1)), (a3, .inl (cI, 200, .inl q.2.2.1)), (a4, .inl (cI, 200, .inl q.2.2.2.1)), (a5, .inl (cI, 24, .inl no)), (a6, .inl (cB, 524288, .inl dk)), (a8, .inl (cI, 24, .inl wf)), (a9, .inl (cB, 524288, .inl tf)), (k0, .inr (4, [.int co, .int (nI nB), .int dn, .int wr, .int lf, .int (nI E), .ref a1, .ref a2, .ref a3, .ref a4, .ref a5, .int ch, .ref a6, .ref a7, .ref a8, .int (nI t), .ref a9])), (a1, .inl (cI, 200, .inl (upd q.1 (nI q.2.2.2.2).toNatClampNeg (q.1 (nI i).toNatClampNeg))))] H := hP
        have hD : va_D A [(a2, .inl (cI, 200, .inl q.2.1)), (a3, .inl (cI, 200, .inl q.2.2.1)), (a4, .inl (cI, 200, .inl q.2.2.2.1)), (a5, .inl (cI, 24, .inl no)), (a6, .inl (cB, 524288, .inl dk)), (a8, .inl (cI, 24, .inl wf)), (a9, .inl (cB, 524288, .inl tf)), (k0, .inr (4, [.int co, .int (nI nB), .int dn, .int wr, .int lf, .int (nI E), .ref a1, .ref a2, .ref a3, .ref a4, .ref a5, .int ch, .ref a6, .ref a7, .ref a8, .int (nI t), .ref a9])), (a1, .inl (cI, 200, .inl (upd q.1 (nI q.2.2.2.2).toNatClampNeg (q.1 (nI i).toNatClampNeg))))] := hD
        refine lv_aload_n hx hb d_K_happen_40 rfl (lv_at hl 0 rfl) ?_
        refine va_get (D := (dC, dI)) (ci := 4) (v := .ref a2) (C := R_K) (T := T_K) (N := 17) hx hb hts in_K hown hK hP 7 rfl rfl 7 (by decide) (hts _ ew_426) (fun _ h9 => h9) rfl d_K_happen_41 ?_
        refine lv_iload hx hb d_K_happen_44 (lv_at hl 6 rfl) ?_
        refine lv_aload_n hx hb d_K_happen_46 rfl (lv_at hl 0 rfl) ?_
        refine va_get (D := (dC, dI)) (ci := 4) (v := .ref a2) (C := R_K) (T := T_K) (N := 17) hx hb hts in_K hown hK hP 7 rfl rfl 7 (by decide) (hts _ ew_426) (fun _ h9 => h9) rfl d_K_happen_47 ?_
        refine lv_iload hx hb d_K_happen_50 (lv_at hl 7 rfl) ?_
        refine va_iald hx hb hK hP 0 0 rfl rfl (vp_in_nI (by omega) (by decide)) d_K_happen_52 ?_
        refine va_iast hx hb hK hP hD hS 0 0 rfl rfl (vp_in_nI (by omega) (by decide)) d_K_happen_53 (fun H locs hP hD hS => ?_)
        have hP : va_P (dC, dI) vwCl [(a2, .inl (cI, 200, .inl (upd q.2.1 (nI q.2.2.2.2).toNatClampNeg (q.2.1 (nI i).toNatClampNeg)))), (a3, .inl (cI, 200, .inl q.2.2.1)), (a4, .inl (cI, 200, .inl q.2.2.2.1)), (a5, .inl (cI, 24, .inl no)), (a6, .inl (cB, 524288, .inl dk)), (a8, .inl (cI, 24, .inl wf)), (a9, .inl (cB, 524288, .inl tf)), (k0, .inr (4, [.int co, .int (nI nB), .int dn, .int wr, .int lf, .int (nI E), .ref a1, .ref a2, .ref a3, .ref a4, .ref a5, .int ch, .ref a6, .ref a7, .ref a8, .int (nI t), .ref a9])), (a1, .inl (cI, 200, .inl (upd q.1 (nI q.2.2.2.2).toNatClampNeg (q.1 (nI i).toNatClampNeg))))] H := hP
        have hD : va_D A [(a2, .inl (cI, 200, .inl (upd q.2.1 (nI q.2.2.2.2).toNatClampNeg (q.2.1 (nI i).toNatClampNeg)))), (a3, .inl (cI, 200, .inl q.2.2.1)), (a4, .inl (cI, 200, .inl q.2.2.2.1)), (a5, .inl (cI, 24, .inl no)), (a6, .inl (cB, 524288, .inl dk)), (a8, .inl (cI, 24, .inl wf)), (a9, .inl (cB, 524288, .inl tf)), (k0, .inr (4, [.int co, .int (nI nB), .int dn, .int wr, .int lf, .int (nI E), .ref a1, .ref a2, .ref a3, .ref a4, .ref a5, .int ch, .ref a6, .ref a7, .ref a8, .int (nI t), .ref a9])), (a1, .inl (cI, 200, .inl (upd q.1 (nI q.2.2.2.2).toNatClampNeg (q.1 (nI i).toNatClampNeg))))] := hD
        refine lv_aload_n hx hb d_K_happen_54 rfl (lv_at hl 0 rfl) ?_
        refine va_get (D := (dC, dI)) (ci := 4) (v := .ref a3) (C := R_K) (T := T_K) (N := 17) hx hb hts in_K hown hK hP 7 rfl rfl 8 (by decide) (hts _ ew_427) (fun _ h9 => h9) rfl d_K_happen_55 ?_
        refine lv_iload hx hb d_K_happen_58 (lv_at hl 6 rfl) ?_
        refine lv_aload_n hx hb d_K_happen_60 rfl (lv_at hl 0 rfl) ?_
        refine va_get (D := (dC, dI)) (ci := 4) (v := .ref a3) (C := R_K) (T := T_K) (N := 17) hx hb hts in_K hown hK hP 7 rfl rfl 8 (by decide) (hts _ ew_427) (fun _ h9 => h9) rfl d_K_happen_61 ?_
        refine lv_iload hx hb d_K_happen_64 (lv_at hl 7 rfl) ?_
        refine va_iald hx hb hK hP 1 0 rfl rfl (vp_in_nI (by omega) (by decide)) d_K_happen_66 ?_
        refine va_iast hx hb hK hP hD hS 1 0 rfl rfl (vp_in_nI (by omega) (by decide)) d_K_happen_67 (fun H locs hP hD hS => ?_)
        have hP : va_P (dC, dI) vwCl [(a2, .inl (cI, 200, .inl (upd q.2.1 (nI q.2.2.2.2).toNatClampNeg (q.2.1 (nI i).toNatClampNeg)))), (a3, .inl (cI, 200, .inl (upd q.2.2.1 (nI q.2.2.2.2).toNatClampNeg (q.2.2.1 (nI i).toNatClampNeg)))), (a4, .inl (cI, 200, .inl q.2.2.2.1)), (a5, .inl (cI, 24, .inl no)), (a6, .inl (cB, 524288, .inl dk)), (a8, .inl (cI, 24, .inl wf)), (a9, .inl (cB, 524288, .inl tf)), (k0, .inr (4, [.int co, .int (nI nB), .int dn, .int wr, .int lf, .int (nI E), .ref a1, .ref a2, .ref a3, .ref a4, .ref a5, .int ch, .ref a6, .ref a7, .ref a8, .int (nI t), .ref a9])), (a1, .inl (cI, 200, .inl (upd q.1 (nI q.2.2.2.2).toNatClampNeg (q.1 (nI i).toNatClampNeg))))] H := hP
        have hD : va_D A [(a2, .inl (cI, 200, .inl (upd q.2.1 (nI q.2.2.2.2).toNatClampNeg (q.2.1 (nI i).toNatClampNeg)))), (a3, .inl (cI, 200, .inl (upd q.2.2.1 (nI q.2.2.2.2).toNatClampNeg (q.2.2.1 (nI i).toNatClampNeg)))), (a4, .inl (cI, 200, .inl q.2.2.2.1)), (a5, .inl (cI, 24, .inl no)), (a6, .inl (cB, 524288, .inl dk)), (a8, .inl (cI, 24, .inl wf)), (a9, .inl (cB, 524288, .inl tf)), (k0, .inr (4, [.int co, .int (nI nB), .int dn, .int wr, .int lf, .int (nI E), .ref a1, .ref a2, .ref a3, .ref a4, .ref a5, .int ch, .ref a6, .ref a7, .ref a8, .int (nI t), .ref a9])), (a1, .inl (cI, 200, .inl (upd q.1 (nI q.2.2.2.2).toNatClampNeg (q.1 (nI i).toNatClampNeg))))] := hD
        refine lv_aload_n hx hb d_K_happen_68 rfl (lv_at hl 0 rfl) ?_
        refine va_get (D := (dC, dI)) (ci := 4) (v := .ref a4) (C := R_K) (T := T_K) (N := 17) hx hb hts in_K hown hK hP 7 rfl rfl 9 (by decide) (hts _ ew_428) (fun _ h9 => h9) rfl d_K_happen_69 ?_
        refine lv_iload hx hb d_K_happen_72 (lv_at hl 6 rfl) ?_
        refine lv_aload_n hx hb d_K_happen_74 rfl (lv_at hl 0 rfl) ?_
        refine va_get (D := (dC, dI)) (ci := 4) (v := .ref a4) (C := R_K) (T := T_K) (N := 17) hx hb hts in_K hown hK hP 7 rfl rfl 9 (by decide) (hts _ ew_428) (fun _ h9 => h9) rfl d_K_happen_75 ?_
        refine lv_iload hx hb d_K_happen_78 (lv_at hl 7 rfl) ?_
        refine va_iald hx hb hK hP 2 0 rfl rfl (vp_in_nI (by omega) (by decide)) d_K_happen_80 ?_
        refine va_iast hx hb hK hP hD hS 2 0 rfl rfl (vp_in_nI (by omega) (by decide)) d_K_happen_81 (fun H locs hP hD hS => ?_)
        have hP : va_P (dC, dI) vwCl [(a2, .inl (cI, 200, .inl (upd q.2.1 (nI q.2.2.2.2).toNatClampNeg (q.2.1 (nI i).toNatClampNeg)))), (a3, .inl (cI, 200, .inl (upd q.2.2.1 (nI q.2.2.2.2).toNatClampNeg (q.2.2.1 (nI i).toNatClampNeg)))), (a4, .inl (cI, 200, .inl (upd q.2.2.2.1 (nI q.2.2.2.2).toNatClampNeg (q.2.2.2.1 (nI i).toNatClampNeg)))), (a5, .inl (cI, 24, .inl no)), (a6, .inl (cB, 524288, .inl dk)), (a8, .inl (cI, 24, .inl wf)), (a9, .inl (cB, 524288, .inl tf)), (k0, .inr (4, [.int co, .int (nI nB), .int dn, .int wr, .int lf, .int (nI E), .ref a1, .ref a2, .ref a3, .ref a4, .ref a5, .int ch, .ref a6, .ref a7, .ref a8, .int (nI t), .ref a9])), (a1, .inl (cI, 200, .inl (upd q.1 (nI q.2.2.2.2).toNatClampNeg (q.1 (nI i).toNatClampNeg))))] H := hP
        have hD : va_D A [(a2, .inl (cI, 200, .inl (upd q.2.1 (nI q.2.2.2.2).toNatClampNeg (q.2.1 (nI i).toNatClampNeg)))), (a3, .inl (cI, 200, .inl (upd q.2.2.1 (nI q.2.2.2.2).toNatClampNeg (q.2.2.1 (nI i).toNatClampNeg)))), (a4, .inl (cI, 200, .inl (upd q.2.2.2.1 (nI q.2.2.2.2).toNatClampNeg (q.2.2.2.1 (nI i).toNatClampNeg)))), (a5, .inl (cI, 24, .inl no)), (a6, .inl (cB, 524288, .inl dk)), (a8, .inl (cI, 24, .inl wf)), (a9, .inl (cB, 524288, .inl tf)), (k0, .inr (4, [.int co, .int (nI nB), .int dn, .int wr, .int lf, .int (nI E), .ref a1, .ref a2, .ref a3, .ref a4, .ref a5, .int ch, .ref a6, .ref a7, .ref a8, .int (nI t), .ref a9])), (a1, .inl (cI, 200, .inl (upd q.1 (nI q.2.2.2.2).toNatClampNeg (q.1 (nI i).toNatClampNeg))))] := hD
        refine lv_iinc (v := nI (q.2.2.2.2 + 1)) (lv' := [(6, .int (nI (q.2.2.2.2 + 1))), (0, .ref k0), (1, .int lab), (2, .int fr), (3, .int to), (4, .int x), (5, .int (nI N)), (7, .int (nI i))]) hx hb d_K_happen_82 hl (k := 6) rfl (nI_1 q.2.2.2.2) (by decide) rfl (fun ls hl => ?_)
        refine lv_iinc (v := nI (i + 1)) (lv' := [(7, .int (nI (i + 1))), (6, .int (nI (q.2.2.2.2 + 1))), (0, .ref k0), (1, .int lab), (2, .int fr), (3, .int to), (4, .int x), (5, .int (nI N))]) hx hb d_K_happen_85 hl (k := 7) rfl (nI_1 i) (by decide) rfl (fun ls hl => ?_)
        refine lv_goto (tgt := 6) hx hb d_K_happen_88 (by decide) ?_
        exact ih (i + 1) (upd q.1 (nI q.2.2.2.2).toNatClampNeg (q.1 (nI i).toNatClampNeg), upd q.2.1 (nI q.2.2.2.2).toNatClampNeg (q.2.1 (nI i).toNatClampNeg), upd q.2.2.1 (nI q.2.2.2.2).toNatClampNeg (q.2.2.1 (nI i).toNatClampNeg), upd q.2.2.2.1 (nI q.2.2.2.2).toNatClampNeg (q.2.2.2.1 (nI i).toNatClampNeg), q.2.2.2.2 + 1) (by omega) (by omega) (by first | omega | (dsimp only; omega)) (by rw [← hu, ek_hp, if_neg c_12, if_neg (fun h9 => h9 c_23)]) _ _ (ey_P (is := [7, 8, 0, 1, 2, 3, 4, 5, 6]) hP rfl) (hD.sub [7, 8, 0, 1, 2, 3, 4, 5, 6] (by decide) rfl) hS ls (lv_sub hl [2, 3, 4, 5, 6, 7, 1, 0] rfl)
set_option maxHeartbeats 4000000 in
set_option maxRecDepth 100000 in
theorem c_k_happen (l : Launch) (dC : Nat → ClassId) (dI : Nat → Nat → Nat) (cI cB cJ cZ : ClassId) (k0 a1 a2 a3 a4 a5 a6 a7 a8 a9 : Nat) (co : Int32) (nB : Nat) (dn wr lf : Int32) (E : Nat) (ch : Int32) (t : Nat) (la fi ma sz no dk wf tf : ep_F) (lab fr to x : Int32) (N : Nat) (hE : E ≤ 199) (ht : t ≤ 524288) (hN : N ≤ 128) (hx9 : nI N ≤ 0 ∨ ∀ k : Nat, k < t → vp_in (4096 * x + nI k) 524288) : ey_Mv l y_K_happen w_K_happen { frames := 1, cells := 0, slots := 0, locals := 24 } (dC, dI) vwCl (ey_kt cI cB cJ cZ) [.ref k0, .int lab, .int fr, .int to, .int x, .int (nI N)] [(k0, .inr (4, [.int co, .int (nI nB), .int dn, .int wr, .int lf, .int (nI E), .ref a1, .ref a2, .ref a3, .ref a4, .ref a5, .int ch, .ref a6, .ref a7, .ref a8, .int (nI t), .ref a9])), (a1, .inl (cI, 200, .inl la)), (a2, .inl (cI, 200, .inl fi)), (a3, .inl (cI, 200, .inl ma)), (a4, .inl (cI, 200, .inl sz)), (a5, .inl (cI, 24, .inl no)), (a6, .inl (cB, 524288, .inl dk)), (a8, .inl (cI, 24, .inl wf)), (a9, .inl (cB, 524288, .inl tf))] (fun (u : ek_HR) => u = ek_happen lab fr to x N (la, fi, ma, sz, E) dk tf t no wf) (fun (u : ek_HR) => [(k0, .inr (4, [.int co, .int (nI nB), .int dn, .int wr, .int lf, .int (nI u.1.2.2.2.2), .ref a1, .ref a2, .ref a3, .ref a4, .ref a5, .int (ch + 1), .ref a6, .ref a7, .ref a8, .int (nI t), .ref a9])), (a1, .inl (cI, 200, .inl u.1.1)), (a2, .inl (cI, 200, .inl u.1.2.1)), (a3, .inl (cI, 200, .inl u.1.2.2.1)), (a4, .inl (cI, 200, .inl u.1.2.2.2.1)), (a5, .inl (cI, 24, .inl u.2.2)), (a6, .inl (cB, 524288, .inl u.2.1)), (a8, .inl (cI, 24, .inl wf)), (a9, .inl (cB, 524288, .inl tf))]) 0 0 := by
  intro sz
  refine Met.ofW (cc := b_K_happen) (maxL := 8) (ret := none) (by decide) rfl ?_
  intro p e s m args below meth c s₁ B hml hv
  obtain ⟨rfl, hsz, hP, hK, hG, hD0⟩ := hv
  have hx := B.exec
  have hb := B.bytes
  have hr := B.returns
  have hts := fun (w : Cond) (h : w ∈ ew_T) => atoms_spec (ws := w_K_happen) B.pre w (List.mem_cons_of_mem _ h)
  have hown : s.vm.findClass R_K = some m.cls := findClass_of_methodNamed B.named
  have hlocks := B.notSynchronized
  subst hsz
  have hD := hD0.self (sz := s.heap.size)
  generalize hAe : va_A [(k0, .inr (4, [.int co, .int (nI nB), .int dn, .int wr, .int lf, .int (nI E), .ref a1, .ref a2, .ref a3, .ref a4, .ref a5, .int ch, .ref a6, .ref a7, .ref a8, .int (nI t), .ref a9])), (a1, .inl (cI, 200, .inl la)), (a2, .inl (cI, 200, .inl fi)), (a3, .inl (cI, 200, .inl ma)), (a4, .inl (cI, 200, .inl sz)), (a5, .inl (cI, 24, .inl no)), (a6, .inl (cB, 524288, .inl dk)), (a8, .inl (cI, 24, .inl wf)), (a9, .inl (cB, 524288, .inl tf))] s.heap.size = A at hD ⊢
  have hA : ∀ q : Nat, s.heap.size ≤ q → A q := fun q h => by rw [← hAe]; exact Or.inr h
  have hS : va_S A s.heap s.heap [] := va_S.rf
  have hP : va_P (dC, dI) vwCl [(k0, .inr (4, [.int co, .int (nI nB), .int dn, .int wr, .int lf, .int (nI E), .ref a1, .ref a2, .ref a3, .ref a4, .ref a5, .int ch, .ref a6, .ref a7, .ref a8, .int (nI t), .ref a9])), (a1, .inl (cI, 200, .inl la)), (a2, .inl (cI, 200, .inl fi)), (a3, .inl (cI, 200, .inl ma)), (a4, .inl (cI, 200, .inl sz)), (a5, .inl (cI, 24, .inl no)), (a6, .inl (cB, 524288, .inl dk)), (a8, .inl (cI, 24, .inl wf)), (a9, .inl (cB, 524288, .inl tf))] s.heap := hP
  have hl := lv_entry ([.ref k0, .int lab, .int fr, .int to, .int x, .int (nI N)]) (n := 8) (Nat.le_of_ble_eq_true rfl)
  rw [lg_entry_eq]
  generalize (lg_sl ([.ref k0, .int lab, .int fr, .int to, .int x, .int (nI N)]) ++ List.replicate (8 - (lg_sl ([.ref k0, .int lab, .int fr, .int to, .int x, .int (nI N)])).length) Slot.unset).toArray = ls at hl ⊢
  have hl : lv_has ls 8 [(0, .ref k0), (1, .int lab), (2, .int fr), (3, .int to), (4, .int x), (5, .int (nI N))] := hl
  have C0 : ey_Cx p s m [.ref k0, .int lab, .int fr, .int to, .int x, .int (nI N)].toArray meth c b_K_happen 8 R_K ew_T none A := ⟨hx, hb, hml, hown, hts, hr, hlocks, hA⟩
  refine lv_iconst (v := nI 0) hx hb d_K_happen_0 (by decide) ?_
  refine lv_istore (lv' := [(6, .int (nI 0)), (0, .ref k0), (1, .int lab), (2, .int fr), (3, .int to), (4, .int x), (5, .int (nI N))]) hx hb d_K_happen_1 hl (by decide) rfl (fun ls hl => ?_)
  refine lv_iconst (v := nI 0) hx hb d_K_happen_3 (by decide) ?_
  refine lv_istore (lv' := [(7, .int (nI 0)), (6, .int (nI 0)), (0, .ref k0), (1, .int lab), (2, .int fr), (3, .int to), (4, .int x), (5, .int (nI N))]) hx hb d_K_happen_4 hl (by decide) rfl (fun ls hl => ?_)
  exact c_k_happen_A (k0 := k0) (a1 := a1) (a2 := a2) (a3 := a3) (a4 := a4) (a5 := a5) (a6 := a6) (a7 := a7) (a8 := a8) (a9 := a9) (co := co) (nB := nB) (dn := dn) (wr := wr) (lf := lf) (E := E) (ch := ch) (t := t) (la := la) (fi := fi) (ma := ma) (sz := sz) (no := no) (dk := dk) (wf := wf) (tf := tf) (lab := lab) (fr := fr) (to := to) (x := x) (N := N) hE ht hN hx9 hK hG C0 (E + 1) 0 (la, fi, ma, sz, 0) (by omega) (by omega) (by first | omega | (dsimp only; omega)) rfl _ _ hP hD hS ls (lv_sub hl [2, 3, 4, 5, 6, 7, 1, 0] rfl)
