set_option maxHeartbeats 4000000 in
set_option maxRecDepth 100000 in
theorem c_k_place_I {p : Program} {l : Launch} {e : Env} {s : State} {m : MethodId} {args : Array Value} {below : List Frame} {meth : Method} {c : Code} {dC : Nat → ClassId} {dI : Nat → Nat → Nat} {cI cB cJ cZ : ClassId} {A : Nat → Prop} {k0 a1 a2 a3 a4 a5 a6 a7 a8 a9 : Nat} {co : Int32} {nB : Nat} {dn wr lf : Int32} {E : Nat} {ch : Int32} {t : Nat} {fi ma us : ep_F} {sz : ep_F} {N : Nat} (hB : nB ≤ 128) (hE : E ≤ 199) (hok : ek_ok nB fi ma sz E) (hN1 : 1 ≤ N) (hN : N ≤ 128) (hB2 : 2 ≤ nB) (hK : va_K (dC, dI) vwCl (ey_kt cI cB cJ cZ) s) (hG : ex_G s) (C0 : ey_Cx p s m args meth c b_K_placeFor 5 R_K ew_T (some .int) A) (b : Nat) (af9 : Int32) (hbN : b + N ≤ nB) (kk : ∀ (H : Heap) (locs : List Loc) (ls : Array Slot), va_P (dC, dI) vwCl [(k0, .inr (4, [.int co, .int (nI nB), .int dn, .int wr, .int lf, .int (nI E), .ref a1, .ref a2, .ref a3, .ref a4, .ref a5, .int ch, .ref a6, .ref a7, .ref a8, .int (nI t), .ref a9])), (a2, .inl (cI, 200, .inl fi)), (a3, .inl (cI, 200, .inl ma)), (a7, .inl (cZ, 128, .inl (ek_mark fi ma E us)))] H → va_D A [(k0, .inr (4, [.int co, .int (nI nB), .int dn, .int wr, .int lf, .int (nI E), .ref a1, .ref a2, .ref a3, .ref a4, .ref a5, .int ch, .ref a6, .ref a7, .ref a8, .int (nI t), .ref a9])), (a2, .inl (cI, 200, .inl fi)), (a3, .inl (cI, 200, .inl ma)), (a7, .inl (cZ, 128, .inl (ek_mark fi ma E us)))] → va_S A s.heap H locs → lv_has ls 5 [(0, .ref k0), (1, .int (nI N)), (2, .int (nI b)), (3, .int af9)] → W p l e { frames := 1, cells := 0, slots := 0, locals := 22 } s m args below meth c H locs 0 0 (MQ below (va_Qi (fun (r : Int32) (u : ep_F) => (r, u) = ek_place fi ma E nB N us) (fun u t8 => ey_Post (dC, dI) vwCl A ((fun (u : ep_F) => [(k0, .inr (4, [.int co, .int (nI nB), .int dn, .int wr, .int lf, .int (nI E), .ref a1, .ref a2, .ref a3, .ref a4, .ref a5, .int ch, .ref a6, .ref a7, .ref a8, .int (nI t), .ref a9])), (a2, .inl (cI, 200, .inl fi)), (a3, .inl (cI, 200, .inl ma)), (a7, .inl (cZ, 128, .inl u))]) u) t8) A) args s 0 0 A) (F0 m 55 ls [])) :
    ∀ (fuel : Nat) (j : Nat) (a : Int32) (hj : j + fuel = b + N + 1) (hjm : j ≤ b + N) (hu : ek_pf1 (ek_mark fi ma E us) (nI b + nI N) fuel j a = af9), ∀ (H : Heap) (locs : List Loc), va_P (dC, dI) vwCl [(k0, .inr (4, [.int co, .int (nI nB), .int dn, .int wr, .int lf, .int (nI E), .ref a1, .ref a2, .ref a3, .ref a4, .ref a5, .int ch, .ref a6, .ref a7, .ref a8, .int (nI t), .ref a9])), (a2, .inl (cI, 200, .inl fi)), (a3, .inl (cI, 200, .inl ma)), (a7, .inl (cZ, 128, .inl (ek_mark fi ma E us)))] H → va_D A [(k0, .inr (4, [.int co, .int (nI nB), .int dn, .int wr, .int lf, .int (nI E), .ref a1, .ref a2, .ref a3, .ref a4, .ref a5, .int ch, .ref a6, .ref a7, .ref a8, .int (nI t), .ref a9])), (a2, .inl (cI, 200, .inl fi)), (a3, .inl (cI, 200, .inl ma)), (a7, .inl (cZ, 128, .inl (ek_mark fi ma E us)))] → va_S A s.heap H locs → ∀ (ls : Array Slot), lv_has ls 5 [(0, .ref k0), (1, .int (nI N)), (2, .int (nI b)), (3, .int a), (4, .int (nI j))] → W p l e { frames := 1, cells := 0, slots := 0, locals := 22 } s m args below meth c H locs 0 0 (MQ below (va_Qi (fun (r : Int32) (u : ep_F) => (r, u) = ek_place fi ma E nB N us) (fun u t8 => ey_Post (dC, dI) vwCl A ((fun (u : ep_F) => [(k0, .inr (4, [.int co, .int (nI nB), .int dn, .int wr, .int lf, .int (nI E), .ref a1, .ref a2, .ref a3, .ref a4, .ref a5, .int ch, .ref a6, .ref a7, .ref a8, .int (nI t), .ref a9])), (a2, .inl (cI, 200, .inl fi)), (a3, .inl (cI, 200, .inl ma)), (a7, .inl (cZ, 128, .inl u))]) u) t8) A) args s 0 0 A) (F0 m 21 ls []) := by
  obtain ⟨hx, hb, hml, hown, hts, hr, hlocks, hA⟩ := id C0
  intro fuel
  induction fuel with
  | zero =>
    intro j a hj hjm hu H locs hP hD hS ls hl
    exact absurd hj (by omega)
  | succ fuel ih =>
    intro j a hj hjm hu H locs hP hD hS ls hl
    refine lv_iload hx hb d_K_placeFor_21 (lv_at hl 4 rfl) ?_
    refine lv_iload_n hx hb d_K_placeFor_23 rfl (lv_at hl 2 rfl) ?_
    refine lv_iload_n hx hb d_K_placeFor_24 rfl (lv_at hl 1 rfl) ?_
    refine lv_iadd hx hb d_K_placeFor_25 ?_
    refine lv_icmp_ge (tgt := 55) hx hb d_K_placeFor_26 (by decide) (fun c_26 => ?_) (fun c_26 => ?_)
    · have et : a = af9 := by rw [← hu, ek_pf1, if_pos c_26]
      subst et
      exact kk _ _ _ hP hD hS (lv_sub hl [0, 1, 2, 3] rfl)
    · refine lv_iload_n hx hb d_K_placeFor_29 rfl (lv_at hl 3 rfl) ?_
      refine lv_if_eq (tgt := 47) hx hb d_K_placeFor_30 (by decide) (fun c_30 => ?_) (fun c_30 => ?_)
      · refine lv_iconst (v := 0) hx hb d_K_placeFor_47 (by decide) ?_
        refine lv_istore_n (lv' := [(3, .int 0), (0, .ref k0), (1, .int (nI N)), (2, .int (nI b)), (4, .int (nI j))]) hx hb d_K_placeFor_48 rfl hl (by decide) rfl (fun ls hl => ?_)
        refine lv_iinc (v := nI (j + 1)) (lv' := [(4, .int (nI (j + 1))), (3, .int 0), (0, .ref k0), (1, .int (nI N)), (2, .int (nI b))]) hx hb d_K_placeFor_49 hl (k := 4) rfl (nI_1 j) (by decide) rfl (fun ls hl => ?_)
        refine lv_goto (tgt := 21) hx hb d_K_placeFor_52 (by decide) ?_
        exact ih (j + 1) 0 (by omega) (ek_pj (by omega) (by omega) c_26) (by rw [← hu, ek_pf1, if_neg c_26, if_pos c_30]) _ _ hP hD hS ls (lv_sub hl [2, 3, 4, 1, 0] rfl)
      · refine lv_aload_n hx hb d_K_placeFor_33 rfl (lv_at hl 0 rfl) ?_
        refine va_get (D := (dC, dI)) (ci := 4) (v := .ref a7) (C := R_K) (T := T_K) (N := 17) hx hb hts in_K hown hK hP 0 rfl rfl 13 (by decide) (hts _ ew_432) (fun _ h9 => h9) rfl d_K_placeFor_34 ?_
        refine lv_iload hx hb d_K_placeFor_37 (lv_at hl 4 rfl) ?_
        refine va_zald hx hb hK hP 3 3 rfl rfl (vp_in_nI (by have h9 := ek_pj (show b + N < 2 ^ 30 by omega) (show j < 2 ^ 30 by omega) c_26; omega) (by decide)) d_K_placeFor_39 ?_
        refine lv_if_ne (tgt := 47) hx hb d_K_placeFor_40 (by decide) (fun c_40 => ?_) (fun c_40 => ?_)
        · refine lv_iconst (v := 0) hx hb d_K_placeFor_47 (by decide) ?_
          refine lv_istore_n (lv' := [(3, .int 0), (0, .ref k0), (1, .int (nI N)), (2, .int (nI b)), (4, .int (nI j))]) hx hb d_K_placeFor_48 rfl hl (by decide) rfl (fun ls hl => ?_)
          refine lv_iinc (v := nI (j + 1)) (lv' := [(4, .int (nI (j + 1))), (3, .int 0), (0, .ref k0), (1, .int (nI N)), (2, .int (nI b))]) hx hb d_K_placeFor_49 hl (k := 4) rfl (nI_1 j) (by decide) rfl (fun ls hl => ?_)
          refine lv_goto (tgt := 21) hx hb d_K_placeFor_52 (by decide) ?_
          exact ih (j + 1) 0 (by omega) (ek_pj (by omega) (by omega) c_26) (by rw [← hu, ek_pf1, if_neg c_26, if_neg c_30, if_pos c_40]) _ _ hP hD hS ls (lv_sub hl [2, 3, 4, 1, 0] rfl)
        · refine lv_iconst (v := 1) hx hb d_K_placeFor_43 (by decide) ?_
          refine lv_goto (tgt := 48) hx hb d_K_placeFor_44 (by decide) ?_
          refine lv_istore_n (lv' := [(3, .int 1), (0, .ref k0), (1, .int (nI N)), (2, .int (nI b)), (4, .int (nI j))]) hx hb d_K_placeFor_48 rfl hl (by decide) rfl (fun ls hl => ?_)
          refine lv_iinc (v := nI (j + 1)) (lv' := [(4, .int (nI (j + 1))), (3, .int 1), (0, .ref k0), (1, .int (nI N)), (2, .int (nI b))]) hx hb d_K_placeFor_49 hl (k := 4) rfl (nI_1 j) (by decide) rfl (fun ls hl => ?_)
          refine lv_goto (tgt := 21) hx hb d_K_placeFor_52 (by decide) ?_
          exact ih (j + 1) 1 (by omega) (ek_pj (by omega) (by omega) c_26) (by rw [← hu, ek_pf1, if_neg c_26, if_neg c_30, if_neg (fun h9 => h9 c_40)]) _ _ hP hD hS ls (lv_sub hl [2, 3, 4, 1, 0] rfl)
set_option maxHeartbeats 4000000 in
set_option maxRecDepth 100000 in
theorem c_k_place_L {p : Program} {l : Launch} {e : Env} {s : State} {m : MethodId} {args : Array Value} {below : List Frame} {meth : Method} {c : Code} {dC : Nat → ClassId} {dI : Nat → Nat → Nat} {cI cB cJ cZ : ClassId} {A : Nat → Prop} {k0 a1 a2 a3 a4 a5 a6 a7 a8 a9 : Nat} {co : Int32} {nB : Nat} {dn wr lf : Int32} {E : Nat} {ch : Int32} {t : Nat} {fi ma us : ep_F} {sz : ep_F} {N : Nat} (hB : nB ≤ 128) (hE : E ≤ 199) (hok : ek_ok nB fi ma sz E) (hN1 : 1 ≤ N) (hN : N ≤ 128) (hB2 : 2 ≤ nB) (hK : va_K (dC, dI) vwCl (ey_kt cI cB cJ cZ) s) (hG : ex_G s) (C0 : ey_Cx p s m args meth c b_K_placeFor 5 R_K ew_T (some .int) A)  :
    ∀ (fuel : Nat) (b : Nat) (hi : b + fuel = nB + 2) (hin : b ≤ nB + 1) (hu : ek_pf (ek_mark fi ma E us) nB N fuel b = ek_pf (ek_mark fi ma E us) nB N nB 2), ∀ (H : Heap) (locs : List Loc), va_P (dC, dI) vwCl [(k0, .inr (4, [.int co, .int (nI nB), .int dn, .int wr, .int lf, .int (nI E), .ref a1, .ref a2, .ref a3, .ref a4, .ref a5, .int ch, .ref a6, .ref a7, .ref a8, .int (nI t), .ref a9])), (a2, .inl (cI, 200, .inl fi)), (a3, .inl (cI, 200, .inl ma)), (a7, .inl (cZ, 128, .inl (ek_mark fi ma E us)))] H → va_D A [(k0, .inr (4, [.int co, .int (nI nB), .int dn, .int wr, .int lf, .int (nI E), .ref a1, .ref a2, .ref a3, .ref a4, .ref a5, .int ch, .ref a6, .ref a7, .ref a8, .int (nI t), .ref a9])), (a2, .inl (cI, 200, .inl fi)), (a3, .inl (cI, 200, .inl ma)), (a7, .inl (cZ, 128, .inl (ek_mark fi ma E us)))] → va_S A s.heap H locs → ∀ (ls : Array Slot), lv_has ls 5 [(0, .ref k0), (1, .int (nI N)), (2, .int (nI b))] → W p l e { frames := 1, cells := 0, slots := 0, locals := 22 } s m args below meth c H locs 0 0 (MQ below (va_Qi (fun (r : Int32) (u : ep_F) => (r, u) = ek_place fi ma E nB N us) (fun u t8 => ey_Post (dC, dI) vwCl A ((fun (u : ep_F) => [(k0, .inr (4, [.int co, .int (nI nB), .int dn, .int wr, .int lf, .int (nI E), .ref a1, .ref a2, .ref a3, .ref a4, .ref a5, .int ch, .ref a6, .ref a7, .ref a8, .int (nI t), .ref a9])), (a2, .inl (cI, 200, .inl fi)), (a3, .inl (cI, 200, .inl ma)), (a7, .inl (cZ, 128, .inl u))]) u) t8) A) args s 0 0 A) (F0 m 6 ls []) := by
  obtain ⟨hx, hb, hml, hown, hts, hr, hlocks, hA⟩ := id C0
  intro fuel
  induction fuel with
  | zero =>
    intro b hi hin hu H locs hP hD hS ls hl
    exact absurd hi (by omega)
  | succ fuel ih =>
    intro b hi hin hu H locs hP hD hS ls hl
    refine lv_iload_n hx hb d_K_placeFor_6 rfl (lv_at hl 2 rfl) ?_
    refine lv_iload_n hx hb d_K_placeFor_7 rfl (lv_at hl 1 rfl) ?_
    refine lv_iadd hx hb d_K_placeFor_8 ?_
    refine lv_aload_n hx hb d_K_placeFor_9 rfl (lv_at hl 0 rfl) ?_
    refine va_get (D := (dC, dI)) (ci := 4) (v := .int (nI nB)) (C := R_K) (T := T_K) (N := 17) hx hb hts in_K hown hK hP 0 rfl rfl 1 (by decide) (hts _ ew_420) (fun _ h9 => h9) rfl d_K_placeFor_10 ?_
    refine lv_icmp_gt (tgt := 67) hx hb d_K_placeFor_13 (by decide) (fun c_13 => ?_) (fun c_13 => ?_)
    · refine lv_iconst (v := (-1)) hx hb d_K_placeFor_67 (by decide) ?_
      exact ey_iret (W1 := fun (u : ep_F) => [(k0, .inr (4, [.int co, .int (nI nB), .int dn, .int wr, .int lf, .int (nI E), .ref a1, .ref a2, .ref a3, .ref a4, .ref a5, .int ch, .ref a6, .ref a7, .ref a8, .int (nI t), .ref a9])), (a2, .inl (cI, 200, .inl fi)), (a3, .inl (cI, 200, .inl ma)), (a7, .inl (cZ, 128, .inl u))]) hx hb hr hlocks hP hD hS (ek_mark fi ma E us) [0, 1, 2, 3] rfl (by decide) (by rw [ek_place, ← hu, ek_pf, if_pos c_13]) d_K_placeFor_68 (Nat.le_of_ble_eq_true rfl) (Nat.le_of_ble_eq_true rfl)
    · refine lv_iconst (v := 1) hx hb d_K_placeFor_16 (by decide) ?_
      refine lv_istore_n (lv' := [(3, .int 1), (0, .ref k0), (1, .int (nI N)), (2, .int (nI b))]) hx hb d_K_placeFor_17 rfl hl (by decide) rfl (fun ls hl => ?_)
      refine lv_iload_n hx hb d_K_placeFor_18 rfl (lv_at hl 3 rfl) ?_
      refine lv_istore (lv' := [(4, .int (nI b)), (3, .int 1), (0, .ref k0), (1, .int (nI N)), (2, .int (nI b))]) hx hb d_K_placeFor_19 hl (by decide) rfl (fun ls hl => ?_)
      have hbN : b + N ≤ nB := ek_bN (by omega) (by omega) c_13
      refine c_k_place_I (k0 := k0) (a1 := a1) (a2 := a2) (a3 := a3) (a4 := a4) (a5 := a5) (a6 := a6) (a7 := a7) (a8 := a8) (a9 := a9) (co := co) (nB := nB) (dn := dn) (wr := wr) (lf := lf) (E := E) (ch := ch) (t := t) (fi := fi) (ma := ma) (us := us) (sz := sz) (N := N) hB hE hok hN1 hN hB2 hK hG C0 b (ek_pf1 (ek_mark fi ma E us) (nI b + nI N) (N + 1) b 1) hbN (fun H locs ls hP hD hS hl => ?_) (N + 1) b 1 (by omega) (by omega) rfl _ _ hP hD hS ls (lv_sub hl [2, 3, 4, 1, 0] rfl)
      refine lv_iload_n hx hb d_K_placeFor_55 rfl (lv_at hl 3 rfl) ?_
      refine lv_if_eq (tgt := 61) hx hb d_K_placeFor_56 (by decide) (fun c_56 => ?_) (fun c_56 => ?_)
      · refine lv_iinc (v := nI (b + 1)) (lv' := [(2, .int (nI (b + 1))), (0, .ref k0), (1, .int (nI N)), (3, .int (ek_pf1 (ek_mark fi ma E us) (nI b + nI N) (N + 1) b 1))]) hx hb d_K_placeFor_61 hl (k := 2) rfl (nI_1 b) (by decide) rfl (fun ls hl => ?_)
        refine lv_goto (tgt := 6) hx hb d_K_placeFor_64 (by decide) ?_
        exact ih (b + 1) (by omega) (by omega) (by rw [← hu, ek_pf, if_neg c_13, if_pos c_56]) _ _ hP hD hS ls (lv_sub hl [1, 2, 0] rfl)
      · refine lv_iload_n hx hb d_K_placeFor_59 rfl (lv_at hl 2 rfl) ?_
        exact ey_iret (W1 := fun (u : ep_F) => [(k0, .inr (4, [.int co, .int (nI nB), .int dn, .int wr, .int lf, .int (nI E), .ref a1, .ref a2, .ref a3, .ref a4, .ref a5, .int ch, .ref a6, .ref a7, .ref a8, .int (nI t), .ref a9])), (a2, .inl (cI, 200, .inl fi)), (a3, .inl (cI, 200, .inl ma)), (a7, .inl (cZ, 128, .inl u))]) hx hb hr hlocks hP hD hS (ek_mark fi ma E us) [0, 1, 2, 3] rfl (by decide) (by rw [ek_place, ← hu, ek_pf, if_neg c_13, if_neg c_56]) d_K_placeFor_60 (Nat.le_of_ble_eq_true rfl) (Nat.le_of_ble_eq_true rfl)
set_option maxHeartbeats 4000000 in
set_option maxRecDepth 100000 in
theorem c_k_place (l : Launch) (dC : Nat → ClassId) (dI : Nat → Nat → Nat) (cI cB cJ cZ : ClassId) (k0 a1 a2 a3 a4 a5 a6 a7 a8 a9 : Nat) (co : Int32) (nB : Nat) (dn wr lf : Int32) (E : Nat) (ch : Int32) (t : Nat) (fi ma us : ep_F) (sz : ep_F) (N : Nat) (hB : nB ≤ 128) (hE : E ≤ 199) (hok : ek_ok nB fi ma sz E) (hN1 : 1 ≤ N) (hN : N ≤ 128) (hB2 : 2 ≤ nB) : ey_Mi l y_K_placeFor w_K_placeFor { frames := 1, cells := 0, slots := 0, locals := 22 } (dC, dI) vwCl (ey_kt cI cB cJ cZ) [.ref k0, .int (nI N)] [(k0, .inr (4, [.int co, .int (nI nB), .int dn, .int wr, .int lf, .int (nI E), .ref a1, .ref a2, .ref a3, .ref a4, .ref a5, .int ch, .ref a6, .ref a7, .ref a8, .int (nI t), .ref a9])), (a2, .inl (cI, 200, .inl fi)), (a3, .inl (cI, 200, .inl ma)), (a7, .inl (cZ, 128, .inl us))] (fun (r : Int32) (u : ep_F) => (r, u) = ek_place fi ma E nB N us) (fun (u : ep_F) => [(k0, .inr (4, [.int co, .int (nI nB), .int dn, .int wr, .int lf, .int (nI E), .ref a1, .ref a2, .ref a3, .ref a4, .ref a5, .int ch, .ref a6, .ref a7, .ref a8, .int (nI t), .ref a9])), (a2, .inl (cI, 200, .inl fi)), (a3, .inl (cI, 200, .inl ma)), (a7, .inl (cZ, 128, .inl u))]) 0 0 := by
  intro sz
  refine Met.ofW (cc := b_K_placeFor) (maxL := 5) (ret := (some .int)) (by decide) rfl ?_
  intro p e s m args below meth c s₁ B hml hv
  obtain ⟨rfl, hsz, hP, hK, hG, hD0⟩ := hv
  have hx := B.exec
  have hb := B.bytes
  have hr := B.returns
  have hts := fun (w : Cond) (h : w ∈ ew_T) => atoms_spec (ws := w_K_placeFor) B.pre w (List.mem_cons_of_mem _ h)
  have hown : s.vm.findClass R_K = some m.cls := findClass_of_methodNamed B.named
  have hlocks := B.notSynchronized
  subst hsz
  have hD := hD0.self (sz := s.heap.size)
  generalize hAe : va_A [(k0, .inr (4, [.int co, .int (nI nB), .int dn, .int wr, .int lf, .int (nI E), .ref a1, .ref a2, .ref a3, .ref a4, .ref a5, .int ch, .ref a6, .ref a7, .ref a8, .int (nI t), .ref a9])), (a2, .inl (cI, 200, .inl fi)), (a3, .inl (cI, 200, .inl ma)), (a7, .inl (cZ, 128, .inl us))] s.heap.size = A at hD ⊢
  have hA : ∀ q : Nat, s.heap.size ≤ q → A q := fun q h => by rw [← hAe]; exact Or.inr h
  have hS : va_S A s.heap s.heap [] := va_S.rf
  have hP : va_P (dC, dI) vwCl [(k0, .inr (4, [.int co, .int (nI nB), .int dn, .int wr, .int lf, .int (nI E), .ref a1, .ref a2, .ref a3, .ref a4, .ref a5, .int ch, .ref a6, .ref a7, .ref a8, .int (nI t), .ref a9])), (a2, .inl (cI, 200, .inl fi)), (a3, .inl (cI, 200, .inl ma)), (a7, .inl (cZ, 128, .inl us))] s.heap := hP
  have hl := lv_entry ([.ref k0, .int (nI N)]) (n := 5) (Nat.le_of_ble_eq_true rfl)
  rw [lg_entry_eq]
  generalize (lg_sl ([.ref k0, .int (nI N)]) ++ List.replicate (5 - (lg_sl ([.ref k0, .int (nI N)])).length) Slot.unset).toArray = ls at hl ⊢
  have hl : lv_has ls 5 [(0, .ref k0), (1, .int (nI N))] := hl
  have C0 : ey_Cx p s m [.ref k0, .int (nI N)].toArray meth c b_K_placeFor 5 R_K ew_T (some .int) A := ⟨hx, hb, hml, hown, hts, hr, hlocks, hA⟩
  refine lv_aload_n hx hb d_K_placeFor_0 rfl (lv_at hl 0 rfl) ?_
  refine ey_Vv (Wc := [(k0, .inr (4, [.int co, .int (nI nB), .int dn, .int wr, .int lf, .int (nI E), .ref a1, .ref a2, .ref a3, .ref a4, .ref a5, .int ch, .ref a6, .ref a7, .ref a8, .int (nI t), .ref a9])), (a2, .inl (cI, 200, .inl fi)), (a3, .inl (cI, 200, .inl ma)), (a7, .inl (cZ, 128, .inl us))]) (wr := []) (As := []) (rest := []) ⟨hx, hb, hml, hown, hts⟩ (c_k_mark l dC dI cI cB cJ cZ k0 a1 a2 a3 a4 a5 a6 a7 a8 a9 co nB dn wr lf E ch t fi ma us sz hB hE hok) (cwV 0 hts (ew_V ew_509 ew_511 ew_8 ew_18 g_K_mark) rfl rfl rfl (by decide +kernel) ⟨Nat.le_of_ble_eq_true rfl, Nat.le_of_ble_eq_true rfl⟩) hK hG hP hD hS hA [0, 1, 2, 3] [] rfl rfl (by decide) (by decide) (by decide) (ci := 4) (q0 := 0) rfl rfl rfl hl.1 rfl (Nat.le_of_ble_eq_true rfl) d_K_placeFor_1 ⟨Nat.le_of_ble_eq_true rfl, Nat.le_of_ble_eq_true rfl⟩ (fun u_2 H locs e_3 hP hD hS => ?_)
  have hP : va_P (dC, dI) vwCl [(k0, .inr (4, [.int co, .int (nI nB), .int dn, .int wr, .int lf, .int (nI E), .ref a1, .ref a2, .ref a3, .ref a4, .ref a5, .int ch, .ref a6, .ref a7, .ref a8, .int (nI t), .ref a9])), (a2, .inl (cI, 200, .inl fi)), (a3, .inl (cI, 200, .inl ma)), (a7, .inl (cZ, 128, .inl u_2))] H := hP
  have hD : va_D A [(k0, .inr (4, [.int co, .int (nI nB), .int dn, .int wr, .int lf, .int (nI E), .ref a1, .ref a2, .ref a3, .ref a4, .ref a5, .int ch, .ref a6, .ref a7, .ref a8, .int (nI t), .ref a9])), (a2, .inl (cI, 200, .inl fi)), (a3, .inl (cI, 200, .inl ma)), (a7, .inl (cZ, 128, .inl u_2))] := hD
  subst e_3
  refine lv_iconst (v := nI 2) hx hb d_K_placeFor_4 (by decide) ?_
  refine lv_istore_n (lv' := [(2, .int (nI 2)), (0, .ref k0), (1, .int (nI N))]) hx hb d_K_placeFor_5 rfl hl (by decide) rfl (fun ls hl => ?_)
  exact c_k_place_L (k0 := k0) (a1 := a1) (a2 := a2) (a3 := a3) (a4 := a4) (a5 := a5) (a6 := a6) (a7 := a7) (a8 := a8) (a9 := a9) (co := co) (nB := nB) (dn := dn) (wr := wr) (lf := lf) (E := E) (ch := ch) (t := t) (fi := fi) (ma := ma) (us := us) (sz := sz) (N := N) hB hE hok hN1 hN hB2 hK hG C0 nB 2 (by omega) (by omega) rfl _ _ hP hD hS ls (lv_sub hl [1, 2, 0] rfl)
