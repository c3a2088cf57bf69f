set_option maxHeartbeats 4000000 in
set_option maxRecDepth 100000 in
theorem c_k_mark_C {p : Program} {l : Launch} {e : Env} {s : State} {m : MethodId} {args : Array Value} {below : List Frame} {meth : Method} {c : Code} {dC : Nat → ClassId} {dI : Nat → Nat → Nat} {cI cB cJ cZ : ClassId} {A : Nat → Prop} {k0 a1 a2 a3 a4 a5 a6 a7 a8 a9 : Nat} {co : Int32} {nB : Nat} {dn wr lf : Int32} {E : Nat} {ch : Int32} {t : Nat} {fi ma us : ep_F} {sz : ep_F} (hB : nB ≤ 128) (hE : E ≤ 199) (hok : ek_ok nB fi ma sz E) (hK : va_K (dC, dI) vwCl (ey_kt cI cB cJ cZ) s) (hG : ex_G s) (C0 : ey_Cx p s m args meth c b_K_mark 3 R_K ew_T none A) (i a m9 : Nat) (hfa : fi (nI i).toNatClampNeg = nI a) (hma : ma (nI i).toNatClampNeg = nI m9) (tf9 : ep_F) (ham : i < E ∧ a + m9 ≤ nB) (kk : ∀ (H : Heap) (locs : List Loc) (ls : Array Slot), va_P (dC, dI) vwCl [(k0, .inr (4, [.int co, .int (nI nB), .int dn, .int wr, .int lf, .int (nI E), .ref a1, .ref a2, .ref a3, .ref a4, .ref a5, .int ch, .ref a6, .ref a7, .ref a8, .int (nI t), .ref a9])), (a2, .inl (cI, 200, .inl fi)), (a3, .inl (cI, 200, .inl ma)), (a7, .inl (cZ, 128, .inl tf9))] H → va_D A [(k0, .inr (4, [.int co, .int (nI nB), .int dn, .int wr, .int lf, .int (nI E), .ref a1, .ref a2, .ref a3, .ref a4, .ref a5, .int ch, .ref a6, .ref a7, .ref a8, .int (nI t), .ref a9])), (a2, .inl (cI, 200, .inl fi)), (a3, .inl (cI, 200, .inl ma)), (a7, .inl (cZ, 128, .inl tf9))] → va_S A s.heap H locs → lv_has ls 3 [(0, .ref k0), (1, .int (nI i))] → W p l e { frames := 0, cells := 0, slots := 0, locals := 0 } s m args below meth c H locs 0 0 (MQ below (va_Qv (fun (u : ep_F) => u = ek_mark fi ma E us) (fun u t8 => ey_Post (dC, dI) vwCl A ((fun (u : ep_F) => [(k0, .inr (4, [.int co, .int (nI nB), .int dn, .int wr, .int lf, .int (nI E), .ref a1, .ref a2, .ref a3, .ref a4, .ref a5, .int ch, .ref a6, .ref a7, .ref a8, .int (nI t), .ref a9])), (a2, .inl (cI, 200, .inl fi)), (a3, .inl (cI, 200, .inl ma)), (a7, .inl (cZ, 128, .inl u))]) u) t8) A) args s 0 0 A) (F0 m 78 ls [])) :
    ∀ (fuel : Nat) (j : Nat) (g : ep_F) (hj : j + fuel = a + 129) (hjm : j ≤ a + m9) (hu : ek_mk1 (nI a + nI m9) fuel j g = tf9), ∀ (H : Heap) (locs : List Loc), va_P (dC, dI) vwCl [(k0, .inr (4, [.int co, .int (nI nB), .int dn, .int wr, .int lf, .int (nI E), .ref a1, .ref a2, .ref a3, .ref a4, .ref a5, .int ch, .ref a6, .ref a7, .ref a8, .int (nI t), .ref a9])), (a2, .inl (cI, 200, .inl fi)), (a3, .inl (cI, 200, .inl ma)), (a7, .inl (cZ, 128, .inl g))] H → va_D A [(k0, .inr (4, [.int co, .int (nI nB), .int dn, .int wr, .int lf, .int (nI E), .ref a1, .ref a2, .ref a3, .ref a4, .ref a5, .int ch, .ref a6, .ref a7, .ref a8, .int (nI t), .ref a9])), (a2, .inl (cI, 200, .inl fi)), (a3, .inl (cI, 200, .inl ma)), (a7, .inl (cZ, 128, .inl g))] → va_S A s.heap H locs → ∀ (ls : Array Slot), lv_has ls 3 [(0, .ref k0), (1, .int (nI i)), (2, .int (nI j))] → W p l e { frames := 0, cells := 0, slots := 0, locals := 0 } s m args below meth c H locs 0 0 (MQ below (va_Qv (fun (u : ep_F) => u = ek_mark fi ma E us) (fun u t8 => ey_Post (dC, dI) vwCl A ((fun (u : ep_F) => [(k0, .inr (4, [.int co, .int (nI nB), .int dn, .int wr, .int lf, .int (nI E), .ref a1, .ref a2, .ref a3, .ref a4, .ref a5, .int ch, .ref a6, .ref a7, .ref a8, .int (nI t), .ref a9])), (a2, .inl (cI, 200, .inl fi)), (a3, .inl (cI, 200, .inl ma)), (a7, .inl (cZ, 128, .inl u))]) u) t8) A) args s 0 0 A) (F0 m 48 ls []) := by
  obtain ⟨hx, hb, hml, hown, hts, hr, hlocks, hA⟩ := id C0
  intro fuel
  induction fuel with
  | zero =>
    intro j g hj hjm hu H locs hP hD hS ls hl
    exact absurd hj (by omega)
  | succ fuel ih =>
    intro j g hj hjm hu H locs hP hD hS ls hl
    refine lv_iload_n hx hb d_K_mark_48 rfl (lv_at hl 2 rfl) ?_
    refine lv_aload_n hx hb d_K_mark_49 rfl (lv_at hl 0 rfl) ?_
    refine va_get (D := (dC, dI)) (ci := 4) (v := .ref a2) (C := R_K) (T := T_K) (N := 17) hx hb hts in_K hown hK hP 0 rfl rfl 7 (by decide) (hts _ ew_426) (fun _ h9 => h9) rfl d_K_mark_50 ?_
    refine lv_iload_n hx hb d_K_mark_53 rfl (lv_at hl 1 rfl) ?_
    refine va_iald hx hb hK hP 1 0 rfl rfl (vp_in_nI (by omega) (by decide)) d_K_mark_54 ?_
    refine lv_aload_n hx hb d_K_mark_55 rfl (lv_at hl 0 rfl) ?_
    refine va_get (D := (dC, dI)) (ci := 4) (v := .ref a3) (C := R_K) (T := T_K) (N := 17) hx hb hts in_K hown hK hP 0 rfl rfl 8 (by decide) (hts _ ew_427) (fun _ h9 => h9) rfl d_K_mark_56 ?_
    refine lv_iload_n hx hb d_K_mark_59 rfl (lv_at hl 1 rfl) ?_
    refine va_iald hx hb hK hP 2 0 rfl rfl (vp_in_nI (by omega) (by decide)) d_K_mark_60 ?_
    refine lv_iadd hx hb d_K_mark_61 ?_
    refine lv_icmp_ge (tgt := 78) hx hb d_K_mark_62 (by decide) (fun c_62 => ?_) (fun c_62 => ?_)
    · have et : g = tf9 := by rw [← hu, ek_mk1, if_pos (show nI a + nI m9 ≤ nI j by rw [← hfa, ← hma]; exact c_62)]
      subst et
      exact kk _ _ _ hP hD hS (lv_sub hl [0, 1] rfl)
    · refine lv_aload_n hx hb d_K_mark_65 rfl (lv_at hl 0 rfl) ?_
      refine va_get (D := (dC, dI)) (ci := 4) (v := .ref a7) (C := R_K) (T := T_K) (N := 17) hx hb hts in_K hown hK hP 0 rfl rfl 13 (by decide) (hts _ ew_432) (fun _ h9 => h9) rfl d_K_mark_66 ?_
      refine lv_iload_n hx hb d_K_mark_69 rfl (lv_at hl 2 rfl) ?_
      refine lv_iconst (v := 1) hx hb d_K_mark_70 (by decide) ?_
      refine va_zast hx hb hK hP hD hS 3 3 rfl rfl (vp_in_nI (by have h9 := ek_en hfa hma (by omega) (by omega) c_62; omega) (by decide)) d_K_mark_71 (fun H locs hP hD hS => ?_)
      have hP : va_P (dC, dI) vwCl [(k0, .inr (4, [.int co, .int (nI nB), .int dn, .int wr, .int lf, .int (nI E), .ref a1, .ref a2, .ref a3, .ref a4, .ref a5, .int ch, .ref a6, .ref a7, .ref a8, .int (nI t), .ref a9])), (a2, .inl (cI, 200, .inl fi)), (a3, .inl (cI, 200, .inl ma)), (a7, .inl (cZ, 128, .inl (upd g (nI j).toNatClampNeg (vp_nar .boolean 1))))] H := hP
      have hD : va_D A [(k0, .inr (4, [.int co, .int (nI nB), .int dn, .int wr, .int lf, .int (nI E), .ref a1, .ref a2, .ref a3, .ref a4, .ref a5, .int ch, .ref a6, .ref a7, .ref a8, .int (nI t), .ref a9])), (a2, .inl (cI, 200, .inl fi)), (a3, .inl (cI, 200, .inl ma)), (a7, .inl (cZ, 128, .inl (upd g (nI j).toNatClampNeg (vp_nar .boolean 1))))] := hD
      refine lv_iinc (v := nI (j + 1)) (lv' := [(2, .int (nI (j + 1))), (0, .ref k0), (1, .int (nI i))]) hx hb d_K_mark_72 hl (k := 2) rfl (nI_1 j) (by decide) rfl (fun ls hl => ?_)
      refine lv_goto (tgt := 48) hx hb d_K_mark_75 (by decide) ?_
      exact ih (j + 1) (upd g (nI j).toNatClampNeg (vp_nar .boolean 1)) (by omega) (ek_en hfa hma (by omega) (by omega) c_62) (by rw [← hu, ek_mk1, if_neg (show ¬ nI a + nI m9 ≤ nI j by rw [← hfa, ← hma]; exact c_62)]) _ _ hP hD hS ls (lv_sub hl [1, 2, 0] rfl)
set_option maxHeartbeats 4000000 in
set_option maxRecDepth 100000 in
theorem c_k_mark_B {p : Program} {l : Launch} {e : Env} {s : State} {m : MethodId} {args : Array Value} {below : List Frame} {meth : Method} {c : Code} {dC : Nat → ClassId} {dI : Nat → Nat → Nat} {cI cB cJ cZ : ClassId} {A : Nat → Prop} {k0 a1 a2 a3 a4 a5 a6 a7 a8 a9 : Nat} {co : Int32} {nB : Nat} {dn wr lf : Int32} {E : Nat} {ch : Int32} {t : Nat} {fi ma us : ep_F} {sz : ep_F} (hB : nB ≤ 128) (hE : E ≤ 199) (hok : ek_ok nB fi ma sz E) (hK : va_K (dC, dI) vwCl (ey_kt cI cB cJ cZ) s) (hG : ex_G s) (C0 : ey_Cx p s m args meth c b_K_mark 3 R_K ew_T none A)  :
    ∀ (fuel : Nat) (i : Nat) (g : ep_F) (hi : i + fuel = E + 1) (hin : i ≤ E) (hu : ek_mk2 fi ma E fuel i g = ek_mk2 fi ma E (E + 1) 0 (ek_mk0 129 0 us)), ∀ (H : Heap) (locs : List Loc), va_P (dC, dI) vwCl [(k0, .inr (4, [.int co, .int (nI nB), .int dn, .int wr, .int lf, .int (nI E), .ref a1, .ref a2, .ref a3, .ref a4, .ref a5, .int ch, .ref a6, .ref a7, .ref a8, .int (nI t), .ref a9])), (a2, .inl (cI, 200, .inl fi)), (a3, .inl (cI, 200, .inl ma)), (a7, .inl (cZ, 128, .inl g))] H → va_D A [(k0, .inr (4, [.int co, .int (nI nB), .int dn, .int wr, .int lf, .int (nI E), .ref a1, .ref a2, .ref a3, .ref a4, .ref a5, .int ch, .ref a6, .ref a7, .ref a8, .int (nI t), .ref a9])), (a2, .inl (cI, 200, .inl fi)), (a3, .inl (cI, 200, .inl ma)), (a7, .inl (cZ, 128, .inl g))] → va_S A s.heap H locs → ∀ (ls : Array Slot), lv_has ls 3 [(0, .ref k0), (1, .int (nI i))] → W p l e { frames := 0, cells := 0, slots := 0, locals := 0 } s m args below meth c H locs 0 0 (MQ below (va_Qv (fun (u : ep_F) => u = ek_mark fi ma E us) (fun u t8 => ey_Post (dC, dI) vwCl A ((fun (u : ep_F) => [(k0, .inr (4, [.int co, .int (nI nB), .int dn, .int wr, .int lf, .int (nI E), .ref a1, .ref a2, .ref a3, .ref a4, .ref a5, .int ch, .ref a6, .ref a7, .ref a8, .int (nI t), .ref a9])), (a2, .inl (cI, 200, .inl fi)), (a3, .inl (cI, 200, .inl ma)), (a7, .inl (cZ, 128, .inl u))]) u) t8) A) args s 0 0 A) (F0 m 33 ls []) := by
  obtain ⟨hx, hb, hml, hown, hts, hr, hlocks, hA⟩ := id C0
  intro fuel
  induction fuel with
  | zero =>
    intro i g hi hin hu H locs hP hD hS ls hl
    exact absurd hi (by omega)
  | succ fuel ih =>
    intro i g hi hin hu H locs hP hD hS ls hl
    refine lv_iload_n hx hb d_K_mark_33 rfl (lv_at hl 1 rfl) ?_
    refine lv_aload_n hx hb d_K_mark_34 rfl (lv_at hl 0 rfl) ?_
    refine va_get (D := (dC, dI)) (ci := 4) (v := .int (nI E)) (C := R_K) (T := T_K) (N := 17) hx hb hts in_K hown hK hP 0 rfl rfl 5 (by decide) (hts _ ew_424) (fun _ h9 => h9) rfl d_K_mark_35 ?_
    refine lv_icmp_ge (tgt := 84) hx hb d_K_mark_38 (by decide) (fun c_38 => ?_) (fun c_38 => ?_)
    · exact ey_vret (W1 := fun (u : ep_F) => [(k0, .inr (4, [.int co, .int (nI nB), .int dn, .int wr, .int lf, .int (nI E), .ref a1, .ref a2, .ref a3, .ref a4, .ref a5, .int ch, .ref a6, .ref a7, .ref a8, .int (nI t), .ref a9])), (a2, .inl (cI, 200, .inl fi)), (a3, .inl (cI, 200, .inl ma)), (a7, .inl (cZ, 128, .inl u))]) hx hb hr hlocks hP hD hS g [0, 1, 2, 3] rfl (by decide) (by rw [ek_mark, ← hu, ek_mk2, if_pos c_38]) d_K_mark_84 (Nat.le_of_ble_eq_true rfl) (Nat.le_of_ble_eq_true rfl)
    · have hlt : i < E := ek_ltE (by omega) (by omega) c_38
      obtain ⟨a, m9, s9, hfa0, hma0, -, ha2, hm1, ham, -⟩ := hok i hlt
      have hfa : fi (nI i).toNatClampNeg = nI a := by rw [nI_clamp (by omega)]; exact hfa0
      have hma : ma (nI i).toNatClampNeg = nI m9 := by rw [nI_clamp (by omega)]; exact hma0
      refine lv_aload_n hx hb d_K_mark_41 rfl (lv_at hl 0 rfl) ?_
      refine va_get (D := (dC, dI)) (ci := 4) (v := .ref a2) (C := R_K) (T := T_K) (N := 17) hx hb hts in_K hown hK hP 0 rfl rfl 7 (by decide) (hts _ ew_426) (fun _ h9 => h9) rfl d_K_mark_42 ?_
      refine lv_iload_n hx hb d_K_mark_45 rfl (lv_at hl 1 rfl) ?_
      refine va_iald hx hb hK hP 1 0 rfl rfl (vp_in_nI (by omega) (by decide)) d_K_mark_46 ?_
      refine lv_topi (fun b9 eb9 => ?_)
      rw [hfa] at eb9
      subst eb9
      refine lv_istore_n (lv' := [(2, .int (nI a)), (0, .ref k0), (1, .int (nI i))]) hx hb d_K_mark_47 rfl hl (by decide) rfl (fun ls hl => ?_)
      refine c_k_mark_C (k0 := k0) (a1 := a1) (a2 := a2) (a3 := a3) (a4 := a4) (a5 := a5) (a6 := a6) (a7 := a7) (a8 := a8) (a9 := a9) (co := co) (nB := nB) (dn := dn) (wr := wr) (lf := lf) (E := E) (ch := ch) (t := t) (fi := fi) (ma := ma) (us := us) (sz := sz) hB hE hok hK hG C0 i a m9 hfa hma (ek_mk1 (nI a + nI m9) 129 a g) ⟨hlt, ham⟩ (fun H locs ls hP hD hS hl => ?_) 129 a g (by omega) (by omega) rfl _ _ hP hD hS ls (lv_sub hl [1, 2, 0] rfl)
      refine lv_iinc (v := nI (i + 1)) (lv' := [(1, .int (nI (i + 1))), (0, .ref k0)]) hx hb d_K_mark_78 hl (k := 1) rfl (nI_1 i) (by decide) rfl (fun ls hl => ?_)
      refine lv_goto (tgt := 33) hx hb d_K_mark_81 (by decide) ?_
      exact ih (i + 1) (ek_mk1 (nI a + nI m9) 129 a g) (by omega) (by omega) (by rw [← hu, ek_mk2, if_neg c_38, hfa, hma, nI_clamp (show a < 2 ^ 31 by omega)]) _ _ hP hD hS ls (lv_sub hl [1, 0] rfl)
set_option maxHeartbeats 4000000 in
set_option maxRecDepth 100000 in
theorem c_k_mark_A {p : Program} {l : Launch} {e : Env} {s : State} {m : MethodId} {args : Array Value} {below : List Frame} {meth : Method} {c : Code} {dC : Nat → ClassId} {dI : Nat → Nat → Nat} {cI cB cJ cZ : ClassId} {A : Nat → Prop} {k0 a1 a2 a3 a4 a5 a6 a7 a8 a9 : Nat} {co : Int32} {nB : Nat} {dn wr lf : Int32} {E : Nat} {ch : Int32} {t : Nat} {fi ma us : ep_F} {sz : ep_F} (hB : nB ≤ 128) (hE : E ≤ 199) (hok : ek_ok nB fi ma sz E) (hK : va_K (dC, dI) vwCl (ey_kt cI cB cJ cZ) s) (hG : ex_G s) (C0 : ey_Cx p s m args meth c b_K_mark 3 R_K ew_T none A)  :
    ∀ (fuel : Nat) (i : Nat) (g : ep_F) (hi : i + fuel = 129) (hin : i ≤ 128) (hu : ek_mk0 fuel i g = ek_mk0 129 0 us), ∀ (H : Heap) (locs : List Loc), va_P (dC, dI) vwCl [(k0, .inr (4, [.int co, .int (nI nB), .int dn, .int wr, .int lf, .int (nI E), .ref a1, .ref a2, .ref a3, .ref a4, .ref a5, .int ch, .ref a6, .ref a7, .ref a8, .int (nI t), .ref a9])), (a2, .inl (cI, 200, .inl fi)), (a3, .inl (cI, 200, .inl ma)), (a7, .inl (cZ, 128, .inl g))] H → va_D A [(k0, .inr (4, [.int co, .int (nI nB), .int dn, .int wr, .int lf, .int (nI E), .ref a1, .ref a2, .ref a3, .ref a4, .ref a5, .int ch, .ref a6, .ref a7, .ref a8, .int (nI t), .ref a9])), (a2, .inl (cI, 200, .inl fi)), (a3, .inl (cI, 200, .inl ma)), (a7, .inl (cZ, 128, .inl g))] → va_S A s.heap H locs → ∀ (ls : Array Slot), lv_has ls 3 [(0, .ref k0), (1, .int (nI i))] → W p l e { frames := 0, cells := 0, slots := 0, locals := 0 } s m args below meth c H locs 0 0 (MQ below (va_Qv (fun (u : ep_F) => u = ek_mark fi ma E us) (fun u t8 => ey_Post (dC, dI) vwCl A ((fun (u : ep_F) => [(k0, .inr (4, [.int co, .int (nI nB), .int dn, .int wr, .int lf, .int (nI E), .ref a1, .ref a2, .ref a3, .ref a4, .ref a5, .int ch, .ref a6, .ref a7, .ref a8, .int (nI t), .ref a9])), (a2, .inl (cI, 200, .inl fi)), (a3, .inl (cI, 200, .inl ma)), (a7, .inl (cZ, 128, .inl u))]) u) t8) A) args s 0 0 A) (F0 m 2 ls []) := by
  obtain ⟨hx, hb, hml, hown, hts, hr, hlocks, hA⟩ := id C0
  intro fuel
  induction fuel with
  | zero =>
    intro i g hi hin hu H locs hP hD hS ls hl
    exact absurd hi (by omega)
  | succ fuel ih =>
    intro i g hi hin hu H locs hP hD hS ls hl
    refine lv_iload_n hx hb d_K_mark_2 rfl (lv_at hl 1 rfl) ?_
    refine lv_sipush (v := 128) hx hb d_K_mark_3 (by decide) ?_
    refine lv_icmp_ge (tgt := 31) hx hb d_K_mark_6 (by decide) (fun c_6 => ?_) (fun c_6 => ?_)
    · refine lv_iconst (v := nI 0) hx hb d_K_mark_31 (by decide) ?_
      refine lv_istore_n (lv' := [(1, .int (nI 0)), (0, .ref k0)]) hx hb d_K_mark_32 rfl hl (by decide) rfl (fun ls hl => ?_)
      have eg : g = ek_mk0 129 0 us := by rw [← hu, ek_mk0, if_pos c_6]
      subst eg
      exact c_k_mark_B (k0 := k0) (a1 := a1) (a2 := a2) (a3 := a3) (a4 := a4) (a5 := a5) (a6 := a6) (a7 := a7) (a8 := a8) (a9 := a9) (co := co) (nB := nB) (dn := dn) (wr := wr) (lf := lf) (E := E) (ch := ch) (t := t) (fi := fi) (ma := ma) (us := us) (sz := sz) hB hE hok hK hG C0 (E + 1) 0 (ek_mk0 129 0 us) (by omega) (by omega) rfl _ _ hP hD hS ls (lv_sub hl [1, 0] rfl)
    · have hlt : i < 128 := ey_lt128 (by omega) c_6
      refine lv_aload_n hx hb d_K_mark_9 rfl (lv_at hl 0 rfl) ?_
      refine va_get (D := (dC, dI)) (ci := 4) (v := .ref a7) (C := R_K) (T := T_K) (N := 17) hx hb hts in_K hown hK hP 0 rfl rfl 13 (by decide) (hts _ ew_432) (fun _ h9 => h9) rfl d_K_mark_10 ?_
      refine lv_iload_n hx hb d_K_mark_13 rfl (lv_at hl 1 rfl) ?_
      refine lv_iload_n hx hb d_K_mark_14 rfl (lv_at hl 1 rfl) ?_
      refine lv_iconst (v := 2) hx hb d_K_mark_15 (by decide) ?_
      refine lv_icmp_ge (tgt := 23) hx hb d_K_mark_16 (by decide) (fun c_16 => ?_) (fun c_16 => ?_)
      · refine lv_iconst (v := 0) hx hb d_K_mark_23 (by decide) ?_
        refine va_zast hx hb hK hP hD hS 3 3 rfl rfl (vp_in_nI hlt (by decide)) d_K_mark_24 (fun H locs hP hD hS => ?_)
        have hP : va_P (dC, dI) vwCl [(k0, .inr (4, [.int co, .int (nI nB), .int dn, .int wr, .int lf, .int (nI E), .ref a1, .ref a2, .ref a3, .ref a4, .ref a5, .int ch, .ref a6, .ref a7, .ref a8, .int (nI t), .ref a9])), (a2, .inl (cI, 200, .inl fi)), (a3, .inl (cI, 200, .inl ma)), (a7, .inl (cZ, 128, .inl (upd g (nI i).toNatClampNeg (vp_nar .boolean 0))))] H := hP
        have hD : va_D A [(k0, .inr (4, [.int co, .int (nI nB), .int dn, .int wr, .int lf, .int (nI E), .ref a1, .ref a2, .ref a3, .ref a4, .ref a5, .int ch, .ref a6, .ref a7, .ref a8, .int (nI t), .ref a9])), (a2, .inl (cI, 200, .inl fi)), (a3, .inl (cI, 200, .inl ma)), (a7, .inl (cZ, 128, .inl (upd g (nI i).toNatClampNeg (vp_nar .boolean 0))))] := hD
        refine lv_iinc (v := nI (i + 1)) (lv' := [(1, .int (nI (i + 1))), (0, .ref k0)]) hx hb d_K_mark_25 hl (k := 1) rfl (nI_1 i) (by decide) rfl (fun ls hl => ?_)
        refine lv_goto (tgt := 2) hx hb d_K_mark_28 (by decide) ?_
        exact ih (i + 1) (upd g (nI i).toNatClampNeg (vp_nar .boolean 0)) (by omega) (by omega) (by rw [← hu, ek_mk0, if_neg c_6, if_pos c_16]) _ _ hP hD hS ls (lv_sub hl [1, 0] rfl)
      · refine lv_iconst (v := 1) hx hb d_K_mark_19 (by decide) ?_
        refine lv_goto (tgt := 24) hx hb d_K_mark_20 (by decide) ?_
        refine va_zast hx hb hK hP hD hS 3 3 rfl rfl (vp_in_nI hlt (by decide)) d_K_mark_24 (fun H locs hP hD hS => ?_)
        have hP : va_P (dC, dI) vwCl [(k0, .inr (4, [.int co, .int (nI nB), .int dn, .int wr, .int lf, .int (nI E), .ref a1, .ref a2, .ref a3, .ref a4, .ref a5, .int ch, .ref a6, .ref a7, .ref a8, .int (nI t), .ref a9])), (a2, .inl (cI, 200, .inl fi)), (a3, .inl (cI, 200, .inl ma)), (a7, .inl (cZ, 128, .inl (upd g (nI i).toNatClampNeg (vp_nar .boolean 1))))] H := hP
        have hD : va_D A [(k0, .inr (4, [.int co, .int (nI nB), .int dn, .int wr, .int lf, .int (nI E), .ref a1, .ref a2, .ref a3, .ref a4, .ref a5, .int ch, .ref a6, .ref a7, .ref a8, .int (nI t), .ref a9])), (a2, .inl (cI, 200, .inl fi)), (a3, .inl (cI, 200, .inl ma)), (a7, .inl (cZ, 128, .inl (upd g (nI i).toNatClampNeg (vp_nar .boolean 1))))] := hD
        refine lv_iinc (v := nI (i + 1)) (lv' := [(1, .int (nI (i + 1))), (0, .ref k0)]) hx hb d_K_mark_25 hl (k := 1) rfl (nI_1 i) (by decide) rfl (fun ls hl => ?_)
        refine lv_goto (tgt := 2) hx hb d_K_mark_28 (by decide) ?_
        exact ih (i + 1) (upd g (nI i).toNatClampNeg (vp_nar .boolean 1)) (by omega) (by omega) (by rw [← hu, ek_mk0, if_neg c_6, if_neg c_16]) _ _ hP hD hS ls (lv_sub hl [1, 0] rfl)
set_option maxHeartbeats 4000000 in
set_option maxRecDepth 100000 in
theorem c_k_mark (l : Launch) (dC : Nat → ClassId) (dI : Nat → Nat → Nat) (cI cB cJ cZ : ClassId) (k0 a1 a2 a3 a4 a5 a6 a7 a8 a9 : Nat) (co : Int32) (nB : Nat) (dn wr lf : Int32) (E : Nat) (ch : Int32) (t : Nat) (fi ma us : ep_F) (sz : ep_F) (hB : nB ≤ 128) (hE : E ≤ 199) (hok : ek_ok nB fi ma sz E) : ey_Mv l y_K_mark w_K_mark { frames := 0, cells := 0, slots := 0, locals := 0 } (dC, dI) vwCl (ey_kt cI cB cJ cZ) [.ref k0] [(k0, .inr (4, [.int co, .int (nI nB), .int dn, .int wr, .int lf, .int (nI E), .ref a1, .ref a2, .ref a3, .ref a4, .ref a5, .int ch, .ref a6, .ref a7, .ref a8, .int (nI t), .ref a9])), (a2, .inl (cI, 200, .inl fi)), (a3, .inl (cI, 200, .inl ma)), (a7, .inl (cZ, 128, .inl us))] (fun (u : ep_F) => u = ek_mark fi ma E us) (fun (u : ep_F) => [(k0, .inr (4, [.int co, .int (nI nB), .int dn, .int wr, .int lf, .int (nI E), .ref a1, .ref a2, .ref a3, .ref a4, .ref a5, .int ch, .ref a6, .ref a7, .ref a8, .int (nI t), .ref a9])), (a2, .inl (cI, 200, .inl fi)), (a3, .inl (cI, 200, .inl ma)), (a7, .inl (cZ, 128, .inl u))]) 0 0 := by
  intro sz
  refine Met.ofW (cc := b_K_mark) (maxL := 3) (ret := none) (by decide) rfl ?_
  intro p e s m args below meth c s₁ B hml hv
  obtain ⟨rfl, hsz, hP, hK, hG, hD0⟩ := hv
  have hx := B.exec
  have hb := B.bytes
  have hr := B.returns
  have hts := fun (w : Cond) (h : w ∈ ew_T) => atoms_spec (ws := w_K_mark) B.pre w (List.mem_cons_of_mem _ h)
  have hown : s.vm.findClass R_K = some m.cls := findClass_of_methodNamed B.named
  have hlocks := B.notSynchronized
  subst hsz
  have hD := hD0.self (sz := s.heap.size)
  generalize hAe : va_A [(k0, .inr (4, [.int co, .int (nI nB), .int dn, .int wr, .int lf, .int (nI E), .ref a1, .ref a2, .ref a3, .ref a4, .ref a5, .int ch, .ref a6, .ref a7, .ref a8, .int (nI t), .ref a9])), (a2, .inl (cI, 200, .inl fi)), (a3, .inl (cI, 200, .inl ma)), (a7, .inl (cZ, 128, .inl us))] s.heap.size = A at hD ⊢
  have hA : ∀ q : Nat, s.heap.size ≤ q → A q := fun q h => by rw [← hAe]; exact Or.inr h
  have hS : va_S A s.heap s.heap [] := va_S.rf
  have hP : va_P (dC, dI) vwCl [(k0, .inr (4, [.int co, .int (nI nB), .int dn, .int wr, .int lf, .int (nI E), .ref a1, .ref a2, .ref a3, .ref a4, .ref a5, .int ch, .ref a6, .ref a7, .ref a8, .int (nI t), .ref a9])), (a2, .inl (cI, 200, .inl fi)), (a3, .inl (cI, 200, .inl ma)), (a7, .inl (cZ, 128, .inl us))] s.heap := hP
  have hl := lv_entry ([.ref k0]) (n := 3) (Nat.le_of_ble_eq_true rfl)
  rw [lg_entry_eq]
  generalize (lg_sl ([.ref k0]) ++ List.replicate (3 - (lg_sl ([.ref k0])).length) Slot.unset).toArray = ls at hl ⊢
  have hl : lv_has ls 3 [(0, .ref k0)] := hl
  have C0 : ey_Cx p s m [.ref k0].toArray meth c b_K_mark 3 R_K ew_T none A := ⟨hx, hb, hml, hown, hts, hr, hlocks, hA⟩
  refine lv_iconst (v := nI 0) hx hb d_K_mark_0 (by decide) ?_
  refine lv_istore_n (lv' := [(1, .int (nI 0)), (0, .ref k0)]) hx hb d_K_mark_1 rfl hl (by decide) rfl (fun ls hl => ?_)
  exact c_k_mark_A (k0 := k0) (a1 := a1) (a2 := a2) (a3 := a3) (a4 := a4) (a5 := a5) (a6 := a6) (a7 := a7) (a8 := a8) (a9 := a9) (co := co) (nB := nB) (dn := dn) (wr := wr) (lf := lf) (E := E) (ch := ch) (t := t) (fi := fi) (ma := ma) (us := us) (sz := sz) hB hE hok hK hG C0 129 0 us rfl (by omega) rfl _ _ hP hD hS ls (lv_sub hl [1, 0] rfl)
