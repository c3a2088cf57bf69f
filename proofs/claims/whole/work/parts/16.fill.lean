set_option maxHeartbeats 4000000 in
set_option maxRecDepth 100000 in
theorem c_ar_fill_L {p : Program} {l : Launch} {e : Env} {s : State} {m : MethodId} {args : Array Value} {below : List Frame} {meth : Method} {c : Code} {dC : Nat → ClassId} {dI : Nat → Nat → Nat} {cI cB cJ cZ : ClassId} {A : Nat → Prop} {h0 n : Nat} {f : ep_F} {x : Int32} (hn : n < 2 ^ 31) (hK : va_K (dC, dI) vwCl (ey_kt cI cB cJ cZ) s) (hG : ex_G s) (C0 : ey_Cx p s m args meth c b_A_fill 4 R_A ew_T none A)  :
    ∀ (fuel : Nat) (i : Nat) (g : ep_F) (hi : i + fuel = n + 1) (hin : i ≤ n) (hg : ∀ j, g j = if j < i then x else f j), ∀ (H : Heap) (locs : List Loc), va_P (dC, dI) vwCl [(h0, .inl (cI, n, .inl g))] H → va_D A [(h0, .inl (cI, n, .inl g))] → va_S A s.heap H locs → ∀ (ls : Array Slot), lv_has ls 4 [(0, .ref h0), (1, .int x), (2, .int (nI i)), (3, .int (nI n))] → W p l e { frames := 0, cells := 0, slots := 0, locals := 0 } s m args below meth c H locs 0 0 (MQ below (va_Qv (fun (u : ep_F) => u = ep_fill n x f) (fun u t8 => ey_Post (dC, dI) vwCl A ((fun (u : ep_F) => [(h0, .inl (cI, n, .inl u))]) u) t8) A) args s 0 0 A) (F0 m 5 ls []) := by
  obtain ⟨hx, hb, hml, hown, hts, hr, hlocks, hA⟩ := id C0
  intro fuel
  induction fuel with
  | zero =>
    intro i g hi hin hg H locs hP hD hS ls hl
    exact absurd hi (by omega)
  | succ fuel ih =>
    intro i g hi hin hg H locs hP hD hS ls hl
    refine lv_iload_n hx hb d_A_fill_5 rfl (lv_at hl 2 rfl) ?_
    refine lv_iload_n hx hb d_A_fill_6 rfl (lv_at hl 3 rfl) ?_
    refine lv_icmp_ge (tgt := 20) hx hb d_A_fill_7 (by decide) (fun c_7 => ?_) (fun c_7 => ?_)
    · exact ey_vret (W1 := fun (u : ep_F) => [(h0, .inl (cI, n, .inl u))]) hx hb hr hlocks hP hD hS g [0] rfl (by decide) (ey_fill_end hg (by rw [nI_leI hn (by omega)] at c_7; omega)) d_A_fill_20 (Nat.le_of_ble_eq_true rfl) (Nat.le_of_ble_eq_true rfl)
    · refine lv_aload_n hx hb d_A_fill_10 rfl (lv_at hl 0 rfl) ?_
      refine lv_iload_n hx hb d_A_fill_11 rfl (lv_at hl 2 rfl) ?_
      refine lv_iload_n hx hb d_A_fill_12 rfl (lv_at hl 1 rfl) ?_
      refine va_iast hx hb hK hP hD hS 0 0 rfl rfl (vp_in_nI (by rw [nI_leI hn (by omega)] at c_7; omega) hn) d_A_fill_13 (fun H locs hP hD hS => ?_)
      have hP : va_P (dC, dI) vwCl [(h0, .inl (cI, n, .inl (upd g (nI i).toNatClampNeg x)))] H := hP
      have hD : va_D A [(h0, .inl (cI, n, .inl (upd g (nI i).toNatClampNeg x)))] := hD
      refine lv_iinc (v := nI (i + 1)) (lv' := [(2, .int (nI (i + 1))), (0, .ref h0), (1, .int x), (3, .int (nI n))]) hx hb d_A_fill_14 hl (k := 2) rfl (nI_1 i) (by decide) rfl (fun ls hl => ?_)
      refine lv_goto (tgt := 5) hx hb d_A_fill_17 (by decide) ?_
      have hlt : i < n := by
        rw [nI_leI hn (by omega)] at c_7
        omega
      exact ih (i + 1) (upd g (nI i).toNatClampNeg x) (by omega) (by omega) (ey_fill_step hg (by rw [nI_clamp (by omega)])) _ _ hP hD hS ls (lv_sub hl [1, 2, 0, 3] rfl)
set_option maxHeartbeats 4000000 in
set_option maxRecDepth 100000 in
theorem c_ar_fill (l : Launch) (dC : Nat → ClassId) (dI : Nat → Nat → Nat) (cI cB cJ cZ : ClassId) (h0 n : Nat) (f : ep_F) (x : Int32) (hn : n < 2 ^ 31) : ey_Mv l y_A_fill w_A_fill { frames := 0, cells := 0, slots := 0, locals := 0 } (dC, dI) vwCl (ey_kt cI cB cJ cZ) [.ref h0, .int x] [(h0, .inl (cI, n, .inl f))] (fun (u : ep_F) => u = ep_fill n x f) (fun (u : ep_F) => [(h0, .inl (cI, n, .inl u))]) 0 0 := by
  intro sz
  refine va_MetF (cc := b_A_fill) (maxL := 4) (ret := none) (by decide +kernel) rfl ?_
  intro p e s m args below meth c s₁ B hml hv
  obtain ⟨rfl, hsz, hP, hK, hG, hD0⟩ := hv
  have hx := B.exec
  have hb := B.bytes
  have hr := B.returns
  have hts := fun (w : Cond) (h : w ∈ ew_T) => atoms_spec (ws := w_A_fill) B.pre w (List.mem_cons_of_mem _ h)
  have hown : s.vm.findClass R_A = some m.cls := findClass_of_methodNamed B.named
  have hlocks := B.notSynchronized
  subst hsz
  have hD := hD0.self (sz := s.heap.size)
  generalize hAe : va_A [(h0, .inl (cI, n, .inl f))] s.heap.size = A at hD ⊢
  have hA : ∀ q : Nat, s.heap.size ≤ q → A q := fun q h => by rw [← hAe]; exact Or.inr h
  have hS : va_S A s.heap s.heap [] := va_S.rf
  have hP : va_P (dC, dI) vwCl [(h0, .inl (cI, n, .inl f))] s.heap := hP
  have hl := lv_entry ([.ref h0, .int x]) (n := 4) (Nat.le_of_ble_eq_true rfl)
  rw [lg_entry_eq]
  generalize (lg_sl ([.ref h0, .int x]) ++ List.replicate (4 - (lg_sl ([.ref h0, .int x])).length) Slot.unset).toArray = ls at hl ⊢
  have hl : lv_has ls 4 [(0, .ref h0), (1, .int x)] := hl
  have C0 : ey_Cx p s m [.ref h0, .int x].toArray meth c b_A_fill 4 R_A ew_T none A := ⟨hx, hb, hml, hown, hts, hr, hlocks, hA⟩
  refine lv_iconst (v := nI 0) hx hb d_A_fill_0 (by decide) ?_
  refine lv_istore_n (lv' := [(2, .int (nI 0)), (0, .ref h0), (1, .int x)]) hx hb d_A_fill_1 rfl hl (by decide) rfl (fun ls hl => ?_)
  refine lv_aload_n hx hb d_A_fill_2 rfl (lv_at hl 1 rfl) ?_
  refine va_alen hx hb hK hP 0 0 rfl rfl (v := nI n) rfl d_A_fill_3 ?_
  refine lv_istore_n (lv' := [(3, .int (nI n)), (2, .int (nI 0)), (0, .ref h0), (1, .int x)]) hx hb d_A_fill_4 rfl hl (by decide) rfl (fun ls hl => ?_)
  exact c_ar_fill_L (h0 := h0) (n := n) (f := f) (x := x) hn hK hG C0 (n + 1) 0 f (by omega) (by omega) (fun j => by simp) _ _ hP hD hS ls (lv_sub hl [2, 3, 1, 0] rfl)
