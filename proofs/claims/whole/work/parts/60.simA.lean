/-! change: the new rows, then both sides -/
section ESD
variable {nB K t : Nat} {pf tf wf pg dk wk nk tk : ep_F} {dn wr pw ln dn2 wr2 lf ch : Int32} {a : ep_M} {q : ek_H}
theorem es_keepR {H : ek_H} {fa fs : Nat → Nat} {g : Nat × (Nat → Nat)} (hR : es_Rw nB q fa fs) (h4 : es_K4 H q.1 q.2.1 q.2.2.1 q.2.2.2.1 g) (hg1 : ∀ e, e < g.1 → g.2 e < q.2.2.2.2) (hg2 : ∀ e d, e < d → d < g.1 → g.2 e < g.2 d) : es_Rw nB H (fun e => fa (g.2 e)) (fun e => fs (g.2 e)) := by
  obtain ⟨k1, k2⟩ := h4
  refine ⟨fun e he => ?_, fun e he => ?_, fun e d he hd hne => ?_⟩
  · rw [k1] at he
    obtain ⟨a1, a2, a3, a4⟩ := k2 e he
    obtain ⟨b1, b2, b3, b4⟩ := hR.1 (g.2 e) (hg1 e he)
    exact ⟨a2.trans b1, a3.trans b2, a4.trans b3, b4⟩
  · rw [k1] at he
    exact hR.2.1 (g.2 e) (hg1 e he)
  · rw [k1] at he hd
    refine hR.2.2 (g.2 e) (g.2 d) (hg1 e he) (hg1 d hd) ?_
    rcases Nat.lt_or_gt_of_ne hne with u | u
    · have := hg2 e d u hd
      omega
    · have := hg2 d e u he
      omega
theorem es_newR {H : ek_H} {fa fs : Nat → Nat} {b N : Nat} {lab : Int32} (hR : es_Rw nB H fa fs) (hc : H.2.2.2.2 ≤ 200) (ht1 : 1 ≤ t) (hN : N = (t + 4095) / 4096) (hb : 2 ≤ b) (hbN : b + N ≤ nB) (hfree : ∀ e, e < H.2.2.2.2 → fa e + (fs e + 4095) / 4096 ≤ b ∨ b + N ≤ fa e) :
    es_Rw nB (ek_new H lab (nI b) N t) (fun e => if e = H.2.2.2.2 then b else fa e) (fun e => if e = H.2.2.2.2 then t else fs e) := by
  have ecl : (nI H.2.2.2.2).toNatClampNeg = H.2.2.2.2 := nI_clamp (by omega)
  refine ⟨fun e he => ?_, fun e he => ?_, fun e d he hd hne => ?_⟩
  · have he2 : e < H.2.2.2.2 + 1 := he
    show upd H.2.1 (nI H.2.2.2.2).toNatClampNeg (nI b) e = nI (if e = H.2.2.2.2 then b else fa e) ∧ upd H.2.2.1 (nI H.2.2.2.2).toNatClampNeg (nI N) e = nI (((if e = H.2.2.2.2 then t else fs e) + 4095) / 4096) ∧ upd H.2.2.2.1 (nI H.2.2.2.2).toNatClampNeg (nI t) e = nI (if e = H.2.2.2.2 then t else fs e) ∧ 1 ≤ (if e = H.2.2.2.2 then t else fs e)
    rw [ecl]
    by_cases u : e = H.2.2.2.2
    · rw [if_pos u, if_pos u, u, pk_us, pk_us, pk_us, hN]
      exact ⟨rfl, rfl, rfl, ht1⟩
    · rw [if_neg u, if_neg u, pk_un u, pk_un u, pk_un u]
      exact hR.1 e (by omega)
  · have he2 : e < H.2.2.2.2 + 1 := he
    show 2 ≤ (if e = H.2.2.2.2 then b else fa e) ∧ 1 ≤ ((if e = H.2.2.2.2 then t else fs e) + 4095) / 4096 ∧ (if e = H.2.2.2.2 then b else fa e) + ((if e = H.2.2.2.2 then t else fs e) + 4095) / 4096 ≤ nB
    by_cases u : e = H.2.2.2.2
    · rw [if_pos u, if_pos u]
      exact ⟨hb, by omega, by omega⟩
    · rw [if_neg u, if_neg u]
      exact hR.2.1 e (by omega)
  · have he2 : e < H.2.2.2.2 + 1 := he
    have hd2 : d < H.2.2.2.2 + 1 := hd
    show (if e = H.2.2.2.2 then b else fa e) + ((if e = H.2.2.2.2 then t else fs e) + 4095) / 4096 ≤ (if d = H.2.2.2.2 then b else fa d) ∨ (if d = H.2.2.2.2 then b else fa d) + ((if d = H.2.2.2.2 then t else fs d) + 4095) / 4096 ≤ (if e = H.2.2.2.2 then b else fa e)
    by_cases u : e = H.2.2.2.2
    · rw [if_pos u, if_pos u, if_neg (show ¬ d = H.2.2.2.2 by omega), if_neg (show ¬ d = H.2.2.2.2 by omega), ← hN]
      exact (hfree d (by omega)).symm
    · rw [if_neg u, if_neg u]
      by_cases v : d = H.2.2.2.2
      · rw [if_pos v, if_pos v, ← hN]
        exact hfree e (by omega)
      · rw [if_neg v, if_neg v]
        exact hR.2.2 e d (by omega) (by omega) hne
theorem es_newM {H : ek_H} {k : ep_M} {lab : Int32} {b N : Nat} {no : ep_F} (hc : H.2.2.2.2 < 200) (h : es_M k H.2.2.2.2 H.1 H.2.1 H.2.2.2.1 no ch) : (ep_add k.1 lab (nI b) (nI t)).1 = 1 ∧ es_M ((ep_add k.1 lab (nI b) (nI t)).2, k.2) (ek_new H lab (nI b) N t).2.2.2.2 (ek_new H lab (nI b) N t).1 (ek_new H lab (nI b) N t).2.1 (ek_new H lab (nI b) N t).2.2.2.1 no ch := by
  obtain ⟨m1, m2, m3, m4⟩ := h
  rw [es_add hc m1]
  have ecl : (nI H.2.2.2.2).toNatClampNeg = H.2.2.2.2 := nI_clamp (by omega)
  refine ⟨rfl, rfl, fun e he => ?_, m3, m4⟩
  have he2 : e < H.2.2.2.2 + 1 := he
  show upd k.1.1 H.2.2.2.2 lab e = upd H.1 (nI H.2.2.2.2).toNatClampNeg lab e ∧ upd k.1.2.1 H.2.2.2.2 (nI b) e = upd H.2.1 (nI H.2.2.2.2).toNatClampNeg (nI b) e ∧ upd k.1.2.2.1 H.2.2.2.2 (nI t) e = upd H.2.2.2.1 (nI H.2.2.2.2).toNatClampNeg (nI t) e
  rw [ecl]
  by_cases u : e = H.2.2.2.2
  · rw [u, pk_us, pk_us, pk_us, pk_us, pk_us, pk_us]
    exact ⟨rfl, rfl, rfl⟩
  · rw [pk_un u, pk_un u, pk_un u, pk_un u, pk_un u, pk_un u]
    exact m2 e (by omega)
theorem es_change (hB : nB ≤ 128) (hB8 : 8 ≤ nB) (hK : K ≤ 100000) (hS : es_S nB K pf dn wr pw tf ln wf pg a dn2 wr2 lf q ch dk wk nk tk t) {lab fr to r b : Int32} {nw nx : Nat} {m : ep_M} {t0 us : ep_F} {of : Nat → Int64} {u : (((Nat × Nat) × ep_P × Int32 × ep_F × ep_F × Int32 × Int32 × ep_F) × ep_F × ep_M) × (Nat → Int64)} {z : ek_CS}
    (h : (ep_kdown dn = 0 ∧ r = 0 ∧ ∃ a9 : Int32, ((((a9, u.1.1), u.1.2) = ep_chg nw nx (nB * 4096) (nB * 4096) nB (pf, dn, wr, pw) tf ln wf pg t0 a (ep_next a fr to wf m) lab)) ∧ u.2 = vp_updL of (0 : Int32).toNatClampNeg a9.toInt64) ∨ (ep_kdown dn = 1 ∧ r = 9 ∧ u = ((((nw, nx), (pf, dn, wr, pw), ln, wf, pg, a.1.2.2.2, a.2.2, a.2.1), t0, m), of)) ∨ (ep_kdown dn = 2 ∧ r = 1 ∧ u = ((((nw, nx), (pf, dn, wr, pw), ln, wf, pg, a.1.2.2.2, a.2.2, a.2.1), t0, m), of)))
    (h2 : (b, z) = ek_change lab fr to nB ((t + 4095) / 4096) q dk tk t nk wk us dn2 wr2 lf ch) :
    z.1 = r ∧ (r = 0 → u.2 0 = b.toInt64) ∧ ((u.1.1.1 = (nw, nx) ∧ es_S nB (K + 1) u.1.1.2.1.1 u.1.1.2.1.2.1 u.1.1.2.1.2.2.1 u.1.1.2.1.2.2.2 tf u.1.1.2.2.1 u.1.1.2.2.2.1 u.1.1.2.2.2.2.1 ((a.1.1, a.1.2.1, a.1.2.2.1, u.1.1.2.2.2.2.2.1), u.1.1.2.2.2.2.2.2.2, u.1.1.2.2.2.2.2.2.1) z.2.1 z.2.2.1 z.2.2.2.1 z.2.2.2.2.2.1.1 z.2.2.2.2.2.2.1 z.2.2.2.2.2.1.2.1 wk z.2.2.2.2.2.1.2.2 tk z.2.2.2.2.1)
      ∨ (u.1.1.1 = (nx, nw) ∧ es_S nB (K + 1) u.1.1.2.1.1 u.1.1.2.1.2.1 u.1.1.2.1.2.2.1 u.1.1.2.1.2.2.2 tf u.1.1.2.2.1 u.1.1.2.2.2.1 u.1.1.2.2.2.2.1 u.1.2.2 z.2.1 z.2.2.1 z.2.2.2.1 z.2.2.2.2.2.1.1 z.2.2.2.2.2.2.1 z.2.2.2.2.2.1.2.1 wk z.2.2.2.2.2.1.2.2 tk z.2.2.2.2.1)) := by
  rcases h with ⟨k0, rfl, a9, ha9, hu2⟩ | ⟨k0, rfl, rfl⟩ | ⟨k0, rfl, rfl⟩
  · have hd := es_kd0 k0
    have hS9 := hS
    obtain ⟨fa, fs, kk, k1, hA, ⟨hT, ht⟩, ⟨hW, hpg⟩, hR, hM, hM1, hD⟩ := hS
    obtain ⟨h1, -, h3, hlf⟩ := hA
    subst hd
    subst h1
    subst h3
    have hm := hM rfl
    have hw9 := hW rfl
    have hl9 := hlf rfl
    have hE := (es_E hR.2 (by omega)).2
    have eln : ln = nI t := hT.1
    obtain ⟨N, hN⟩ : ∃ N : Nat, N = (t + 4095) / 4096 := ⟨_, rfl⟩
    rw [← hN] at h2
    -- the rows that stay
    have g4 := es_hp (la := q.1) (fi := q.2.1) (ma := q.2.2.1) (sz := q.2.2.2.1) (fr := fr) (to := to) (E := q.2.2.2.2) (by omega) (q.2.2.2.2 + 1) 0 (q.1, q.2.1, q.2.2.1, q.2.2.2.1, 0) (by omega) (by omega) ⟨rfl, fun e he => absurd he (Nat.not_lt_zero e)⟩ (fun e _ => ⟨rfl, rfl, rfl, rfl⟩)
    have g3 := es_fol (la := a.1.1) (fi := a.1.2.1) (si := a.1.2.2.1) (fr := fr) (to := to) (E := q.2.2.2.2) (by omega) 201 0 (m.1.1, m.1.2.1, m.1.2.2.1, 0) (by omega) (by omega) ⟨nI_0.symm, fun e he => absurd he (Nat.not_lt_zero e)⟩
    rw [es_g_eq (lb := q.1) q.2.2.2.2 (fun e he => (hm.2.1 e he).1)] at g3
    obtain ⟨gi1, gi2, gi3⟩ := es_g_in q.1 fr to q.2.2.2.2
    obtain ⟨H, eH⟩ : ∃ H : ek_H, H = ek_hp fr to q.2.2.2.2 (q.2.2.2.2 + 1) 0 (q.1, q.2.1, q.2.2.1, q.2.2.2.1, 0) := ⟨_, rfl⟩
    rw [← eH] at g4
    have hHc : H.2.2.2.2 = (es_g q.1 fr to q.2.2.2.2).1 := g4.1
    have hkR := es_keepR hR g4 gi2 gi3
    have hnM : es_M (ep_next a fr to wf m) H.2.2.2.2 H.1 H.2.1 H.2.2.2.1 (ek_nt wk 25 0 nk) (ch + 1) := by
      unfold ep_next
      rw [hm.1]
      refine ⟨?_, fun e he => ?_, fun i hi => ?_, ?_⟩
      · rw [hHc]
        exact g3.1
      · rw [hHc] at he
        obtain ⟨c1, c2, c3⟩ := g3.2 e he
        obtain ⟨f1, f2, f3, f4⟩ := g4.2 e he
        obtain ⟨l1, l2, l3⟩ := hm.2.1 _ (gi2 e he)
        exact ⟨c1.trans (l1.trans f1.symm), c2.trans (l2.trans f2.symm), c3.trans (l3.trans f4.symm)⟩
      · show ep_tn wf 25 0 (ep_fill 24 0 m.2.1) i = ek_nt wk 25 0 nk i
        rw [es_tn 25 0 _ (by decide) (by decide) (fun j hj => absurd hj (Nat.not_lt_zero j)) i hi, es_nt 25 0 _ (by decide) (by decide) (fun j hj => absurd hj (Nat.not_lt_zero j)) i hi]
        exact hw9 i hi
      · show a.2.2 + 1 = ch + 1
        rw [hm.2.2.2]
    unfold ek_change at h2
    rw [if_pos rfl] at h2
    unfold ep_chg at ha9
    rcases Nat.eq_zero_or_pos t with t0e | t1
    · -- nothing on the tape
      have N0 : N = 0 := by omega
      rw [N0] at h2 hN
      rw [if_neg (show ¬ ¬ nI 0 = 0 from fun h => h nI_0)] at h2
      unfold ek_c2 at h2
      rw [if_pos (show nI 0 ≤ 0 by decide)] at h2
      rw [if_pos (show ln ≤ 0 by rw [eln, t0e]; decide)] at ha9
      have eh : ek_happen lab fr to (nI 2) 0 q dk tk t nk wk = (H, dk, ek_nt wk 25 0 nk) := by
        unfold ek_happen
        rw [if_pos (show nI 0 ≤ 0 by decide), eH]
      obtain ⟨e1, e2⟩ := Prod.mk.inj ha9
      obtain ⟨e3, e4⟩ := Prod.mk.inj e2
      have core := es_core (a := a) (wr := wr2) (nw := nw) (nx := nx) (first := -1) (us := us) (lab := lab) (fr := fr) (to := to) (b := 2) (N := 0) (k9 := ep_next a fr to wf m) (fa1 := fun e => fa ((es_g q.1 fr to q.2.2.2.2).2 e)) (fs1 := fun e => fs ((es_g q.1 fr to q.2.2.2.2).2 e)) hB hB8 hK hl9 hT ht hN hpg hw9 hR hD ⟨by decide, by omega, fun j x1 x2 => by omega⟩ (fun h => by omega)
        (by rw [eh]; exact hkR) (by rw [eh]; exact hnM)
        (by
          rw [eh]
          intro pf1 hd e he j hj
          have he2 : e < (es_g q.1 fr to q.2.2.2.2).1 := by rw [← hHc]; exact he
          show pf1 (4096 * fa ((es_g q.1 fr to q.2.2.2.2).2 e) + j) &&& 255 = dk (4096 * fa ((es_g q.1 fr to q.2.2.2.2).2 e) + j) &&& 255
          rw [hd.2 _ (by omega)]
          exact hD.2.2.2.2.2 _ (gi2 e he2) j hj) e1 h2
      obtain ⟨c1, c2, c3⟩ := core
      refine ⟨c1, fun _ => by rw [es_out hu2]; exact congrArg Int32.toInt64 c2, ?_⟩
      rcases c3 with ⟨p1, p2⟩ | ⟨p1, p2⟩
      · exact Or.inl ⟨p1, p2⟩
      · refine Or.inr ⟨p1, ?_⟩
        rw [e4]
        exact p2
    · -- a new row
      have N1 : 1 ≤ N := by omega
      have eb : ep_blocks ln = nI N := by
        rw [eln, hN]
        exact ek_blk (by omega)
      rw [if_pos (nI_ne0 (by omega) (by omega))] at h2
      rw [if_neg (show ¬ ln ≤ 0 by rw [eln]; exact nI_nle t1 (by omega)), eb, hm.1] at ha9
      obtain ⟨pe, pa⟩ := es_place (N := N) (te := t0) (us := us) hB (by omega) N1 (by omega) hR.2 (es_Nof hB hR hm) (fk := q.2.1) (ma := q.2.2.1) (fun e he => ⟨(hR.1 e he).1, (hR.1 e he).2.1⟩)
      rw [pe] at ha9
      rcases pa with pa | ⟨b9, pa, hw⟩
      · rw [pa, if_pos rfl] at ha9
        rw [pa, if_pos (show (-1 : Int32) < 0 by decide)] at h2
        obtain ⟨e1, e2⟩ := Prod.mk.inj ha9
        obtain ⟨e3, e4⟩ := Prod.mk.inj e1
        obtain ⟨rfl, rfl⟩ := Prod.mk.inj h2
        refine ⟨rfl, fun _ => by rw [es_out hu2, e3], Or.inl ?_⟩
        rw [e4]
        refine ⟨rfl, ?_⟩
        have := es_S_up hS9 (K2 := K + 1) (by omega)
        rw [← hm.1]
        exact this
      · have nb1 : ¬ nI b9 = -1 := fun h => by
          have x1 := nI_pos (n := b9) (by have := hw.2.1; omega)
          rw [h] at x1
          exact x1 (by decide)
        have hcc : H.2.2.2.2 ≤ 126 := by omega
        obtain ⟨ad1, ad2⟩ := es_newM (t := t) (lab := lab) (b := b9) (N := N) (by omega) hnM
        rw [pa, if_neg nb1, eln, ad1, if_pos (show ¬ (1 : Int32) = 0 by decide)] at ha9
        rw [pa, if_neg (nI_pos (by have := hw.2.1; omega))] at h2
        unfold ek_c2 at h2
        have est : ek_st q.1 q.2.2.2.2 fr to (q.2.2.2.2 + 1) 0 0 = nI (es_g q.1 fr to q.2.2.2.2).1 := es_st (by omega) (q.2.2.2.2 + 1) 0 (by omega) (by omega)
        have e200 : nI ((es_g q.1 fr to q.2.2.2.2).1 + 1) ≤ nI 200 := by rw [nI_leI (by omega) (by decide)]; omega
        have e201 : nI ((es_g q.1 fr to q.2.2.2.2).1 + 1) ≤ 200 := e200
        rw [if_neg (nI_nle (by omega) (by omega)), est, nI_1, if_pos e201] at h2
        have eh : ek_happen lab fr to (nI b9) N q dk tk t nk wk = (ek_new H lab (nI b9) N t, ek_dk (nI b9) tk t (t + 1) 0 dk, ek_nt wk 25 0 nk) := by
          unfold ek_happen
          rw [if_neg (nI_nle (by omega) (by omega)), eH]
        obtain ⟨e1, e2⟩ := Prod.mk.inj ha9
        obtain ⟨e3, e4⟩ := Prod.mk.inj e2
        rw [← hm.1] at e1
        have hb2 := hw.1
        have hbN := hw.2.1
        have hfree : ∀ e, e < H.2.2.2.2 → fa ((es_g q.1 fr to q.2.2.2.2).2 e) + (fs ((es_g q.1 fr to q.2.2.2.2).2 e) + 4095) / 4096 ≤ b9 ∨ b9 + N ≤ fa ((es_g q.1 fr to q.2.2.2.2).2 e) := by
          intro e he
          have he2 : e < (es_g q.1 fr to q.2.2.2.2).1 := by rw [← hHc]; exact he
          have hge := gi2 e he2
          have f4 := (hR.1 _ hge).2.2.2
          rcases Nat.lt_or_ge (fa ((es_g q.1 fr to q.2.2.2.2).2 e)) b9 with x1 | x1
          · rcases Nat.lt_or_ge b9 (fa ((es_g q.1 fr to q.2.2.2.2).2 e) + (fs ((es_g q.1 fr to q.2.2.2.2).2 e) + 4095) / 4096) with x2 | x2
            · rcases es_off hw hge (x := b9) (by omega) x2 with x3 | x3 <;> omega
            · exact Or.inl x2
          · rcases es_off hw hge (x := fa ((es_g q.1 fr to q.2.2.2.2).2 e)) (by omega) (by show fa ((es_g q.1 fr to q.2.2.2.2).2 e) < fa ((es_g q.1 fr to q.2.2.2.2).2 e) + (fs ((es_g q.1 fr to q.2.2.2.2).2 e) + 4095) / 4096; omega) with x3 | x3
            · omega
            · exact Or.inr x3
        have hnR := es_newR (lab := lab) hkR (by omega) t1 hN hb2 hbN hfree
        have core := es_core (a := a) (wr := wr2) (nw := nw) (nx := nx) (first := nI b9) (us := (ek_place q.2.1 q.2.2.1 q.2.2.2.2 nB N us).2) (lab := lab) (fr := fr) (to := to) (b := b9) (N := N) (k9 := ((ep_add (ep_next a fr to wf m).1 lab (nI b9) (nI t)).2, (ep_next a fr to wf m).2)) (fa1 := fun e => if e = H.2.2.2.2 then b9 else fa ((es_g q.1 fr to q.2.2.2.2).2 e)) (fs1 := fun e => if e = H.2.2.2.2 then t else fs ((es_g q.1 fr to q.2.2.2.2).2 e)) hB hB8 hK hl9 (eln ▸ hT) ht hN hpg hw9 hR hD hw (fun _ => rfl)
          (by rw [eh]; exact hnR) (by rw [eh]; exact ad2)
          (by
            rw [eh]
            intro pf1 hd e he j hj
            have he2 : e < H.2.2.2.2 + 1 := he
            obtain ⟨k1d, k2d⟩ := es_dk (a := b9) (t := t) (tf := tk) (by omega) (t + 1) 0 dk (by omega) (by omega)
            show pf1 (4096 * (if e = H.2.2.2.2 then b9 else fa ((es_g q.1 fr to q.2.2.2.2).2 e)) + j) &&& 255 = ek_dk (nI b9) tk t (t + 1) 0 dk (4096 * (if e = H.2.2.2.2 then b9 else fa ((es_g q.1 fr to q.2.2.2.2).2 e)) + j) &&& 255
            have hj2 : j < (if e = H.2.2.2.2 then t else fs ((es_g q.1 fr to q.2.2.2.2).2 e)) := hj
            by_cases x : e = H.2.2.2.2
            · rw [if_pos x] at hj2 ⊢
              rw [hd.1 j (by omega) (by omega), k1d j (by omega) hj2, es_nar2]
              exact congrArg (· &&& 255) (hT.2.1 j hj2)
            · rw [if_neg x] at hj2 ⊢
              have he3 : e < (es_g q.1 fr to q.2.2.2.2).1 := by rw [← hHc]; omega
              have off := es_offB hw (gi2 e he3) hj2
              rw [hd.2 _ (by omega), k2d _ (by omega)]
              exact hD.2.2.2.2.2 _ (gi2 e he3) j hj2) e1 h2
        obtain ⟨c1, c2, c3⟩ := core
        refine ⟨c1, fun _ => by rw [es_out hu2]; exact congrArg Int32.toInt64 c2, ?_⟩
        rcases c3 with ⟨p1, p2⟩ | ⟨p1, p2⟩
        · exact Or.inl ⟨p1, p2⟩
        · refine Or.inr ⟨p1, ?_⟩
          rw [e4]
          exact p2
  · exact absurd k0 (ep_kdown_n1 dn)
  · have hd := es_kd2 k0
    have hS2 := es_S_up hS (K2 := K + 1) (by omega)
    obtain ⟨fa, fs, kk, k1, hA, hrest⟩ := hS
    unfold ek_change at h2
    rw [if_neg (by rw [hA.1]; exact hd)] at h2
    obtain ⟨rfl, rfl⟩ := Prod.mk.inj h2
    exact ⟨rfl, fun h => absurd h (by decide), Or.inl ⟨rfl, hS2⟩⟩
end ESD
