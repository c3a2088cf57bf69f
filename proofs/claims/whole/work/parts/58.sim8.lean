/-! the relation: extent, byteAt, crash, recover, count, doubled, a new object -/
section EST
variable {nB K t : Nat} {pf tf wf pg dk wk nk tk : ep_F} {dn wr pw ln dn2 wr2 lf ch : Int32} {a : ep_M} {q : ek_H}
theorem es_ok (hB : nB ≤ 128) (hB2 : 2 ≤ nB) (hS : es_S nB K pf dn wr pw tf ln wf pg a dn2 wr2 lf q ch dk wk nk tk t) : q.2.2.2.2 ≤ 126 ∧ ek_ok nB q.2.1 q.2.2.1 q.2.2.2.1 q.2.2.2.2 ∧ t ≤ 4096 * nB ∧ (∃ k : Nat, k ≤ 128 ∧ ep_blocks ln = nI k) ∧ sb_Fit tf ∧ sb_Fit pg ∧ dn2 = dn ∧ (dn = 0 ∨ dn = 1) ∧ wr2 = wr := by
  obtain ⟨fa, fs, kk, k1, hA, ⟨hT, ht⟩, ⟨hW, hpg⟩, hR, hM, hM1, hD⟩ := hS
  refine ⟨by have := (es_E hR.2 hB2).2; omega, fun e he => ?_, ht, ⟨(t + 4095) / 4096, by omega, ?_⟩, hT.2.2, hpg, hA.1, hA.2.1, hA.2.2.1⟩
  · obtain ⟨e1, e2, e3, e4⟩ := hR.1 e he
    obtain ⟨r1, r2, r3⟩ := hR.2.1 e he
    exact ⟨fa e, (fs e + 4095) / 4096, fs e, e1, e2, e3, r1, r2, r3, by omega⟩
  · have eln : ln = nI t := hT.1
    rw [eln]
    exact ek_blk (by omega)
theorem es_holds {ex x : Int32} {E : Nat} (hE : E ≤ 199) (hd : dn = 0 ∨ dn = 1) (h0 : dn = 0 → ex = nI E) (h1 : dn = 1 → ex = 0) : ep_holds ex x = ek_isx dn E x := by
  unfold ep_holds ek_isx
  rcases hd with hd | hd
  · rw [if_neg (show ¬ ¬ dn = 0 from fun h => h hd), h0 hd]
    by_cases u : x < 0
    · rw [if_pos u, if_pos u]
    · rw [if_neg u, if_neg u]
      by_cases v : nI E ≤ x
      · rw [if_pos v, if_pos v]
      · rw [if_neg v, if_neg v]
        obtain ⟨j, hj, rfl⟩ := nI_of u
        rw [nI_leI (by omega) hj] at v
        have v2 : ¬ nI 200 ≤ nI j := by rw [nI_leI (by decide) hj]; omega
        exact if_neg v2
  · rw [if_pos (show ¬ dn = 0 by rw [hd]; decide), h1 hd]
    by_cases u : x < 0
    · rw [if_pos u]
    · rw [if_neg u, if_pos (Int32.not_lt.mp u)]
theorem es_kext {ex x y : Int32} {E : Nat} (hE : E ≤ 199) (hd : dn = 0 ∨ dn = 1) (h0 : dn = 0 → ex = nI E) (h1 : dn = 1 → ex = 0) : ek_kext dn E x y = nI (ep_kext ex x y) := by
  unfold ek_kext ep_kext
  rw [es_holds (x := x) hE hd h0 h1]
  by_cases u : ek_isx dn E x = 0
  · rw [if_pos u, if_neg (show ¬ ¬ ek_isx dn E x = 0 from fun h => h u)]
    rfl
  · rw [if_neg u, if_pos u]
    by_cases y0 : y = 0
    · subst y0
      rfl
    · by_cases y1 : y = 1
      · subst y1
        rfl
      · by_cases y2 : y = 2
        · subst y2
          rfl
        · by_cases y3 : y = 3
          · subst y3
            rfl
          · rw [if_neg y0, if_neg y1, if_neg y2, if_neg y3]
            by_cases v : y < 0
            · rw [if_pos v]
              rfl
            · rw [if_neg v]
              by_cases w : 3 < y
              · rw [if_pos w]
                rfl
              · obtain ⟨j, hj, rfl⟩ := nI_of v
                have w2 : ¬ nI 3 < nI j := w
                rw [nI_ltI (by decide) hj] at w2
                have z : j = 0 ∨ j = 1 ∨ j = 2 ∨ j = 3 := by omega
                rcases z with z | z | z | z <;> subst z
                · exact absurd rfl y0
                · exact absurd rfl y1
                · exact absurd rfl y2
                · exact absurd rfl y3
theorem es_ext0 {ex x y : Int32} (h : ep_kext ex x y = 0) : ¬ ep_holds ex x = 0 ∧ (y = 0 ∨ y = 1 ∨ y = 2 ∨ y = 3) := by
  unfold ep_kext at h
  by_cases u : ep_holds ex x = 0
  · rw [if_neg (fun h => h u)] at h
    exact absurd h (by decide)
  · rw [if_pos u] at h
    refine ⟨u, ?_⟩
    by_cases y0 : y = 0
    · exact Or.inl y0
    · rw [if_neg y0] at h
      by_cases y1 : y = 1
      · exact Or.inr (Or.inl y1)
      · rw [if_neg y1] at h
        by_cases y2 : y = 2
        · exact Or.inr (Or.inr (Or.inl y2))
        · rw [if_neg y2] at h
          by_cases y3 : y = 3
          · exact Or.inr (Or.inr (Or.inr y3))
          · rw [if_neg y3] at h
            exact absurd h (by decide)
theorem es_extent (hB : nB ≤ 128) (hB2 : 2 ≤ nB) (hS : es_S nB K pf dn wr pw tf ln wf pg a dn2 wr2 lf q ch dk wk nk tk t) {x y r b : Int32} {of : Nat → Int64} {u : Unit × (Nat → Int64)} {z : Int32}
    (h : (ep_kext a.1.2.2.2 x y = 0 ∧ r = 0 ∧ ∃ a9 : Int32, (a9 = ep_ext a.1.1 a.1.2.1 a.1.2.2.1 x y) ∧ u.2 = vp_updL of (0 : Int32).toNatClampNeg a9.toInt64) ∨ (ep_kext a.1.2.2.2 x y = 1 ∧ r = 1 ∧ u = ((), of)) ∨ (ep_kext a.1.2.2.2 x y = 2 ∧ r = 2 ∧ u = ((), of)))
    (h2 : (b, z) = ek_extent dn2 q.2.2.2.2 q.1 q.2.1 q.2.2.1 q.2.2.2.1 x y) : z = r ∧ (r = 0 → u.2 0 = b.toInt64) := by
  obtain ⟨fa, fs, kk, k1, hA, hT, hW, hR, hM, hM1, hD⟩ := hS
  have hE := (es_E hR.2 hB2).2
  have h0 : dn = 0 → a.1.2.2.2 = nI q.2.2.2.2 := fun h => (hM h).1
  have ek := es_kext (x := x) (y := y) (E := q.2.2.2.2) (by omega) hA.2.1 h0 hM1
  rw [hA.1] at h2
  unfold ek_extent at h2
  rcases h with ⟨k0, rfl, a9, ha9, hu2⟩ | ⟨k0, rfl, rfl⟩ | ⟨k0, rfl, rfl⟩
  · rw [if_pos (by rw [ek, k0, nI_0])] at h2
    obtain ⟨hh, hy⟩ := es_ext0 k0
    rw [es_holds (x := x) (E := q.2.2.2.2) (by omega) hA.2.1 h0 hM1] at hh
    obtain ⟨hd, j, hj, rfl⟩ := ek_isx_spec hh (by omega)
    obtain ⟨m1, m2, m3, m4⟩ := hM hd
    obtain ⟨l1, l2, l3⟩ := m2 j hj
    obtain ⟨e1, e2, e3, e4⟩ := hR.1 j hj
    obtain ⟨r1, r2, r3⟩ := hR.2.1 j hj
    unfold ep_ext at ha9
    rw [nI_clamp (by omega)] at h2 ha9
    rcases hy with rfl | rfl | rfl | rfl
    · rw [if_neg (by decide)] at h2
      obtain ⟨rfl, rfl⟩ := Prod.mk.inj h2
      refine ⟨rfl, fun _ => ?_⟩
      rw [es_out hu2, ha9, if_pos rfl, l1]
    · rw [if_pos (by decide), if_neg (by decide)] at h2
      obtain ⟨rfl, rfl⟩ := Prod.mk.inj h2
      refine ⟨rfl, fun _ => ?_⟩
      rw [es_out hu2, ha9, if_neg (by decide), if_pos rfl, l2]
    · rw [if_pos (by decide), if_pos (by decide), if_neg (by decide)] at h2
      obtain ⟨rfl, rfl⟩ := Prod.mk.inj h2
      refine ⟨rfl, fun _ => ?_⟩
      rw [es_out hu2, ha9, if_neg (by decide), if_neg (by decide), if_pos rfl, l3, e3, e2]
      have r4 : fa j + (fs j + 4095) / 4096 ≤ nB := r3
      have hs : fs j ≤ 524288 := by omega
      exact congrArg Int32.toInt64 (ek_blk hs)
    · rw [if_pos (by decide), if_pos (by decide), if_pos (by decide)] at h2
      obtain ⟨rfl, rfl⟩ := Prod.mk.inj h2
      refine ⟨rfl, fun _ => ?_⟩
      rw [es_out hu2, ha9, if_neg (by decide), if_neg (by decide), if_neg (by decide), l3]
  · have e0 : ek_kext dn q.2.2.2.2 x y = 1 := by rw [ek, k0]; rfl
    rw [e0, if_neg (by decide)] at h2
    obtain ⟨rfl, rfl⟩ := Prod.mk.inj h2
    exact ⟨rfl, fun h => absurd h (by decide)⟩
  · exact absurd k0 (ep_kext_n2 _ _ _)
theorem es_byte (hB : nB ≤ 128) (hB2 : 2 ≤ nB) (hS : es_S nB K pf dn wr pw tf ln wf pg a dn2 wr2 lf q ch dk wk nk tk t) {x y r b : Int32} {of : Nat → Int64} {u : Unit × (Nat → Int64)} {z : Int32}
    (h : (ep_kbyte a.1.2.2.2 x y (a.1.2.2.1 x.toNatClampNeg) = 0 ∧ r = 0 ∧ ∃ a9 : Int32, (a9 = ep_read (nB * 4096) pf (a.1.2.1 x.toNatClampNeg * 4096 + y)) ∧ u.2 = vp_updL of (0 : Int32).toNatClampNeg a9.toInt64) ∨ (ep_kbyte a.1.2.2.2 x y (a.1.2.2.1 x.toNatClampNeg) = 1 ∧ r = 1 ∧ u = ((), of)) ∨ (ep_kbyte a.1.2.2.2 x y (a.1.2.2.1 x.toNatClampNeg) = 2 ∧ r = 2 ∧ u = ((), of)))
    (h2 : (b, z) = ek_byte dn2 q.2.2.2.2 q.2.1 q.2.2.2.1 dk x y) : z = r ∧ (r = 0 → u.2 0 = b.toInt64) := by
  obtain ⟨fa, fs, kk, k1, hA, hT, hW, hR, hM, hM1, hD⟩ := hS
  have hE := (es_E hR.2 hB2).2
  have h0 : dn = 0 → a.1.2.2.2 = nI q.2.2.2.2 := fun h => (hM h).1
  have hho := es_holds (x := x) (E := q.2.2.2.2) (by omega) hA.2.1 h0 hM1
  rw [hA.1] at h2
  unfold ek_byte ek_kbyte at h2
  unfold ep_kbyte at h
  rw [hho] at h
  by_cases hx : ek_isx dn q.2.2.2.2 x = 0
  · rw [if_neg (fun h => h hx)] at h
    rw [if_pos hx, if_neg (by decide)] at h2
    obtain ⟨rfl, rfl⟩ := Prod.mk.inj h2
    rcases h with ⟨k0, _⟩ | ⟨k0, rfl, rfl⟩ | ⟨k0, _⟩
    · exact absurd k0 (by decide)
    · exact ⟨rfl, fun h => absurd h (by decide)⟩
    · exact absurd k0 (by decide)
  · rw [if_pos hx] at h
    rw [if_neg hx] at h2
    obtain ⟨hd, j, hj, rfl⟩ := ek_isx_spec hx (by omega)
    obtain ⟨m1, m2, m3, m4⟩ := hM hd
    obtain ⟨l1, l2, l3⟩ := m2 j hj
    obtain ⟨e1, e2, e3, e4⟩ := hR.1 j hj
    obtain ⟨r1, r2, r3⟩ := hR.2.1 j hj
    rw [nI_clamp (by omega)] at h h2
    rw [l3, l2, e3, e1] at h
    rw [e3, e1] at h2
    by_cases y0 : y < 0
    · rw [if_pos y0] at h
      rw [if_pos y0, if_neg (by decide)] at h2
      obtain ⟨rfl, rfl⟩ := Prod.mk.inj h2
      rcases h with ⟨k0, _⟩ | ⟨k0, rfl, rfl⟩ | ⟨k0, _⟩
      · exact absurd k0 (by decide)
      · exact ⟨rfl, fun h => absurd h (by decide)⟩
      · exact absurd k0 (by decide)
    · rw [if_neg y0] at h
      rw [if_neg y0] at h2
      by_cases y1 : nI (fs j) ≤ y
      · rw [if_neg (Int32.not_lt.mpr y1)] at h
        rw [if_pos y1, if_neg (by decide)] at h2
        obtain ⟨rfl, rfl⟩ := Prod.mk.inj h2
        rcases h with ⟨k0, _⟩ | ⟨k0, rfl, rfl⟩ | ⟨k0, _⟩
        · exact absurd k0 (by decide)
        · exact ⟨rfl, fun h => absurd h (by decide)⟩
        · exact absurd k0 (by decide)
      · rw [if_pos (Int32.not_le.mp y1)] at h
        rw [if_neg y1, if_pos rfl] at h2
        obtain ⟨rfl, rfl⟩ := Prod.mk.inj h2
        obtain ⟨k, hk, rfl⟩ := nI_of y0
        have hs : fs j ≤ 4096 * ((fs j + 4095) / 4096) := by omega
        have r4 : fa j + (fs j + 4095) / 4096 ≤ nB := r3
        rw [nI_leI (by omega) hk] at y1
        rcases h with ⟨k0, rfl, a9, ha9, hu2⟩ | ⟨k0, _⟩ | ⟨k0, _⟩
        · refine ⟨rfl, fun _ => ?_⟩
          have ea : nI (fa j) * 4096 + nI k = nI (4096 * fa j + k) := by
            rw [show (4096 : Int32) = nI 4096 from rfl, pk_mul, nI_add, Nat.mul_comm]
          have eb : 4096 * nI (fa j) + nI k = nI (4096 * fa j + k) := by
            rw [show (4096 : Int32) = nI 4096 from rfl, pk_mul, nI_add]
          rw [es_out hu2, ha9, ea, eb, es_read (by omega) (by omega), nI_clamp (by omega), hD.2.2.2.2.2 j hj k (by omega)]
        · exact absurd k0 (by decide)
        · exact absurd k0 (by decide)
theorem es_kcrash {x : Int32} : ek_kcrash dn x = nI (ep_kcrash dn x) := by
  unfold ek_kcrash ep_kcrash
  by_cases h1 : x < -1
  · rw [if_pos h1, if_pos h1]
    rfl
  · rw [if_neg h1, if_neg h1]
    by_cases h2 : x ≤ 1000
    · rw [if_pos h2, if_pos h2]
      by_cases h3 : dn = 0
      · rw [if_pos h3, if_pos h3]
        rfl
      · rw [if_neg h3, if_neg h3]
        rfl
    · rw [if_neg h2, if_neg h2]
      rfl
theorem es_kcrash0 {x : Int32} (h : ep_kcrash dn x = 0) : dn = 0 ∧ ¬ x < -1 ∧ x ≤ 1000 := by
  unfold ep_kcrash at h
  by_cases h1 : x < -1
  · rw [if_pos h1] at h
    exact absurd h (by decide)
  · rw [if_neg h1] at h
    by_cases h2 : x ≤ 1000
    · rw [if_pos h2] at h
      by_cases h3 : dn = 0
      · exact ⟨h3, h1, h2⟩
      · rw [if_neg h3] at h
        exact absurd h (by decide)
    · rw [if_neg h2] at h
      exact absurd h (by decide)
theorem es_m1 {x : Int32} (h1 : ¬ x < -1) (h2 : x ≤ 1000) (h3 : ¬ x = 0) : x = -1 ∨ ∃ p : Nat, 1 ≤ p ∧ p ≤ 1000 ∧ x = nI p := by
  by_cases h4 : x < 0
  · left
    apply Int32.toInt_inj.mp
    have a := Int32.lt_iff_toInt_lt.mp h4
    have b : ¬ x.toInt < (-1 : Int32).toInt := fun h => h1 (Int32.lt_iff_toInt_lt.mpr h)
    have c : (-1 : Int32).toInt = -1 := by decide
    have d : (0 : Int32).toInt = 0 := by decide
    omega
  · obtain ⟨p, hp, rfl⟩ := nI_of h4
    have h5 : nI p ≤ nI 1000 := h2
    rw [nI_leI hp (by decide)] at h5
    refine Or.inr ⟨p, ?_, h5, rfl⟩
    rcases Nat.eq_zero_or_pos p with e | e
    · subst e
      exact absurd nI_0 h3
    · exact e
theorem es_crash (hS : es_S nB K pf dn wr pw tf ln wf pg a dn2 wr2 lf q ch dk wk nk tk t) {x r : Int32} {u : Int32 × Int32 × Int32 × Int32 × Int32 × ep_F × ep_F} {z : Int32 × Int32 × Int32 × Nat}
    (h : (ep_kcrash dn x = 0 ∧ r = 0 ∧ u = ((ep_crash x ln a.1.2.2.2 a.2.2 a.2.1 wf).1, x, (ep_crash x ln a.1.2.2.2 a.2.2 a.2.1 wf).2.1, (ep_crash x ln a.1.2.2.2 a.2.2 a.2.1 wf).2.2.1, (ep_crash x ln a.1.2.2.2 a.2.2 a.2.1 wf).2.2.2.1, (ep_crash x ln a.1.2.2.2 a.2.2 a.2.1 wf).2.2.2.2.1, (ep_crash x ln a.1.2.2.2 a.2.2 a.2.1 wf).2.2.2.2.2)) ∨ (ep_kcrash dn x = 1 ∧ r = 1 ∧ u = (dn, pw, ln, a.1.2.2.2, a.2.2, a.2.1, wf)) ∨ (ep_kcrash dn x = 2 ∧ r = 2 ∧ u = (dn, pw, ln, a.1.2.2.2, a.2.2, a.2.1, wf)))
    (h2 : z = ek_crash dn2 lf x t) : z.1 = r ∧ es_S nB K pf u.1 wr u.2.1 tf u.2.2.1 u.2.2.2.2.2.2 pg ((a.1.1, a.1.2.1, a.1.2.2.1, u.2.2.2.1), u.2.2.2.2.2.1, u.2.2.2.2.1) z.2.1 wr2 z.2.2.1 q ch dk wk nk tk z.2.2.2 := by
  obtain ⟨fa, fs, kk, k1, hA, ⟨hT, ht⟩, ⟨hW, hpg⟩, hR, hM, hM1, hD⟩ := hS
  have ek := es_kcrash (dn := dn) (x := x)
  rw [hA.1] at h2
  unfold ek_crash at h2
  rcases h with ⟨k0, rfl, hu⟩ | ⟨k0, rfl, rfl⟩ | ⟨k0, rfl, rfl⟩
  · obtain ⟨hd, x1, x2⟩ := es_kcrash0 k0
    rw [if_pos (by rw [ek, k0, nI_0])] at h2
    by_cases x0 : x = 0
    · subst x0
      rw [if_neg (fun h => h rfl)] at h2
      have e : ep_crash 0 ln a.1.2.2.2 a.2.2 a.2.1 wf = (1, 0, 0, 0, ep_fill 24 0 a.2.1, ep_fill 24 0 wf) := by
        have e1 : ep_down 0 = 1 := by decide
        unfold ep_crash
        rw [e1, if_neg (by decide)]
      rw [e] at hu
      subst hu h2
      have n1 : ¬ (1 : Int32) = 0 := by decide
      exact ⟨rfl, fa, fs, kk, k1, ⟨rfl, Or.inr rfl, hA.2.2.1, fun h => absurd h n1⟩, ⟨es_T0 hT, Nat.zero_le _⟩, ⟨fun h => absurd h n1, hpg⟩, hR, fun h => absurd h n1, fun _ => rfl, hD⟩
    · rw [if_pos x0] at h2
      have e1 : ep_down x = 0 := by
        unfold ep_down
        rw [if_neg x0]
      have e : ep_crash x ln a.1.2.2.2 a.2.2 a.2.1 wf = (0, ln, a.1.2.2.2, a.2.2, a.2.1, wf) := by
        unfold ep_crash
        rw [e1, if_pos rfl]
      rw [e] at hu
      subst hu h2
      have n1 : ¬ (0 : Int32) = 1 := by decide
      exact ⟨rfl, fa, fs, kk, k1, ⟨hd, Or.inl rfl, hA.2.2.1, fun _ => ⟨rfl, es_m1 x1 x2 x0⟩⟩, ⟨hT, ht⟩, ⟨fun _ => hW hd, hpg⟩, hR, fun _ => hM hd, fun h => absurd h n1, hD⟩
  · have e0 : ek_kcrash dn x = 1 := by rw [ek, k0]; rfl
    rw [e0, if_neg (by decide)] at h2
    subst h2
    exact ⟨rfl, fa, fs, kk, k1, ⟨rfl, hA.2⟩, ⟨hT, ht⟩, ⟨hW, hpg⟩, hR, hM, hM1, hD⟩
  · have e0 : ek_kcrash dn x = 2 := by rw [ek, k0]; rfl
    rw [e0, if_neg (by decide)] at h2
    subst h2
    exact ⟨rfl, fa, fs, kk, k1, ⟨rfl, hA.2⟩, ⟨hT, ht⟩, ⟨hW, hpg⟩, hR, hM, hM1, hD⟩
theorem es_recover (hB : nB ≤ 128) (hB8 : 8 ≤ nB) (hK : K ≤ 100000) (hS : es_S nB K pf dn wr pw tf ln wf pg a dn2 wr2 lf q ch dk wk nk tk t) {nw nx : Nat} {m : ep_M} {r b : Int32} {u : (Nat × Nat) × ep_M × ep_M × ep_F} {z : ep_F}
    (h : (r, u) = ep_recover nw nx (nB * 4096) pf a m wf)
    (h2 : (b, z) = (nI q.2.2.2.2, ek_nt nk 25 0 wk)) : b = r ∧ ((u.1 = (nw, nx) ∧ es_S nB K pf (ep_down (-1)) wr (-1) tf 0 u.2.2.2 pg u.2.1 0 wr2 (-1) q ch dk z nk tk 0) ∨ (u.1 = (nx, nw) ∧ es_S nB K pf (ep_down (-1)) wr (-1) tf 0 u.2.2.2 pg u.2.2.1 0 wr2 (-1) q ch dk z nk tk 0)) := by
  obtain ⟨fa, fs, kk, k1, hA, ⟨hT, ht⟩, ⟨hW, hpg⟩, hR, hM, hM1, hD⟩ := hS
  have hE := (es_E hR.2 (by omega)).2
  obtain ⟨rfl, rfl⟩ := Prod.mk.inj h2
  obtain ⟨d1, d2, d3, d4, d5, d6⟩ := hD
  have hd : ep_down (-1) = 0 := by decide
  have b0 : (0 : Int32) * 4096 = nI 0 := by decide
  have b1 : (1 : Int32) * 4096 = nI 4096 := by decide
  rw [hd]
  unfold ep_recover at h
  have fin : ∀ (m9 : ep_M) (w9 : ep_F), es_M m9 q.2.2.2.2 q.1 q.2.1 q.2.2.2.1 nk ch → w9 = ep_cpN m9.2.1 wf → es_S nB K pf 0 wr (-1) tf 0 w9 pg m9 0 wr2 (-1) q ch dk (ek_nt nk 25 0 wk) nk tk 0 := by
    intro m9 w9 hm hw
    refine ⟨fa, fs, kk, k1, ⟨rfl, Or.inl rfl, hA.2.2.1, fun _ => ⟨rfl, Or.inl rfl⟩⟩, ⟨es_T0 hT, Nat.zero_le _⟩, ⟨fun _ i hi => ?_, hpg⟩, hR, fun _ => hm, fun h => absurd h (by decide), d1, d2, d3, d4, d5, d6⟩
    rw [hw, es_cpN hi, hm.2.2.1 i hi, es_nt 25 0 wk (by decide) (by decide) (fun j hj => absurd hj (Nat.not_lt_zero j)) i hi]
  rcases Nat.mod_two_eq_zero_or_one kk with ev | ev
  · rw [ev] at d3
    rw [show (kk + 1) % 2 = 1 by omega] at d4
    have ma := es_load (n := nB * 4096) (q := a) (bl := 0) (b := 0) (by omega) (by omega) (by omega) b0 d3
    have cb := es_load_ch (n := nB * 4096) (q := m) (bl := 1) (b := 4096) (by omega) (by omega) b1 d4
    have ca : (ep_load (nB * 4096) pf 0 a).2.2 = nI kk := by rw [ma.2.2.2, d1]
    rw [if_pos (by rw [cb, ca, nI_leI (by omega) (by omega)]; omega)] at h
    obtain ⟨rfl, rfl⟩ := Prod.mk.inj h
    exact ⟨ma.1.symm, Or.inl ⟨rfl, fin _ _ ma rfl⟩⟩
  · rw [ev] at d3
    rw [show (kk + 1) % 2 = 0 by omega] at d4
    have mb := es_load (n := nB * 4096) (q := m) (bl := 1) (b := 4096) (by omega) (by omega) (by omega) b1 d3
    have ca := es_load_ch (n := nB * 4096) (q := a) (bl := 0) (b := 0) (by omega) (by omega) b0 d4
    have cb : (ep_load (nB * 4096) pf 1 m).2.2 = nI kk := by rw [mb.2.2.2, d1]
    rw [if_neg (by rw [cb, ca, nI_leI (by omega) (by omega)]; omega)] at h
    obtain ⟨rfl, rfl⟩ := Prod.mk.inj h
    exact ⟨mb.1.symm, Or.inr ⟨rfl, fin _ _ mb rfl⟩⟩
theorem es_kcount {x : Int32} : ek_kcount dn x = nI (ep_kcount dn x) := by
  unfold ek_kcount ep_kcount
  by_cases h1 : x < 0
  · rw [if_pos h1, if_pos h1]
    rfl
  · rw [if_neg h1, if_neg h1]
    by_cases h2 : x ≤ 3
    · rw [if_pos h2, if_pos h2]
      by_cases h3 : dn = 0
      · rw [if_pos h3, if_pos h3]
        rfl
      · rw [if_neg h3, if_neg h3]
        rfl
    · rw [if_neg h2, if_neg h2]
      rfl
theorem es_kcount0 {x : Int32} (h : ep_kcount dn x = 0) : dn = 0 := by
  unfold ep_kcount at h
  by_cases h1 : x < 0
  · rw [if_pos h1] at h
    exact absurd h (by decide)
  · rw [if_neg h1] at h
    by_cases h2 : x ≤ 3
    · rw [if_pos h2] at h
      by_cases h3 : dn = 0
      · exact h3
      · rw [if_neg h3] at h
        exact absurd h (by decide)
    · rw [if_neg h2] at h
      exact absurd h (by decide)
theorem es_Nof {fa fs : Nat → Nat} (hB : nB ≤ 128) (hR : es_Rw nB q fa fs) (hM : es_M a q.2.2.2.2 q.1 q.2.1 q.2.2.2.1 nk ch) : es_N a.1.2.1 a.1.2.2.1 fa (fun e => (fs e + 4095) / 4096) q.2.2.2.2 := by
  intro e he
  obtain ⟨l1, l2, l3⟩ := hM.2.1 e he
  obtain ⟨e1, e2, e3, e4⟩ := hR.1 e he
  obtain ⟨r1, r2, r3⟩ := hR.2.1 e he
  have r4 : fa e + (fs e + 4095) / 4096 ≤ nB := r3
  rw [l2, l3, e1, e3]
  exact ⟨rfl, ek_blk (by omega)⟩
theorem es_cnt (hB : nB ≤ 128) (hB2 : 2 ≤ nB) (hS : es_S nB K pf dn wr pw tf ln wf pg a dn2 wr2 lf q ch dk wk nk tk t) {x r b : Int32} {t0 us : ep_F} {of : Nat → Int64} {u : ep_F × (Nat → Int64)} {z : Int32 × ep_F}
    (h : (ep_kcount dn x = 0 ∧ r = 0 ∧ ∃ a9 : Int32, ((a9, u.1) = ep_count x a.1.2.2.2 a.2.2 ln a.1.2.1 a.1.2.2.1 nB t0) ∧ u.2 = vp_updL of (0 : Int32).toNatClampNeg a9.toInt64) ∨ (ep_kcount dn x = 1 ∧ r = 1 ∧ u = (t0, of)) ∨ (ep_kcount dn x = 2 ∧ r = 2 ∧ u = (t0, of)))
    (h2 : (b, z) = ek_count dn2 x q.2.2.2.2 nB t ch q.2.1 q.2.2.1 us) : z.1 = r ∧ (r = 0 → u.2 0 = b.toInt64) := by
  obtain ⟨fa, fs, kk, k1, hA, ⟨hT, ht⟩, hW, hR, hM, hM1, hD⟩ := hS
  have ek := es_kcount (dn := dn) (x := x)
  rw [hA.1] at h2
  unfold ek_count at h2
  rcases h with ⟨k0, rfl, a9, ha9, hu2⟩ | ⟨k0, rfl, rfl⟩ | ⟨k0, rfl, rfl⟩
  · have hm := hM (es_kcount0 k0)
    rw [if_pos (by rw [ek, k0, nI_0])] at h2
    unfold ep_count at ha9
    by_cases x0 : x = 0
    · subst x0
      rw [if_pos rfl] at ha9
      rw [if_pos (by decide), if_neg (fun h => h rfl)] at h2
      obtain ⟨rfl, -⟩ := Prod.mk.inj ha9
      obtain ⟨rfl, rfl⟩ := Prod.mk.inj h2
      exact ⟨rfl, fun _ => by rw [es_out hu2, hm.1]⟩
    · rw [if_neg x0] at ha9
      by_cases x1 : x = 1
      · subst x1
        rw [if_pos rfl] at ha9
        rw [if_neg (fun h => h rfl)] at h2
        obtain ⟨rfl, rfl⟩ := Prod.mk.inj h2
        refine ⟨rfl, fun _ => ?_⟩
        have e := es_count (te := t0) (us := us) hB hB2 hR.2 (es_Nof hB hR hm) q.2.1 (ma := q.2.2.1) (fun e he => ⟨(hR.1 e he).1, (hR.1 e he).2.1⟩)
        rw [hm.1] at ha9
        have e9 : a9 = (ep_free a.1.2.1 a.1.2.2.1 (nI q.2.2.2.2) nB t0).1 := congrArg Prod.fst ha9
        rw [es_out hu2, e9, e]
      · rw [if_neg x1] at ha9
        rw [if_pos x1, if_pos x0] at h2
        by_cases x2 : x = 2
        · rw [if_pos x2] at ha9
          rw [if_neg (fun h => h x2)] at h2
          obtain ⟨rfl, -⟩ := Prod.mk.inj ha9
          obtain ⟨rfl, rfl⟩ := Prod.mk.inj h2
          have eln : a9 = nI t := hT.1
          exact ⟨rfl, fun _ => by rw [es_out hu2, eln]⟩
        · rw [if_neg x2] at ha9
          rw [if_pos x2] at h2
          obtain ⟨rfl, -⟩ := Prod.mk.inj ha9
          obtain ⟨rfl, rfl⟩ := Prod.mk.inj h2
          exact ⟨rfl, fun _ => by rw [es_out hu2, hm.2.2.2]⟩
  · have e0 : ek_kcount dn x = 1 := by rw [ek, k0]; rfl
    rw [e0, if_neg (by decide)] at h2
    obtain ⟨rfl, rfl⟩ := Prod.mk.inj h2
    exact ⟨rfl, fun h => absurd h (by decide)⟩
  · have e0 : ek_kcount dn x = 2 := by rw [ek, k0]; rfl
    rw [e0, if_neg (by decide)] at h2
    obtain ⟨rfl, rfl⟩ := Prod.mk.inj h2
    exact ⟨rfl, fun h => absurd h (by decide)⟩
theorem es_dbl (hB : nB ≤ 128) (hB2 : 2 ≤ nB) (hS : es_S nB K pf dn wr pw tf ln wf pg a dn2 wr2 lf q ch dk wk nk tk t) {r b : Int32} {t0 us : ep_F} {of : Nat → Int64} {u : ep_F × (Nat → Int64)} {z : Int32 × ep_F}
    (h : (ep_kdown dn = 0 ∧ r = 0 ∧ ∃ a9 : Int32, ((a9, u.1) = ep_doubled a.1.2.1 a.1.2.2.1 a.1.2.2.2 nB t0) ∧ u.2 = vp_updL of (0 : Int32).toNatClampNeg a9.toInt64) ∨ (ep_kdown dn = 1 ∧ r = 9 ∧ u = (t0, of)) ∨ (ep_kdown dn = 2 ∧ r = 1 ∧ u = (t0, of)))
    (h2 : (b, z) = ek_doubled dn2 q.2.2.2.2 nB q.2.1 q.2.2.1 us) : z.1 = r ∧ (r = 0 → u.2 0 = b.toInt64) := by
  obtain ⟨fa, fs, kk, k1, hA, hT, hW, hR, hM, hM1, hD⟩ := hS
  rw [hA.1] at h2
  unfold ek_doubled ek_kdown at h2
  rcases h with ⟨k0, rfl, a9, ha9, hu2⟩ | ⟨k0, rfl, rfl⟩ | ⟨k0, rfl, rfl⟩
  · have hd := es_kd0 k0
    have hm := hM hd
    rw [if_pos hd, if_pos rfl] at h2
    obtain ⟨rfl, rfl⟩ := Prod.mk.inj h2
    obtain ⟨e1, e2⟩ := es_doubled (te := t0) (us := us) hB hB2 hR.2 (es_Nof hB hR hm) q.2.1 (ma := q.2.2.1) (fun e he => ⟨(hR.1 e he).1, (hR.1 e he).2.1⟩)
    rw [hm.1] at ha9
    have e9 : a9 = (ep_doubled a.1.2.1 a.1.2.2.1 (nI q.2.2.2.2) nB t0).1 := congrArg Prod.fst ha9
    exact ⟨rfl, fun _ => by rw [es_out hu2, e9, e1, e2]⟩
  · exact absurd k0 (ep_kdown_n1 dn)
  · have hd := es_kd2 k0
    rw [if_neg hd, if_neg (by decide)] at h2
    obtain ⟨rfl, rfl⟩ := Prod.mk.inj h2
    exact ⟨rfl, fun h => absurd h (by decide)⟩
end EST
theorem es_I0 (p : Nat) : es_I (fun _ => 0) p 0 := by
  have e3 : (0 : Int32) = es_B3 0 := by decide +kernel
  have e2 : (0 : Int32) = es_B2 0 := by decide +kernel
  have e1 : (0 : Int32) = es_B1 0 := by decide +kernel
  have e0 : (0 : Int32) = es_B0 0 := by decide +kernel
  exact ⟨e3, e2, e1, e0⟩
theorem es_init {nB : Nat} : es_S nB 0 (fun _ => 0) 0 0 (-1) (fun _ => 0) 0 (fun _ => 0) (fun _ => 0) ((fun _ => 0, fun _ => 0, fun _ => 0, 0), fun _ => 0, 0) 0 0 (-1) (fun _ => 0, fun _ => 0, fun _ => 0, fun _ => 0, 0) 0 (fun _ => 0) (fun _ => 0) (fun _ => 0) (fun _ => 0) 0 := by
  have e0 : nI 0 = 0 := nI_0
  refine ⟨fun _ => 0, fun _ => 0, 0, 0, ⟨rfl, Or.inl rfl, rfl, fun _ => ⟨rfl, Or.inl rfl⟩⟩, ⟨⟨e0.symm, fun j hj => absurd hj (Nat.not_lt_zero j), sb_fit0⟩, Nat.zero_le _⟩, ⟨fun _ _ _ => rfl, sb_fit0⟩, ⟨fun e he => absurd he (Nat.not_lt_zero e), fun e he => absurd he (Nat.not_lt_zero e), fun e d he => absurd he (Nat.not_lt_zero e)⟩, fun _ => ⟨e0.symm, fun e he => absurd he (Nat.not_lt_zero e), fun _ _ => rfl, rfl⟩, fun h => absurd h (by decide), e0.symm, Nat.le_refl 0, ⟨es_I0 0, ?_, fun i hi => es_I0 _, fun e he => absurd he (Nat.not_lt_zero e)⟩, ?_, Or.inr ⟨rfl, rfl⟩, fun e he => absurd he (Nat.not_lt_zero e)⟩
  · show es_I (fun _ => 0) 4 (nI 0)
    rw [e0]
    exact es_I0 4
  · rw [e0]
    exact es_I0 _
