/-! the program's state and the reference's: one relation, kept by every call -/
def es_Rw (nB : Nat) (q : ek_H) (fa fs : Nat → Nat) : Prop := (∀ e, e < q.2.2.2.2 → q.2.1 e = nI (fa e) ∧ q.2.2.1 e = nI ((fs e + 4095) / 4096) ∧ q.2.2.2.1 e = nI (fs e) ∧ 1 ≤ fs e) ∧ es_R nB q.2.2.2.2 fa (fun e => (fs e + 4095) / 4096)
def es_Dk (K : Nat) (pf dk : ep_F) (q : ek_H) (fa fs : Nat → Nat) (nk : ep_F) (ch : Int32) (kk k1 : Nat) : Prop :=
  ch = nI kk ∧ kk ≤ K ∧ es_Pg (fun j => pf (4096 * (kk % 2) + j)) q.2.2.2.2 q.1 q.2.1 q.2.2.2.1 nk ch ∧ es_I pf (4096 * ((kk + 1) % 2)) (nI k1) ∧ (k1 < kk ∨ (k1 = 0 ∧ kk = 0)) ∧ ∀ e, e < q.2.2.2.2 → ∀ j, j < fs e → pf (4096 * fa e + j) &&& 255 = dk (4096 * fa e + j) &&& 255
def es_A (dn wr pw dn2 wr2 lf : Int32) : Prop := dn2 = dn ∧ (dn = 0 ∨ dn = 1) ∧ wr2 = wr ∧ (dn = 0 → pw = lf ∧ (lf = -1 ∨ ∃ p : Nat, 1 ≤ p ∧ p ≤ 1000 ∧ lf = nI p))
def es_S (nB K : Nat) (pf : ep_F) (dn wr pw : Int32) (tf : ep_F) (ln : Int32) (wf pg : ep_F) (a : ep_M) (dn2 wr2 lf : Int32) (q : ek_H) (ch : Int32) (dk wk nk tk : ep_F) (t : Nat) : Prop :=
  ∃ (fa fs : Nat → Nat) (kk k1 : Nat), es_A dn wr pw dn2 wr2 lf ∧ (es_T (tf, ln) (tk, t) ∧ t ≤ 4096 * nB) ∧ ((dn = 0 → ∀ i, i < 24 → wf i = wk i) ∧ sb_Fit pg) ∧ es_Rw nB q fa fs ∧ (dn = 0 → es_M a q.2.2.2.2 q.1 q.2.1 q.2.2.2.1 nk ch) ∧ (dn = 1 → a.1.2.2.2 = 0) ∧ es_Dk K pf dk q fa fs nk ch kk k1
section ESS
variable {nB K t : Nat} {pf tf wf pg dk wk nk tk : ep_F} {dn wr pw ln dn2 wr2 lf ch : Int32} {a : ep_M} {q : ek_H}
theorem es_S_up (h : es_S nB K pf dn wr pw tf ln wf pg a dn2 wr2 lf q ch dk wk nk tk t) {K2 : Nat} (hK : K ≤ K2) : es_S nB K2 pf dn wr pw tf ln wf pg a dn2 wr2 lf q ch dk wk nk tk t := by
  obtain ⟨fa, fs, kk, k1, hA, hT, hW, hR, hM, hM1, hD⟩ := h
  obtain ⟨d1, d2, d3⟩ := hD
  exact ⟨fa, fs, kk, k1, hA, hT, hW, hR, hM, hM1, d1, by omega, d3⟩
theorem es_room {j : Nat} (hB : nB ≤ 128) (ht : t ≤ 4096 * nB) (hj : j ≤ 100000) : ep_room (nB * 4096) (nI t) (nI j) = 0 ↔ ¬ nI t + nI j ≤ 4096 * nI nB := by
  unfold ep_room
  rw [nI_add, show (4096 : Int32) = nI 4096 from rfl, pk_mul, nI_leI (by omega) (by omega), pk_sub (by omega)]
  by_cases u : nI (nB * 4096 - t) < nI j
  · rw [if_pos u]
    rw [nI_ltI (by omega) (by omega)] at u
    exact ⟨fun _ => by omega, fun _ => rfl⟩
  · rw [if_neg u]
    rw [nI_ltI (by omega) (by omega)] at u
    exact ⟨fun h => absurd h (by decide), fun h => by omega⟩
theorem es_kput {x : Int32} (hB : nB ≤ 128) (ht : t ≤ 4096 * nB) : ek_kput dn x t nB = nI (ep_kput dn (nB * 4096) (nI t) x) := by
  unfold ek_kput ep_kput
  by_cases h1 : x < 1
  · rw [if_pos h1, if_pos h1]
    rfl
  · rw [if_neg h1, if_neg h1]
    by_cases h2 : x ≤ 8
    · rw [if_pos h2, if_pos h2]
      by_cases h3 : dn = 0
      · obtain ⟨j, a1, a2, rfl⟩ := ek_small h1 8 (by decide) h2
        have hr := es_room (nB := nB) (t := t) (j := j) hB ht (by omega)
        rw [if_neg (show ¬ ¬ dn = 0 from fun h => h h3), if_neg (show ¬ ¬ dn = 0 from fun h => h h3)]
        by_cases h4 : nI t + nI j ≤ 4096 * nI nB
        · rw [if_pos h4, if_pos (fun h => hr.mp h h4)]
          rfl
        · rw [if_neg h4, if_neg (fun h => h (hr.mpr h4))]
          rfl
      · rw [if_pos h3, if_pos h3]
        rfl
    · rw [if_neg h2, if_neg h2]
      rfl
theorem es_kfill {x : Int32} (hB : nB ≤ 128) (ht : t ≤ 4096 * nB) : ek_kfill dn x t nB = nI (ep_kfill dn (nB * 4096) (nI t) x) := by
  unfold ek_kfill ep_kfill
  by_cases h1 : x < 1
  · rw [if_pos h1, if_pos h1]
    rfl
  · rw [if_neg h1, if_neg h1]
    by_cases h2 : x ≤ 100000
    · rw [if_pos h2, if_pos h2]
      by_cases h3 : dn = 0
      · obtain ⟨j, a1, a2, rfl⟩ := ek_small h1 100000 (by decide) h2
        have hr := es_room (nB := nB) (t := t) (j := j) hB ht (by omega)
        rw [if_neg (show ¬ ¬ dn = 0 from fun h => h h3), if_neg (show ¬ ¬ dn = 0 from fun h => h h3)]
        by_cases h4 : nI t + nI j ≤ 4096 * nI nB
        · rw [if_pos h4, if_pos (fun h => hr.mp h h4)]
          rfl
        · rw [if_neg h4, if_neg (fun h => h (hr.mpr h4))]
          rfl
      · rw [if_pos h3, if_pos h3]
        rfl
    · rw [if_neg h2, if_neg h2]
      rfl
theorem es_kput0 {x : Int32} (hB : nB ≤ 128) (ht : t ≤ 4096 * nB) (h : ek_kput dn x t nB = 0) : ∃ j : Nat, 1 ≤ j ∧ j ≤ 8 ∧ x = nI j ∧ t + j ≤ 4096 * nB := by
  unfold ek_kput at h
  by_cases h1 : x < 1
  · rw [if_pos h1] at h
    exact absurd h (by decide)
  · rw [if_neg h1] at h
    by_cases h2 : x ≤ 8
    · rw [if_pos h2] at h
      obtain ⟨j, a1, a2, rfl⟩ := ek_small h1 8 (by decide) h2
      by_cases h3 : dn = 0
      · rw [if_neg (fun h => h h3)] at h
        by_cases h4 : nI t + nI j ≤ 4096 * nI nB
        · exact ⟨j, a1, a2, rfl, ek_sum hB ht (by omega) h4⟩
        · rw [if_neg h4] at h
          exact absurd h (by decide)
      · rw [if_pos h3] at h
        exact absurd h (by decide)
    · rw [if_neg h2] at h
      exact absurd h (by decide)
theorem es_kfill0 {x : Int32} (hB : nB ≤ 128) (ht : t ≤ 4096 * nB) (h : ek_kfill dn x t nB = 0) : ∃ j : Nat, 1 ≤ j ∧ j ≤ 100000 ∧ x = nI j ∧ t + j ≤ 4096 * nB := by
  unfold ek_kfill at h
  by_cases h1 : x < 1
  · rw [if_pos h1] at h
    exact absurd h (by decide)
  · rw [if_neg h1] at h
    by_cases h2 : x ≤ 100000
    · rw [if_pos h2] at h
      obtain ⟨j, a1, a2, rfl⟩ := ek_small h1 100000 (by decide) h2
      by_cases h3 : dn = 0
      · rw [if_neg (fun h => h h3)] at h
        by_cases h4 : nI t + nI j ≤ 4096 * nI nB
        · exact ⟨j, a1, a2, rfl, ek_sum hB ht (by omega) h4⟩
        · rw [if_neg h4] at h
          exact absurd h (by decide)
      · rw [if_pos h3] at h
        exact absurd h (by decide)
    · rw [if_neg h2] at h
      exact absurd h (by decide)
theorem es_out {of u2 : Nat → Int64} {x : Int32} (h : u2 = vp_updL of (0 : Int32).toNatClampNeg x.toInt64) : u2 0 = x.toInt64 := by
  rw [h, sb_cl0, pk_uLs]
theorem es_put (hB : nB ≤ 128) (hS : es_S nB K pf dn wr pw tf ln wf pg a dn2 wr2 lf q ch dk wk nk tk t) {v : Int64} {x r b : Int32} {of : Nat → Int64} {u : ep_T × (Nat → Int64)} {z : Int32 × ek_TT}
    (h : (ep_kput dn (nB * 4096) ln x = 0 ∧ r = 0 ∧ ∃ a9 : Int32, (a9 = u.1.2 ∧ u.1 = ep_putl (nB * 4096) v 9 (x - 1) (tf, ln)) ∧ u.2 = vp_updL of (0 : Int32).toNatClampNeg a9.toInt64) ∨ (ep_kput dn (nB * 4096) ln x = 1 ∧ r = 1 ∧ u = ((tf, ln), of)) ∨ (ep_kput dn (nB * 4096) ln x = 2 ∧ r = 2 ∧ u = ((tf, ln), of)))
    (h2 : (b, z) = ek_put dn2 v x t nB tk) : z.1 = r ∧ (r = 0 → u.2 0 = b.toInt64) ∧ es_S nB K pf dn wr pw u.1.1 u.1.2 wf pg a dn2 wr2 lf q ch dk wk nk z.2.1 z.2.2 := by
  obtain ⟨fa, fs, kk, k1, hA, ⟨hT, ht⟩, hrest⟩ := hS
  have eln : ln = nI t := hT.1
  have ek := es_kput (dn := dn) (x := x) hB ht
  rw [hA.1] at h2 ⊢
  rw [eln] at h
  unfold ek_put at h2
  rcases h with ⟨k0, rfl, a9, ⟨ha9, hu⟩, hu2⟩ | ⟨k0, rfl, rfl⟩ | ⟨k0, rfl, rfl⟩
  · have e0 : ek_kput dn x t nB = 0 := by rw [ek, k0, nI_0]
    rw [if_pos e0] at h2
    obtain ⟨rfl, rfl⟩ := Prod.mk.inj h2
    obtain ⟨j, j1, j8, rfl, hj⟩ := es_kput0 hB ht e0
    obtain ⟨g1, g2⟩ := es_putl (nt := nB * 4096) (v := v) (by omega) 9 j (tf, ln) (tk, t) j8 hT (by show t + j ≤ nB * 4096; omega)
    have g3 := g2 (by omega)
    rw [← eln] at hu
    rw [← hu] at g1
    refine ⟨rfl, fun _ => ?_, fa, fs, kk, k1, ⟨rfl, hA.2⟩, ⟨g1, ?_⟩, hrest⟩
    · rw [es_out hu2, ha9, g1.1]
    · show (ek_putl v 9 (nI j - 1) (tk, t)).2 ≤ 4096 * nB
      rw [g3]
      exact hj
  · have e0 : ek_kput dn x t nB = 1 := by rw [ek, k0]; rfl
    rw [e0, if_neg (by decide)] at h2
    obtain ⟨rfl, rfl⟩ := Prod.mk.inj h2
    exact ⟨rfl, fun h => absurd h (by decide), fa, fs, kk, k1, ⟨rfl, hA.2⟩, ⟨eln ▸ hT, ht⟩, hrest⟩
  · have e0 : ek_kput dn x t nB = 2 := by rw [ek, k0]; rfl
    rw [e0, if_neg (by decide)] at h2
    obtain ⟨rfl, rfl⟩ := Prod.mk.inj h2
    exact ⟨rfl, fun h => absurd h (by decide), fa, fs, kk, k1, ⟨rfl, hA.2⟩, ⟨eln ▸ hT, ht⟩, hrest⟩
theorem es_fill (hB : nB ≤ 128) (hS : es_S nB K pf dn wr pw tf ln wf pg a dn2 wr2 lf q ch dk wk nk tk t) {x y r b : Int32} {of : Nat → Int64} {u : ep_T × (Nat → Int64)} {z : Int32 × ek_TT}
    (h : (ep_kfill dn (nB * 4096) ln x = 0 ∧ r = 0 ∧ ∃ a9 : Int32, (a9 = u.1.2 ∧ u.1 = ep_fll (nB * 4096) y x (x.toNatClampNeg + 1) 0 (tf, ln)) ∧ u.2 = vp_updL of (0 : Int32).toNatClampNeg a9.toInt64) ∨ (ep_kfill dn (nB * 4096) ln x = 1 ∧ r = 1 ∧ u = ((tf, ln), of)) ∨ (ep_kfill dn (nB * 4096) ln x = 2 ∧ r = 2 ∧ u = ((tf, ln), of)))
    (h2 : (b, z) = ek_fill dn2 y x t nB tk) : z.1 = r ∧ (r = 0 → u.2 0 = b.toInt64) ∧ es_S nB K pf dn wr pw u.1.1 u.1.2 wf pg a dn2 wr2 lf q ch dk wk nk z.2.1 z.2.2 := by
  obtain ⟨fa, fs, kk, k1, hA, ⟨hT, ht⟩, hrest⟩ := hS
  have eln : ln = nI t := hT.1
  have ek := es_kfill (dn := dn) (x := x) hB ht
  rw [hA.1] at h2 ⊢
  rw [eln] at h
  unfold ek_fill at h2
  rcases h with ⟨k0, rfl, a9, ⟨ha9, hu⟩, hu2⟩ | ⟨k0, rfl, rfl⟩ | ⟨k0, rfl, rfl⟩
  · have e0 : ek_kfill dn x t nB = 0 := by rw [ek, k0, nI_0]
    rw [if_pos e0] at h2
    obtain ⟨rfl, rfl⟩ := Prod.mk.inj h2
    obtain ⟨j, j1, j8, rfl, hj⟩ := es_kfill0 hB ht e0
    rw [nI_clamp (by omega)] at hu ⊢
    obtain ⟨g1, g2⟩ := es_fll (nt := nB * 4096) (b := y) (n := nI j) (by omega) rfl j8 (j + 1) 0 (tf, ln) (tk, t) (by omega) hT (by show t + (j - 0) ≤ nB * 4096; omega)
    have g3 := g2 (by omega)
    rw [← eln] at hu
    rw [← hu] at g1
    refine ⟨rfl, fun _ => ?_, fa, fs, kk, k1, ⟨rfl, hA.2⟩, ⟨g1, ?_⟩, hrest⟩
    · rw [es_out hu2, ha9, g1.1]
    · show (ek_fll y (nI j) (j + 1) 0 (tk, t)).2 ≤ 4096 * nB
      rw [g3]
      exact hj
  · have e0 : ek_kfill dn x t nB = 1 := by rw [ek, k0]; rfl
    rw [e0, if_neg (by decide)] at h2
    obtain ⟨rfl, rfl⟩ := Prod.mk.inj h2
    exact ⟨rfl, fun h => absurd h (by decide), fa, fs, kk, k1, ⟨rfl, hA.2⟩, ⟨eln ▸ hT, ht⟩, hrest⟩
  · have e0 : ek_kfill dn x t nB = 2 := by rw [ek, k0]; rfl
    rw [e0, if_neg (by decide)] at h2
    obtain ⟨rfl, rfl⟩ := Prod.mk.inj h2
    exact ⟨rfl, fun h => absurd h (by decide), fa, fs, kk, k1, ⟨rfl, hA.2⟩, ⟨eln ▸ hT, ht⟩, hrest⟩
theorem es_kd0 (h : ep_kdown dn = 0) : dn = 0 := by
  unfold ep_kdown at h
  by_cases u : dn = 0
  · exact u
  · rw [if_neg u] at h
    exact absurd h (by decide)
theorem es_kd2 (h : ep_kdown dn = 2) : ¬ dn = 0 := by
  unfold ep_kdown at h
  by_cases u : dn = 0
  · rw [if_pos u] at h
    exact absurd h (by decide)
  · exact u
theorem es_T0 (h : es_T (tf, ln) (tk, t)) : es_T (tf, 0) (tk, 0) := ⟨nI_0.symm, fun j hj => absurd hj (Nat.not_lt_zero j), h.2.2⟩
theorem es_drop (hS : es_S nB K pf dn wr pw tf ln wf pg a dn2 wr2 lf q ch dk wk nk tk t) {r b : Int32} {of : Nat → Int64} {u : Int32 × (Nat → Int64)} {z : Int32 × Nat}
    (h : (ep_kdown dn = 0 ∧ r = 0 ∧ ∃ a9 : Int32, (a9 = ln ∧ u.1 = 0) ∧ u.2 = vp_updL of (0 : Int32).toNatClampNeg a9.toInt64) ∨ (ep_kdown dn = 1 ∧ r = 9 ∧ u = (ln, of)) ∨ (ep_kdown dn = 2 ∧ r = 1 ∧ u = (ln, of)))
    (h2 : (b, z) = ek_drop dn2 t) : z.1 = r ∧ (r = 0 → u.2 0 = b.toInt64) ∧ es_S nB K pf dn wr pw tf u.1 wf pg a dn2 wr2 lf q ch dk wk nk tk z.2 := by
  obtain ⟨fa, fs, kk, k1, hA, ⟨hT, ht⟩, hrest⟩ := hS
  have eln : ln = nI t := hT.1
  rw [hA.1] at h2 ⊢
  unfold ek_drop at h2
  rcases h with ⟨k0, rfl, a9, ⟨ha9, hu⟩, hu2⟩ | ⟨k0, rfl, rfl⟩ | ⟨k0, rfl, rfl⟩
  · rw [if_pos (es_kd0 k0)] at h2
    obtain ⟨rfl, rfl⟩ := Prod.mk.inj h2
    refine ⟨rfl, fun _ => ?_, fa, fs, kk, k1, ⟨rfl, hA.2⟩, ⟨by rw [hu]; exact es_T0 hT, Nat.zero_le _⟩, hrest⟩
    rw [es_out hu2, ha9, eln]
  · exact absurd k0 (ep_kdown_n1 dn)
  · rw [if_neg (es_kd2 k0)] at h2
    obtain ⟨rfl, rfl⟩ := Prod.mk.inj h2
    exact ⟨rfl, fun h => absurd h (by decide), fa, fs, kk, k1, ⟨rfl, hA.2⟩, ⟨hT, ht⟩, hrest⟩
theorem es_23 {x : Int32} : x < 24 ↔ x ≤ 23 := by
  rw [Int32.lt_iff_toInt_lt, Int32.le_iff_toInt_le]
  have a : (24 : Int32).toInt = 24 := by decide
  have b : (23 : Int32).toInt = 23 := by decide
  omega
theorem es_knote {x : Int32} : ek_knote dn x = nI (ep_knote dn x) := by
  unfold ek_knote ep_knote
  by_cases h1 : x < 0
  · rw [if_pos h1, if_pos h1]
    rfl
  · rw [if_neg h1, if_neg h1]
    by_cases h2 : x ≤ 23
    · rw [if_pos h2, if_pos (es_23.mpr h2)]
      by_cases h3 : dn = 0
      · rw [if_pos h3, if_pos h3]
        rfl
      · rw [if_neg h3, if_neg h3]
        rfl
    · rw [if_neg h2, if_neg (fun h => h2 (es_23.mp h))]
      rfl
theorem es_knote0 {x : Int32} (h : ep_knote dn x = 0) : dn = 0 ∧ ∃ j : Nat, j < 24 ∧ x = nI j := by
  unfold ep_knote at h
  by_cases h1 : x < 0
  · rw [if_pos h1] at h
    exact absurd h (by decide)
  · rw [if_neg h1] at h
    by_cases h2 : x < 24
    · rw [if_pos h2] at h
      by_cases h3 : dn = 0
      · obtain ⟨j, hj, rfl⟩ := nI_of h1
        have h4 : nI j < nI 24 := h2
        rw [nI_ltI hj (by decide)] at h4
        exact ⟨h3, j, h4, rfl⟩
      · rw [if_neg h3] at h
        exact absurd h (by decide)
    · rw [if_neg h2] at h
      exact absurd h (by decide)
theorem es_wish (hS : es_S nB K pf dn wr pw tf ln wf pg a dn2 wr2 lf q ch dk wk nk tk t) {x y r b : Int32} {of : Nat → Int64} {u : ep_F × (Nat → Int64)} {z : Int32 × ep_F}
    (h : (ep_knote dn x = 0 ∧ r = 0 ∧ ∃ a9 : Int32, (a9 = wf x.toNatClampNeg ∧ u.1 = upd wf x.toNatClampNeg y) ∧ u.2 = vp_updL of (0 : Int32).toNatClampNeg a9.toInt64) ∨ (ep_knote dn x = 1 ∧ r = 1 ∧ u = (wf, of)) ∨ (ep_knote dn x = 2 ∧ r = 2 ∧ u = (wf, of)))
    (h2 : (b, z) = ek_wish dn2 x y wk) : z.1 = r ∧ (r = 0 → u.2 0 = b.toInt64) ∧ es_S nB K pf dn wr pw tf ln u.1 pg a dn2 wr2 lf q ch dk z.2 nk tk t := by
  obtain ⟨fa, fs, kk, k1, hA, hT, ⟨hW, hpg⟩, hrest⟩ := hS
  rw [hA.1] at h2 ⊢
  have ek := es_knote (dn := dn) (x := x)
  unfold ek_wish at h2
  rcases h with ⟨k0, rfl, a9, ⟨ha9, hu⟩, hu2⟩ | ⟨k0, rfl, rfl⟩ | ⟨k0, rfl, rfl⟩
  · rw [if_pos (by rw [ek, k0, nI_0])] at h2
    obtain ⟨rfl, rfl⟩ := Prod.mk.inj h2
    obtain ⟨hd, j, hj, rfl⟩ := es_knote0 k0
    have hw := hW hd
    rw [nI_clamp (by omega)] at ha9 hu ⊢
    refine ⟨rfl, fun _ => ?_, fa, fs, kk, k1, ⟨rfl, hA.2⟩, hT, ⟨fun _ i hi => ?_, hpg⟩, hrest⟩
    · rw [es_out hu2, ha9, hw j hj]
    · rw [hu]
      show upd wf j y i = upd wk j y i
      by_cases e : i = j
      · rw [e, pk_us, pk_us]
      · rw [pk_un e, pk_un e]
        exact hw i hi
  · have e0 : ek_knote dn x = 1 := by rw [ek, k0]; rfl
    rw [e0, if_neg (by decide)] at h2
    obtain ⟨rfl, rfl⟩ := Prod.mk.inj h2
    exact ⟨rfl, fun h => absurd h (by decide), fa, fs, kk, k1, ⟨rfl, hA.2⟩, hT, ⟨hW, hpg⟩, hrest⟩
  · have e0 : ek_knote dn x = 2 := by rw [ek, k0]; rfl
    rw [e0, if_neg (by decide)] at h2
    obtain ⟨rfl, rfl⟩ := Prod.mk.inj h2
    exact ⟨rfl, fun h => absurd h (by decide), fa, fs, kk, k1, ⟨rfl, hA.2⟩, hT, ⟨hW, hpg⟩, hrest⟩
theorem es_note (hS : es_S nB K pf dn wr pw tf ln wf pg a dn2 wr2 lf q ch dk wk nk tk t) {x r b : Int32} {of : Nat → Int64} {u : Unit × (Nat → Int64)} {z : Int32}
    (h : (ep_knote dn x = 0 ∧ r = 0 ∧ ∃ a9 : Int32, (a9 = a.2.1 x.toNatClampNeg) ∧ u.2 = vp_updL of (0 : Int32).toNatClampNeg a9.toInt64) ∨ (ep_knote dn x = 1 ∧ r = 1 ∧ u = ((), of)) ∨ (ep_knote dn x = 2 ∧ r = 2 ∧ u = ((), of)))
    (h2 : (b, z) = ek_note dn2 x nk) : z = r ∧ (r = 0 → u.2 0 = b.toInt64) := by
  obtain ⟨fa, fs, kk, k1, hA, hT, hW, hR, hM, hM1, hD⟩ := hS
  rw [hA.1] at h2
  have ek := es_knote (dn := dn) (x := x)
  unfold ek_note at h2
  rcases h with ⟨k0, rfl, a9, ha9, hu2⟩ | ⟨k0, rfl, rfl⟩ | ⟨k0, rfl, rfl⟩
  · rw [if_pos (by rw [ek, k0, nI_0])] at h2
    obtain ⟨rfl, rfl⟩ := Prod.mk.inj h2
    obtain ⟨hd, j, hj, rfl⟩ := es_knote0 k0
    have hm := hM hd
    rw [nI_clamp (by omega)] at ha9 ⊢
    refine ⟨rfl, fun _ => ?_⟩
    rw [es_out hu2, ha9, hm.2.2.1 j hj]
  · have e0 : ek_knote dn x = 1 := by rw [ek, k0]; rfl
    rw [e0, if_neg (by decide)] at h2
    obtain ⟨rfl, rfl⟩ := Prod.mk.inj h2
    exact ⟨rfl, fun h => absurd h (by decide)⟩
  · have e0 : ek_knote dn x = 2 := by rw [ek, k0]; rfl
    rw [e0, if_neg (by decide)] at h2
    obtain ⟨rfl, rfl⟩ := Prod.mk.inj h2
    exact ⟨rfl, fun h => absurd h (by decide)⟩
end ESS
