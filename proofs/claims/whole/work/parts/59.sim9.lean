/-! change -/
theorem es_I_eq {f g : ep_F} {p r : Nat} {v : Int32} (h : es_I f p v) (hk : ∀ j, j < 4 → g (r + j) = f (p + j)) : es_I g r v := by
  obtain ⟨h3, h2, h1, h0⟩ := h
  exact ⟨(hk 0 (by omega)).trans h3, (hk 1 (by omega)).trans h2, (hk 2 (by omega)).trans h1, (hk 3 (by omega)).trans h0⟩
theorem es_Pg_keep {f g la fi si no : ep_F} {E : Nat} {ch : Int32} (hE : E ≤ 200) (h : es_Pg f E la fi si no ch) (hk : ∀ j, j < 4096 → g j = f j) : es_Pg g E la fi si no ch := by
  obtain ⟨h1, h2, h3, h4⟩ := h
  refine ⟨es_I_eq h1 (fun j hj => hk _ (by omega)), es_I_eq h2 (fun j hj => hk _ (by omega)), fun i hi => es_I_eq (h3 i hi) (fun j hj => hk _ (by omega)), fun e he => ?_⟩
  obtain ⟨a1, a2, a3⟩ := h4 e he
  exact ⟨es_I_eq a1 (fun j hj => hk _ (by omega)), es_I_eq a2 (fun j hj => hk _ (by omega)), es_I_eq a3 (fun j hj => hk _ (by omega))⟩
theorem es_Pg_congr {g la fi si no la1 fi1 si1 no1 : ep_F} {E : Nat} {ch : Int32} (h : es_Pg g E la fi si no ch) (h1 : ∀ e, e < E → la e = la1 e ∧ fi e = fi1 e ∧ si e = si1 e) (h2 : ∀ i, i < 24 → no i = no1 i) : es_Pg g E la1 fi1 si1 no1 ch := by
  obtain ⟨a1, a2, a3, a4⟩ := h
  refine ⟨a1, a2, fun i hi => by rw [← h2 i hi]; exact a3 i hi, fun e he => ?_⟩
  obtain ⟨e1, e2, e3⟩ := h1 e he
  rw [← e1, ← e2, ← e3]
  exact a4 e he
section ESC
variable {nB K t : Nat} {pf tf wf pg dk wk nk tk : ep_F} {dn wr pw ln dn2 wr2 lf ch : Int32} {a : ep_M} {q : ek_H}
theorem es_off {E b N : Nat} {fa fm : Nat → Nat} (hw : es_W fa fm E nB N b) {e x : Nat} (he : e < E) (h1 : fa e ≤ x) (h2 : x < fa e + fm e) : x < b ∨ b + N ≤ x := by
  rcases Nat.lt_or_ge x b with u | u
  · exact Or.inl u
  · rcases Nat.lt_or_ge x (b + N) with v | v
    · have c0 := hw.2.2 x u v
      have c1 := (es_c_pos fa fm x E).mpr ⟨e, he, h1, h2⟩
      omega
    · exact Or.inr v
theorem es_offB {E b N : Nat} {fa fs : Nat → Nat} (hw : es_W fa (fun e => (fs e + 4095) / 4096) E nB N b) {e j : Nat} (he : e < E) (hj : j < fs e) : 4096 * fa e + j < 4096 * b ∨ 4096 * (b + N) ≤ 4096 * fa e + j := by
  rcases es_off hw he (x := fa e + j / 4096) (by omega) (by show fa e + j / 4096 < fa e + (fs e + 4095) / 4096; omega) with u | u
  · left; omega
  · right; omega
theorem es_Dk_keep {fa fs : Nat → Nat} {kk k1 b N : Nat} {pf1 : ep_F} (hE : q.2.2.2.2 ≤ 200) (hD : es_Dk K pf dk q fa fs nk ch kk k1) (hw : es_W fa (fun e => (fs e + 4095) / 4096) q.2.2.2.2 nB N b) (hk : ∀ j, (j < 4096 * b ∨ 4096 * (b + N) ≤ j) → pf1 j = pf j) : es_Dk (K + 1) pf1 dk q fa fs nk ch kk k1 := by
  obtain ⟨d1, d2, d3, d4, d5, d6⟩ := hD
  have hb := hw.1
  refine ⟨d1, by omega, es_Pg_keep hE d3 (fun j hj => hk _ (by omega)), es_I_eq d4 (fun j hj => hk _ (by omega)), d5, fun e he j hj => ?_⟩
  rw [hk _ (es_offB hw he hj)]
  exact d6 e he j hj
/-- the manifest's write -/
theorem es_Dk_new {fa1 fs1 : Nat → Nat} {kk : Nat} {pf1 pg1 dk1 nk1 : ep_F} {q1 : ek_H} {k9 : ep_M} (hK : K ≤ 100000) (hE1 : q1.2.2.2.2 ≤ 200) (hkk : kk ≤ K) (hch : ch = nI kk) (hR1 : es_Rw nB q1 fa1 fs1) (hM1 : es_M k9 q1.2.2.2.2 q1.1 q1.2.1 q1.2.2.2.1 nk1 (ch + 1))
    (hold : es_I pf1 (4096 * (kk % 2)) ch) (hp : pg1 = ep_store k9.1 k9.2.1 k9.2.2 4096 pg) (hy : ∀ e, e < q1.2.2.2.2 → ∀ j, j < fs1 e → pf1 (4096 * fa1 e + j) &&& 255 = dk1 (4096 * fa1 e + j) &&& 255) :
    es_Dk (K + 1) (va_cpy pg1 pf1 0 (4096 * ((kk + 1) % 2)) 4096) dk1 q1 fa1 fs1 nk1 (ch + 1) (kk + 1) kk := by
  obtain ⟨m1, m2, m3, m4⟩ := hM1
  have ep : es_Pg pg1 q1.2.2.2.2 q1.1 q1.2.1 q1.2.2.2.1 nk1 (ch + 1) := by
    rw [hp, show k9.1 = (k9.1.1, k9.1.2.1, k9.1.2.2.1, nI q1.2.2.2.2) from by rw [← m1], m4]
    exact es_Pg_congr (es_store hE1) (fun e he => m2 e he) m3
  refine ⟨by rw [hch, nI_1], by omega, es_Pg_keep hE1 ep (fun j hj => ?_), ?_, Or.inl (Nat.lt_succ_self kk), fun e he j hj => ?_⟩
  · show va_cpy pg1 pf1 0 (4096 * ((kk + 1) % 2)) 4096 (4096 * ((kk + 1) % 2) + j) = pg1 j
    rw [pk_cpy_in (by omega) (by omega)]
    congr 1
    omega
  · rw [hch] at hold
    refine es_I_eq hold (fun j hj => ?_)
    rw [pk_cpy_out (by omega)]
    congr 1
    omega
  · have r1 := (hR1.2.1 e he).1
    rw [pk_cpy_out (by omega)]
    exact hy e he j hj
theorem es_core (hB : nB ≤ 128) (hB8 : 8 ≤ nB) (hK : K ≤ 100000) {fa fs fa1 fs1 : Nat → Nat} {kk k1 b N nw nx : Nat} {first lab fr to : Int32} {k9 : ep_M} {us : ep_F}
    (hlf : pw = lf ∧ (lf = -1 ∨ ∃ p : Nat, 1 ≤ p ∧ p ≤ 1000 ∧ lf = nI p)) (hT : es_T (tf, ln) (tk, t)) (ht : t ≤ 4096 * nB) (hN : N = (t + 4095) / 4096) (hpg : sb_Fit pg) (hW : ∀ i, i < 24 → wf i = wk i)
    (hR : es_Rw nB q fa fs) (hD : es_Dk K pf dk q fa fs nk ch kk k1) (hw : es_W fa (fun e => (fs e + 4095) / 4096) q.2.2.2.2 nB N b) (hf : 1 ≤ N → first = nI b)
    (hR1 : es_Rw nB (ek_happen lab fr to (nI b) N q dk tk t nk wk).1 fa1 fs1) (hM1 : es_M k9 (ek_happen lab fr to (nI b) N q dk tk t nk wk).1.2.2.2.2 (ek_happen lab fr to (nI b) N q dk tk t nk wk).1.1 (ek_happen lab fr to (nI b) N q dk tk t nk wk).1.2.1 (ek_happen lab fr to (nI b) N q dk tk t nk wk).1.2.2.2.1 (ek_happen lab fr to (nI b) N q dk tk t nk wk).2.2 (ch + 1))
    (hy : ∀ pf1 : ep_F, es_D b 0 N tf pf pf1 → ∀ e, e < (ek_happen lab fr to (nI b) N q dk tk t nk wk).1.2.2.2.2 → ∀ j, j < fs1 e → pf1 (4096 * fa1 e + j) &&& 255 = (ek_happen lab fr to (nI b) N q dk tk t nk wk).2.1 (4096 * fa1 e + j) &&& 255)
    {X : ep_C} (hX : X = ep_carry nw nx (nB * 4096) (nB * 4096) (pf, 0, wr, pw) tf ln wf pg a.1.2.2.2 a.2.2 a.2.1 k9 first) {Y : Int32 × ek_CS} (hY : Y = ek_c3 lab fr to (nI b) N q dk tk t nk wk us 0 wr lf ch) :
    Y.2.1 = 0 ∧ X.1 = Y.1 ∧ ((X.2.1 = (nw, nx) ∧ es_S nB (K + 1) X.2.2.1.1 X.2.2.1.2.1 X.2.2.1.2.2.1 X.2.2.1.2.2.2 tf X.2.2.2.1 X.2.2.2.2.1 X.2.2.2.2.2.1 ((a.1.1, a.1.2.1, a.1.2.2.1, X.2.2.2.2.2.2.1), X.2.2.2.2.2.2.2.2, X.2.2.2.2.2.2.2.1) Y.2.2.1 Y.2.2.2.1 Y.2.2.2.2.1 Y.2.2.2.2.2.2.1.1 Y.2.2.2.2.2.2.2.1 Y.2.2.2.2.2.2.1.2.1 wk Y.2.2.2.2.2.2.1.2.2 tk Y.2.2.2.2.2.1)
      ∨ (X.2.1 = (nx, nw) ∧ es_S nB (K + 1) X.2.2.1.1 X.2.2.1.2.1 X.2.2.1.2.2.1 X.2.2.1.2.2.2 tf X.2.2.2.1 X.2.2.2.2.1 X.2.2.2.2.2.1 k9 Y.2.2.1 Y.2.2.2.1 Y.2.2.2.2.1 Y.2.2.2.2.2.2.1.1 Y.2.2.2.2.2.2.2.1 Y.2.2.2.2.2.2.1.2.1 wk Y.2.2.2.2.2.2.1.2.2 tk Y.2.2.2.2.2.1)) := by
  have hE := (es_E hR.2 (by omega)).2
  have hE1 := (es_E hR1.2 (by omega)).2
  have eln : ln = nI t := hT.1
  have eN : ep_blocks ln = nI N := by
    rw [eln, hN]
    exact ek_blk (by omega)
  have hbN := hw.2.1
  have hb2 := hw.1
  obtain ⟨hpw, hlf⟩ := hlf
  obtain ⟨d1, d2, d3, d4, d5, d6⟩ := id hD
  have n10 : ¬ (1 : Int32) = 0 := by decide
  have n01 : ¬ (0 : Int32) = 1 := by decide
  have hch1 : k9.2.2 &&& 1 = nI ((kk + 1) % 2) := by
    rw [hM1.2.2.2, d1, nI_1]
    exact pk_andN (by omega) 1 (by decide)
  have keepD : ∀ pf1 : ep_F, es_D b 0 N tf pf pf1 → ∀ j, (j < 4096 * b ∨ 4096 * (b + N) ≤ j) → pf1 j = pf j := fun pf1 hd j hj => hd.2 j (by omega)
  have old : ∀ pf1 : ep_F, es_D b 0 N tf pf pf1 → es_I pf1 (4096 * (kk % 2)) ch := fun pf1 hd => es_I_eq d3.1 (fun j hj => (keepD pf1 hd _ (by omega)).trans (by rw [Nat.zero_add]))
  have co1 : ∀ w9 : Int32, ∃ pf1 : ep_F, ep_co (nB * 4096) (nB * 4096) tf first (nI N) 129 0 (pf, 0, w9, -1) = (1, pf1, 0, w9 + nI N, -1) ∧ es_D b 0 N tf pf pf1 := by
    intro w9
    rcases Nat.eq_zero_or_pos N with u | u
    · rw [u]
      refine ⟨pf, ?_, fun j x1 x2 => by omega, fun _ _ => rfl⟩
      rw [ep_co, if_pos (by decide), nI_0, Int32.add_zero]
    · rw [hf u]
      obtain ⟨pf1, e1, e2⟩ := es_co (nb := nB * 4096) (nt := nB * 4096) (a := b) (row := N) (tb := tf) (by omega) (by omega) (by omega) (by omega) (by omega) 129 0 pf w9 (by decide) (by omega)
      exact ⟨pf1, e1, e2⟩
  have co2 : ∀ (w9 : Int32) (p : Nat), 1 ≤ p → p ≤ 1000 → ∃ pf1 : ep_F, (N < p ∧ ep_co (nB * 4096) (nB * 4096) tf first (nI N) 129 0 (pf, 0, w9, nI p) = (1, pf1, 0, w9 + nI N, nI (p - N)) ∧ es_D b 0 N tf pf pf1) ∨ (p ≤ N ∧ ep_co (nB * 4096) (nB * 4096) tf first (nI N) 129 0 (pf, 0, w9, nI p) = (0, pf1, 1, w9 + nI p, 0) ∧ ∀ j, (j < 4096 * b ∨ 4096 * (b + N) ≤ j) → pf1 j = pf j) := by
    intro w9 p p1 p2
    rcases Nat.eq_zero_or_pos N with u | u
    · rw [u]
      refine ⟨pf, Or.inl ⟨p1, ?_, fun j x1 x2 => by omega, fun _ _ => rfl⟩⟩
      rw [ep_co, if_pos (by decide), nI_0, Int32.add_zero, Nat.sub_zero]
    · rw [hf u]
      obtain ⟨pf1, hh⟩ := es_cop (nb := nB * 4096) (nt := nB * 4096) (a := b) (row := N) (tb := tf) (by omega) (by omega) (by omega) (by omega) (by omega) 129 0 pf w9 p (by decide) (by omega) p1 p2
      refine ⟨pf1, ?_⟩
      rcases hh with ⟨e0, e1, e2⟩ | ⟨e0, e1, e2⟩
      · exact Or.inl ⟨e0, e1, e2⟩
      · exact Or.inr ⟨e0, e1, fun j hj => e2 j (by omega)⟩
  have wb : ∀ (pf1 : ep_F) (w9 p9 : Int32), ep_write (nB * 4096) (pf1, 0, w9, p9) 4096 (ep_store k9.1 k9.2.1 k9.2.2 4096 pg) (k9.2.2 &&& 1) 0 = if p9 ≤ 0 then (1, va_cpy (ep_store k9.1 k9.2.1 k9.2.2 4096 pg) pf1 0 (4096 * ((kk + 1) % 2)) 4096, 0, w9 + 1, p9) else (ep_not (ep_down (p9 - 1)), va_cpy (ep_store k9.1 k9.2.1 k9.2.2 4096 pg) pf1 0 (4096 * ((kk + 1) % 2)) 4096, ep_down (p9 - 1), w9 + 1, p9 - 1) := by
    intro pf1 w9 p9
    rw [hch1]
    exact es_write (b := (kk + 1) % 2) (f := 0) (by omega) (by decide) (by omega) (by decide)
  have mk : ∀ pf1 : ep_F, es_D b 0 N tf pf pf1 → es_Dk (K + 1) (va_cpy (ep_store k9.1 k9.2.1 k9.2.2 4096 pg) pf1 0 (4096 * ((kk + 1) % 2)) 4096) (ek_happen lab fr to (nI b) N q dk tk t nk wk).2.1 (ek_happen lab fr to (nI b) N q dk tk t nk wk).1 fa1 fs1 (ek_happen lab fr to (nI b) N q dk tk t nk wk).2.2 (ch + 1) (kk + 1) kk := fun pf1 hd => es_Dk_new hK (by omega) d2 d1 hR1 hM1 (old pf1 hd) rfl (hy pf1 hd)
  unfold ep_carry at hX
  rw [eN, hpw] at hX
  unfold ek_c3 at hY
  rcases hlf with hl | ⟨p, p1, p2, hl⟩
  · rw [hl] at hX hY
    obtain ⟨pf1, e1, e2⟩ := co1 wr
    rw [e1, if_pos (show ¬ (1 : Int32) = 0 from n10)] at hX
    unfold ep_carry2 at hX
    rw [wb, if_pos (show (-1 : Int32) ≤ 0 by decide), if_pos (show ¬ (1 : Int32) = 0 from n10)] at hX
    rw [if_pos (show (-1 : Int32) < 0 by decide), if_neg (show ¬ (0 : Int32) ≤ -1 by decide)] at hY
    subst hX hY
    refine ⟨rfl, rfl, Or.inr ⟨rfl, fa1, fs1, kk + 1, kk, ⟨rfl, Or.inl rfl, ?_, fun _ => ⟨rfl, Or.inl rfl⟩⟩, ⟨es_T0 hT, Nat.zero_le _⟩, ⟨fun _ => hW, ep_store_fit hpg⟩, hR1, fun _ => hM1, fun h => absurd h n01, mk pf1 e2⟩⟩
    show wr + (nI N + 1) = wr + nI N + 1
    rw [Int32.add_assoc]
  · rw [hl] at hX hY
    have eN1 : nI N + 1 = nI (N + 1) := nI_1 N
    rw [if_neg (nI_pos (by omega))] at hY
    obtain ⟨pf1, hh⟩ := co2 wr p p1 p2
    rcases hh with ⟨e0, e1, e2⟩ | ⟨e0, e1, e2⟩
    · rw [e1, if_pos (show ¬ (1 : Int32) = 0 from n10)] at hX
      unfold ep_carry2 at hX
      have ep : nI (p - N) - 1 = nI (p - N - 1) := pk_sub (a := p - N) (b := 1) (by omega)
      rw [wb, if_neg (nI_nle (by omega) (by omega)), ep, es_down (by omega)] at hX
      by_cases u : p - N - 1 = 0
      · rw [if_pos u, if_neg (show ¬ ¬ ep_not 1 = 0 by decide)] at hX
        rw [eN1, if_neg (show ¬ nI (N + 1) < nI p by rw [nI_ltI (by omega) (by omega)]; omega), if_neg (show ¬ ¬ nI p = nI (N + 1) from fun h => h (by rw [show p = N + 1 by omega]))] at hY
        subst hX hY
        refine ⟨rfl, rfl, Or.inl ⟨rfl, fa1, fs1, kk + 1, kk, ⟨rfl, Or.inr rfl, ?_, fun h => absurd h n10⟩, ⟨es_T0 hT, Nat.zero_le _⟩, ⟨fun h => absurd h n10, ep_store_fit hpg⟩, hR1, fun h => absurd h n10, fun _ => rfl, mk pf1 e2⟩⟩
        show wr + nI p = wr + nI N + 1
        rw [Int32.add_assoc, eN1, show p = N + 1 by omega]
      · rw [if_neg u, es_not0, if_pos (show ¬ (1 : Int32) = 0 from n10)] at hX
        rw [eN1, if_pos (show nI (N + 1) < nI p by rw [nI_ltI (by omega) (by omega)]; omega), if_pos (nI_pos' (by omega))] at hY
        have ep2 : nI p - nI (N + 1) = nI (p - N - 1) := by
          rw [pk_sub (by omega), show p - (N + 1) = p - N - 1 by omega]
        rw [ep2] at hY
        subst hX hY
        refine ⟨rfl, eN1, Or.inr ⟨rfl, fa1, fs1, kk + 1, kk, ⟨rfl, Or.inl rfl, ?_, fun _ => ⟨rfl, Or.inr ⟨p - N - 1, by omega, by omega, rfl⟩⟩⟩, ⟨es_T0 hT, Nat.zero_le _⟩, ⟨fun _ => hW, ep_store_fit hpg⟩, hR1, fun _ => hM1, fun h => absurd h n01, mk pf1 e2⟩⟩
        show wr + nI (N + 1) = wr + nI N + 1
        rw [Int32.add_assoc, eN1]
    · rw [e1, if_neg (show ¬ ¬ (0 : Int32) = 0 from fun h => h rfl)] at hX
      rw [eN1, if_neg (show ¬ nI (N + 1) < nI p by rw [nI_ltI (by omega) (by omega)]; omega), if_pos (show ¬ nI p = nI (N + 1) by rw [nI_eq (by omega) (by omega)]; omega)] at hY
      have hE200 : q.2.2.2.2 ≤ 200 := by omega
      subst hX hY
      exact ⟨rfl, rfl, Or.inl ⟨rfl, fa, fs, kk, k1, ⟨rfl, Or.inr rfl, rfl, fun h => absurd h n10⟩, ⟨es_T0 hT, Nat.zero_le _⟩, ⟨fun h => absurd h n10, hpg⟩, hR, fun h => absurd h n10, fun _ => rfl, es_Dk_keep hE200 hD hw e2⟩⟩
end ESC
