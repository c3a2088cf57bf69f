/-! the rows that stay -/
/-- how many of the first i rows stay, and which -/
def es_g (la : ep_F) (fr to : Int32) : Nat → Nat × (Nat → Nat)
  | 0 => (0, fun e => e)
  | i + 1 => if la i < fr ∨ to < la i then ((es_g la fr to i).1 + 1, fun e => if e = (es_g la fr to i).1 then i else (es_g la fr to i).2 e) else es_g la fr to i
theorem es_g_yes {la : ep_F} {fr to : Int32} {i : Nat} (h : la i < fr ∨ to < la i) : es_g la fr to (i + 1) = ((es_g la fr to i).1 + 1, fun e => if e = (es_g la fr to i).1 then i else (es_g la fr to i).2 e) := by
  rw [es_g, if_pos h]
theorem es_g_no {la : ep_F} {fr to : Int32} {i : Nat} (h : ¬ (la i < fr ∨ to < la i)) : es_g la fr to (i + 1) = es_g la fr to i := by
  rw [es_g, if_neg h]
theorem es_g_in (la : ep_F) (fr to : Int32) : ∀ i, (es_g la fr to i).1 ≤ i ∧ (∀ e, e < (es_g la fr to i).1 → (es_g la fr to i).2 e < i) ∧ ∀ e d, e < d → d < (es_g la fr to i).1 → (es_g la fr to i).2 e < (es_g la fr to i).2 d := by
  intro i
  induction i with
  | zero => exact ⟨Nat.le_refl 0, fun e he => absurd he (Nat.not_lt_zero e), fun e d _ hd => absurd hd (Nat.not_lt_zero d)⟩
  | succ i ih =>
    obtain ⟨i1, i2, i3⟩ := ih
    by_cases h : la i < fr ∨ to < la i
    · rw [es_g_yes h]
      refine ⟨by show (es_g la fr to i).1 + 1 ≤ i + 1; omega, fun e he => ?_, fun e d hed hd => ?_⟩
      · show (if e = (es_g la fr to i).1 then i else (es_g la fr to i).2 e) < i + 1
        have he2 : e < (es_g la fr to i).1 + 1 := he
        by_cases q : e = (es_g la fr to i).1
        · rw [if_pos q]
          omega
        · rw [if_neg q]
          have := i2 e (by omega)
          omega
      · show (if e = (es_g la fr to i).1 then i else (es_g la fr to i).2 e) < (if d = (es_g la fr to i).1 then i else (es_g la fr to i).2 d)
        have hd2 : d < (es_g la fr to i).1 + 1 := hd
        rw [if_neg (show ¬ e = (es_g la fr to i).1 by omega)]
        by_cases q : d = (es_g la fr to i).1
        · rw [if_pos q]
          exact i2 e (by omega)
        · rw [if_neg q]
          exact i3 e d hed (by omega)
    · rw [es_g_no h]
      exact ⟨by omega, fun e he => by have := i2 e he; omega, i3⟩
theorem es_g_eq {la lb : ep_F} {fr to : Int32} : ∀ i, (∀ e, e < i → la e = lb e) → es_g la fr to i = es_g lb fr to i := by
  intro i
  induction i with
  | zero => intro _; rfl
  | succ i ih =>
    intro h
    rw [es_g, es_g, ih (fun e he => h e (by omega)), h i (by omega)]
def es_K3 (q : ep_R) (la fi si : ep_F) (g : Nat × (Nat → Nat)) : Prop := q.2.2.2 = nI g.1 ∧ ∀ e, e < g.1 → q.1 e = la (g.2 e) ∧ q.2.1 e = fi (g.2 e) ∧ q.2.2.1 e = si (g.2 e)
theorem es_K3_add {q : ep_R} {la fi si : ep_F} {fr to : Int32} {i : Nat} (hi : i < 200) (h : es_K3 q la fi si (es_g la fr to i)) (hk : la i < fr ∨ to < la i) : es_K3 (ep_add q (la i) (fi i) (si i)).2 la fi si (es_g la fr to (i + 1)) := by
  obtain ⟨h1, h2⟩ := h
  have hc := (es_g_in la fr to i).1
  rw [es_add (by omega) h1, es_g_yes hk]
  refine ⟨rfl, fun e he => ?_⟩
  have he2 : e < (es_g la fr to i).1 + 1 := he
  show upd q.1 (es_g la fr to i).1 (la i) e = la (if e = (es_g la fr to i).1 then i else (es_g la fr to i).2 e) ∧ upd q.2.1 (es_g la fr to i).1 (fi i) e = fi (if e = (es_g la fr to i).1 then i else (es_g la fr to i).2 e) ∧ upd q.2.2.1 (es_g la fr to i).1 (si i) e = si (if e = (es_g la fr to i).1 then i else (es_g la fr to i).2 e)
  by_cases u : e = (es_g la fr to i).1
  · rw [if_pos u, u, pk_us, pk_us, pk_us]
    exact ⟨rfl, rfl, rfl⟩
  · rw [if_neg u, pk_un u, pk_un u, pk_un u]
    exact h2 e (by omega)
theorem es_fol {la fi si : ep_F} {fr to : Int32} {E : Nat} (hE : E ≤ 200) : ∀ (k i : Nat) (q : ep_R), i + k = 201 → i ≤ E → es_K3 q la fi si (es_g la fr to i) → es_K3 (ep_fol la fi si (nI E) fr to k i q) la fi si (es_g la fr to E) := by
  intro k
  induction k with
  | zero => intro i q h1 h2; omega
  | succ k ih =>
    intro i q h1 h2 h3
    rw [ep_fol]
    by_cases c : nI E ≤ nI i
    · rw [if_pos c]
      rw [nI_leI (by omega) (by omega)] at c
      have e : i = E := by omega
      subst e
      exact h3
    · rw [if_neg c]
      rw [nI_leI (by omega) (by omega)] at c
      by_cases c2 : (200 : Int32) ≤ nI i
      · have c3 : nI 200 ≤ nI i := c2
        rw [nI_leI (by decide) (by omega)] at c3
        omega
      · rw [if_neg c2]
        refine ih (i + 1) _ (by omega) (by omega) ?_
        unfold ep_fol1
        rw [nI_clamp (by omega)]
        by_cases u : la i < fr
        · rw [if_pos u]
          exact es_K3_add (by omega) h3 (Or.inl u)
        · rw [if_neg u]
          by_cases v : la i ≤ to
          · rw [if_pos v, es_g_no (fun h => h.elim u (fun w => absurd v (Int32.not_le.mpr w)))]
            exact h3
          · rw [if_neg v]
            exact es_K3_add (by omega) h3 (Or.inr (Int32.not_le.mp v))
def es_K4 (q : ek_H) (la fi ma sz : ep_F) (g : Nat × (Nat → Nat)) : Prop := q.2.2.2.2 = g.1 ∧ ∀ e, e < g.1 → q.1 e = la (g.2 e) ∧ q.2.1 e = fi (g.2 e) ∧ q.2.2.1 e = ma (g.2 e) ∧ q.2.2.2.1 e = sz (g.2 e)
theorem es_goes {la : ep_F} {i : Nat} {fr to : Int32} (hi : i < 2 ^ 31) : ek_goes la i fr to = 0 ↔ (la i < fr ∨ to < la i) := by
  unfold ek_goes
  rw [nI_clamp hi]
  by_cases u : la i < fr
  · rw [if_pos u]
    exact ⟨fun _ => Or.inl u, fun _ => rfl⟩
  · rw [if_neg u]
    by_cases v : to < la i
    · rw [if_pos v]
      exact ⟨fun _ => Or.inr v, fun _ => rfl⟩
    · rw [if_neg v]
      exact ⟨fun h => absurd h (by decide), fun h => (h.elim u v).elim⟩
theorem es_hp {la fi ma sz : ep_F} {fr to : Int32} {E : Nat} (hE : E ≤ 199) : ∀ (k i : Nat) (q : ek_H), i + k = E + 1 → i ≤ E → es_K4 q la fi ma sz (es_g la fr to i) → (∀ e, i ≤ e → q.1 e = la e ∧ q.2.1 e = fi e ∧ q.2.2.1 e = ma e ∧ q.2.2.2.1 e = sz e) → es_K4 (ek_hp fr to E k i q) la fi ma sz (es_g la fr to E) := by
  intro k
  induction k with
  | zero => intro i q h1 h2; omega
  | succ k ih =>
    intro i q h1 h2 h3 h4
    rw [ek_hp]
    by_cases c : nI E ≤ nI i
    · rw [if_pos c]
      rw [nI_leI (by omega) (by omega)] at c
      have e : i = E := by omega
      subst e
      exact h3
    · rw [if_neg c]
      rw [nI_leI (by omega) (by omega)] at c
      have hgi := es_goes (la := q.1) (i := i) (fr := fr) (to := to) (by omega)
      rw [(h4 i (Nat.le_refl i)).1] at hgi
      obtain ⟨g1, g2⟩ := h3
      have hc := (es_g_in la fr to i).1
      by_cases u : ek_goes q.1 i fr to = 0
      · rw [if_neg (fun h => h u), g1, nI_clamp (by omega), nI_clamp (by omega)]
        have hk := hgi.mp u
        obtain ⟨a1, a2, a3, a4⟩ := h4 i (Nat.le_refl i)
        refine ih (i + 1) _ (by omega) (by omega) ?_ (fun e he => ?_)
        · rw [es_g_yes hk]
          refine ⟨rfl, fun e he => ?_⟩
          have he2 : e < (es_g la fr to i).1 + 1 := he
          show upd q.1 (es_g la fr to i).1 (q.1 i) e = la (if e = (es_g la fr to i).1 then i else (es_g la fr to i).2 e) ∧ upd q.2.1 (es_g la fr to i).1 (q.2.1 i) e = fi (if e = (es_g la fr to i).1 then i else (es_g la fr to i).2 e) ∧ upd q.2.2.1 (es_g la fr to i).1 (q.2.2.1 i) e = ma (if e = (es_g la fr to i).1 then i else (es_g la fr to i).2 e) ∧ upd q.2.2.2.1 (es_g la fr to i).1 (q.2.2.2.1 i) e = sz (if e = (es_g la fr to i).1 then i else (es_g la fr to i).2 e)
          by_cases v : e = (es_g la fr to i).1
          · rw [if_pos v, v, pk_us, pk_us, pk_us, pk_us]
            exact ⟨a1, a2, a3, a4⟩
          · rw [if_neg v, pk_un v, pk_un v, pk_un v, pk_un v]
            exact g2 e (by omega)
        · show upd q.1 (es_g la fr to i).1 (q.1 i) e = la e ∧ upd q.2.1 (es_g la fr to i).1 (q.2.1 i) e = fi e ∧ upd q.2.2.1 (es_g la fr to i).1 (q.2.2.1 i) e = ma e ∧ upd q.2.2.2.1 (es_g la fr to i).1 (q.2.2.2.1 i) e = sz e
          have v : e ≠ (es_g la fr to i).1 := by omega
          rw [pk_un v, pk_un v, pk_un v, pk_un v]
          exact h4 e (by omega)
      · rw [if_pos u]
        refine ih (i + 1) q (by omega) (by omega) ?_ (fun e he => h4 e (by omega))
        rw [es_g_no (fun h => u (hgi.mpr h))]
        exact ⟨g1, g2⟩
theorem es_st {la : ep_F} {fr to : Int32} {E : Nat} (hE : E ≤ 199) : ∀ k i : Nat, i ≤ E → E ≤ i + k → ek_st la E fr to k i (nI (es_g la fr to i).1) = nI (es_g la fr to E).1 := by
  intro k
  induction k with
  | zero =>
    intro i h1 h2
    have e : i = E := by omega
    subst e
    rfl
  | succ k ih =>
    intro i h1 h2
    rw [ek_st]
    by_cases c : nI E ≤ nI i
    · rw [if_pos c]
      rw [nI_leI (by omega) (by omega)] at c
      have e : i = E := by omega
      subst e
      rfl
    · rw [if_neg c]
      rw [nI_leI (by omega) (by omega)] at c
      have hg := es_goes (la := la) (i := i) (fr := fr) (to := to) (by omega)
      have r := ih (i + 1) (by omega) (by omega)
      by_cases u : ek_goes la i fr to = 0
      · rw [if_pos u, nI_1]
        rw [es_g_yes (hg.mp u)] at r
        exact r
      · rw [if_neg u, Int32.add_zero]
        rw [es_g_no (fun h => u (hg.mpr h))] at r
        exact r
/-! notes -/
theorem es_tn {w : ep_F} : ∀ (k i : Nat) (g : ep_F), i + k = 25 → i ≤ 24 → (∀ j, j < i → g j = w j) → ∀ j, j < 24 → ep_tn w k i g j = w j := by
  intro k
  induction k with
  | zero => intro i g h1 h2; omega
  | succ k ih =>
    intro i g h1 h2 h3
    rw [ep_tn]
    by_cases c : (24 : Int32) ≤ nI i
    · rw [if_pos c]
      have c3 : nI 24 ≤ nI i := c
      rw [nI_leI (by decide) (by omega)] at c3
      exact fun j hj => h3 j (by omega)
    · have hi := ey_lt24 h2 c
      rw [if_neg c, if_neg (by rw [nI_leI (by decide) (by omega)]; omega), nI_clamp (by omega)]
      refine ih (i + 1) _ (by omega) (by omega) (fun j hj => ?_)
      by_cases u : j = i
      · rw [u, pk_us]
      · rw [pk_un u]
        exact h3 j (by omega)
theorem es_nt {w : ep_F} : ∀ (k i : Nat) (g : ep_F), i + k = 25 → i ≤ 24 → (∀ j, j < i → g j = w j) → ∀ j, j < 24 → ek_nt w k i g j = w j := by
  intro k
  induction k with
  | zero => intro i g h1 h2; omega
  | succ k ih =>
    intro i g h1 h2 h3
    rw [ek_nt]
    by_cases c : (24 : Int32) ≤ nI i
    · rw [if_pos c]
      have c3 : nI 24 ≤ nI i := c
      rw [nI_leI (by decide) (by omega)] at c3
      exact fun j hj => h3 j (by omega)
    · have hi := ey_lt24 h2 c
      rw [if_neg c, nI_clamp (by omega)]
      refine ih (i + 1) _ (by omega) (by omega) (fun j hj => ?_)
      by_cases u : j = i
      · rw [u, pk_us]
      · rw [pk_un u]
        exact h3 j (by omega)
theorem es_cpN {f g : ep_F} {j : Nat} (hj : j < 24) : ep_cpN f g j = f j := by
  have a : (0 : Int32).toNatClampNeg = 0 := by decide
  have b : (24 : Int32).toNatClampNeg = 24 := by decide
  unfold ep_cpN
  rw [a, b]
  exact sb_cpy0 hj
/-! blocks written -/
theorem es_not0 : ep_not 0 = 1 := by decide
theorem es_write {nb ns : Nat} {pf g : ep_F} {wr pw : Int32} {b f : Nat} (hnb : nb < 2 ^ 30) (hns : ns < 2 ^ 30) (hb : 4096 * b + 4096 ≤ nb) (hf : f + 4096 ≤ ns) : ep_write nb (pf, 0, wr, pw) ns g (nI b) (nI f) = if pw ≤ 0 then (1, va_cpy g pf f (4096 * b) 4096, 0, wr + 1, pw) else (ep_not (ep_down (pw - 1)), va_cpy g pf f (4096 * b) 4096, ep_down (pw - 1), wr + 1, pw - 1) := by
  have e1 : nI b * 4096 = nI (4096 * b) := by
    rw [show (4096 : Int32) = nI 4096 from rfl, pk_mul, Nat.mul_comm]
  have e2 : nI nb - 4096 = nI (nb - 4096) := pk_sub (a := nb) (b := 4096) (by omega)
  have e3 : nI ns - 4096 = nI (ns - 4096) := pk_sub (a := ns) (b := 4096) (by omega)
  have e4 : (4096 : Int32).toNatClampNeg = 4096 := by decide
  unfold ep_write
  rw [e1, e2, e3, if_neg (fun h => h rfl), if_neg (nI_pos (by omega)), if_neg (by rw [nI_ltI (by omega) (by omega)]; omega), if_neg (nI_pos (by omega)), if_pos (by rw [nI_leI (by omega) (by omega)]; omega), nI_clamp (by omega), nI_clamp (by omega), e4]
  rfl
theorem es_down {p : Nat} (hp : p ≤ 1000) : ep_down (nI p) = if p = 0 then 1 else 0 := by
  unfold ep_down
  by_cases u : p = 0
  · rw [if_pos u, if_pos (by rw [u, nI_0])]
  · rw [if_neg u, if_neg (nI_ne0 (by omega) (by omega))]
/-- from block i on the row at a holds the tape's bytes; all else is as it was -/
def es_D (a i row : Nat) (tb pf pf1 : ep_F) : Prop := (∀ j, 4096 * i ≤ j → j < 4096 * row → pf1 (4096 * a + j) = tb j) ∧ ∀ j, (j < 4096 * (a + i) ∨ 4096 * (a + row) ≤ j) → pf1 j = pf j
theorem es_D_step {a i row : Nat} {tb pf pf1 : ep_F} (hi : i < row) (h : es_D a (i + 1) row tb (va_cpy tb pf (4096 * i) (4096 * (a + i)) 4096) pf1) : es_D a i row tb pf pf1 := by
  obtain ⟨h1, h2⟩ := h
  refine ⟨fun j a1 a2 => ?_, fun j hj => ?_⟩
  · rcases Nat.lt_or_ge j (4096 * (i + 1)) with u | u
    · rw [h2 _ (by omega), pk_cpy_in (by omega) (by omega)]
      congr 1
      omega
    · exact h1 j u a2
  · rw [h2 j (by omega), pk_cpy_out (by omega)]
theorem es_co {nb nt a row : Nat} {tb : ep_F} (hnb : nb < 2 ^ 30) (hnt : nt < 2 ^ 30) (h1 : 4096 * (a + row) ≤ nb) (h2 : 4096 * row ≤ nt) (hrow : row ≤ 128) : ∀ (k i : Nat) (pf : ep_F) (wr : Int32), i + k = 129 → i ≤ row → ∃ pf1 : ep_F, ep_co nb nt tb (nI a) (nI row) k i (pf, 0, wr, -1) = (1, pf1, 0, wr + nI (row - i), -1) ∧ es_D a i row tb pf pf1 := by
  intro k
  induction k with
  | zero => intro i pf wr a1 a2; omega
  | succ k ih =>
    intro i pf wr a1 a2
    rw [ep_co]
    by_cases c : nI row ≤ nI i
    · rw [if_pos c]
      rw [nI_leI (by omega) (by omega)] at c
      refine ⟨pf, ?_, fun j b1 b2 => by omega, fun _ _ => rfl⟩
      rw [show row - i = 0 by omega, nI_0, Int32.add_zero]
    · rw [if_neg c]
      rw [nI_leI (by omega) (by omega)] at c
      have ef : nI i * 4096 = nI (4096 * i) := by
        rw [show (4096 : Int32) = nI 4096 from rfl, pk_mul, Nat.mul_comm]
      rw [nI_add, ef, es_write hnb hnt (by omega) (by omega), if_pos (show (-1 : Int32) ≤ 0 by decide), if_pos (show ¬ (1 : Int32) = 0 by decide)]
      obtain ⟨pf1, b1, b2⟩ := ih (i + 1) (va_cpy tb pf (4096 * i) (4096 * (a + i)) 4096) (wr + 1) (by omega) (by omega)
      refine ⟨pf1, b1.trans ?_, es_D_step (by omega) b2⟩
      rw [Int32.add_assoc, show (1 : Int32) = nI 1 from rfl, nI_add, show 1 + (row - (i + 1)) = row - i by omega]
theorem es_cop {nb nt a row : Nat} {tb : ep_F} (hnb : nb < 2 ^ 30) (hnt : nt < 2 ^ 30) (h1 : 4096 * (a + row) ≤ nb) (h2 : 4096 * row ≤ nt) (hrow : row ≤ 128) : ∀ (k i : Nat) (pf : ep_F) (wr : Int32) (p : Nat), i + k = 129 → i ≤ row → 1 ≤ p → p ≤ 1000 → ∃ pf1 : ep_F, (row - i < p ∧ ep_co nb nt tb (nI a) (nI row) k i (pf, 0, wr, nI p) = (1, pf1, 0, wr + nI (row - i), nI (p - (row - i))) ∧ es_D a i row tb pf pf1) ∨ (p ≤ row - i ∧ ep_co nb nt tb (nI a) (nI row) k i (pf, 0, wr, nI p) = (0, pf1, 1, wr + nI p, 0) ∧ ∀ j, (j < 4096 * (a + i) ∨ 4096 * (a + row) ≤ j) → pf1 j = pf j) := by
  intro k
  induction k with
  | zero => intro i pf wr p a1 a2; omega
  | succ k ih =>
    intro i pf wr p a1 a2 a3 a4
    rw [ep_co]
    by_cases c : nI row ≤ nI i
    · rw [if_pos c]
      rw [nI_leI (by omega) (by omega)] at c
      refine ⟨pf, Or.inl ⟨by omega, ?_, fun j b1 b2 => by omega, fun _ _ => rfl⟩⟩
      rw [show row - i = 0 by omega, nI_0, Int32.add_zero, Nat.sub_zero]
    · rw [if_neg c]
      rw [nI_leI (by omega) (by omega)] at c
      have ef : nI i * 4096 = nI (4096 * i) := by
        rw [show (4096 : Int32) = nI 4096 from rfl, pk_mul, Nat.mul_comm]
      have ep : nI p - 1 = nI (p - 1) := pk_sub (a := p) (b := 1) (by omega)
      rw [nI_add, ef, es_write hnb hnt (by omega) (by omega), if_neg (nI_nle (by omega) (by omega)), ep, es_down (by omega)]
      by_cases u : p - 1 = 0
      · rw [if_pos u, if_neg (show ¬ ¬ ep_not 1 = 0 by decide)]
        refine ⟨va_cpy tb pf (4096 * i) (4096 * (a + i)) 4096, Or.inr ⟨by omega, ?_, fun j hj => pk_cpy_out (by omega)⟩⟩
        rw [u, show p = 1 by omega]
        rfl
      · rw [if_neg u, es_not0, if_pos (show ¬ (1 : Int32) = 0 by decide)]
        obtain ⟨pf1, hh⟩ := ih (i + 1) (va_cpy tb pf (4096 * i) (4096 * (a + i)) 4096) (wr + 1) (p - 1) (by omega) (by omega) (by omega) (by omega)
        refine ⟨pf1, ?_⟩
        rcases hh with ⟨b0, b1, b2⟩ | ⟨b0, b1, b2⟩
        · refine Or.inl ⟨by omega, b1.trans ?_, es_D_step (by omega) b2⟩
          rw [Int32.add_assoc, show (1 : Int32) = nI 1 from rfl, nI_add, show 1 + (row - (i + 1)) = row - i by omega, show p - 1 - (row - (i + 1)) = p - (row - i) by omega]
        · refine Or.inr ⟨by omega, b1.trans ?_, fun j hj => ?_⟩
          · rw [Int32.add_assoc, show (1 : Int32) = nI 1 from rfl, nI_add, show 1 + (p - 1) = p by omega]
          · rw [b2 j (by omega), pk_cpy_out (by omega)]
/-- the reference's own disk -/
theorem es_dk {a t : Nat} {tf : ep_F} (h : 4096 * a + t ≤ 524288) : ∀ (k i : Nat) (dk : ep_F), i + k = t + 1 → i ≤ t → (∀ j, i ≤ j → j < t → ek_dk (nI a) tf t k i dk (4096 * a + j) = vp_nar .byte (tf j)) ∧ ∀ j, (j < 4096 * a + i ∨ 4096 * a + t ≤ j) → ek_dk (nI a) tf t k i dk j = dk j := by
  intro k
  induction k with
  | zero => intro i dk a1 a2; omega
  | succ k ih =>
    intro i dk a1 a2
    rw [ek_dk]
    by_cases c : nI t ≤ nI i
    · rw [if_pos c]
      rw [nI_leI (by omega) (by omega)] at c
      exact ⟨fun j b1 b2 => by omega, fun _ _ => rfl⟩
    · rw [if_neg c]
      rw [nI_leI (by omega) (by omega)] at c
      have e : 4096 * nI a + nI i = nI (4096 * a + i) := by
        rw [show (4096 : Int32) = nI 4096 from rfl, pk_mul, nI_add]
      rw [e, nI_clamp (by omega), nI_clamp (by omega)]
      obtain ⟨r1, r2⟩ := ih (i + 1) (upd dk (4096 * a + i) (vp_nar .byte (tf i))) (by omega) (by omega)
      refine ⟨fun j b1 b2 => ?_, fun j hj => ?_⟩
      · rcases Nat.eq_or_lt_of_le b1 with u | u
        · subst u
          rw [r2 _ (by omega), pk_us]
        · exact r1 j u b2
      · rw [r2 j (by omega), pk_un (by omega)]
theorem es_nar2 (x : Int32) : vp_nar .byte x &&& 255 = x &&& 255 := by
  rw [vp_nar_byte, bp_b]
