/-! a manifest read back -/
def es_M (q : ep_M) (E : Nat) (la fi si no : ep_F) (ch : Int32) : Prop := q.1.2.2.2 = nI E ∧ (∀ e, e < E → q.1.1 e = la e ∧ q.1.2.1 e = fi e ∧ q.1.2.2.1 e = si e) ∧ (∀ i, i < 24 → q.2.1 i = no i) ∧ q.2.2 = ch
theorem es_add {r : ep_R} {i : Nat} {a b c : Int32} (hi : i < 200) (h : r.2.2.2 = nI i) : ep_add r a b c = (1, upd r.1 i a, upd r.2.1 i b, upd r.2.2.1 i c, nI (i + 1)) := by
  have hc : nI i < 200 := (nI_ltI (a := i) (b := 200) (by omega) (by decide)).mpr hi
  unfold ep_add
  rw [h, if_neg (nI_pos (by omega)), if_pos hc, nI_clamp (by omega), nI_1]
theorem es_at {f : ep_F} {b p : Nat} {v : Int32} (h : es_I (fun j => f (b + j)) p v) : es_I f (b + p) v := h
theorem es_lr {n b E : Nat} {f la fi si no : ep_F} {ch : Int32} (hn : n < 2 ^ 30) (hb : b + 4096 ≤ n) (hE : E ≤ 200) (hp : es_Pg (fun j => f (b + j)) E la fi si no ch) : ∀ (k i : Nat) (r : ep_R), i + k = 201 → i ≤ E → r.2.2.2 = nI i → (∀ e, e < i → r.1 e = la e ∧ r.2.1 e = fi e ∧ r.2.2.1 e = si e) → (ep_lr n f (nI b) (nI E) k i r).2.2.2 = nI E ∧ ∀ e, e < E → (ep_lr n f (nI b) (nI E) k i r).1 e = la e ∧ (ep_lr n f (nI b) (nI E) k i r).2.1 e = fi e ∧ (ep_lr n f (nI b) (nI E) k i r).2.2.1 e = si e := by
  intro k
  induction k with
  | zero => intro i r h1 h2; omega
  | succ k ih =>
    intro i r h1 h2 h3 h4
    rw [ep_lr]
    by_cases c : nI E ≤ nI i
    · rw [if_pos c]
      rw [nI_leI (by omega) (by omega)] at c
      have e : i = E := by omega
      subst e
      exact ⟨h3, h4⟩
    · rw [if_neg c]
      rw [nI_leI (by omega) (by omega)] at c
      obtain ⟨p1, p2, p3⟩ := hp.2.2.2 i (by omega)
      have ea : nI b + 104 + 12 * nI i = nI (b + (104 + 12 * i)) := by
        rw [show (104 : Int32) = nI 104 from rfl, show (12 : Int32) = nI 12 from rfl, pk_mul, nI_add, nI_add]
        congr 1
        omega
      have eb : nI (b + (104 + 12 * i)) + 4 = nI (b + (108 + 12 * i)) := by
        rw [show (4 : Int32) = nI 4 from rfl, nI_add]
        congr 1
        omega
      have ec : nI (b + (104 + 12 * i)) + 8 = nI (b + (112 + 12 * i)) := by
        rw [show (8 : Int32) = nI 8 from rfl, nI_add]
        congr 1
        omega
      rw [ea, eb, ec, es_readInt hn (by omega) (es_at p1), es_readInt hn (by omega) (es_at p2), es_readInt hn (by omega) (es_at p3), es_add (by omega) h3]
      refine ih (i + 1) _ (by omega) (by omega) rfl (fun e he => ?_)
      rcases Nat.lt_or_ge e i with q | q
      · obtain ⟨a1, a2, a3⟩ := h4 e q
        exact ⟨by show upd r.1 i (la i) e = la e; rw [pk_un (by omega)]; exact a1, by show upd r.2.1 i (fi i) e = fi e; rw [pk_un (by omega)]; exact a2, by show upd r.2.2.1 i (si i) e = si e; rw [pk_un (by omega)]; exact a3⟩
      · have e2 : e = i := by omega
        subst e2
        exact ⟨pk_us, pk_us, pk_us⟩
theorem es_ln {n b E : Nat} {f la fi si no : ep_F} {ch : Int32} (hn : n < 2 ^ 30) (hb : b + 4096 ≤ n) (hp : es_Pg (fun j => f (b + j)) E la fi si no ch) : ∀ (k i : Nat) (g : ep_F), i + k = 25 → i ≤ 24 → (∀ j, j < i → g j = no j) → ∀ j, j < 24 → ep_ln n f (nI b) k i g j = no j := by
  intro k
  induction k with
  | zero => intro i r h1 h2; omega
  | succ k ih =>
    intro i g h1 h2 h3
    rw [ep_ln]
    by_cases c : (24 : Int32) ≤ nI i
    · rw [if_pos c]
      have c2 : nI 24 ≤ nI i := c
      rw [nI_leI (by decide) (by omega)] at c2
      exact fun j hj => h3 j (by omega)
    · rw [if_neg c]
      have hi := ey_lt24 h2 c
      have ea : nI b + 8 + 4 * nI i = nI (b + (8 + 4 * i)) := by
        rw [show (8 : Int32) = nI 8 from rfl, show (4 : Int32) = nI 4 from rfl, pk_mul, nI_add, nI_add]
        congr 1
        omega
      rw [ea, es_readInt hn (by omega) (es_at (hp.2.2.1 i hi)), nI_clamp (by omega)]
      refine ih (i + 1) _ (by omega) (by omega) (fun j hj => ?_)
      rcases Nat.lt_or_ge j i with q | q
      · rw [pk_un (by omega)]
        exact h3 j q
      · have e2 : j = i := by omega
        subst e2
        exact pk_us
theorem es_load {n b E : Nat} {f la fi si no : ep_F} {ch bl : Int32} {q : ep_M} (hn : n < 2 ^ 30) (hb : b + 4096 ≤ n) (hE : E ≤ 200) (hbl : bl * 4096 = nI b) (hp : es_Pg (fun j => f (b + j)) E la fi si no ch) : es_M (ep_load n f bl q) E la fi si no ch := by
  unfold ep_load
  rw [hbl]
  have e0 : nI b + 0 = nI (b + 0) := by
    rw [show (0 : Int32) = nI 0 from rfl, nI_add]
  have e4 : nI b + 4 = nI (b + 4) := by
    rw [show (4 : Int32) = nI 4 from rfl, nI_add]
  rw [e0, e4, es_readInt hn (by omega) (es_at hp.1), es_readInt hn (by omega) (es_at hp.2.1)]
  have ec : (if nI E < 200 then nI E else 200 : Int32) = nI E := by
    by_cases h : nI E < 200
    · rw [if_pos h]
    · rw [if_neg h]
      have h2 : ¬ nI E < nI 200 := h
      rw [nI_ltI (by omega) (by decide)] at h2
      have e : E = 200 := by omega
      rw [e]
      rfl
  rw [ec]
  obtain ⟨r1, r2⟩ := es_lr hn hb hE hp 201 0 (q.1.1, q.1.2.1, q.1.2.2.1, 0) (by decide) (by omega) nI_0.symm (fun e he => absurd he (Nat.not_lt_zero _))
  exact ⟨r1, r2, es_ln hn hb hp 25 0 _ (by decide) (by decide) (fun j hj => absurd hj (Nat.not_lt_zero _)), rfl⟩
/-- the changes of a block's manifest -/
theorem es_load_ch {n b : Nat} {f : ep_F} {ch bl : Int32} {q : ep_M} (hn : n < 2 ^ 30) (hb : b + 4 ≤ n) (hbl : bl * 4096 = nI b) (hp : es_I f b ch) : (ep_load n f bl q).2.2 = ch := by
  show ep_readInt n f (bl * 4096 + 0) = ch
  rw [hbl, show nI b + 0 = nI (b + 0) from by rw [show (0 : Int32) = nI 0 from rfl, nI_add]]
  exact es_readInt hn (by omega) hp
