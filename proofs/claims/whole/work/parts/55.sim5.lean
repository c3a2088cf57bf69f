/-! sums and scans over the blocks -/
def es_sum (f : Nat → Nat) : Nat → Nat
  | 0 => 0
  | n + 1 => es_sum f n + f n
theorem es_sum_s (f : Nat → Nat) (n : Nat) : es_sum f (n + 1) = es_sum f n + f n := rfl
theorem es_sum_add (f g : Nat → Nat) : ∀ n, es_sum (fun b => f b + g b) n = es_sum f n + es_sum g n := by
  intro n
  induction n with
  | zero => rfl
  | succ n ih =>
    have e : es_sum (fun b => f b + g b) (n + 1) = es_sum (fun b => f b + g b) n + (f n + g n) := rfl
    rw [e, ih, es_sum_s, es_sum_s]
    omega
theorem es_sum_0 : ∀ n, es_sum (fun _ => 0) n = 0 := by
  intro n
  induction n with
  | zero => rfl
  | succ n ih => rw [es_sum_s, ih]
theorem es_sum_ind (a m : Nat) : ∀ n, es_sum (fun b => if a ≤ b ∧ b < a + m then 1 else 0) n = (if n ≤ a then 0 else if n ≤ a + m then n - a else m) := by
  intro n
  induction n with
  | zero => rw [es_sum, if_pos (Nat.zero_le a)]
  | succ n ih =>
    have e : es_sum (fun b => if a ≤ b ∧ b < a + m then 1 else 0) (n + 1) = es_sum (fun b => if a ≤ b ∧ b < a + m then 1 else 0) n + (if a ≤ n ∧ n < a + m then 1 else 0) := rfl
    rw [e, ih]
    by_cases h1 : n ≤ a
    · rw [if_pos h1]
      by_cases h2 : n + 1 ≤ a
      · rw [if_pos h2, if_neg (by omega)]
      · rw [if_neg h2]
        by_cases h3 : a ≤ n ∧ n < a + m
        · rw [if_pos h3, if_pos (by omega)]
          omega
        · rw [if_neg h3]
          split <;> omega
    · rw [if_neg h1, if_neg (show ¬ n + 1 ≤ a by omega)]
      by_cases h3 : a ≤ n ∧ n < a + m
      · rw [if_pos h3, if_pos (by omega), if_pos (by omega)]
        omega
      · rw [if_neg h3, if_neg (show ¬ n + 1 ≤ a + m by omega)]
        split <;> omega
theorem es_sum_c (fa fm : Nat → Nat) (n : Nat) : ∀ E, (∀ e, e < E → fa e + fm e ≤ n) → es_sum (fun b => es_c fa fm E b) n = es_sum fm E := by
  intro E
  induction E with
  | zero => intro _; exact es_sum_0 n
  | succ E ih =>
    intro h
    have e : es_sum (fun b => es_c fa fm (E + 1) b) n = es_sum (fun b => es_c fa fm E b + (if fa E ≤ b ∧ b < fa E + fm E then 1 else 0)) n := rfl
    have hE := h E (by omega)
    rw [e, es_sum_add, ih (fun e he => h e (by omega)), es_sum_ind, es_sum_s]
    congr 1
    split
    · omega
    · split <;> omega
theorem es_sum_le {f : Nat → Nat} (h0 : f 0 = 0) (h1 : f 1 = 0) (h : ∀ b, f b ≤ 1) : ∀ n, es_sum f (n + 2) ≤ n := by
  intro n
  induction n with
  | zero =>
    have e : es_sum f (0 + 2) = 0 + f 0 + f 1 := rfl
    rw [e, h0, h1]
    omega
  | succ n ih =>
    have e : es_sum f (n + 1 + 2) = es_sum f (n + 2) + f (n + 2) := rfl
    have := h (n + 2)
    omega
theorem es_sum_ge {f : Nat → Nat} : ∀ n, (∀ b, b < n → 1 ≤ f b) → n ≤ es_sum f n := by
  intro n
  induction n with
  | zero => intro _; exact Nat.zero_le _
  | succ n ih =>
    intro h
    rw [es_sum_s]
    have a := ih (fun b hb => h b (by omega))
    have b := h n (by omega)
    omega
theorem es_c_low {nB E : Nat} {fa fm : Nat → Nat} (h : es_R nB E fa fm) {b : Nat} (hb : b < 2) : es_c fa fm E b = 0 := by
  rcases Nat.eq_zero_or_pos (es_c fa fm E b) with q | q
  · exact q
  · obtain ⟨e, he, h1, h2⟩ := (es_c_pos fa fm b E).mp q
    have := (h.1 e he).1
    omega
theorem es_E {nB E : Nat} {fa fm : Nat → Nat} (h : es_R nB E fa fm) (hB : 2 ≤ nB) : es_sum fm E + 2 ≤ nB ∧ E + 2 ≤ nB := by
  have e1 := es_sum_c fa fm nB E (fun e he => (h.1 e he).2.2)
  obtain ⟨n, rfl⟩ : ∃ n, nB = n + 2 := ⟨nB - 2, by omega⟩
  have e2 := es_sum_le (f := fun b => es_c fa fm E b) (es_c_low h (by decide)) (es_c_low h (by decide)) (fun b => es_c_one h b) n
  have e3 := es_sum_ge (f := fm) E (fun e he => (h.1 e he).2.1)
  omega
theorem es_db {n : Nat} {T : ep_F} (hn : n ≤ 128) (hT : ∀ j, j < n → T j = nI 0 ∨ T j = nI 1) : ∀ k i : Nat, i ≤ n → ep_db n T k i 0 = 0 := by
  intro k
  induction k with
  | zero => intro i _; rfl
  | succ k ih =>
    intro i hi
    rw [ep_db]
    by_cases c : nI n ≤ nI i
    · rw [if_pos c]
    · rw [if_neg c]
      rw [nI_leI (by omega) (by omega)] at c
      have e : (if 0 < T (nI i).toNatClampNeg - 1 then T (nI i).toNatClampNeg - 1 else 0 : Int32) = 0 := by
        rw [nI_clamp (by omega)]
        rcases hT i (by omega) with h | h <;> rw [h] <;> decide
      rw [e]
      exact ih (i + 1) (by omega)
/-- 1 where a block is free -/
def es_f (fa fm : Nat → Nat) (E b : Nat) : Nat := if b < 2 ∨ 0 < es_c fa fm E b then 0 else 1
theorem es_fb {n E : Nat} {T : ep_F} {fa fm : Nat → Nat} (hn : n ≤ 128) (hE : E ≤ 200) (hT : ∀ j, j < n → T j = nI (es_c fa fm E j)) : ∀ k i : Nat, 2 ≤ i → i ≤ n → n ≤ i + k → ep_fb n T k i (nI (es_sum (es_f fa fm E) i)) = nI (es_sum (es_f fa fm E) n) := by
  intro k
  induction k with
  | zero =>
    intro i _ h1 h2
    have e : i = n := by omega
    subst e
    rfl
  | succ k ih =>
    intro i h0 h1 h2
    rw [ep_fb]
    by_cases c : nI n ≤ nI i
    · rw [if_pos c]
      rw [nI_leI (by omega) (by omega)] at c
      have e : i = n := by omega
      subst e
      rfl
    · rw [if_neg c]
      rw [nI_leI (by omega) (by omega)] at c
      have hc := es_c_le fa fm i E
      rw [nI_clamp (by omega), hT i (by omega)]
      rcases Nat.eq_zero_or_pos (es_c fa fm E i) with q | q
      · rw [if_neg (by rw [q]; exact fun h => h nI_0)]
        have e : nI (es_sum (es_f fa fm E) i) + 1 = nI (es_sum (es_f fa fm E) (i + 1)) := by
          rw [nI_1, es_sum_s]
          congr 2
          unfold es_f
          rw [if_neg (by omega)]
        rw [e]
        exact ih (i + 1) (by omega) (by omega) (by omega)
      · rw [if_pos (nI_ne0 q (by omega))]
        have e : es_sum (es_f fa fm E) i = es_sum (es_f fa fm E) (i + 1) := by
          rw [es_sum_s]
          unfold es_f
          rw [if_pos (Or.inr q)]
          rfl
        rw [e]
        exact ih (i + 1) (by omega) (by omega) (by omega)
theorem es_U0 {fa fm : Nat → Nat} {E j : Nat} : es_U fa fm E j = 0 ↔ ¬ (j < 2 ∨ 0 < es_c fa fm E j) := by
  unfold es_U
  by_cases q : j < 2 ∨ 0 < es_c fa fm E j
  · rw [if_pos q]
    exact ⟨fun h => absurd h (by decide), fun h => absurd q h⟩
  · rw [if_neg q]
    exact ⟨fun _ => q, fun _ => nI_0⟩
theorem es_cf {n E : Nat} {us : ep_F} {fa fm : Nat → Nat} (hn : n ≤ 128) (hU : ∀ j, j < 128 → us j = es_U fa fm E j) : ∀ k i : Nat, i ≤ n → n ≤ i + k → ek_cf us n k i (nI (es_sum (es_f fa fm E) i)) = nI (es_sum (es_f fa fm E) n) := by
  intro k
  induction k with
  | zero =>
    intro i h1 h2
    have e : i = n := by omega
    subst e
    rfl
  | succ k ih =>
    intro i h1 h2
    rw [ek_cf]
    by_cases c : nI n ≤ nI i
    · rw [if_pos c]
      rw [nI_leI (by omega) (by omega)] at c
      have e : i = n := by omega
      subst e
      rfl
    · rw [if_neg c]
      rw [nI_leI (by omega) (by omega)] at c
      rw [nI_clamp (by omega), hU i (by omega)]
      by_cases q : es_U fa fm E i = 0
      · rw [if_pos q]
        have e : nI (es_sum (es_f fa fm E) i) + 1 = nI (es_sum (es_f fa fm E) (i + 1)) := by
          rw [nI_1, es_sum_s]
          congr 2
          unfold es_f
          rw [if_neg (es_U0.mp q)]
        rw [e]
        exact ih (i + 1) (by omega) (by omega)
      · rw [if_neg q]
        have e : es_sum (es_f fa fm E) i = es_sum (es_f fa fm E) (i + 1) := by
          rw [es_sum_s]
          unfold es_f
          rw [if_pos (Decidable.not_not.mp (fun h => q (es_U0.mpr h)))]
          rfl
        rw [Int32.add_zero, e]
        exact ih (i + 1) (by omega) (by omega)
theorem es_sm {E : Nat} {ma : ep_F} {fm : Nat → Nat} (hE : E ≤ 199) (hm : ∀ e, e < E → ma e = nI (fm e)) : ∀ k i : Nat, i ≤ E → E ≤ i + k → ek_sm ma E k i (nI (es_sum fm i)) = nI (es_sum fm E) := by
  intro k
  induction k with
  | zero =>
    intro i h1 h2
    have e : i = E := by omega
    subst e
    rfl
  | succ k ih =>
    intro i h1 h2
    rw [ek_sm]
    by_cases c : nI E ≤ nI i
    · rw [if_pos c]
      rw [nI_leI (by omega) (by omega)] at c
      have e : i = E := by omega
      subst e
      rfl
    · rw [if_neg c]
      rw [nI_leI (by omega) (by omega)] at c
      rw [nI_clamp (by omega), hm i (by omega), nI_add]
      exact ih (i + 1) (by omega) (by omega)
theorem es_df {n E : Nat} {us : ep_F} {fa fm : Nat → Nat} (hn : n ≤ 128) (hR : es_R n E fa fm) (hU : ∀ j, j < 128 → us j = es_U fa fm E j) : ∀ k i : Nat, 2 ≤ i → i ≤ n → n ≤ i + k → ek_df us n k i (nI (2 + es_sum (fun b => es_c fa fm E b) i)) = nI (2 + es_sum (fun b => es_c fa fm E b) n) := by
  intro k
  induction k with
  | zero =>
    intro i _ h1 h2
    have e : i = n := by omega
    subst e
    rfl
  | succ k ih =>
    intro i h0 h1 h2
    rw [ek_df]
    by_cases c : nI n ≤ nI i
    · rw [if_pos c]
      rw [nI_leI (by omega) (by omega)] at c
      have e : i = n := by omega
      subst e
      rfl
    · rw [if_neg c]
      rw [nI_leI (by omega) (by omega)] at c
      have e0 : es_sum (fun b => es_c fa fm E b) (i + 1) = es_sum (fun b => es_c fa fm E b) i + es_c fa fm E i := rfl
      rw [nI_clamp (by omega), hU i (by omega)]
      by_cases q : es_U fa fm E i = 0
      · have q2 := es_U0.mp q
        rw [if_pos q, Int32.add_zero, show es_sum (fun b => es_c fa fm E b) i = es_sum (fun b => es_c fa fm E b) (i + 1) by omega]
        exact ih (i + 1) (by omega) (by omega) (by omega)
      · have q2 : i < 2 ∨ 0 < es_c fa fm E i := Decidable.not_not.mp (fun h => q (es_U0.mpr h))
        have q3 := es_c_one hR i
        rw [if_neg q, nI_1, show 2 + es_sum (fun b => es_c fa fm E b) i + 1 = 2 + es_sum (fun b => es_c fa fm E b) (i + 1) by omega]
        exact ih (i + 1) (by omega) (by omega) (by omega)
/-- doubled: both say 0 -/
theorem es_doubled {nB E : Nat} {fi si ma us te : ep_F} {fa fm : Nat → Nat} (hB : nB ≤ 128) (hB2 : 2 ≤ nB) (hR : es_R nB E fa fm) (hN : es_N fi si fa fm E) (fk : ep_F) (hf : ∀ e, e < E → fk e = nI (fa e) ∧ ma e = nI (fm e)) : (ep_doubled fi si (nI E) nB te).1 = 0 ∧ ek_sm ma E (E + 1) 0 0 - ek_df (ek_mark fk ma E us) nB nB 2 2 + 2 = 0 := by
  have hE := (es_E hR hB2).2
  constructor
  · refine es_db hB (fun j hj => ?_) (nB + 1) 0 (by omega)
    rw [es_ten hB (by omega) hN (fun e he => (hR.1 e he).2.2) j hj]
    have := es_c_one hR j
    rcases Nat.eq_zero_or_pos (es_c fa fm E j) with q | q
    · rw [q]; exact Or.inl rfl
    · rw [show es_c fa fm E j = 1 by omega]; exact Or.inr rfl
  · have e1 : ek_sm ma E (E + 1) 0 0 = nI (es_sum fm E) := es_sm (by omega) (fun e he => (hf e he).2) (E + 1) 0 (by omega) (by omega)
    have e3 : es_sum (fun b => es_c fa fm E b) 2 = 0 := by
      show 0 + es_c fa fm E 0 + es_c fa fm E 1 = 0
      rw [es_c_low hR (by decide), es_c_low hR (by decide)]
    have e2 := es_df hB hR (es_mark (us := us) (by omega) hB (fun e he => ⟨(hf e he).1, (hf e he).2, (hR.1 e he).2.2⟩)) nB 2 (by decide) (by omega) (by omega)
    rw [e3] at e2
    have e4 : ek_df (ek_mark fk ma E us) nB nB 2 2 = nI (2 + es_sum fm E) := by
      rw [← es_sum_c fa fm nB E (fun e he => (hR.1 e he).2.2)]
      exact e2
    rw [e1, e4, ← nI_add, Int32.add_comm (nI 2), ← Int32.sub_sub, Int32.sub_self]
    decide
theorem es_count {nB E : Nat} {fi si ma us te : ep_F} {fa fm : Nat → Nat} (hB : nB ≤ 128) (hB2 : 2 ≤ nB) (hR : es_R nB E fa fm) (hN : es_N fi si fa fm E) (fk : ep_F) (hf : ∀ e, e < E → fk e = nI (fa e) ∧ ma e = nI (fm e)) : (ep_free fi si (nI E) nB te).1 = ek_cf (ek_mark fk ma E us) nB (nB + 1) 0 0 := by
  have hE := (es_E hR hB2).2
  have e1 := es_fb hB (by omega) (es_ten (t := te) hB (by omega) hN (fun e he => (hR.1 e he).2.2)) nB 2 (by decide) (by omega) (by omega)
  have e2 := es_cf hB (es_mark (us := us) (by omega) hB (fun e he => ⟨(hf e he).1, (hf e he).2, (hR.1 e he).2.2⟩)) (nB + 1) 0 (by omega) (by omega)
  have e3 : es_sum (es_f fa fm E) 2 = 0 := by
    show 0 + es_f fa fm E 0 + es_f fa fm E 1 = 0
    unfold es_f
    rw [if_pos (Or.inl (by decide)), if_pos (Or.inl (by decide))]
  rw [e3] at e1
  exact e1.trans e2.symm
/-! the first free row -/
def es_W (fa fm : Nat → Nat) (E nB N b : Nat) : Prop := 2 ≤ b ∧ b + N ≤ nB ∧ ∀ j, b ≤ j → j < b + N → es_c fa fm E j = 0
def es_ans (P : Nat → Prop) (x : Int32) : Prop := (x = -1 ∧ ∀ b, ¬ P b) ∨ ∃ b, x = nI b ∧ P b ∧ ∀ c, c < b → ¬ P c
theorem es_ans_one {P : Nat → Prop} {x y : Int32} (hx : es_ans P x) (hy : es_ans P y) : x = y := by
  rcases hx with ⟨ex, hx⟩ | ⟨b, ex, pb, hb⟩ <;> rcases hy with ⟨ey, hy⟩ | ⟨c, ey, pc, hc⟩
  · rw [ex, ey]
  · exact absurd pc (hx c)
  · exact absurd pb (hy b)
  · rcases Nat.lt_trichotomy b c with q | q | q
    · exact absurd pb (hc b q)
    · rw [ex, ey, q]
    · exact absurd pc (hb c q)
theorem es_pf1_0 (us : ep_F) (en : Int32) : ∀ k j : Nat, ek_pf1 us en k j 0 = 0 := by
  intro k
  induction k with
  | zero => intro j; rfl
  | succ k ih =>
    intro j
    rw [ek_pf1]
    split
    · rfl
    · rw [if_pos rfl]
      exact ih (j + 1)
theorem es_pf1 {us : ep_F} {en : Nat} (hen : en ≤ 1000) : ∀ k j : Nat, j ≤ en → en ≤ j + k → (ek_pf1 us (nI en) k j 1 = 0 ↔ ∃ x, j ≤ x ∧ x < en ∧ ¬ us x = 0) := by
  intro k
  induction k with
  | zero =>
    intro j h1 h2
    exact ⟨fun h => absurd (show (1 : Int32) = 0 from h) (by decide), fun ⟨x, a, b, _⟩ => by omega⟩
  | succ k ih =>
    intro j h1 h2
    rw [ek_pf1]
    by_cases c : nI en ≤ nI j
    · rw [if_pos c]
      rw [nI_leI (by omega) (by omega)] at c
      exact ⟨fun h => absurd h (by decide), fun ⟨x, a, b, _⟩ => by omega⟩
    · rw [if_neg c, if_neg (by decide)]
      rw [nI_leI (by omega) (by omega)] at c
      rw [nI_clamp (by omega)]
      by_cases q : us j = 0
      · rw [if_neg (fun h => h q), ih (j + 1) (by omega) (by omega)]
        exact ⟨fun ⟨x, a, b, d⟩ => ⟨x, by omega, b, d⟩, fun ⟨x, a, b, d⟩ => by
          rcases Nat.eq_or_lt_of_le a with r | r
          · subst r
            exact absurd q d
          · exact ⟨x, r, b, d⟩⟩
      · rw [if_pos q, es_pf1_0]
        exact ⟨fun _ => ⟨j, Nat.le_refl j, by omega, q⟩, fun _ => rfl⟩
theorem es_pf {nB E N : Nat} {us : ep_F} {fa fm : Nat → Nat} (hB : nB ≤ 128) (hN1 : 1 ≤ N) (hN : N ≤ 128) (hU : ∀ j, j < 128 → us j = es_U fa fm E j) : ∀ k b : Nat, 2 ≤ b → b ≤ nB → b + k = nB + 2 → (∀ c, c < b → ¬ es_W fa fm E nB N c) → es_ans (es_W fa fm E nB N) (ek_pf us nB N k b) := by
  intro k
  induction k with
  | zero => intro b h1 h2 h3; omega
  | succ k ih =>
    intro b h1 h2 h3 h4
    rw [ek_pf]
    by_cases c : nI nB < nI b + nI N
    · rw [if_pos c]
      rw [nI_add, nI_ltI (by omega) (by omega)] at c
      refine Or.inl ⟨rfl, fun x hx => ?_⟩
      rcases Nat.lt_or_ge x b with q | q
      · exact h4 x q hx
      · have := hx.2.1
        omega
    · rw [if_neg c]
      rw [nI_add, nI_ltI (by omega) (by omega)] at c
      rw [nI_add]
      by_cases q : ek_pf1 us (nI (b + N)) (N + 1) b 1 = 0
      · rw [if_pos q]
        obtain ⟨x, a1, a2, a3⟩ := (es_pf1 (by omega) (N + 1) b (by omega) (by omega)).mp q
        refine ih (b + 1) (by omega) (by omega) (by omega) (fun y hy hw => ?_)
        rcases Nat.lt_or_ge y b with r | r
        · exact h4 y r hw
        · have e : y = b := by omega
          subst e
          rw [hU x (by omega)] at a3
          have a4 := hw.2.2 x a1 a2
          exact a3 (es_U0.mpr (by omega))
      · rw [if_neg q]
        refine Or.inr ⟨b, rfl, ⟨h1, by omega, fun j a1 a2 => ?_⟩, h4⟩
        rcases Nat.eq_zero_or_pos (es_c fa fm E j) with r | r
        · exact r
        · exact absurd ((es_pf1 (by omega) (N + 1) b (by omega) (by omega)).mpr ⟨j, a1, a2, by rw [hU j (by omega)]; exact fun h => es_U0.mp h (Or.inr r)⟩) q
theorem es_ff {nB E N : Nat} {T : ep_F} {fa fm : Nat → Nat} (hB : nB ≤ 128) (hN1 : 1 ≤ N) (hN : N ≤ 128) (hE : E ≤ 200) (hT : ∀ j, j < nB → T j = nI (es_c fa fm E j)) : ∀ k i r : Nat, 2 ≤ i → i ≤ nB → nB + 1 ≤ i + k → r < N → r + 2 ≤ i → (∀ j, i ≤ j + r → j < i → es_c fa fm E j = 0) → (i = r + 2 ∨ 0 < es_c fa fm E (i - r - 1)) → (∀ c, c + N ≤ i → ¬ es_W fa fm E nB N c) → es_ans (es_W fa fm E nB N) (ep_ff nB T (nI N) k i (nI r)) := by
  intro k
  induction k with
  | zero => intro i r h1 h2 h3; omega
  | succ k ih =>
    intro i r h1 h2 h3 h4 h5 h6 h7 h8
    rw [ep_ff]
    by_cases c : nI nB ≤ nI i
    · rw [if_pos c]
      rw [nI_leI (by omega) (by omega)] at c
      exact Or.inl ⟨rfl, fun b hb => h8 b (by have := hb.2.1; omega) hb⟩
    · rw [if_neg c]
      rw [nI_leI (by omega) (by omega)] at c
      have hc := es_c_le fa fm i E
      rw [nI_clamp (by omega), hT i (by omega)]
      rcases Nat.eq_zero_or_pos (es_c fa fm E i) with q | q
      · rw [if_neg (by rw [q]; exact fun h => h nI_0), nI_1]
        by_cases g : nI (r + 1) = nI N
        · rw [if_neg (fun h => h g)]
          rw [nI_eq (by omega) (by omega)] at g
          refine Or.inr ⟨i - r, ?_, ⟨by omega, by omega, fun j a1 a2 => ?_⟩, fun b hb => h8 b (by omega)⟩
          · rw [pk_sub (by omega), nI_1]
            congr 1
            omega
          · rcases Nat.lt_or_ge j i with u | u
            · exact h6 j (by omega) u
            · rw [show j = i by omega]
              exact q
        · rw [if_pos g]
          rw [nI_eq (by omega) (by omega)] at g
          refine ih (i + 1) (r + 1) (by omega) (by omega) (by omega) (by omega) (by omega) (fun j a1 a2 => ?_) ?_ (fun b hb hw => ?_)
          · rcases Nat.lt_or_ge j i with u | u
            · exact h6 j (by omega) u
            · rw [show j = i by omega]
              exact q
          · rcases h7 with u | u
            · exact Or.inl (by omega)
            · exact Or.inr (by rw [show i + 1 - (r + 1) - 1 = i - r - 1 by omega]; exact u)
          · rcases Nat.lt_or_ge i (b + N) with u | u
            · rcases h7 with v | v
              · have := hw.1
                omega
              · have := hw.2.2 (i - r - 1) (by omega) (by omega)
                omega
            · exact h8 b u hw
      · rw [if_pos (nI_ne0 q (by omega)), if_pos (fun h => nI_ne0 hN1 (by omega) h.symm)]
        have e0 : (0 : Int32) = nI 0 := nI_0.symm
        rw [e0]
        refine ih (i + 1) 0 (by omega) (by omega) (by omega) (by omega) (by omega) (fun j a1 a2 => by omega) (Or.inr (by rw [show i + 1 - 0 - 1 = i by omega]; exact q)) (fun b hb hw => ?_)
        rcases Nat.lt_or_ge i (b + N) with u | u
        · have := hw.2.2 i (by omega) u
          omega
        · exact h8 b u hw
/-- the first free row: both find the same -/
theorem es_place {nB E N : Nat} {fi si ma us te fk : ep_F} {fa fm : Nat → Nat} (hB : nB ≤ 128) (hB2 : 2 ≤ nB) (hN1 : 1 ≤ N) (hN : N ≤ 128) (hR : es_R nB E fa fm) (hn : es_N fi si fa fm E) (hf : ∀ e, e < E → fk e = nI (fa e) ∧ ma e = nI (fm e)) : (ep_first fi si (nI E) nB te (nI N)).1 = (ek_place fk ma E nB N us).1 ∧ ((ek_place fk ma E nB N us).1 = -1 ∨ ∃ b, (ek_place fk ma E nB N us).1 = nI b ∧ es_W fa fm E nB N b) := by
  have hE := (es_E hR hB2).2
  have low : ∀ c, c < 2 → ¬ es_W fa fm E nB N c := fun c hc hw => by
    have := hw.1
    omega
  have a1 := es_pf hB hN1 hN (es_mark (us := us) (by omega) hB (fun e he => ⟨(hf e he).1, (hf e he).2, (hR.1 e he).2.2⟩)) nB 2 (by decide) hB2 (by omega) low
  have a2 := es_ff (N := N) hB hN1 hN (by omega) (es_ten (t := te) hB (by omega) hn (fun e he => (hR.1 e he).2.2)) nB 2 0 (by decide) hB2 (by omega) (by omega) (by decide) (fun j h1 h2 => by omega) (Or.inl rfl) (fun c hc => low c (by omega))
  have e0 : nI 0 = 0 := nI_0
  rw [e0] at a2
  refine ⟨es_ans_one a2 a1, ?_⟩
  rcases a1 with ⟨e, _⟩ | ⟨b, e, hb, _⟩
  · exact Or.inl e
  · exact Or.inr ⟨b, e, hb⟩
