/-! which blocks rows hold: the program's tenants, the reference's marks -/
/-- how many of the first E rows hold block b -/
def es_c (fa fm : Nat → Nat) : Nat → Nat → Nat
  | 0, _ => 0
  | E + 1, b => es_c fa fm E b + (if fa E ≤ b ∧ b < fa E + fm E then 1 else 0)
def es_R (nB E : Nat) (fa fm : Nat → Nat) : Prop := (∀ e, e < E → 2 ≤ fa e ∧ 1 ≤ fm e ∧ fa e + fm e ≤ nB) ∧ ∀ e d, e < E → d < E → e ≠ d → fa e + fm e ≤ fa d ∨ fa d + fm d ≤ fa e
theorem es_c_le (fa fm : Nat → Nat) (b : Nat) : ∀ E, es_c fa fm E b ≤ E := by
  intro E
  induction E with
  | zero => exact Nat.le_refl 0
  | succ E ih =>
    rw [es_c]
    split <;> omega
theorem es_c_pos (fa fm : Nat → Nat) (b : Nat) : ∀ E, 0 < es_c fa fm E b ↔ ∃ e, e < E ∧ fa e ≤ b ∧ b < fa e + fm e := by
  intro E
  induction E with
  | zero =>
    rw [es_c]
    exact ⟨fun h => absurd h (Nat.lt_irrefl 0), fun ⟨e, h, _⟩ => absurd h (Nat.not_lt_zero e)⟩
  | succ E ih =>
    rw [es_c]
    by_cases h : fa E ≤ b ∧ b < fa E + fm E
    · rw [if_pos h]
      exact ⟨fun _ => ⟨E, Nat.lt_succ_self E, h⟩, fun _ => by omega⟩
    · rw [if_neg h, Nat.add_zero, ih]
      exact ⟨fun ⟨e, h1, h2⟩ => ⟨e, by omega, h2⟩, fun ⟨e, h1, h2⟩ => by
        rcases Nat.lt_or_ge e E with q | q
        · exact ⟨e, q, h2⟩
        · have e2 : e = E := by omega
          subst e2
          exact absurd h2 h⟩
theorem es_c_one {nB E : Nat} {fa fm : Nat → Nat} (h : es_R nB E fa fm) (b : Nat) : es_c fa fm E b ≤ 1 := by
  suffices H : ∀ D, D ≤ E → es_c fa fm D b ≤ 1 from H E (Nat.le_refl E)
  intro D
  induction D with
  | zero => intro _; exact Nat.zero_le _
  | succ D ih =>
    intro hD
    rw [es_c]
    have i1 := ih (by omega)
    by_cases hh : fa D ≤ b ∧ b < fa D + fm D
    · rw [if_pos hh]
      rcases Nat.eq_zero_or_pos (es_c fa fm D b) with q | q
      · omega
      · obtain ⟨e, he, h1, h2⟩ := (es_c_pos fa fm b D).mp q
        rcases h.2 e D (by omega) (by omega) (by omega) with r | r <;> omega
    · rw [if_neg hh]
      omega
theorem es_ct1 {n en : Nat} (hn : n < 2 ^ 30) (hen : en < 2 ^ 30) : ∀ (k b : Nat) (t : ep_F), b < 2 ^ 30 → n < k + b → 1 ≤ k → ∀ j, j < n → ep_ct1 n (nI en) k (nI b) t j = t j + nI (if b ≤ j ∧ j < en then 1 else 0) := by
  intro k
  induction k with
  | zero => intro b t _ _ h; omega
  | succ k ih =>
    intro b t hb h1 _ j hj
    have z : ∀ x : Int32, x + nI 0 = x := fun x => by rw [nI_0, Int32.add_zero]
    rw [ep_ct1]
    by_cases c : nI en ≤ nI b
    · rw [if_pos c]
      rw [nI_leI (by omega) (by omega)] at c
      rw [if_neg (by omega), z]
    · rw [if_neg c]
      rw [nI_leI (by omega) (by omega)] at c
      by_cases c2 : nI n ≤ nI b
      · rw [if_pos c2]
        rw [nI_leI (by omega) (by omega)] at c2
        rw [if_neg (by omega), z]
      · rw [if_neg c2]
        rw [nI_leI (by omega) (by omega)] at c2
        rw [nI_1, ih (b + 1) _ (by omega) (by omega) (by omega) j hj, nI_clamp (by omega)]
        by_cases q : j = b
        · subst q
          rw [pk_us, if_neg (by omega), if_pos (by omega), z]
          rfl
        · rw [pk_un q]
          by_cases r : b ≤ j ∧ j < en
          · rw [if_pos r, if_pos (by omega)]
          · rw [if_neg r, if_neg (by omega)]
/-- rows as numbers -/
def es_N (fi si : ep_F) (fa fm : Nat → Nat) (E : Nat) : Prop := ∀ e, e < E → fi e = nI (fa e) ∧ ep_blocks (si e) = nI (fm e)
theorem es_ct {n E : Nat} {fi si : ep_F} {fa fm : Nat → Nat} (hn : n ≤ 128) (hE : E ≤ 200) (hN : es_N fi si fa fm E) (hR : ∀ e, e < E → fa e + fm e ≤ n) : ∀ (k i : Nat) (t : ep_F), i + k = 201 → i ≤ E → (∀ j, j < n → t j = nI (es_c fa fm i j)) → ∀ j, j < n → ep_ct fi si (nI E) n k i t j = nI (es_c fa fm E j) := by
  intro k
  induction k with
  | zero => intro i t h1 h2; omega
  | succ k ih =>
    intro i t h1 h2 h3 j hj
    rw [ep_ct]
    by_cases c : nI E ≤ nI i
    · rw [if_pos c]
      rw [nI_leI (by omega) (by omega)] at c
      have e : i = E := by omega
      subst e
      exact h3 j hj
    · rw [if_neg c]
      rw [nI_leI (by omega) (by omega)] at c
      by_cases c2 : (200 : Int32) ≤ nI i
      · have c3 : nI 200 ≤ nI i := c2
        rw [nI_leI (by decide) (by omega)] at c3
        omega
      · rw [if_neg c2]
        obtain ⟨e1, e2⟩ := hN i (by omega)
        have hr := hR i (by omega)
        have e3 : (if 0 < nI (fa i) then nI (fa i) else 0 : Int32) = nI (fa i) := by
          by_cases q : (0 : Int32) < nI (fa i)
          · rw [if_pos q]
          · rw [if_neg q]
            have q2 : ¬ nI 0 < nI (fa i) := by rw [nI_0]; exact q
            rw [nI_ltI (by decide) (by omega)] at q2
            have q3 : fa i = 0 := by omega
            rw [q3, nI_0]
        rw [nI_clamp (by omega), e1, e2, e3, nI_add]
        refine ih (i + 1) _ (by omega) (by omega) (fun j hj => ?_) j hj
        rw [es_ct1 (by omega) (by omega) (n + 1) (fa i) t (by omega) (by omega) (by omega) j hj, h3 j hj, nI_add]
        rfl
theorem es_ten {n E : Nat} {fi si t : ep_F} {fa fm : Nat → Nat} (hn : n ≤ 128) (hE : E ≤ 200) (hN : es_N fi si fa fm E) (hR : ∀ e, e < E → fa e + fm e ≤ n) : ∀ j, j < n → ep_ten fi si (nI E) n t j = nI (es_c fa fm E j) := by
  refine es_ct hn hE hN hR 201 0 (ep_fill n 0 t) (by decide) (by omega) (fun j hj => ?_)
  show (if j < n then (0 : Int32) else t j) = nI 0
  rw [if_pos hj, nI_0]
/-! the reference's marks -/
theorem es_mk0 : ∀ (k i : Nat) (us : ep_F), i + k = 129 → i ≤ 128 → (∀ j, j < i → us j = nI (if j < 2 then 1 else 0)) → ∀ j, j < 128 → ek_mk0 k i us j = nI (if j < 2 then 1 else 0) := by
  intro k
  induction k with
  | zero => intro i us h1 h2; omega
  | succ k ih =>
    intro i us h1 h2 h3
    rw [ek_mk0]
    have v1 : vp_nar .boolean 1 = nI 1 := by decide +kernel
    have v0 : vp_nar .boolean 0 = nI 0 := by decide +kernel
    by_cases c : (128 : Int32) ≤ nI i
    · rw [if_pos c]
      have c3 : nI 128 ≤ nI i := c
      rw [nI_leI (by decide) (by omega)] at c3
      exact fun j hj => h3 j (by omega)
    · rw [if_neg c]
      have hi := ey_lt128 h2 c
      have st : ∀ x : Int32, x = nI (if i < 2 then 1 else 0) → ∀ j, j < i + 1 → upd us (nI i).toNatClampNeg x j = nI (if j < 2 then 1 else 0) := by
        intro x hx j hj
        rw [nI_clamp (by omega)]
        by_cases q : j = i
        · subst q
          rw [pk_us, hx]
        · rw [pk_un q]
          exact h3 j (by omega)
      by_cases c2 : (2 : Int32) ≤ nI i
      · rw [if_pos c2]
        have c3 : nI 2 ≤ nI i := c2
        rw [nI_leI (by decide) (by omega)] at c3
        exact ih (i + 1) _ (by omega) (by omega) (st _ (by rw [v0, if_neg (by omega)]))
      · rw [if_neg c2]
        have c3 : ¬ nI 2 ≤ nI i := c2
        rw [nI_leI (by decide) (by omega)] at c3
        exact ih (i + 1) _ (by omega) (by omega) (st _ (by rw [v1, if_pos (by omega)]))
theorem es_mk1 {a m : Nat} (ham : a + m ≤ 128) : ∀ (k b : Nat) (us : ep_F), a + m ≤ k + b → a ≤ b → b ≤ a + m → ∀ j, j < 128 → ek_mk1 (nI (a + m)) k b us j = if b ≤ j ∧ j < a + m then nI 1 else us j := by
  intro k
  induction k with
  | zero =>
    intro b us h1 h2 h3 j hj
    rw [ek_mk1, if_neg (by omega)]
  | succ k ih =>
    intro b us h1 h2 h3 j hj
    have v1 : vp_nar .boolean 1 = nI 1 := by decide +kernel
    rw [ek_mk1]
    by_cases c : nI (a + m) ≤ nI b
    · rw [if_pos c]
      rw [nI_leI (by omega) (by omega)] at c
      rw [if_neg (by omega)]
    · rw [if_neg c]
      rw [nI_leI (by omega) (by omega)] at c
      rw [ih (b + 1) _ (by omega) (by omega) (by omega) j hj, nI_clamp (by omega), v1]
      by_cases q : j = b
      · subst q
        rw [if_neg (by omega), if_pos (by omega), pk_us]
      · rw [pk_un q]
        by_cases r : b ≤ j ∧ j < a + m
        · rw [if_pos r, if_pos (by omega)]
        · rw [if_neg r, if_neg (by omega)]
def es_U (fa fm : Nat → Nat) (E j : Nat) : Int32 := nI (if j < 2 ∨ 0 < es_c fa fm E j then 1 else 0)
theorem es_mk2 {E nB : Nat} {fi ma : ep_F} {fa fm : Nat → Nat} (hE : E ≤ 199) (hB : nB ≤ 128) (hf : ∀ e, e < E → fi e = nI (fa e) ∧ ma e = nI (fm e) ∧ fa e + fm e ≤ nB) : ∀ (k i : Nat) (us : ep_F), i + k = E + 1 → i ≤ E → (∀ j, j < 128 → us j = es_U fa fm i j) → ∀ j, j < 128 → ek_mk2 fi ma E k i us j = es_U fa fm E j := by
  intro k
  induction k with
  | zero => intro i us h1 h2; omega
  | succ k ih =>
    intro i us h1 h2 h3
    rw [ek_mk2]
    by_cases c : nI E ≤ nI i
    · rw [if_pos c]
      rw [nI_leI (by omega) (by omega)] at c
      have e : i = E := by omega
      subst e
      exact h3
    · rw [if_neg c]
      rw [nI_leI (by omega) (by omega)] at c
      obtain ⟨e1, e2, e3⟩ := hf i (by omega)
      rw [nI_clamp (by omega), e1, e2, nI_add, nI_clamp (by omega)]
      refine ih (i + 1) _ (by omega) (by omega) (fun j hj => ?_)
      rw [es_mk1 (by omega) 129 (fa i) us (by omega) (by omega) (by omega) j hj]
      unfold es_U
      rw [es_c]
      by_cases q : fa i ≤ j ∧ j < fa i + fm i
      · rw [if_pos q, if_pos q, if_pos (by omega)]
      · rw [if_neg q, if_neg q, Nat.add_zero]
        exact h3 j hj
theorem es_mark {E nB : Nat} {fi ma us : ep_F} {fa fm : Nat → Nat} (hE : E ≤ 199) (hB : nB ≤ 128) (hf : ∀ e, e < E → fi e = nI (fa e) ∧ ma e = nI (fm e) ∧ fa e + fm e ≤ nB) : ∀ j, j < 128 → ek_mark fi ma E us j = es_U fa fm E j := by
  refine es_mk2 hE hB hf (E + 1) 0 _ (by omega) (by omega) (fun j hj => ?_)
  rw [es_mk0 129 0 us (by decide) (by decide) (fun j hj => absurd hj (Nat.not_lt_zero _)) j hj]
  unfold es_U
  rw [es_c]
  by_cases q : j < 2
  · rw [if_pos q, if_pos (Or.inl q)]
  · rw [if_neg q, if_neg (by omega)]
