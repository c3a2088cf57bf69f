/-! an int in four bytes: written, read -/
def es_B3 (v : Int32) : Int32 := vp_nar .byte (ey_ushr v 24).toInt8.toInt32
def es_B2 (v : Int32) : Int32 := vp_nar .byte (ey_ushr v 16).toInt8.toInt32
def es_B1 (v : Int32) : Int32 := vp_nar .byte (ey_ushr v 8).toInt8.toInt32
def es_B0 (v : Int32) : Int32 := vp_nar .byte v.toInt8.toInt32
def es_I (f : ep_F) (p : Nat) (v : Int32) : Prop := f p = es_B3 v ∧ f (p + 1) = es_B2 v ∧ f (p + 2) = es_B1 v ∧ f (p + 3) = es_B0 v
theorem es_nar (x : Int32) : vp_nar .byte x.toInt8.toInt32 &&& 255 = x &&& 255 := by
  rw [pk_vb, bp_b]
theorem es_join (v : Int32) : (((ey_ushr v 24 &&& 255) <<< ((24 : Int32) &&& 31) ||| (ey_ushr v 16 &&& 255) <<< ((16 : Int32) &&& 31)) ||| (ey_ushr v 8 &&& 255) <<< ((8 : Int32) &&& 31)) ||| (v &&& 255) = v := by
  have u : ∀ (n : Nat), n < 32 → ∀ i, bt (ey_ushr v (nI n)) i = bt v (n + i) := fun n hn i => b_ushr n hn v i
  apply b_ext
  intro i hi
  rw [b_or, b_or, b_or, b_shl24 _ hi, b_shl16 _ hi, b_shl8 _ hi, b_and, b_and, b_and, b_and, b_255, b_255, b_255, b_255, show (24 : Int32) = nI 24 from rfl, show (16 : Int32) = nI 16 from rfl, show (8 : Int32) = nI 8 from rfl, u 24 (by decide), u 16 (by decide), u 8 (by decide)]
  rcases Nat.lt_or_ge i 8 with h | h
  · simp [show ¬ 24 ≤ i by omega, show ¬ 16 ≤ i by omega, show ¬ 8 ≤ i by omega, h]
  · rcases Nat.lt_or_ge i 16 with h2 | h2
    · simp [show ¬ 24 ≤ i by omega, show ¬ 16 ≤ i by omega, h, show ¬ i < 8 by omega, show i - 8 < 8 by omega, show 8 + (i - 8) = i by omega]
    · rcases Nat.lt_or_ge i 24 with h3 | h3
      · simp [show ¬ 24 ≤ i by omega, h2, h, show ¬ i < 8 by omega, show ¬ i - 8 < 8 by omega, show i - 16 < 8 by omega, show 16 + (i - 16) = i by omega]
      · simp [h3, h2, h, show ¬ i < 8 by omega, show ¬ i - 8 < 8 by omega, show ¬ i - 16 < 8 by omega, show i - 24 < 8 by omega, show 24 + (i - 24) = i by omega]
theorem es_read {n : Nat} {f : ep_F} {p : Nat} (hn : n < 2 ^ 30) (hp : p < n) : ep_read n f (nI p) = f p &&& 255 := by
  unfold ep_read
  rw [if_neg (nI_pos (by omega)), if_neg (by rw [nI_leI (by omega) (by omega)]; omega), nI_clamp (by omega)]
theorem es_readInt {n : Nat} {f : ep_F} {p : Nat} {v : Int32} (hn : n < 2 ^ 30) (hp : p + 4 ≤ n) (h : es_I f p v) : ep_readInt n f (nI p) = v := by
  obtain ⟨h3, h2, h1, h0⟩ := h
  unfold ep_readInt
  rw [show nI p + 1 = nI (p + 1) from nI_add p 1, show nI p + 2 = nI (p + 2) from nI_add p 2, show nI p + 3 = nI (p + 3) from nI_add p 3, es_read hn (by omega), es_read hn (by omega), es_read hn (by omega), es_read hn (by omega), h3, h2, h1, h0]
  unfold es_B3 es_B2 es_B1 es_B0
  rw [es_nar, es_nar, es_nar, es_nar]
  exact es_join v
theorem es_si {n : Nat} {g : ep_F} {p : Nat} {v : Int32} (hn : n < 2 ^ 30) (hp : p + 4 ≤ n) : es_I (ep_si n g (nI p) v) p v ∧ ∀ j, (j < p ∨ p + 4 ≤ j) → ep_si n g (nI p) v j = g j := by
  have e : ep_si n g (nI p) v = upd (upd (upd (upd g p (es_B3 v)) (p + 1) (es_B2 v)) (p + 2) (es_B1 v)) (p + 3) (es_B0 v) := by
    unfold ep_si
    rw [if_neg (nI_pos (by omega)), if_pos (by rw [show nI n - 4 = nI (n - 4) from pk_sub (a := n) (b := 4) (by omega), nI_leI (by omega) (by omega)]; omega), show nI p + 1 = nI (p + 1) from nI_add p 1, show nI p + 2 = nI (p + 2) from nI_add p 2, show nI p + 3 = nI (p + 3) from nI_add p 3, nI_clamp (by omega), nI_clamp (by omega), nI_clamp (by omega), nI_clamp (by omega)]
    rfl
  rw [e]
  refine ⟨⟨?_, ?_, ?_, ?_⟩, fun j hj => ?_⟩
  · rw [pk_un (by omega), pk_un (by omega), pk_un (by omega), pk_us]
  · rw [pk_un (by omega), pk_un (by omega), pk_us]
  · rw [pk_un (by omega), pk_us]
  · rw [pk_us]
  · rw [pk_un (by omega), pk_un (by omega), pk_un (by omega), pk_un (by omega)]
theorem es_I_keep {f g : ep_F} {p : Nat} {v : Int32} (h : es_I f p v) (hk : ∀ j, p ≤ j → j < p + 4 → g j = f j) : es_I g p v := by
  obtain ⟨h3, h2, h1, h0⟩ := h
  exact ⟨by rw [hk _ (by omega) (by omega)]; exact h3, by rw [hk _ (by omega) (by omega)]; exact h2, by rw [hk _ (by omega) (by omega)]; exact h1, by rw [hk _ (by omega) (by omega)]; exact h0⟩
/-- the notes' loop of store -/
theorem es_sn {no : ep_F} : ∀ (k i : Nat) (g : ep_F), i + k = 25 → i ≤ 24 → (∀ j, i ≤ j → j < 24 → es_I (ep_sn no 4096 k i g) (8 + 4 * j) (no j)) ∧ ∀ j, (j < 8 + 4 * i ∨ 104 ≤ j) → ep_sn no 4096 k i g j = g j := by
  intro k
  induction k with
  | zero => intro i g h1 h2; omega
  | succ k ih =>
    intro i g h1 h2
    rw [ep_sn]
    by_cases c : (24 : Int32) ≤ nI i
    · rw [if_pos c]
      have c2 : nI 24 ≤ nI i := c
      rw [nI_leI (by decide) (by omega)] at c2
      exact ⟨fun j a b => by omega, fun _ _ => rfl⟩
    · rw [if_neg c]
      have hi := ey_lt24 h2 c
      have ea : (8 : Int32) + 4 * nI i = nI (8 + 4 * i) := by
        rw [show (8 : Int32) = nI 8 from rfl, show (4 : Int32) = nI 4 from rfl, pk_mul, nI_add]
      rw [ea, nI_clamp (by omega)]
      obtain ⟨s1, s2⟩ := es_si (n := 4096) (g := g) (p := 8 + 4 * i) (v := no i) (by decide) (by omega)
      obtain ⟨r1, r2⟩ := ih (i + 1) (ep_si 4096 g (nI (8 + 4 * i)) (no i)) (by omega) (by omega)
      refine ⟨fun j a b => ?_, fun j hj => ?_⟩
      · rcases Nat.eq_or_lt_of_le a with q | q
        · subst q
          exact es_I_keep s1 (fun j x y => r2 j (by omega))
        · exact r1 j (by omega) b
      · rw [r2 j (by omega), s2 j (by omega)]
/-- the rows' loop of store -/
theorem es_sr {la fi si : ep_F} {E : Nat} (hE : E ≤ 200) : ∀ (k i : Nat) (g : ep_F), i + k = 201 → i ≤ 200 → (∀ e, i ≤ e → e < E → es_I (ep_sr la fi si (nI E) 4096 k i g) (104 + 12 * e) (la e) ∧ es_I (ep_sr la fi si (nI E) 4096 k i g) (108 + 12 * e) (fi e) ∧ es_I (ep_sr la fi si (nI E) 4096 k i g) (112 + 12 * e) (si e)) ∧ ∀ j, j < 104 + 12 * i → ep_sr la fi si (nI E) 4096 k i g j = g j := by
  intro k
  induction k with
  | zero => intro i g h1 h2; omega
  | succ k ih =>
    intro i g h1 h2
    rw [ep_sr]
    by_cases c : nI E ≤ nI i
    · rw [if_pos c]
      rw [nI_leI (by omega) (by omega)] at c
      exact ⟨fun e a b => by omega, fun _ _ => rfl⟩
    · rw [if_neg c]
      rw [nI_leI (by omega) (by omega)] at c
      by_cases c2 : (200 : Int32) ≤ nI i
      · have c3 : nI 200 ≤ nI i := c2
        rw [nI_leI (by decide) (by omega)] at c3
        omega
      · rw [if_neg c2]
        have ea : (104 : Int32) + 12 * nI i = nI (104 + 12 * i) := by
          rw [show (104 : Int32) = nI 104 from rfl, show (12 : Int32) = nI 12 from rfl, pk_mul, nI_add]
        rw [ea, show nI (104 + 12 * i) + 4 = nI (108 + 12 * i) from by rw [show (4 : Int32) = nI 4 from rfl, nI_add]; congr 1; omega, show nI (104 + 12 * i) + 8 = nI (112 + 12 * i) from by rw [show (8 : Int32) = nI 8 from rfl, nI_add]; congr 1; omega, nI_clamp (by omega)]
        obtain ⟨s1, s2⟩ := es_si (n := 4096) (g := g) (p := 104 + 12 * i) (v := la i) (by decide) (by omega)
        obtain ⟨t1, t2⟩ := es_si (n := 4096) (g := ep_si 4096 g (nI (104 + 12 * i)) (la i)) (p := 108 + 12 * i) (v := fi i) (by decide) (by omega)
        obtain ⟨u1, u2⟩ := es_si (n := 4096) (g := ep_si 4096 (ep_si 4096 g (nI (104 + 12 * i)) (la i)) (nI (108 + 12 * i)) (fi i)) (p := 112 + 12 * i) (v := si i) (by decide) (by omega)
        obtain ⟨r1, r2⟩ := ih (i + 1) (ep_si 4096 (ep_si 4096 (ep_si 4096 g (nI (104 + 12 * i)) (la i)) (nI (108 + 12 * i)) (fi i)) (nI (112 + 12 * i)) (si i)) (by omega) (by omega)
        refine ⟨fun e a b => ?_, fun j hj => ?_⟩
        · rcases Nat.eq_or_lt_of_le a with q | q
          · subst q
            refine ⟨es_I_keep s1 (fun j x y => ?_), es_I_keep t1 (fun j x y => ?_), es_I_keep u1 (fun j x y => r2 j (by omega))⟩
            · rw [r2 j (by omega), u2 j (by omega), t2 j (by omega)]
            · rw [r2 j (by omega), u2 j (by omega)]
          · exact r1 e (by omega) b
        · rw [r2 j (by omega), u2 j (by omega), t2 j (by omega), s2 j (by omega)]
/-- a block that holds a manifest -/
def es_Pg (g : ep_F) (E : Nat) (la fi si no : ep_F) (ch : Int32) : Prop := es_I g 0 ch ∧ es_I g 4 (nI E) ∧ (∀ i, i < 24 → es_I g (8 + 4 * i) (no i)) ∧ ∀ e, e < E → es_I g (104 + 12 * e) (la e) ∧ es_I g (108 + 12 * e) (fi e) ∧ es_I g (112 + 12 * e) (si e)
theorem es_store {la fi si no g : ep_F} {E : Nat} {ch : Int32} (hE : E ≤ 200) : es_Pg (ep_store (la, fi, si, nI E) no ch 4096 g) E la fi si no ch := by
  show es_Pg (ep_sr la fi si (nI E) 4096 201 0 (ep_sn no 4096 25 0 (ep_si 4096 (ep_si 4096 g (nI 0) ch) (nI 4) (nI E)))) E la fi si no ch
  obtain ⟨a1, a2⟩ := es_si (n := 4096) (g := g) (p := 0) (v := ch) (by decide) (by decide)
  obtain ⟨b1, b2⟩ := es_si (n := 4096) (g := ep_si 4096 g (nI 0) ch) (p := 4) (v := nI E) (by decide) (by decide)
  obtain ⟨c1, c2⟩ := es_sn (no := no) 25 0 (ep_si 4096 (ep_si 4096 g (nI 0) ch) (nI 4) (nI E)) (by decide) (by decide)
  obtain ⟨d1, d2⟩ := es_sr (la := la) (fi := fi) (si := si) hE 201 0 (ep_sn no 4096 25 0 (ep_si 4096 (ep_si 4096 g (nI 0) ch) (nI 4) (nI E))) (by decide) (by decide)
  refine ⟨es_I_keep a1 (fun j x y => ?_), es_I_keep b1 (fun j x y => ?_), fun i hi => es_I_keep (c1 i (by omega) hi) (fun j x y => d2 j (by omega)), fun e he => d1 e (by omega) he⟩
  · rw [d2 j (by omega), c2 j (by omega), b2 j (by omega)]
  · rw [d2 j (by omega), c2 j (by omega)]
