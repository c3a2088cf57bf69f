/-! the reference's methods as functions -/
def ey_lshr (x : Int64) (y : Int32) : Int64 := x >>> (y.toInt64 &&& 63)
abbrev ek_TT : Type := ep_F × Nat
def ek_kput (dn n : Int32) (t B : Nat) : Int32 := if n < 1 then 1 else if n ≤ 8 then (if ¬ dn = 0 then 2 else if nI t + n ≤ 4096 * nI B then 0 else 2) else 1
def ek_kfill (dn n : Int32) (t B : Nat) : Int32 := if n < 1 then 1 else if n ≤ 100000 then (if ¬ dn = 0 then 2 else if nI t + n ≤ 4096 * nI B then 0 else 2) else 1
def ek_putl (v : Int64) : Nat → Int32 → ek_TT → ek_TT
  | 0, _, q => q
  | k + 1, y, q => if y < 0 then q else ek_putl v k (y + -1) (upd q.1 (nI q.2).toNatClampNeg (vp_nar .byte (ey_lshr v (8 * y)).toInt32.toInt8.toInt32), q.2 + 1)
def ek_fll (b n : Int32) : Nat → Nat → ek_TT → ek_TT
  | 0, _, q => q
  | k + 1, i, q => if n ≤ nI i then q else ek_fll b n k (i + 1) (upd q.1 (nI q.2).toNatClampNeg (vp_nar .byte (b + nI i).toInt8.toInt32), q.2 + 1)
def ek_put (dn : Int32) (v : Int64) (n : Int32) (t B : Nat) (f : ep_F) : Int32 × Int32 × ek_TT := if ek_kput dn n t B = 0 then (nI (ek_putl v 9 (n - 1) (f, t)).2, 0, ek_putl v 9 (n - 1) (f, t)) else (0, ek_kput dn n t B, f, t)
def ek_fill (dn b n : Int32) (t B : Nat) (f : ep_F) : Int32 × Int32 × ek_TT := if ek_kfill dn n t B = 0 then (nI (ek_fll b n (n.toNatClampNeg + 1) 0 (f, t)).2, 0, ek_fll b n (n.toNatClampNeg + 1) 0 (f, t)) else (0, ek_kfill dn n t B, f, t)
def ek_kdown (dn : Int32) : Int32 := if dn = 0 then 0 else 1
def ek_drop (dn : Int32) (t : Nat) : Int32 × Int32 × Nat := if dn = 0 then (nI t, 0, 0) else (0, 1, t)
def ek_knote (dn i : Int32) : Int32 := if i < 0 then 1 else if i ≤ 23 then (if dn = 0 then 0 else 2) else 1
def ek_wish (dn i v : Int32) (w : ep_F) : Int32 × Int32 × ep_F := if ek_knote dn i = 0 then (w i.toNatClampNeg, 0, upd w i.toNatClampNeg v) else (0, ek_knote dn i, w)
def ek_note (dn i : Int32) (no : ep_F) : Int32 × Int32 := if ek_knote dn i = 0 then (no i.toNatClampNeg, 0) else (0, ek_knote dn i)
def ek_ok (B : Nat) (fi ma sz : ep_F) (E : Nat) : Prop := ∀ e : Nat, e < E → ∃ a m s : Nat, fi e = nI a ∧ ma e = nI m ∧ sz e = nI s ∧ 2 ≤ a ∧ 1 ≤ m ∧ a + m ≤ B ∧ s ≤ 4096 * m
def ek_mk0 : Nat → Nat → ep_F → ep_F
  | 0, _, us => us
  | k + 1, i, us => if 128 ≤ nI i then us else if 2 ≤ nI i then ek_mk0 k (i + 1) (upd us (nI i).toNatClampNeg (vp_nar .boolean 0)) else ek_mk0 k (i + 1) (upd us (nI i).toNatClampNeg (vp_nar .boolean 1))
def ek_mk1 (en : Int32) : Nat → Nat → ep_F → ep_F
  | 0, _, us => us
  | k + 1, j, us => if en ≤ nI j then us else ek_mk1 en k (j + 1) (upd us (nI j).toNatClampNeg (vp_nar .boolean 1))
def ek_mk2 (fi ma : ep_F) (E : Nat) : Nat → Nat → ep_F → ep_F
  | 0, _, us => us
  | k + 1, i, us => if nI E ≤ nI i then us else ek_mk2 fi ma E k (i + 1) (ek_mk1 (fi (nI i).toNatClampNeg + ma (nI i).toNatClampNeg) 129 (fi (nI i).toNatClampNeg).toNatClampNeg us)
def ek_mark (fi ma : ep_F) (E : Nat) (us : ep_F) : ep_F := ek_mk2 fi ma E (E + 1) 0 (ek_mk0 129 0 us)
def ek_pf1 (us : ep_F) (en : Int32) : Nat → Nat → Int32 → Int32
  | 0, _, a => a
  | k + 1, j, a => if en ≤ nI j then a else if a = 0 then ek_pf1 us en k (j + 1) 0 else if ¬ us (nI j).toNatClampNeg = 0 then ek_pf1 us en k (j + 1) 0 else ek_pf1 us en k (j + 1) 1
def ek_pf (us : ep_F) (B N : Nat) : Nat → Nat → Int32
  | 0, _ => -1
  | k + 1, b => if nI B < nI b + nI N then -1 else if ek_pf1 us (nI b + nI N) (N + 1) b 1 = 0 then ek_pf us B N k (b + 1) else nI b
def ek_place (fi ma : ep_F) (E B N : Nat) (us : ep_F) : Int32 × ep_F := (ek_pf (ek_mark fi ma E us) B N B 2, ek_mark fi ma E us)
def ek_goes (la : ep_F) (e : Nat) (fr to : Int32) : Int32 := if la (nI e).toNatClampNeg < fr then 0 else if to < la (nI e).toNatClampNeg then 0 else 1
/-- labels, firsts, blocks, sizes, how many stay -/
abbrev ek_H : Type := ep_F × ep_F × ep_F × ep_F × Nat
def ek_hp (fr to : Int32) (E : Nat) : Nat → Nat → ek_H → ek_H
  | 0, _, q => q
  | k + 1, i, q => if nI E ≤ nI i then q else if ¬ ek_goes q.1 i fr to = 0 then ek_hp fr to E k (i + 1) q else
      ek_hp fr to E k (i + 1) (upd q.1 (nI q.2.2.2.2).toNatClampNeg (q.1 (nI i).toNatClampNeg), upd q.2.1 (nI q.2.2.2.2).toNatClampNeg (q.2.1 (nI i).toNatClampNeg), upd q.2.2.1 (nI q.2.2.2.2).toNatClampNeg (q.2.2.1 (nI i).toNatClampNeg), upd q.2.2.2.1 (nI q.2.2.2.2).toNatClampNeg (q.2.2.2.1 (nI i).toNatClampNeg), q.2.2.2.2 + 1)
def ek_dk (x : Int32) (tf : ep_F) (t : Nat) : Nat → Nat → ep_F → ep_F
  | 0, _, dk => dk
  | k + 1, i, dk => if nI t ≤ nI i then dk else ek_dk x tf t k (i + 1) (upd dk (4096 * x + nI i).toNatClampNeg (vp_nar .byte (tf (nI i).toNatClampNeg)))
def ek_nt (w : ep_F) : Nat → Nat → ep_F → ep_F
  | 0, _, no => no
  | k + 1, i, no => if 24 ≤ nI i then no else ek_nt w k (i + 1) (upd no (nI i).toNatClampNeg (w (nI i).toNatClampNeg))
/-- rows with how many, the disk, the notes -/
abbrev ek_HR : Type := ek_H × ep_F × ep_F
def ek_new (q : ek_H) (lab x : Int32) (N t : Nat) : ek_H := (upd q.1 (nI q.2.2.2.2).toNatClampNeg lab, upd q.2.1 (nI q.2.2.2.2).toNatClampNeg x, upd q.2.2.1 (nI q.2.2.2.2).toNatClampNeg (nI N), upd q.2.2.2.1 (nI q.2.2.2.2).toNatClampNeg (nI t), q.2.2.2.2 + 1)
def ek_happen (lab fr to x : Int32) (N : Nat) (q : ek_H) (dk tf : ep_F) (t : Nat) (no w : ep_F) : ek_HR :=
  if nI N ≤ 0 then (ek_hp fr to q.2.2.2.2 (q.2.2.2.2 + 1) 0 (q.1, q.2.1, q.2.2.1, q.2.2.2.1, 0), dk, ek_nt w 25 0 no)
  else (ek_new (ek_hp fr to q.2.2.2.2 (q.2.2.2.2 + 1) 0 (q.1, q.2.1, q.2.2.1, q.2.2.2.1, 0)) lab x N t, ek_dk x tf t (t + 1) 0 dk, ek_nt w 25 0 no)
theorem ey_in23 {x : Int32} (h1 : ¬ x < 0) (h2 : x ≤ 23) : vp_in x 24 := by
  obtain ⟨j, hj, rfl⟩ := nI_of h1
  have h3 : nI j ≤ nI 23 := h2
  rw [nI_leI hj (by decide)] at h3
  exact vp_in_nI (by omega) (by decide)
theorem ek_q2 {n : Nat} {y : Int32} (hq : (n : Int) + y.toInt + 1 ≤ 524288) (c : ¬ y < 0) : n < 524288 := by
  obtain ⟨j, hj, rfl⟩ := nI_of c
  rw [nI_toInt hj] at hq
  omega
theorem ek_q3 {n : Nat} {y : Int32} (hq : (n : Int) + y.toInt + 1 ≤ 524288) (c : ¬ y < 0) : ((n + 1 : Nat) : Int) + (y + -1).toInt + 1 ≤ 524288 := by
  obtain ⟨j, hj, rfl⟩ := nI_of c
  rw [nI_toInt hj] at hq
  cases j with
  | zero =>
    have e : (nI 0 + -1).toInt = -1 := by decide
    rw [e]
    omega
  | succ j =>
    rw [pk_m1, nI_toInt (by omega)]
    omega
theorem ek_small {x : Int32} (h1 : ¬ x < 1) (k : Nat) (hk : k < 2 ^ 30) (h2 : x ≤ nI k) : ∃ j : Nat, 1 ≤ j ∧ j ≤ k ∧ x = nI j := by
  obtain ⟨j, hj, rfl⟩ := nI_of (ey_fl_x h1)
  rw [nI_leI hj (by omega)] at h2
  have h3 : ¬ nI j < nI 1 := h1
  rw [nI_ltI hj (by decide)] at h3
  exact ⟨j, by omega, h2, rfl⟩
theorem ek_sum {t B j : Nat} (hB : B ≤ 128) (ht : t ≤ 4096 * B) (hj : j ≤ 100000) (c : nI t + nI j ≤ 4096 * nI B) : t + j ≤ 4096 * B := by
  rw [nI_add, show (4096 : Int32) = nI 4096 from rfl, pk_mul, nI_leI (by omega) (by omega)] at c
  exact c
theorem ek_q1 {t B : Nat} {x : Int32} (hB : B ≤ 128) (ht : t ≤ 4096 * B) (h1 : ¬ x < 1) (h2 : x ≤ 8) (c : nI t + x ≤ 4096 * nI B) : (t : Int) + (x - 1).toInt + 1 ≤ 524288 := by
  obtain ⟨j, hj1, hj8, rfl⟩ := ek_small h1 8 (by decide) h2
  have h := ek_sum hB ht (by omega) c
  rw [show nI j - 1 = nI (j - 1) from pk_sub hj1, nI_toInt (by omega)]
  omega
theorem ek_f1 {t B : Nat} {x : Int32} (hB : B ≤ 128) (ht : t ≤ 4096 * B) (h1 : ¬ x < 1) (h2 : x ≤ 100000) (c : nI t + x ≤ 4096 * nI B) : t + x.toNatClampNeg ≤ 524288 + 0 := by
  obtain ⟨j, hj1, hj8, rfl⟩ := ek_small h1 100000 (by decide) h2
  have h := ek_sum hB ht (by omega) c
  rw [nI_clamp (by omega)]
  omega
theorem ey_lt128 {i : Nat} (h : i ≤ 128) (c : ¬ (128 : Int32) ≤ nI i) : i < 128 := by
  have h3 : ¬ nI 128 ≤ nI i := c
  rw [nI_leI (by decide) (by omega)] at h3
  omega
theorem ek_ltE {i E : Nat} (h : i ≤ E) (hE : E < 2 ^ 30) (c : ¬ nI E ≤ nI i) : i < E := by
  rw [nI_leI (by omega) (by omega)] at c
  omega
theorem ek_en {f g : Int32} {a m j : Nat} (hf : f = nI a) (hg : g = nI m) (ham : a + m < 2 ^ 30) (hj : j < 2 ^ 30) (c : ¬ f + g ≤ nI j) : j + 1 ≤ a + m := by
  rw [hf, hg, nI_add, nI_leI (by omega) (by omega)] at c
  omega
theorem ek_pj {b N j : Nat} (h : b + N < 2 ^ 30) (hj : j < 2 ^ 30) (c : ¬ nI b + nI N ≤ nI j) : j + 1 ≤ b + N := by
  rw [nI_add, nI_leI (by omega) (by omega)] at c
  omega
theorem ek_bN {b N B : Nat} (h : b + N < 2 ^ 30) (hB : B < 2 ^ 30) (c : ¬ nI B < nI b + nI N) : b + N ≤ B := by
  rw [nI_add, nI_ltI (by omega) (by omega)] at c
  omega
theorem ek_happen_r {lab fr to x : Int32} {N E t : Nat} {la fi ma sz dk tf no w : ep_F} (c : ¬ nI N ≤ 0) : ∀ z : ep_F, ek_happen lab fr to x N (la, fi, ma, sz, E) dk tf t no w = (ek_new (ek_hp fr to E (E + 1) 0 (la, fi, ma, sz, 0)) lab x N t, ek_dk x tf t (t + 1) 0 dk, ek_nt w 25 0 no) := fun _ => by
  rw [ek_happen, if_neg c]
def ek_isx (dn : Int32) (E : Nat) (x : Int32) : Int32 := if ¬ dn = 0 then 0 else if x < 0 then 0 else if nI E ≤ x then 0 else 1
def ek_kext (dn : Int32) (E : Nat) (x y : Int32) : Int32 := if ek_isx dn E x = 0 then 1 else if y < 0 then 1 else if 3 < y then 1 else 0
def ek_extent (dn : Int32) (E : Nat) (la fi ma sz : ep_F) (x y : Int32) : Int32 × Int32 := if ek_kext dn E x y = 0 then (if ¬ y = 0 then (if ¬ y = 1 then (if ¬ y = 2 then (sz x.toNatClampNeg, 0) else (ma x.toNatClampNeg, 0)) else (fi x.toNatClampNeg, 0)) else (la x.toNatClampNeg, 0)) else (0, ek_kext dn E x y)
def ek_kbyte (dn : Int32) (E : Nat) (sz : ep_F) (x y : Int32) : Int32 := if ek_isx dn E x = 0 then 1 else if y < 0 then 1 else if sz x.toNatClampNeg ≤ y then 1 else 0
def ek_byte (dn : Int32) (E : Nat) (fi sz dk : ep_F) (x y : Int32) : Int32 × Int32 := if ek_kbyte dn E sz x y = 0 then (dk (4096 * fi x.toNatClampNeg + y).toNatClampNeg &&& 255, 0) else (0, ek_kbyte dn E sz x y)
def ek_kcrash (dn x : Int32) : Int32 := if x < -1 then 1 else if x ≤ 1000 then (if dn = 0 then 0 else 2) else 1
def ek_crash (dn lf x : Int32) (t : Nat) : Int32 × Int32 × Int32 × Nat := if ek_kcrash dn x = 0 then (if ¬ x = 0 then (0, dn, x, t) else (0, 1, -1, 0)) else (ek_kcrash dn x, dn, lf, t)
def ek_kcount (dn x : Int32) : Int32 := if x < 0 then 1 else if x ≤ 3 then (if dn = 0 then 0 else 2) else 1
def ek_cf (us : ep_F) (B : Nat) : Nat → Nat → Int32 → Int32
  | 0, _, a => a
  | k + 1, i, a => if nI B ≤ nI i then a else if us (nI i).toNatClampNeg = 0 then ek_cf us B k (i + 1) (a + 1) else ek_cf us B k (i + 1) (a + 0)
def ek_count (dn x : Int32) (E B t : Nat) (ch : Int32) (fi ma us : ep_F) : Int32 × Int32 × ep_F :=
  if ek_kcount dn x = 0 then (if ¬ x = 1 then (if ¬ x = 0 then (if ¬ x = 2 then (ch, 0, us) else (nI t, 0, us)) else (nI E, 0, us)) else (ek_cf (ek_mark fi ma E us) B (B + 1) 0 0, 0, ek_mark fi ma E us)) else (0, ek_kcount dn x, us)
def ek_sm (ma : ep_F) (E : Nat) : Nat → Nat → Int32 → Int32
  | 0, _, a => a
  | k + 1, i, a => if nI E ≤ nI i then a else ek_sm ma E k (i + 1) (a + ma (nI i).toNatClampNeg)
def ek_df (us : ep_F) (B : Nat) : Nat → Nat → Int32 → Int32
  | 0, _, a => a
  | k + 1, i, a => if nI B ≤ nI i then a else if us (nI i).toNatClampNeg = 0 then ek_df us B k (i + 1) (a + 0) else ek_df us B k (i + 1) (a + 1)
def ek_doubled (dn : Int32) (E B : Nat) (fi ma us : ep_F) : Int32 × Int32 × ep_F := if ek_kdown dn = 0 then (ek_sm ma E (E + 1) 0 0 - ek_df (ek_mark fi ma E us) B B 2 2 + 2, 0, ek_mark fi ma E us) else (0, ek_kdown dn, us)
theorem ek_isx_spec {dn : Int32} {E : Nat} {x : Int32} (h : ¬ ek_isx dn E x = 0) (hE : E ≤ 199) : dn = 0 ∧ ∃ j : Nat, j < E ∧ x = nI j := by
  unfold ek_isx at h
  split at h
  · exact absurd rfl h
  · rename_i h0
    split at h
    · exact absurd rfl h
    · rename_i h1
      split at h
      · exact absurd rfl h
      · rename_i h2
        obtain ⟨j, hj, rfl⟩ := nI_of h1
        rw [nI_leI (by omega) hj] at h2
        exact ⟨Decidable.not_not.mp h0, j, by omega, rfl⟩
theorem ek_isx_in {dn : Int32} {E : Nat} {x : Int32} (hE : E ≤ 199) (h : ¬ ek_isx dn E x = 0) : vp_in x 200 := by
  obtain ⟨-, j, hj, rfl⟩ := ek_isx_spec h hE
  exact vp_in_nI (by omega) (by decide)
theorem ek_byte_in {dn : Int32} {E B : Nat} {x y : Int32} {fi ma sz : ep_F} (hB : B ≤ 128) (hE : E ≤ 199) (hok : ek_ok B fi ma sz E) (h : ¬ ek_isx dn E x = 0) (h1 : ¬ y < 0) (h2 : ¬ sz x.toNatClampNeg ≤ y) : vp_in (4096 * fi x.toNatClampNeg + y) 524288 := by
  obtain ⟨-, j, hj, rfl⟩ := ek_isx_spec h hE
  obtain ⟨a, m, s, e1, e2, e3, ha, hm, ham, hs⟩ := hok j hj
  obtain ⟨k, hk, rfl⟩ := nI_of h1
  rw [nI_clamp (by omega)] at h2 ⊢
  rw [e3, nI_leI (by omega) hk] at h2
  rw [e1, show (4096 : Int32) = nI 4096 from rfl, pk_mul, nI_add]
  exact vp_in_nI (by omega) (by decide)
def ek_st (la : ep_F) (E : Nat) (fr to : Int32) : Nat → Nat → Int32 → Int32
  | 0, _, a => a
  | k + 1, i, a => if nI E ≤ nI i then a else if ek_goes la i fr to = 0 then ek_st la E fr to k (i + 1) (a + 1) else ek_st la E fr to k (i + 1) (a + 0)
/-- code, down, writes, left, tape's length, rows and disk and notes, changes, marks -/
abbrev ek_CS : Type := Int32 × Int32 × Int32 × Int32 × Nat × ek_HR × Int32 × ep_F
def ek_c3 (lab fr to x : Int32) (N : Nat) (q : ek_H) (dk tf : ep_F) (t : Nat) (no w us : ep_F) (dn wr lf ch : Int32) : Int32 × ek_CS :=
  if lf < 0 then (if 0 ≤ lf then (nI N + 1, 0, dn, wr + (nI N + 1), lf - (nI N + 1), 0, ek_happen lab fr to x N q dk tf t no w, ch + 1, us) else (nI N + 1, 0, dn, wr + (nI N + 1), -1, 0, ek_happen lab fr to x N q dk tf t no w, ch + 1, us))
  else if nI N + 1 < lf then (if 0 ≤ lf then (nI N + 1, 0, dn, wr + (nI N + 1), lf - (nI N + 1), 0, ek_happen lab fr to x N q dk tf t no w, ch + 1, us) else (nI N + 1, 0, dn, wr + (nI N + 1), -1, 0, ek_happen lab fr to x N q dk tf t no w, ch + 1, us))
  else if ¬ lf = nI N + 1 then (-3, 0, 1, wr + lf, -1, 0, (q, dk, no), ch, us) else (-3, 0, 1, wr + lf, -1, 0, ek_happen lab fr to x N q dk tf t no w, ch + 1, us)
def ek_c2 (lab fr to x s9 : Int32) (N : Nat) (q : ek_H) (dk tf : ep_F) (t : Nat) (no w us : ep_F) (dn wr lf ch : Int32) : Int32 × ek_CS :=
  if nI N ≤ 0 then ek_c3 lab fr to x N q dk tf t no w us dn wr lf ch else if s9 + 1 ≤ 200 then ek_c3 lab fr to x N q dk tf t no w us dn wr lf ch else (-2, 0, dn, wr, lf, t, (q, dk, no), ch, us)
def ek_change (lab fr to : Int32) (nB N : Nat) (q : ek_H) (dk tf : ep_F) (t : Nat) (no w us : ep_F) (dn wr lf ch : Int32) : Int32 × ek_CS :=
  if dn = 0 then
    (if ¬ nI N = 0 then
      (if (ek_place q.2.1 q.2.2.1 q.2.2.2.2 nB N us).1 < 0 then (-2, 0, dn, wr, lf, t, (q, dk, no), ch, (ek_place q.2.1 q.2.2.1 q.2.2.2.2 nB N us).2)
       else ek_c2 lab fr to (ek_place q.2.1 q.2.2.1 q.2.2.2.2 nB N us).1 (ek_st q.1 q.2.2.2.2 fr to (q.2.2.2.2 + 1) 0 0) N q dk tf t no w (ek_place q.2.1 q.2.2.1 q.2.2.2.2 nB N us).2 dn wr lf ch)
     else ek_c2 lab fr to 2 (ek_st q.1 q.2.2.2.2 fr to (q.2.2.2.2 + 1) 0 0) N q dk tf t no w us dn wr lf ch)
  else (0, 1, dn, wr, lf, t, (q, dk, no), ch, us)
theorem ek_blk {t : Nat} (ht : t ≤ 524288) : (nI t + 4096 - 1) / 4096 = nI ((t + 4095) / 4096) := by
  rw [show (4096 : Int32) = nI 4096 from rfl, nI_add, show (1 : Int32) = nI 1 from rfl, pk_sub (by omega), pk_div (by omega) (by decide) (by decide)]
  rfl
theorem ek_pf_spec (us : ep_F) (nB N : Nat) (hB : nB ≤ 128) (hN : N ≤ 128) : ∀ (k b : Nat), 2 ≤ b → b ≤ nB + 1 → b + k ≤ nB + 2 → ¬ ek_pf us nB N k b < 0 → ∃ a : Nat, ek_pf us nB N k b = nI a ∧ b ≤ a ∧ a + N ≤ nB := by
  intro k
  induction k with
  | zero =>
    intro b _ _ _ h
    exact absurd (show ek_pf us nB N 0 b < 0 by rw [ek_pf]; decide) h
  | succ k ih =>
    intro b h2 hb hk h
    rw [ek_pf] at h ⊢
    by_cases h1 : nI nB < nI b + nI N
    · rw [if_pos h1] at h
      exact absurd (by decide) h
    · rw [if_neg h1] at h ⊢
      have hbN := ek_bN (by omega) (by omega) h1
      by_cases h3 : ek_pf1 us (nI b + nI N) (N + 1) b 1 = 0
      · rw [if_pos h3] at h ⊢
        rcases Nat.lt_or_ge nB (b + 1) with q | q
        · cases k with
          | zero => exact absurd (show ek_pf us nB N 0 (b + 1) < 0 by rw [ek_pf]; decide) h
          | succ k =>
            obtain ⟨a, e1, e2, e3⟩ := ih (b + 1) (by omega) (by omega) (by omega) h
            exact ⟨a, e1, by omega, e3⟩
        · obtain ⟨a, e1, e2, e3⟩ := ih (b + 1) (by omega) (by omega) (by omega) h
          exact ⟨a, e1, by omega, e3⟩
      · rw [if_neg h3]
        exact ⟨b, rfl, Nat.le_refl b, hbN⟩
theorem ek_place_in {fi ma us : ep_F} {E nB t : Nat} (hB : nB ≤ 128) (hB2 : 2 ≤ nB) (ht : t ≤ 524288) (h : ¬ (ek_place fi ma E nB ((t + 4095) / 4096) us).1 < 0) : ∀ k : Nat, k < t → vp_in (4096 * (ek_place fi ma E nB ((t + 4095) / 4096) us).1 + nI k) 524288 := by
  intro k hk
  obtain ⟨a, e1, e2, e3⟩ := ek_pf_spec (ek_mark fi ma E us) nB ((t + 4095) / 4096) hB (by omega) nB 2 (by omega) (by omega) (by omega) h
  have e4 : (ek_place fi ma E nB ((t + 4095) / 4096) us).1 = nI a := e1
  rw [e4, show (4096 : Int32) = nI 4096 from rfl, pk_mul, nI_add]
  exact vp_in_nI (by omega) (by decide)
theorem ek_n1 {N : Nat} (c : ¬ nI N = 0) : 1 ≤ N := by
  rcases Nat.eq_zero_or_pos N with h | h
  · subst h
    exact absurd nI_0 c
  · exact h
theorem ek_size {x y : Int32} (h : (¬ 8 ≤ x ∧ y = 8) ∨ (8 ≤ x ∧ ¬ x ≤ 128 ∧ y = 128) ∨ (8 ≤ x ∧ x ≤ 128 ∧ y = x)) : y = nI (ep_size x) := by
  obtain ⟨e, -, -⟩ := ey_size x
  rw [← e]
  have c8 : (8 : Int32).toInt = 8 := by decide
  have c128 : (128 : Int32).toInt = 128 := by decide
  rcases h with ⟨h1, rfl⟩ | ⟨h1, h2, rfl⟩ | ⟨h1, h2, rfl⟩
  · have a : ¬ (8 : Int32).toInt ≤ x.toInt := fun h => h1 (Int32.le_iff_toInt_le.mpr h)
    rw [if_pos (show x < 128 from Int32.lt_iff_toInt_lt.mpr (by omega)), if_neg (show ¬ (8 : Int32) < x from fun h => by have b := Int32.lt_iff_toInt_lt.mp h; omega)]
  · have a : ¬ x.toInt ≤ (128 : Int32).toInt := fun h => h2 (Int32.le_iff_toInt_le.mpr h)
    rw [if_neg (show ¬ x < 128 from fun h => by have b := Int32.lt_iff_toInt_lt.mp h; omega), if_pos (show (8 : Int32) < 128 by decide)]
  · have a := Int32.le_iff_toInt_le.mp h1
    have b := Int32.le_iff_toInt_le.mp h2
    rcases Int.lt_or_eq_of_le b with q | q
    · rw [if_pos (show y < 128 from Int32.lt_iff_toInt_lt.mpr q)]
      rcases Int.lt_or_eq_of_le a with r | r
      · rw [if_pos (Int32.lt_iff_toInt_lt.mpr r)]
      · rw [if_neg (show ¬ (8 : Int32) < y from fun h => by have b := Int32.lt_iff_toInt_lt.mp h; omega)]
        exact (Int32.toInt_inj.mp r).symm
    · rw [if_neg (show ¬ y < 128 from fun h => by have b := Int32.lt_iff_toInt_lt.mp h; omega), if_pos (show (8 : Int32) < 128 by decide)]
      exact Int32.toInt_inj.mp q
