/-! the program's methods as functions of numbers and rows of numbers: the same tests in the same order -/
abbrev ep_F : Type := Nat → Int32
def ep_blocks (x : Int32) : Int32 := (x + 4096 - 1) / 4096
def ep_down (n : Int32) : Int32 := if n = 0 then 1 else 0
def ep_not (x : Int32) : Int32 := if ¬ x = 0 then 0 else 1
def ep_read (n : Nat) (f : ep_F) (a : Int32) : Int32 := if a < 0 then 0 else if nI n ≤ a then 0 else f a.toNatClampNeg &&& 255
def ep_readInt (n : Nat) (f : ep_F) (a : Int32) : Int32 :=
  ((ep_read n f a <<< ((24 : Int32) &&& 31) ||| ep_read n f (a + 1) <<< ((16 : Int32) &&& 31)) ||| ep_read n f (a + 2) <<< ((8 : Int32) &&& 31)) ||| ep_read n f (a + 3)
/-- bytes, down, written, power left -/
abbrev ep_P : Type := ep_F × Int32 × Int32 × Int32
def ep_write (n : Nat) (q : ep_P) (ns : Nat) (g : ep_F) (bl fr : Int32) : Int32 × ep_P :=
  if ¬ q.2.1 = 0 then (0, q) else if bl * 4096 < 0 then (0, q) else if nI n - 4096 < bl * 4096 then (0, q) else if fr < 0 then (0, q) else
  if fr ≤ nI ns - 4096 then
    (if q.2.2.2 ≤ 0 then (ep_not q.2.1, va_cpy g q.1 fr.toNatClampNeg (bl * 4096).toNatClampNeg (4096 : Int32).toNatClampNeg, q.2.1, q.2.2.1 + 1, q.2.2.2)
     else (ep_not (ep_down (q.2.2.2 - 1)), va_cpy g q.1 fr.toNatClampNeg (bl * 4096).toNatClampNeg (4096 : Int32).toNatClampNeg, ep_down (q.2.2.2 - 1), q.2.2.1 + 1, q.2.2.2 - 1))
  else (0, q)
def ep_room (n : Nat) (len more : Int32) : Int32 := if nI n - len < more then 0 else 1
/-- bytes, length -/
abbrev ep_T : Type := ep_F × Int32
def ep_app (n : Nat) (q : ep_T) (b : Int32) : ep_T := if q.2 < 0 then q else if nI n ≤ q.2 then q else (upd q.1 q.2.toNatClampNeg (vp_nar .byte b), q.2 + 1)
def ep_holds (ex i : Int32) : Int32 := if i < 0 then 0 else if ex ≤ i then 0 else if 200 ≤ i then 0 else 1
/-- labels, firsts, sizes, how many -/
abbrev ep_R : Type := ep_F × ep_F × ep_F × Int32
def ep_add (q : ep_R) (a b c : Int32) : Int32 × ep_R :=
  if q.2.2.2 < 0 then (0, q) else if q.2.2.2 < 200 then (1, upd q.1 q.2.2.2.toNatClampNeg a, upd q.2.1 q.2.2.2.toNatClampNeg b, upd q.2.2.1 q.2.2.2.toNatClampNeg c, q.2.2.2 + 1) else (0, q)
def ep_fill (n : Nat) (v : Int32) (f : ep_F) : ep_F := fun j => if j < n then v else f j
def ep_fol1 (la fi si : ep_F) (fr to : Int32) (i : Nat) (q : ep_R) : ep_R :=
  if la (nI i).toNatClampNeg < fr then (ep_add q (la (nI i).toNatClampNeg) (fi (nI i).toNatClampNeg) (si (nI i).toNatClampNeg)).2
  else if la (nI i).toNatClampNeg ≤ to then q else (ep_add q (la (nI i).toNatClampNeg) (fi (nI i).toNatClampNeg) (si (nI i).toNatClampNeg)).2
def ep_fol (la fi si : ep_F) (ex fr to : Int32) : Nat → Nat → ep_R → ep_R
  | 0, _, q => q
  | k + 1, i, q => if ex ≤ nI i then q else if 200 ≤ nI i then q else ep_fol la fi si ex fr to k (i + 1) (ep_fol1 la fi si fr to i q)
def ep_tn (w : ep_F) : Nat → Nat → ep_F → ep_F
  | 0, _, g => g
  | k + 1, i, g => if 24 ≤ nI i then g else if nI 24 ≤ nI i then g else ep_tn w k (i + 1) (upd g (nI i).toNatClampNeg (w (nI i).toNatClampNeg))
def ep_ct1 (nT : Nat) (en : Int32) : Nat → Int32 → ep_F → ep_F
  | 0, _, t => t
  | k + 1, b, t => if en ≤ b then t else if nI nT ≤ b then t else ep_ct1 nT en k (b + 1) (upd t b.toNatClampNeg (t b.toNatClampNeg + 1))
def ep_ct (fi si : ep_F) (ex : Int32) (nT : Nat) : Nat → Nat → ep_F → ep_F
  | 0, _, t => t
  | k + 1, i, t => if ex ≤ nI i then t else if 200 ≤ nI i then t else ep_ct fi si ex nT k (i + 1) (ep_ct1 nT (fi (nI i).toNatClampNeg + ep_blocks (si (nI i).toNatClampNeg)) (nT + 1) (if 0 < fi (nI i).toNatClampNeg then fi (nI i).toNatClampNeg else 0) t)
def ep_ten (fi si : ep_F) (ex : Int32) (nT : Nat) (t : ep_F) : ep_F := ep_ct fi si ex nT 201 0 (ep_fill nT 0 t)
def ep_si (n : Nat) (g : ep_F) (a v : Int32) : ep_F :=
  if a < 0 then g else if a ≤ nI n - 4 then
    upd (upd (upd (upd g a.toNatClampNeg (vp_nar .byte (ey_ushr v 24).toInt8.toInt32)) (a + 1).toNatClampNeg (vp_nar .byte (ey_ushr v 16).toInt8.toInt32)) (a + 2).toNatClampNeg (vp_nar .byte (ey_ushr v 8).toInt8.toInt32)) (a + 3).toNatClampNeg (vp_nar .byte v.toInt8.toInt32)
  else g
def ep_sn (no : ep_F) (n : Nat) : Nat → Nat → ep_F → ep_F
  | 0, _, g => g
  | k + 1, i, g => if 24 ≤ nI i then g else ep_sn no n k (i + 1) (ep_si n g (8 + 4 * nI i) (no (nI i).toNatClampNeg))
def ep_sr (la fi si : ep_F) (ex : Int32) (n : Nat) : Nat → Nat → ep_F → ep_F
  | 0, _, g => g
  | k + 1, i, g => if ex ≤ nI i then g else if 200 ≤ nI i then g else
      ep_sr la fi si ex n k (i + 1) (ep_si n (ep_si n (ep_si n g (104 + 12 * nI i) (la (nI i).toNatClampNeg)) (104 + 12 * nI i + 4) (fi (nI i).toNatClampNeg)) (104 + 12 * nI i + 8) (si (nI i).toNatClampNeg))
def ep_store (q : ep_R) (no : ep_F) (ch : Int32) (n : Nat) (g : ep_F) : ep_F :=
  ep_sr q.1 q.2.1 q.2.2.1 q.2.2.2 n 201 0 (ep_sn no n 25 0 (ep_si n (ep_si n g 0 ch) 4 q.2.2.2))
def ep_ln (n : Nat) (f : ep_F) (st : Int32) : Nat → Nat → ep_F → ep_F
  | 0, _, no => no
  | k + 1, i, no => if 24 ≤ nI i then no else ep_ln n f st k (i + 1) (upd no (nI i).toNatClampNeg (ep_readInt n f (st + 8 + 4 * nI i)))
def ep_lr (n : Nat) (f : ep_F) (st cnt : Int32) : Nat → Nat → ep_R → ep_R
  | 0, _, q => q
  | k + 1, i, q => if cnt ≤ nI i then q else ep_lr n f st cnt k (i + 1) (ep_add q (ep_readInt n f (st + 104 + 12 * nI i)) (ep_readInt n f (st + 104 + 12 * nI i + 4)) (ep_readInt n f (st + 104 + 12 * nI i + 8))).2
/-- rows, notes, changes -/
abbrev ep_M : Type := ep_R × ep_F × Int32
def ep_load (n : Nat) (f : ep_F) (bl : Int32) (q : ep_M) : ep_M :=
  (ep_lr n f (bl * 4096) (if ep_readInt n f (bl * 4096 + 4) < 200 then ep_readInt n f (bl * 4096 + 4) else 200) 201 0 (q.1.1, q.1.2.1, q.1.2.2.1, 0), ep_ln n f (bl * 4096) 25 0 (ep_fill 24 0 q.2.1), ep_readInt n f (bl * 4096 + 0))
def ep_clear (q : ep_M) : ep_M := ((q.1.1, q.1.2.1, q.1.2.2.1, 0), ep_fill 24 0 q.2.1, 0)
def ep_follow (b : ep_M) (fr to : Int32) (q : ep_M) : ep_M :=
  (ep_fol b.1.1 b.1.2.1 b.1.2.2.1 b.1.2.2.2 fr to 201 0 (q.1.1, q.1.2.1, q.1.2.2.1, 0), ep_fill 24 0 q.2.1, b.2.2 + 1)
theorem ey_fill_end {n i : Nat} {x : Int32} {f g : ep_F} (hg : ∀ j, g j = if j < i then x else f j) (h : i = n) : g = ep_fill n x f := by
  subst h
  funext j
  exact hg j
def ep_fb (n : Nat) (t : ep_F) : Nat → Nat → Int32 → Int32
  | 0, _, a => a
  | k + 1, i, a => if nI n ≤ nI i then a else if ¬ t (nI i).toNatClampNeg = 0 then ep_fb n t k (i + 1) a else ep_fb n t k (i + 1) (a + 1)
def ep_free (fi si : ep_F) (ex : Int32) (n : Nat) (t : ep_F) : Int32 × ep_F := (ep_fb n (ep_ten fi si ex n t) n 2 0, ep_ten fi si ex n t)
def ep_ff (n : Nat) (t : ep_F) (len : Int32) : Nat → Nat → Int32 → Int32
  | 0, _, _ => -1
  | k + 1, i, a => if nI n ≤ nI i then -1 else
      if ¬ t (nI i).toNatClampNeg = 0 then (if ¬ (0 : Int32) = len then ep_ff n t len k (i + 1) 0 else nI i - len + 1)
      else (if ¬ a + 1 = len then ep_ff n t len k (i + 1) (a + 1) else nI i - len + 1)
def ep_first (fi si : ep_F) (ex : Int32) (n : Nat) (t : ep_F) (len : Int32) : Int32 × ep_F := (ep_ff n (ep_ten fi si ex n t) len n 2 0, ep_ten fi si ex n t)
def ep_db (n : Nat) (t : ep_F) : Nat → Nat → Int32 → Int32
  | 0, _, a => a
  | k + 1, i, a => if nI n ≤ nI i then a else ep_db n t k (i + 1) (a + (if 0 < t (nI i).toNatClampNeg - 1 then t (nI i).toNatClampNeg - 1 else 0))
/-- the tape's blocks, one after the other: 0 where the power failed -/
def ep_co (n nt : Nat) (tb : ep_F) (first row : Int32) : Nat → Nat → ep_P → Int32 × ep_P
  | 0, _, q => (1, q)
  | k + 1, i, q => if row ≤ nI i then (1, q) else if ¬ (ep_write n q nt tb (first + nI i) (nI i * 4096)).1 = 0 then ep_co n nt tb first row k (i + 1) (ep_write n q nt tb (first + nI i) (nI i * 4096)).2 else (0, (ep_write n q nt tb (first + nI i) (nI i * 4096)).2)
def ep_putl (n : Nat) (v : Int64) : Nat → Int32 → ep_T → ep_T
  | 0, _, q => q
  | k + 1, x, q => if x < 0 then q else ep_putl n v k (x + -1) (ep_app n q (ey_lushr v (8 * x)).toInt32.toInt8.toInt32)
def ep_fll (n : Nat) (b c : Int32) : Nat → Nat → ep_T → ep_T
  | 0, _, q => q
  | k + 1, i, q => if c ≤ nI i then q else ep_fll n b c k (i + 1) (ep_app n q (b + nI i).toInt8.toInt32)
abbrev ep_C : Type := Int32 × (Nat × Nat) × ep_P × Int32 × ep_F × ep_F × Int32 × Int32 × ep_F
/-- the manifest's own block -/
def ep_carry2 (nw nx nb : Nat) (q : ep_P) (row : Int32) (wf pg : ep_F) (ex ch : Int32) (no : ep_F) (k : ep_M) : ep_C :=
  if ¬ (ep_write nb q 4096 (ep_store k.1 k.2.1 k.2.2 4096 pg) (k.2.2 &&& 1) 0).1 = 0 then
    (row + 1, (nx, nw), (ep_write nb q 4096 (ep_store k.1 k.2.1 k.2.2 4096 pg) (k.2.2 &&& 1) 0).2, 0, wf, ep_store k.1 k.2.1 k.2.2 4096 pg, ex, ch, no)
  else (-3, (nw, nx), (ep_write nb q 4096 (ep_store k.1 k.2.1 k.2.2 4096 pg) (k.2.2 &&& 1) 0).2, 0, ep_fill 24 0 wf, ep_store k.1 k.2.1 k.2.2 4096 pg, 0, 0, ep_fill 24 0 no)
def ep_carry (nw nx nb nt : Nat) (q : ep_P) (tb : ep_F) (ln : Int32) (wf pg : ep_F) (ex ch : Int32) (no : ep_F) (k : ep_M) (first : Int32) : ep_C :=
  if ¬ (ep_co nb nt tb first (ep_blocks ln) 129 0 q).1 = 0 then ep_carry2 nw nx nb (ep_co nb nt tb first (ep_blocks ln) 129 0 q).2 (ep_blocks ln) wf pg ex ch no k
  else (-3, (nw, nx), (ep_co nb nt tb first (ep_blocks ln) 129 0 q).2, 0, ep_fill 24 0 wf, pg, 0, 0, ep_fill 24 0 no)
theorem ep_si_fit {n : Nat} {g : ep_F} {a v : Int32} (h : sb_Fit g) : sb_Fit (ep_si n g a v) := by
  unfold ep_si
  split
  · exact h
  · split
    · exact sb_fitU (sb_fitU (sb_fitU (sb_fitU h (pk_fb _)) (pk_fb _)) (pk_fb _)) (pk_fb _)
    · exact h
theorem ep_sn_fit {no : ep_F} {n : Nat} : ∀ (k i : Nat) (g : ep_F), sb_Fit g → sb_Fit (ep_sn no n k i g) := by
  intro k
  induction k with
  | zero => intro i g h; exact h
  | succ k ih =>
    intro i g h
    unfold ep_sn
    split
    · exact h
    · exact ih _ _ (ep_si_fit h)
theorem ep_sr_fit {la fi si : ep_F} {ex : Int32} {n : Nat} : ∀ (k i : Nat) (g : ep_F), sb_Fit g → sb_Fit (ep_sr la fi si ex n k i g) := by
  intro k
  induction k with
  | zero => intro i g h; exact h
  | succ k ih =>
    intro i g h
    unfold ep_sr
    split
    · exact h
    · split
      · exact h
      · exact ih _ _ (ep_si_fit (ep_si_fit (ep_si_fit h)))
theorem ep_store_fit {q : ep_R} {no : ep_F} {ch : Int32} {n : Nat} {g : ep_F} (h : sb_Fit g) : sb_Fit (ep_store q no ch n g) := ep_sr_fit _ _ _ (ep_sn_fit _ _ _ (ep_si_fit (ep_si_fit h)))
/-! what a call throws: 0 nothing, 1 illegal argument, 2 illegal state -/
def ep_kput (dn : Int32) (nt : Nat) (ln n : Int32) : Nat := if n < 1 then 1 else if n ≤ 8 then (if ¬ dn = 0 then 2 else if ¬ ep_room nt ln n = 0 then 0 else 2) else 1
def ep_kfill (dn : Int32) (nt : Nat) (ln n : Int32) : Nat := if n < 1 then 1 else if n ≤ 100000 then (if ¬ dn = 0 then 2 else if ¬ ep_room nt ln n = 0 then 0 else 2) else 1
def ep_kdown (dn : Int32) : Nat := if dn = 0 then 0 else 2
def ep_knote (dn i : Int32) : Nat := if i < 0 then 1 else if i < 24 then (if dn = 0 then 0 else 2) else 1
def ep_kext (ex i w : Int32) : Nat := if ¬ ep_holds ex i = 0 then (if w = 0 then 0 else if w = 1 then 0 else if w = 2 then 0 else if w = 3 then 0 else 1) else 1
def ep_kbyte (ex i k sz : Int32) : Nat := if ¬ ep_holds ex i = 0 then (if k < 0 then 1 else if k < sz then 0 else 1) else 1
def ep_kcrash (dn n : Int32) : Nat := if n < -1 then 1 else if n ≤ 1000 then (if dn = 0 then 0 else 2) else 1
def ep_kcount (dn w : Int32) : Nat := if w < 0 then 1 else if w ≤ 3 then (if dn = 0 then 0 else 2) else 1
def ep_crash (x ln ex ch : Int32) (no wf : ep_F) : Int32 × Int32 × Int32 × Int32 × ep_F × ep_F := if ep_down x = 0 then (ep_down x, ln, ex, ch, no, wf) else (ep_down x, 0, 0, 0, ep_fill 24 0 no, ep_fill 24 0 wf)
def ep_ext (la fi si : ep_F) (i w : Int32) : Int32 := if w = 0 then la i.toNatClampNeg else if w = 1 then fi i.toNatClampNeg else if w = 2 then ep_blocks (si i.toNatClampNeg) else si i.toNatClampNeg
theorem ey_holds {ex x : Int32} (h : ¬ ep_holds ex x = 0) : vp_in x 200 := by
  unfold ep_holds at h
  split at h
  · exact absurd rfl h
  · rename_i h1
    split at h
    · exact absurd rfl h
    · split at h
      · exact absurd rfl h
      · rename_i h3
        refine ey_in200 h1 ?_
        refine Int32.lt_iff_toInt_lt.mpr ?_
        have a : ¬ (200 : Int32).toInt ≤ x.toInt := fun q => h3 (Int32.le_iff_toInt_le.mpr q)
        omega
def ep_count (w ex ch ln : Int32) (fi si : ep_F) (n : Nat) (t : ep_F) : Int32 × ep_F := if w = 0 then (ex, t) else if w = 1 then ep_free fi si ex n t else if w = 2 then (ln, t) else (ch, t)
def ep_doubled (fi si : ep_F) (ex : Int32) (n : Nat) (t : ep_F) : Int32 × ep_F := (ep_db n (ep_ten fi si ex n t) (n + 1) 0 0, ep_ten fi si ex n t)
def ep_cpN (f g : ep_F) : ep_F := va_cpy f g (0 : Int32).toNatClampNeg (0 : Int32).toNatClampNeg (24 : Int32).toNatClampNeg
def ep_recover (nw nx nb : Nat) (pf : ep_F) (a b : ep_M) (wf : ep_F) : Int32 × (Nat × Nat) × ep_M × ep_M × ep_F :=
  if (ep_load nb pf 1 b).2.2 ≤ (ep_load nb pf 0 a).2.2 then ((ep_load nb pf 0 a).1.2.2.2, (nw, nx), ep_load nb pf 0 a, ep_load nb pf 1 b, ep_cpN (ep_load nb pf 0 a).2.1 wf)
  else ((ep_load nb pf 1 b).1.2.2.2, (nx, nw), ep_load nb pf 0 a, ep_load nb pf 1 b, ep_cpN (ep_load nb pf 1 b).2.1 wf)
/-- what the manifest of a change begins with -/
def ep_next (a : ep_M) (fr to : Int32) (wf : ep_F) (b : ep_M) : ep_M := (ep_fol a.1.1 a.1.2.1 a.1.2.2.1 a.1.2.2.2 fr to 201 0 (b.1.1, b.1.2.1, b.1.2.2.1, 0), ep_tn wf 25 0 (ep_fill 24 0 b.2.1), a.2.2 + 1)
def ep_chg (nw nx nb nt n : Nat) (q : ep_P) (tb : ep_F) (ln : Int32) (wf pg te : ep_F) (a : ep_M) (k : ep_M) (label : Int32) : ep_C × ep_F × ep_M :=
  if ln ≤ 0 then (ep_carry nw nx nb nt q tb ln wf pg a.1.2.2.2 a.2.2 a.2.1 k (-1), te, k)
  else if (ep_first a.1.2.1 a.1.2.2.1 a.1.2.2.2 n te (ep_blocks ln)).1 = -1 then ((-2, (nw, nx), q, ln, wf, pg, a.1.2.2.2, a.2.2, a.2.1), (ep_first a.1.2.1 a.1.2.2.1 a.1.2.2.2 n te (ep_blocks ln)).2, k)
  else if ¬ (ep_add k.1 label (ep_first a.1.2.1 a.1.2.2.1 a.1.2.2.2 n te (ep_blocks ln)).1 ln).1 = 0 then
    (ep_carry nw nx nb nt q tb ln wf pg a.1.2.2.2 a.2.2 a.2.1 ((ep_add k.1 label (ep_first a.1.2.1 a.1.2.2.1 a.1.2.2.2 n te (ep_blocks ln)).1 ln).2, k.2) (ep_first a.1.2.1 a.1.2.2.1 a.1.2.2.2 n te (ep_blocks ln)).1,
      (ep_first a.1.2.1 a.1.2.2.1 a.1.2.2.2 n te (ep_blocks ln)).2, ((ep_add k.1 label (ep_first a.1.2.1 a.1.2.2.1 a.1.2.2.2 n te (ep_blocks ln)).1 ln).2, k.2))
  else ((-2, (nw, nx), q, ln, wf, pg, a.1.2.2.2, a.2.2, a.2.1), (ep_first a.1.2.1 a.1.2.2.1 a.1.2.2.2 n te (ep_blocks ln)).2, ((ep_add k.1 label (ep_first a.1.2.1 a.1.2.2.1 a.1.2.2.2 n te (ep_blocks ln)).1 ln).2, k.2))
def ep_size (x : Int32) : Nat := (if 8 < (if x < 128 then x else 128 : Int32) then (if x < 128 then x else 128) else 8 : Int32).toNatClampNeg
theorem ey_size (x : Int32) : (if 8 < (if x < 128 then x else 128 : Int32) then (if x < 128 then x else 128) else 8 : Int32) = nI (ep_size x) ∧ 8 ≤ ep_size x ∧ ep_size x ≤ 128 := by
  have key : ∃ k : Nat, 8 ≤ k ∧ k ≤ 128 ∧ (if 8 < (if x < 128 then x else 128 : Int32) then (if x < 128 then x else 128) else 8 : Int32) = nI k := by
    by_cases h1 : x < 128
    · rw [if_pos h1]
      by_cases h2 : 8 < x
      · rw [if_pos h2]
        have a := Int32.lt_iff_toInt_lt.mp h1
        have b := Int32.lt_iff_toInt_lt.mp h2
        have c8 : (8 : Int32).toInt = 8 := by decide
        have c9 : (128 : Int32).toInt = 128 := by decide
        have h0 : ¬ x < 0 := fun h => by
          have d := Int32.lt_iff_toInt_lt.mp h
          have c0 : (0 : Int32).toInt = 0 := by decide
          omega
        obtain ⟨j, hj, rfl⟩ := nI_of h0
        rw [nI_toInt hj] at a b
        exact ⟨j, by omega, by omega, rfl⟩
      · rw [if_neg h2]
        exact ⟨8, by decide, by decide, by decide⟩
    · rw [if_neg h1]
      exact ⟨128, by decide, by decide, by decide⟩
  obtain ⟨k, h8, h128, e⟩ := key
  have e2 : ep_size x = k := by
    unfold ep_size
    rw [e, nI_clamp (by omega)]
  rw [e2]
  exact ⟨e, h8, h128⟩
theorem ey_sz1 {k : Nat} (h : k ≤ 128) : ¬ nI k * 4096 < 0 := by
  rw [show (4096 : Int32) = nI 4096 from rfl, pk_mul]
  exact nI_pos (by omega)
theorem ey_sz2 {k : Nat} (h : k ≤ 128) : (nI k * 4096).toNatClampNeg = k * 4096 := by
  rw [show (4096 : Int32) = nI 4096 from rfl, pk_mul]
  exact nI_clamp (by omega)
