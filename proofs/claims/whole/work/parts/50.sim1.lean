/-! the tape: the program's and the reference's -/
theorem es_cu : ∀ i : Fin 8, ((8 * nI i.val).toInt64.toUInt64 &&& Int64.toUInt64 63).toBitVec % 64 = BitVec.ofNat 64 (8 * i.val) := by decide +kernel
theorem es_cs : ∀ i : Fin 8, ((8 * nI i.val).toInt64 &&& 63).toBitVec.smod 64 = BitVec.ofNat 64 (8 * i.val) := by decide +kernel
theorem es_low (v : Int64) {i : Nat} (hi : i < 8) : (ey_lushr v (8 * nI i)).toInt32.toInt8 = (ey_lshr v (8 * nI i)).toInt32.toInt8 := by
  have h1 : (ey_lushr v (8 * nI i)).toBitVec = v.toBitVec >>> (BitVec.ofNat 64 (8 * i)) := by
    have e := es_cu ⟨i, hi⟩
    show (v.toUInt64 >>> ((8 * nI i).toInt64.toUInt64 &&& Int64.toUInt64 63)).toBitVec = _
    rw [UInt64.toBitVec_shiftRight, e]
    rfl
  have h2 : (ey_lshr v (8 * nI i)).toBitVec = v.toBitVec.sshiftRight' (BitVec.ofNat 64 (8 * i)) := by
    have e := es_cs ⟨i, hi⟩
    show (v >>> ((8 * nI i).toInt64 &&& 63)).toBitVec = _
    rw [Int64.toBitVec_shiftRight, e]
  have hn : (BitVec.ofNat 64 (8 * i)).toNat = 8 * i := by
    rw [BitVec.toNat_ofNat]
    exact Nat.mod_eq_of_lt (by omega)
  apply Int8.toBitVec_inj.mp
  apply BitVec.eq_of_getLsbD_eq
  intro j hj
  have key : (ey_lushr v (8 * nI i)).toBitVec.getLsbD j = (ey_lshr v (8 * nI i)).toBitVec.getLsbD j := by
    rw [h1, h2, BitVec.ushiftRight_eq', BitVec.sshiftRight_eq', hn, BitVec.getLsbD_ushiftRight, BitVec.getLsbD_sshiftRight]
    have a : ¬ 64 ≤ j := by omega
    have b : 8 * i + j < 64 := by omega
    simp [a, b]
  have st : ∀ x : Int64, (x.toInt32.toInt8).toBitVec.getLsbD j = x.toBitVec.getLsbD j := by
    intro x
    have e1 : (x.toInt32.toInt8).toBitVec = (x.toBitVec.signExtend 32).signExtend 8 := rfl
    have a32 : j < 32 := by omega
    have a64 : j < 64 := by omega
    rw [e1, BitVec.getLsbD_signExtend, BitVec.getLsbD_signExtend, if_pos a32, if_pos a64]
    simp [hj, a32]
  rw [st, st, key]
def es_T (q : ep_T) (z : ek_TT) : Prop := q.2 = nI z.2 ∧ (∀ j, j < z.2 → q.1 j = z.1 j) ∧ sb_Fit q.1
theorem es_app {nt : Nat} {q : ep_T} {z : ek_TT} {b c : Int32} (hnt : nt < 2 ^ 30) (h : es_T q z) (hlt : z.2 < nt) (hb : vp_nar .byte b = vp_nar .byte c) : es_T (ep_app nt q b) (upd z.1 (nI z.2).toNatClampNeg (vp_nar .byte c), z.2 + 1) := by
  obtain ⟨h1, h2, h3⟩ := h
  have e : ep_app nt q b = (upd q.1 q.2.toNatClampNeg (vp_nar .byte b), q.2 + 1) := by
    unfold ep_app
    rw [if_neg (by rw [h1]; exact nI_pos (by omega)), if_neg (by rw [h1, nI_leI (by omega) (by omega)]; omega)]
  rw [e]
  refine ⟨by show q.2 + 1 = nI (z.2 + 1); rw [h1, nI_1], ?_, sb_fitU h3 (pk_fb _)⟩
  intro j hj
  show upd q.1 q.2.toNatClampNeg (vp_nar .byte b) j = upd z.1 (nI z.2).toNatClampNeg (vp_nar .byte c) j
  rw [h1, nI_clamp (by omega), hb]
  by_cases hk : j = z.2
  · rw [hk, pk_us, pk_us]
  · rw [pk_un hk, pk_un hk]
    exact h2 j (by have : j < z.2 + 1 := hj; omega)
/-- put's loop, y = j - 1 -/
theorem es_putl {nt : Nat} {v : Int64} (hnt : nt < 2 ^ 30) : ∀ (k j : Nat) (q : ep_T) (z : ek_TT), j ≤ 8 → es_T q z → z.2 + j ≤ nt → es_T (ep_putl nt v k (nI j - 1) q) (ek_putl v k (nI j - 1) z) ∧ (j < k → (ek_putl v k (nI j - 1) z).2 = z.2 + j) := by
  intro k
  induction k with
  | zero =>
    intro j q z _ h _
    exact ⟨h, fun h => absurd h (Nat.not_lt_zero _)⟩
  | succ k ih =>
    intro j q z hj h hz
    cases j with
    | zero =>
      have hl : nI 0 - 1 < 0 := by decide
      rw [ep_putl, ek_putl, if_pos hl, if_pos hl]
      exact ⟨h, fun _ => rfl⟩
    | succ j =>
      have e : nI (j + 1) - 1 = nI j := nI_pred j
      have e2 : nI j + -1 = nI j - 1 := by
        rw [Int32.sub_eq_add_neg]
      rw [e, ep_putl, ek_putl, if_neg (nI_pos (by omega)), if_neg (nI_pos (by omega)), e2]
      have hs := es_app (nt := nt) (q := q) (z := z) (b := (ey_lushr v (8 * nI j)).toInt32.toInt8.toInt32) (c := (ey_lshr v (8 * nI j)).toInt32.toInt8.toInt32) hnt h (by omega) (by rw [es_low v (by omega)])
      obtain ⟨g1, g2⟩ := ih j _ _ (by omega) hs (by show z.2 + 1 + j ≤ nt; omega)
      exact ⟨g1, fun hk => by rw [g2 (by omega)]; show z.2 + 1 + j = z.2 + (j + 1); omega⟩
theorem es_fll {nt : Nat} {b n : Int32} (hnt : nt < 2 ^ 30) {N : Nat} (hn : n = nI N) (hN : N ≤ 100000) : ∀ (k i : Nat) (q : ep_T) (z : ek_TT), i ≤ N → es_T q z → z.2 + (N - i) ≤ nt → es_T (ep_fll nt b n k i q) (ek_fll b n k i z) ∧ (N - i < k → (ek_fll b n k i z).2 = z.2 + (N - i)) := by
  intro k
  induction k with
  | zero =>
    intro i q z _ h _
    exact ⟨h, fun h => absurd h (Nat.not_lt_zero _)⟩
  | succ k ih =>
    intro i q z hi h hz
    rw [ep_fll, ek_fll]
    by_cases c : n ≤ nI i
    · rw [if_pos c, if_pos c]
      rw [hn, nI_leI (by omega) (by omega)] at c
      exact ⟨h, fun _ => by omega⟩
    · rw [if_neg c, if_neg c]
      rw [hn, nI_leI (by omega) (by omega)] at c
      have hs := es_app (nt := nt) (q := q) (z := z) (b := (b + nI i).toInt8.toInt32) (c := (b + nI i).toInt8.toInt32) hnt h (by omega) rfl
      obtain ⟨g1, g2⟩ := ih (i + 1) _ _ (by omega) hs (by show z.2 + 1 + (N - (i + 1)) ≤ nt; omega)
      exact ⟨g1, fun hk => by rw [g2 (by omega)]; show z.2 + 1 + (N - (i + 1)) = z.2 + (N - i); omega⟩
