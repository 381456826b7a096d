/-! texts: marks as bits of a long -/
theorem sh_k : ∀ v, v < 41 → ((nI v).toInt64 &&& 63) = lN v ∧ (lN v).toBitVec.smod 64 = BitVec.ofNat 64 v ∧ jlshl 1 (nI v) = lN (2 ^ v) := by decide +kernel
theorem lN_bv {a : Nat} (h : a < 2 ^ 63) : (lN a).toBitVec.toNat = a := by
  show (BitVec.ofNat 64 a).toNat = a
  rw [BitVec.toNat_ofNat, Nat.mod_eq_of_lt (by omega)]
theorem lN_or {a b : Nat} (ha : a < 2 ^ 63) (hb : b < 2 ^ 63) : lN a ||| lN b = lN (a ||| b) := by
  apply Int64.toBitVec.inj
  rw [Int64.toBitVec_or]
  apply BitVec.eq_of_toNat_eq
  rw [BitVec.toNat_or, lN_bv ha, lN_bv hb, lN_bv (Nat.or_lt_two_pow ha hb)]
theorem shr_l {M v : Nat} (hM : M < 2 ^ 41) (hv : v ≤ 40) : jlshr (lN M) (nI v) = lN (M >>> v) := by
  obtain ⟨a1, a2, -⟩ := sh_k v (by omega)
  unfold jlshr
  rw [a1]
  apply Int64.toBitVec.inj
  rw [Int64.toBitVec_shiftRight, a2]
  apply BitVec.eq_of_toNat_eq
  have hm : (lN M).toBitVec.msb = false := by
    rw [BitVec.msb_eq_decide, lN_bv (by omega)]
    exact decide_eq_false (by omega)
  have hl : M >>> v < 2 ^ 63 := Nat.lt_of_le_of_lt (Nat.shiftRight_le M v) (by omega)
  rw [lN_bv hl, BitVec.sshiftRight_eq', BitVec.toNat_ofNat, Nat.mod_eq_of_lt (by omega), BitVec.sshiftRight_eq_of_msb_false hm, BitVec.toNat_ushiftRight, lN_bv (by omega)]
theorem bit_l {M v : Nat} (hM : M < 2 ^ 41) (hv : v ≤ 40) : (jlshr (lN M) (nI v)) &&& 1 = 1 ↔ M.testBit v = true := by
  rw [shr_l hM hv]
  have hl : M >>> v < 2 ^ 63 := Nat.lt_of_le_of_lt (Nat.shiftRight_le M v) (by omega)
  have e : lN (M >>> v) &&& 1 = lN (M >>> v &&& 1) := by
    apply Int64.toBitVec.inj
    rw [Int64.toBitVec_and]
    apply BitVec.eq_of_toNat_eq
    rw [BitVec.toNat_and, lN_bv hl, lN_bv (Nat.lt_of_le_of_lt (Nat.and_le_left) hl)]
    rfl
  have h2 : M >>> v &&& 1 = M >>> v % 2 := Nat.and_one_is_mod _
  rw [e, h2, show (1 : Int64) = lN 1 from rfl, pk_lEQ (by omega) (by omega), Nat.testBit, Nat.and_comm, h2]
  rcases Nat.mod_two_eq_zero_or_one (M >>> v) with z | z <;> rw [z] <;> decide
theorem or_l {M v : Nat} (hM : M < 2 ^ 41) (hv : v ≤ 40) : lN M ||| jlshl 1 (nI v) = lN (M ||| 2 ^ v) := by
  rw [(sh_k v (by omega)).2.2]
  exact lN_or (by omega) (Nat.lt_of_le_of_lt (Nat.pow_le_pow_right (by decide) hv) (by decide))
theorem MTd.add {T T' : GS} {n v : Nat} (h : MTd T n) (hv : v ≤ 40) (h1 : T'.2.1 313 24 = T.2.1 313 24 ||| jlshl 1 (nI v)) (h2 : ∀ j, j < n → T'.1 325 (17 + 2 * j) = T.1 325 (17 + 2 * j)) (h3 : T'.1 325 (17 + 2 * n) = nI v) : MTd T' (n + 1) := by
  obtain ⟨M, z1, z2, z3⟩ := h
  refine ⟨M ||| 2 ^ v, by rw [h1, z1, or_l z2 hv], Nat.or_lt_two_pow z2 (Nat.lt_of_le_of_lt (Nat.pow_le_pow_right (by decide) hv) (by decide)), fun u hu => ?_⟩
  rw [Nat.testBit_or, Bool.or_eq_true, z3 u hu, Nat.testBit_two_pow]
  constructor
  · rintro (⟨k, a, b⟩ | a)
    · exact ⟨k, by omega, by rw [h2 k a]; exact b⟩
    · exact ⟨n, by omega, by rw [h3, of_decide_eq_true a]⟩
  · rintro ⟨k, a, b⟩
    by_cases y : k = n
    · subst y
      rw [h3] at b
      exact Or.inr (decide_eq_true ((nI_eq (by omega) (by omega)).mp b))
    · rw [h2 k (by omega)] at b
      exact Or.inl ⟨k, by omega, b⟩
