/-! small sets as numbers: bits, how many -/
def countN (p : Nat → Bool) : Nat → Nat → Nat → Nat
  | 0, _, s => s
  | d + 1, k, s => countN p d (k + 1) (if p k = true then s + 1 else s)
theorem countN_S (p : Nat → Bool) : ∀ (d k s : Nat), nI (countN p d k s) = countS p d k (nI s)
  | 0, k, s => rfl
  | d + 1, k, s => by
    show nI (countN p d (k + 1) (if p k = true then s + 1 else s)) = countS p d (k + 1) (if p k = true then nI s + 1 else nI s)
    rw [countN_S p d (k + 1)]
    split
    · rw [nI_1]
    · rfl
theorem countN_c (p q : Nat → Bool) : ∀ (d k s : Nat), (∀ j, k ≤ j → j < k + d → p j = q j) → countN p d k s = countN q d k s
  | 0, k, s, _ => rfl
  | d + 1, k, s, h => by
    show countN p d (k + 1) (if p k = true then s + 1 else s) = countN q d (k + 1) (if q k = true then s + 1 else s)
    rw [h k (by omega) (by omega)]
    exact countN_c p q d (k + 1) _ (fun j a b => h j (by omega) (by omega))
theorem countN_0 (p : Nat → Bool) : ∀ (d k s : Nat), (∀ j, k ≤ j → j < k + d → p j = false) → countN p d k s = s
  | 0, k, s, _ => rfl
  | d + 1, k, s, h => by
    show countN p d (k + 1) (if p k = true then s + 1 else s) = s
    rw [h k (by omega) (by omega), if_neg (by decide)]
    exact countN_0 p d (k + 1) s (fun j a b => h j (by omega) (by omega))
theorem countN_add (p : Nat → Bool) : ∀ (d e k s : Nat), countN p (d + e) k s = countN p e (k + d) (countN p d k s)
  | 0, e, k, s => by rw [Nat.zero_add]; rfl
  | d + 1, e, k, s => by
    rw [show d + 1 + e = (d + e) + 1 by omega]
    show countN p (d + e) (k + 1) _ = countN p e (k + (d + 1)) (countN p d (k + 1) _)
    rw [countN_add p d e (k + 1), show k + 1 + d = k + (d + 1) by omega]
theorem countN_le (p : Nat → Bool) : ∀ (d k s : Nat), countN p d k s ≤ s + d
  | 0, k, s => by show s ≤ s + 0; omega
  | d + 1, k, s => by
    have h1 := countN_le p d (k + 1) s
    have h2 := countN_le p d (k + 1) (s + 1)
    show countN p d (k + 1) (if p k = true then s + 1 else s) ≤ _
    split <;> omega
/-- how many bits of the first ten -/
def popN (a : Nat) : Nat := countN (fun k => a.testBit k) 10 0 0
theorem bitc_k : ∀ a, a < 1024 → f_J6_bitCount_0f7a4 (nI a) S0 = some (nI (popN a)) := by decide +kernel
theorem bitCount_v {a : Nat} (S : GS) (h : a < 1024) : f_J6_bitCount_0f7a4 (nI a) S = some (nI (popN a)) := bitc_k a h
theorem or_k : ∀ k, k < 10 → ∀ a, a < 2 ^ k → nI a ||| jshl 1 (nI k) = nI (a + 2 ^ k) := by decide +kernel
theorem has_k : ∀ a, a < 1024 → ∀ k, k < 10 → decide (jshr (nI a) (nI k) &&& 1 = 1) = a.testBit k := by decide +kernel
theorem shl_k : ∀ k, k < 11 → jshl 1 (nI k) = nI (2 ^ k) := by decide +kernel
theorem nI_and (a b : Nat) : nI a &&& nI b = nI (a &&& b) := by
  apply Int32.toBitVec_inj.mp
  show BitVec.ofNat 32 a &&& BitVec.ofNat 32 b = BitVec.ofNat 32 (a &&& b)
  exact (BitVec.ofNat_and ..).symm
/-- a set by a truth, from a number on -/
def setN (p : Nat → Bool) : Nat → Nat → Nat → Nat
  | 0, _, a => a
  | d + 1, k, a => setN p d (k + 1) (if p k = true then a + 2 ^ k else a)
theorem setN_lt (p : Nat → Bool) : ∀ (d k a : Nat), a < 2 ^ k → setN p d k a < 2 ^ (k + d)
  | 0, k, a, h => h
  | d + 1, k, a, h => by
    have := setN_lt p d (k + 1) (if p k = true then a + 2 ^ k else a) (by
      rw [Nat.pow_succ]
      split <;> omega)
    rw [show k + (d + 1) = k + 1 + d by omega]
    exact this
theorem testBit_add {a k j : Nat} (h : a < 2 ^ k) : (a + 2 ^ k).testBit j = (if j = k then true else a.testBit j) := by
  rw [Nat.add_comm]
  rcases Nat.lt_trichotomy j k with q | q | q
  · rw [if_neg (by omega), Nat.testBit_two_pow_add_gt q]
  · subst q
    rw [if_pos rfl, Nat.testBit_two_pow_add_eq, Nat.testBit_lt_two_pow h]
    rfl
  · have h1 : 2 ^ (k + 1) ≤ 2 ^ j := Nat.pow_le_pow_right (by decide) q
    rw [Nat.pow_succ] at h1
    rw [if_neg (by omega), Nat.testBit_lt_two_pow (by omega), Nat.testBit_lt_two_pow (by omega)]
theorem setN_bit (p : Nat → Bool) : ∀ (d k a j : Nat), a < 2 ^ k → (setN p d k a).testBit j = (if k ≤ j ∧ j < k + d then p j else a.testBit j)
  | 0, k, a, j, h => by rw [if_neg (by omega)]; rfl
  | d + 1, k, a, j, h => by
    have h2 : (if p k = true then a + 2 ^ k else a) < 2 ^ (k + 1) := by
      rw [Nat.pow_succ]
      split <;> omega
    have hb : ∀ j, (if p k = true then a + 2 ^ k else a).testBit j = (if j = k then p k else a.testBit j) := by
      intro j
      by_cases z : p k = true
      · rw [if_pos z, testBit_add h, z]
      · rw [if_neg z]
        by_cases q : j = k
        · rw [if_pos q, q, Nat.testBit_lt_two_pow h]
          exact (Bool.eq_false_iff.mpr z).symm
        · rw [if_neg q]
    show (setN p d (k + 1) (if p k = true then a + 2 ^ k else a)).testBit j = _
    rw [setN_bit p d (k + 1) _ j h2, hb]
    by_cases q : j = k
    · subst q
      rw [if_neg (show ¬ (j + 1 ≤ j ∧ j < j + 1 + d) by omega), if_pos rfl, if_pos (show j ≤ j ∧ j < j + (d + 1) by omega)]
    · rw [if_neg q]
      by_cases y : k + 1 ≤ j ∧ j < k + 1 + d
      · rw [if_pos y, if_pos (show k ≤ j ∧ j < k + (d + 1) by omega)]
      · rw [if_neg y, if_neg (show ¬ (k ≤ j ∧ j < k + (d + 1)) by omega)]
/-- of a set of the first n, the bits are as many as the truths -/
theorem pop_and (p : Nat → Bool) (n s : Nat) (hn : n ≤ 10) : popN (s &&& setN p n 0 0) = countN (fun k => s.testBit k && p k) n 0 0 := by
  unfold popN
  rw [show 10 = n + (10 - n) by omega, countN_add]
  rw [countN_0 _ (10 - n) _ _ (fun j a b => by
    rw [Nat.testBit_and, setN_bit p n 0 0 j (by decide), if_neg (by omega), Nat.zero_testBit, Bool.and_false])]
  exact countN_c _ _ n 0 0 (fun j a b => by
    rw [Nat.testBit_and, setN_bit p n 0 0 j (by decide), if_pos (by omega)])
theorem pop_set (p : Nat → Bool) (n : Nat) (hn : n ≤ 10) : popN (setN p n 0 0) = countN p n 0 0 := by
  unfold popN
  rw [show 10 = n + (10 - n) by omega, countN_add]
  rw [countN_0 _ (10 - n) _ _ (fun j a b => by
    rw [setN_bit p n 0 0 j (by decide), if_neg (by omega), Nat.zero_testBit])]
  exact countN_c _ _ n 0 0 (fun j a b => by
    rw [setN_bit p n 0 0 j (by decide), if_pos (by omega)])
