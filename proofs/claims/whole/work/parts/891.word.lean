/-! texts: words as numbers -/
def wbN : List (List Nat) := [[114, 111, 111, 109], [108, 97, 100, 121], [112, 114, 111, 112, 101, 114], [115, 108, 97, 99, 107], [114, 101, 115, 116], [103, 108, 97, 115, 115], [119, 105, 110, 100], [111, 112, 101, 110], [115, 104, 117, 116], [115, 105, 103, 104], [116, 105, 101], [108, 111, 111, 115, 101, 110], [103, 111], [116, 111, 97, 115, 116], [109, 105, 110, 117, 116, 101], [109, 97, 114, 107], [102, 101, 108, 108], [115, 116, 111, 111, 100], [115, 104, 111, 116], [111, 119, 101, 115], [109, 97, 105, 100]]
def wb (j i : Nat) : Nat := (wbN.getD j []).getD i 0
def wl (j : Nat) : Nat := (wbN.getD j []).length
def pkN (B : Nat → Nat) (s : Nat) : Nat → Nat
  | 0 => 0
  | n + 1 => pkN B s n * 256 + B (s + n)
def pk (B : Nat → Nat) (s : Nat) : Nat → Int64
  | 0 => 0
  | n + 1 => (jlshl (pk B s n) 8) ||| (nI (B (s + n))).toInt64
def WJ (j : Nat) : Int64 := lN (pkN (wb j) 0 (wl j))
section WO
variable {B C : Nat → Nat} {s t : Nat}
theorem pkN_lt : ∀ n, (∀ i, i < n → B (s + i) < 256) → pkN B s n < 256 ^ n
  | 0, _ => (Nat.one_pos : 0 < 1)
  | n + 1, h => by
    have h1 := pkN_lt n (fun i hi => h i (by omega))
    have h2 := h n (by omega)
    show pkN B s n * 256 + B (s + n) < 256 ^ (n + 1)
    rw [Nat.pow_succ]
    omega
theorem pkN_inj : ∀ n m, (∀ i, i < n → 0 < B (s + i) ∧ B (s + i) < 256) → (∀ i, i < m → 0 < C (t + i) ∧ C (t + i) < 256) → (pkN B s n = pkN C t m ↔ (n = m ∧ ∀ i, i < n → B (s + i) = C (t + i)))
  | 0, 0, _, _ => ⟨fun _ => ⟨rfl, fun i hi => absurd hi (Nat.not_lt_zero _)⟩, fun _ => rfl⟩
  | 0, m + 1, _, h => by
    have := h m (by omega)
    refine ⟨fun e => ?_, fun e => absurd e.1 (by omega)⟩
    have e : 0 = pkN C t m * 256 + C (t + m) := e
    omega
  | n + 1, 0, h, _ => by
    have := h n (by omega)
    refine ⟨fun e => ?_, fun e => absurd e.1 (by omega)⟩
    have e : pkN B s n * 256 + B (s + n) = 0 := e
    omega
  | n + 1, m + 1, h, h' => by
    have a := h n (by omega)
    have b := h' m (by omega)
    have ih := pkN_inj n m (fun i hi => h i (by omega)) (fun i hi => h' i (by omega))
    have e1 : (pkN B s (n + 1) = pkN C t (m + 1)) ↔ (pkN B s n = pkN C t m ∧ B (s + n) = C (t + m)) := by
      show pkN B s n * 256 + B (s + n) = pkN C t m * 256 + C (t + m) ↔ _
      omega
    rw [e1, ih]
    constructor
    · rintro ⟨⟨rfl, h1⟩, h2⟩
      refine ⟨rfl, fun i hi => ?_⟩
      by_cases q : i = n
      · subst q
        exact h2
      · exact h1 i (by omega)
    · rintro ⟨q, h1⟩
      have q : n = m := by omega
      subst q
      exact ⟨⟨rfl, fun i hi => h1 i (by omega)⟩, h1 n (by omega)⟩
theorem pk_step {a b : Nat} (ha : a < 2 ^ 56) (hb : b < 256) : (jlshl (lN a) 8) ||| lN b = lN (a * 256 + b) := by
  unfold jlshl
  rw [show ((8 : Int32).toInt64 &&& 63) = 8 from by decide]
  apply Int64.toBitVec.inj
  rw [Int64.toBitVec_or, Int64.toBitVec_shiftLeft]
  apply BitVec.eq_of_toNat_eq
  have e (x : Nat) (hx : x < 2 ^ 64) : (lN x).toBitVec.toNat = x := by
    show (BitVec.ofNat 64 x).toNat = x
    rw [BitVec.toNat_ofNat, Nat.mod_eq_of_lt hx]
  rw [BitVec.toNat_or, e b (by omega), e _ (by omega)]
  rw [show ((8 : Int64).toBitVec.smod 64) = 8#64 from by decide, BitVec.shiftLeft_eq', BitVec.toNat_shiftLeft, e a (by omega), show (8#64).toNat = 8 from rfl, Nat.mod_eq_of_lt (by rw [Nat.shiftLeft_eq]; omega), ← Nat.shiftLeft_add_eq_or_of_lt (by omega), Nat.shiftLeft_eq]
theorem pk_n : ∀ n, n ≤ 8 → (∀ i, i < n → B (s + i) < 256) → pk B s n = lN (pkN B s n)
  | 0, _, _ => rfl
  | n + 1, hn, h => by
    have h1 := pkN_lt n (fun i hi => h i (by omega))
    have h2 := h n (by omega)
    show (jlshl (pk B s n) 8) ||| (nI (B (s + n))).toInt64 = lN (pkN B s n * 256 + B (s + n))
    rw [pk_n n (by omega) (fun i hi => h i (by omega)), nI_l (by omega)]
    refine pk_step (Nat.lt_of_lt_of_le h1 ?_) h2
    calc 256 ^ n ≤ 256 ^ 7 := Nat.pow_le_pow_right (by decide) (by omega)
      _ = 2 ^ 56 := by decide
end WO
theorem wb_ok : ∀ j, j < 21 → ∀ i, i < 8 → i < wl j → 0 < wb j (0 + i) ∧ wb j (0 + i) < 128 := by decide +kernel
theorem wl_ok : ∀ j, j < 21 → 0 < wl j ∧ wl j ≤ 6 ∧ gSlen.getD j 0 = wl j := by decide +kernel
theorem wb_by : ∀ j, j < 21 → ∀ i, i < 6 → i < wl j → (gSbyt.getD j []).getD i 0 = nI (wb j i) := by decide +kernel
/-- a word is one of the 21, or isn't -/
theorem wd_eq {B : Nat → Nat} {s n j : Nat} (hj : j < 21) (hn : n ≤ 8) (h : ∀ i, i < n → 0 < B (s + i) ∧ B (s + i) < 128) : (pk B s n = WJ j) = (n = wl j ∧ ∀ i, i < n → B (s + i) = wb j i) := by
  obtain ⟨l1, l2, l3⟩ := wl_ok j hj
  have hB : ∀ i, i < n → B (s + i) < 256 := fun i hi => Nat.lt_trans (h i hi).2 (by decide)
  have hC : ∀ i, i < wl j → 0 < wb j (0 + i) ∧ wb j (0 + i) < 256 := fun i hi => ⟨(wb_ok j hj i (by omega) hi).1, Nat.lt_trans (wb_ok j hj i (by omega) hi).2 (by decide)⟩
  have a1 : ∀ (X : Nat → Nat) (s n : Nat), n ≤ 8 → (∀ i, i < n → X (s + i) < 128) → pkN X s n < 2 ^ 63 := fun X s n hn hX => by
    rcases n with _ | n
    · exact (by decide : (0 : Nat) < 2 ^ 63)
    have p : ∀ m, m ≤ n + 1 → pkN X s m < 256 ^ m := fun m hm => pkN_lt m (fun i hi => Nat.lt_trans (hX i (by omega)) (by decide))
    have p2 : ∀ m, m ≤ n → pkN X s (m + 1) < 128 * 256 ^ m := fun m => by
      induction m with
      | zero =>
        intro _
        have := hX 0 (by omega)
        show 0 * 256 + X (s + 0) < 128 * 256 ^ 0
        omega
      | succ m ih =>
        intro hm
        have i1 := ih (by omega)
        have i2 := hX (m + 1) (by omega)
        show pkN X s (m + 1) * 256 + X (s + (m + 1)) < 128 * 256 ^ (m + 1)
        rw [Nat.pow_succ]
        omega
    refine Nat.lt_of_lt_of_le (p2 n (Nat.le_refl _)) ?_
    calc 128 * 256 ^ n ≤ 128 * 256 ^ 7 := Nat.mul_le_mul_left _ (Nat.pow_le_pow_right (by decide) (by omega))
      _ = 2 ^ 63 := by decide
  rw [pk_n n hn hB]
  unfold WJ
  rw [propext (pk_lEQ (a1 _ _ _ hn (fun i hi => (h i hi).2)) (a1 _ _ _ (by omega) (fun i hi => (wb_ok j hj i (by omega) hi).2))), propext (pkN_inj n (wl j) (fun i hi => ⟨(h i hi).1, hB i hi⟩) hC)]
  refine propext ⟨fun ⟨e1, e2⟩ => ⟨e1, fun i hi => ?_⟩, fun ⟨e1, e2⟩ => ⟨e1, fun i hi => ?_⟩⟩
  · rw [e2 i hi, Nat.zero_add]
  · rw [e2 i hi, Nat.zero_add]
theorem WJ_ne0 : ∀ j, j < 21 → WJ j ≠ 0 := by decide +kernel
theorem WJ_v : (WJ 0 = 1919905645 ∧ WJ 1 = 1818322041 ∧ WJ 2 = 123636798219634 ∧ WJ 3 = 495739560811 ∧ WJ 4 = 1919251316 ∧ WJ 5 = 444199957363 ∧ WJ 6 = 2003398244) ∧ (WJ 7 = 1869636974 ∧ WJ 8 = 1936225652 ∧ WJ 9 = 1936287592 ∧ WJ 10 = 7629157 ∧ WJ 11 = 119225867003246 ∧ WJ 12 = 26479 ∧ WJ 13 = 500084863860 ∧ WJ 14 = 120299592184933) ∧ (WJ 15 = 1835102827 ∧ WJ 16 = 1717922924 ∧ WJ 17 = 495874699108 ∧ WJ 18 = 1936224116 ∧ WJ 19 = 1870095731 ∧ WJ 20 = 1835100516) := by decide +kernel
/-- comparisons of longs -/
theorem lc {a b : Int64} : (lg_cmp a b = 0) = (a = b) := propext (lg_cmp_eq a b)
