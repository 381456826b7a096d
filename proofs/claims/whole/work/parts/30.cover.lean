/-! cover: the first gap, both sides -/
section CV
variable {S S' : GS} {o b k l : Nat} {c : Int32}
theorem gapC_l (hW : Wr S) {A : Nat → Nat} (hA : ∀ m, m < 31 → S.1 312 m = nI (A m) ∧ A m < 1024) {to s : Nat} (hto : to ≤ 30) {x4 : Int32} : ∀ (d m n : Nat), m + d = to + 1 → d < n → f_X6_firstGapOf_7 311 S n (nI s) (nI to) x4 (nI m) = some (firstS (fun m => !decide (x4 ≤ nI (popN (s &&& A m)))) d m)
  | _, _, 0, _, hn => absurd hn (Nat.not_lt_zero _)
  | 0, m, n + 1, hm, _ => by
    rw [f_X6_firstGapOf_7, if_pos (nI_lt (by omega) (by omega))]
    rfl
  | d + 1, m, n + 1, hm, hn => by
    obtain ⟨a1, a2⟩ := hA m (by omega)
    have hlt : s &&& A m < 1024 := Nat.lt_of_le_of_lt Nat.and_le_right a2
    rw [f_X6_firstGapOf_7, if_neg (nI_nlt (by omega) (by omega)), r_311_0 hW, l_312 hW, if_neg (show ¬ (31 : Int32) ≤ nI m from nI_ge (b := 31) (by omega) (by omega)), r_311_0 hW, y_312 hW (by omega), a1, nI_and, bitCount_v S hlt, b1_s, nI_1, gapC_l hW hA hto d (m + 1) n (by omega) (by omega)]
    show _ = some (if (!decide (x4 ≤ nI (popN (s &&& A m)))) = true then nI m else firstS _ d (m + 1))
    by_cases q : x4 ≤ nI (popN (s &&& A m))
    · rw [if_pos q, decide_eq_true q]
      rfl
    · rw [if_neg q, decide_eq_false q]
      rfl
theorem gapM_l {np : Nat} (h : Ms S k np) {to s : Nat} (hto : to ≤ 30) (hs : s < 1024) {x4 : Int32} : ∀ (d m n : Nat), m + d = to + 1 → d < n → f_X12_gapOf_3 313 S n (nI to) x4 (nI s) (nI m) = some (firstS (fun m => !decide (x4 ≤ nI (countN (fun j => s.testBit j && thP S k m j) np 0 0))) d m)
  | _, _, 0, _, hn => absurd hn (Nat.not_lt_zero _)
  | 0, m, n + 1, hm, _ => by
    rw [f_X12_gapOf_3, if_pos (nI_lt (by omega) (by omega))]
    rfl
  | d + 1, m, n + 1, hm, hn => by
    rw [f_X12_gapOf_3, if_neg (nI_nlt (by omega) (by omega)), k_313 h.1, there_v h (by omega) hs, b1_s, nI_1, gapM_l h hto hs d (m + 1) n (by omega) (by omega)]
    show _ = some (if (!decide (x4 ≤ nI (countN (fun j => s.testBit j && thP S k m j) np 0 0))) = true then nI m else firstS _ d (m + 1))
    by_cases q : x4 ≤ nI (countN (fun j => s.testBit j && thP S k m j) np 0 0)
    · rw [if_pos q, decide_eq_true q]
      rfl
    · rw [if_neg q, decide_eq_false q]
      rfl
theorem firstS_c {p q : Nat → Bool} : ∀ (d k : Nat), (∀ j, k ≤ j → j < k + d → p j = q j) → firstS p d k = firstS q d k
  | 0, k, _ => rfl
  | d + 1, k, h => by
    show (if p k = true then nI k else firstS p d (k + 1)) = (if q k = true then nI k else firstS q d (k + 1))
    rw [h k (by omega) (by omega), firstS_c d (k + 1) (fun j a b => h j (by omega) (by omega))]
end CV
