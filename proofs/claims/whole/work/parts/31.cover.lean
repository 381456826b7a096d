/-! cover: the sets one after another -/
def covS (f : Nat → Nat) (ok : Nat → Bool) : Nat → Nat → Option Nat → Option Nat
  | 0, _, b => b
  | d + 1, s, b => covS f ok d (s + 1) (match b with
    | none => if ok s = true then some s else none
    | some j => if f s < f j ∧ ok s = true then some s else some j)
theorem popN_le {a np : Nat} (h : a < 2 ^ np) (hn : np ≤ 10) : popN a ≤ np := by
  unfold popN
  rw [show 10 = np + (10 - np) by omega, countN_add]
  rw [countN_0 _ (10 - np) _ _ (fun j x y => Nat.testBit_lt_two_pow (Nat.lt_of_lt_of_le h (Nat.pow_le_pow_right (by decide) (by omega))))]
  have := countN_le (fun k => a.testBit k) np 0 0
  omega
section CW
variable {S S' : GS} {o b k l : Nat} {c : Int32}
theorem ones_l {a : Nat} (ha : a < 1024) : ∀ (d j n : Nat) (s : Int32), j + d = 10 → d < n → f_X12_ones_4 S n (nI a) s (nI j) = some (countS (fun k => a.testBit k) d j s)
  | _, _, 0, _, _, hn => absurd hn (Nat.not_lt_zero _)
  | 0, j, n + 1, s, hj, _ => by
    rw [f_X12_ones_4, if_pos (show (10 : Int32) ≤ nI j from nI_le (a := 10) (by omega) (by omega))]
    rfl
  | d + 1, j, n + 1, s, hj, hn => by
    rw [f_X12_ones_4, if_neg (show ¬ (10 : Int32) ≤ nI j from nI_ge (b := 10) (by omega) (by omega)), m_has, b1_s, has_k a ha j (by omega)]
    unfold f_X12_ones_24
    rw [nI_1, ones_l ha d (j + 1) n _ (by omega) (by omega), ones_l ha d (j + 1) n _ (by omega) (by omega)]
    show _ = some (countS _ d (j + 1) (if a.testBit j = true then s + 1 else s))
    cases a.testBit j
    · rw [if_pos (show bi false = 0 from rfl), Int32.add_zero]
      rfl
    · rw [if_neg (show ¬ bi true = 0 by decide)]
      rfl
theorem ones_v {a : Nat} (ha : a < 1024) : f_X12_ones (nI a) S = some (nI (popN a)) := by
  unfold popN
  rw [countN_S]
  exact ones_l ha 10 0 fu 0 (by omega) (by unfold fu; omega)
def fewV (np : Nat) : Option Nat → Int32
  | none => nI (np + 1)
  | some j => nI (popN j)
theorem covC_l {np : Nat} (hnp : np ≤ 10) {x2 x3 x4 : Int32} {g : Nat → Int32} (hg : ∀ s, s < 2 ^ np → f_X6_firstGapOf 311 (nI s) x2 x3 x4 S = some (g s)) (hW : Wr S) : ∀ (d s n : Nat) (b : Option Nat), s + d = 2 ^ np → d < n → (∀ j, b = some j → j < 2 ^ np) → f_X6_fewestMaids_11 311 S n (nI np) x2 x3 x4 (deepV b) (fewV np b) (nI s) = some (deepV (covS popN (fun s => decide (g s = -1)) d s b))
  | _, _, 0, _, _, hn, _ => absurd hn (Nat.not_lt_zero _)
  | 0, s, n + 1, b, hs, _, _ => by
    have hp : 2 ^ np ≤ 2 ^ 10 := Nat.pow_le_pow_right (by decide) hnp
    rw [f_X6_fewestMaids_11, shl_k np (by omega), if_pos (nI_le (by omega) (by omega))]
    rfl
  | d + 1, s, n + 1, b, hs, hn, hb => by
    have hp : 2 ^ np ≤ 2 ^ 10 := Nat.pow_le_pow_right (by decide) hnp
    have ih := covC_l hnp hg hW d (s + 1) n
    have hps := popN_le (a := s) (np := np) (by omega) hnp
    have hp2 : popN s ≤ 10 := by omega
    rw [f_X6_fewestMaids_11, shl_k np (by omega), if_neg (nI_ge (by omega) (by omega)), bitCount_v S (by omega), b1_s, b1_s, k_311 hW, hg s (by omega), b1_s]
    unfold f_X6_fewestMaids_54
    rw [nI_1]
    cases b with
    | none =>
      rw [if_neg (show ¬ fewV np none ≤ nI (popN s) from nI_ge (by omega) (by omega))]
      show _ = some (deepV (covS popN _ d (s + 1) (if decide (g s = -1) = true then some s else none)))
      by_cases q : g s = -1
      · rw [if_pos q, if_pos (decide_eq_true q)]
        exact ih (some s) (by omega) (by omega) (fun j hj => by cases hj; omega)
      · rw [if_neg q, if_neg (by rw [decide_eq_true_eq]; exact q)]
        exact ih none (by omega) (by omega) (fun j hj => nomatch hj)
    | some j =>
      have hj := hb j rfl
      have hpj := popN_le (a := j) (np := np) hj hnp
      show _ = some (deepV (covS popN _ d (s + 1) (if popN s < popN j ∧ decide (g s = -1) = true then some s else some j)))
      by_cases z : popN s < popN j
      · rw [if_neg (show ¬ fewV np (some j) ≤ nI (popN s) from nI_ge z (by omega))]
        by_cases q : g s = -1
        · rw [if_pos q, if_pos ⟨z, decide_eq_true q⟩]
          exact ih (some s) (by omega) (by omega) (fun j hj => by cases hj; omega)
        · rw [if_neg q, if_neg (by rw [decide_eq_true_eq]; exact fun y => q y.2)]
          exact ih (some j) (by omega) (by omega) hb
      · rw [if_pos (show fewV np (some j) ≤ nI (popN s) from nI_le (by omega) (by omega)), if_neg (fun y => z y.1)]
        exact ih (some j) (by omega) (by omega) hb
theorem covM_l {np : Nat} (hnp : np ≤ 10) {x2 x3 x4 : Int32} {g : Nat → Int32} (hg : ∀ s, s < 2 ^ np → f_X12_gapOf 313 x2 x3 x4 (nI s) S = some (g s)) (hW : Wr S) : ∀ (d s n : Nat) (b : Option Nat), s + d = 2 ^ np → d < n → (∀ j, b = some j → j < 2 ^ np) → f_X12_cover_78 313 n x2 x3 x4 (nI (2 ^ np - 1)) (deepV b) (nI s) S = some (deepV (covS popN (fun s => decide (g s = -1)) d s b), S)
  | _, _, 0, _, _, hn, _ => absurd hn (Nat.not_lt_zero _)
  | 0, s, n + 1, b, hs, _, _ => by
    have hp : 2 ^ np ≤ 2 ^ 10 := Nat.pow_le_pow_right (by decide) hnp
    have hp1 : 1 ≤ 2 ^ np := Nat.one_le_two_pow
    rw [f_X12_cover_78, if_pos (nI_lt (by omega) (by omega))]
    rfl
  | d + 1, s, n + 1, b, hs, hn, hb => by
    have hp : 2 ^ np ≤ 2 ^ 10 := Nat.pow_le_pow_right (by decide) hnp
    have ih := covM_l hnp hg hW d (s + 1) n
    have e104 (x7 : Int32) : f_X12_cover_104 (f_X12_cover_78 313 n) 313 x2 x3 x4 (nI (2 ^ np - 1)) x7 (nI s) S = if g s = -1 then f_X12_cover_78 313 n x2 x3 x4 (nI (2 ^ np - 1)) (nI s) (nI (s + 1)) S else f_X12_cover_78 313 n x2 x3 x4 (nI (2 ^ np - 1)) x7 (nI (s + 1)) S := by
      unfold f_X12_cover_104 f_X12_cover_122 f_X12_cover_123 f_X12_cover_137
      rw [k_313 hW, hg s (by omega), b1_s, nI_1, if_neg n10, if_pos rfl]
    rw [f_X12_cover_78, if_neg (nI_nlt (by omega) (by omega))]
    cases b with
    | none =>
      rw [if_pos (show deepV none = -1 from rfl), e104]
      show _ = some (deepV (covS popN _ d (s + 1) (if decide (g s = -1) = true then some s else none)), S)
      by_cases q : g s = -1
      · rw [if_pos q, if_pos (decide_eq_true q)]
        exact ih (some s) (by omega) (by omega) (fun j hj => by cases hj; omega)
      · rw [if_neg q, if_neg (by rw [decide_eq_true_eq]; exact q)]
        exact ih none (by omega) (by omega) (fun j hj => nomatch hj)
    | some j =>
      have hj := hb j rfl
      have hpj := popN_le (a := j) (np := np) hj hnp
      have hps := popN_le (a := s) (np := np) (by omega) hnp
      show (if nI j = -1 then _ else b1 (f_X12_ones (nI s) S) fun v1 => b1 (f_X12_ones (nI j) S) fun v3 => _) = some (deepV (covS popN _ d (s + 1) (if popN s < popN j ∧ decide (g s = -1) = true then some s else some j)), S)
      rw [if_neg (nI_neg1 j (by omega)), ones_v (by omega), b1_s, ones_v (by omega), b1_s]
      by_cases z : popN s < popN j
      · rw [if_neg (show ¬ nI (popN j) ≤ nI (popN s) from nI_ge z (by omega))]
        refine (e104 (nI j)).trans ?_
        by_cases q : g s = -1
        · rw [if_pos q, if_pos ⟨z, decide_eq_true q⟩]
          exact ih (some s) (by omega) (by omega) (fun j hj => by cases hj; omega)
        · rw [if_neg q, if_neg (by rw [decide_eq_true_eq]; exact fun y => q y.2)]
          exact ih (some j) (by omega) (by omega) hb
      · rw [if_pos (show nI (popN j) ≤ nI (popN s) from nI_le (by omega) (by omega)), if_neg (fun y => z y.1)]
        unfold f_X12_cover_122 f_X12_cover_123 f_X12_cover_137
        rw [if_pos rfl, nI_1]
        exact ih (some j) (by omega) (by omega) hb
end CW
