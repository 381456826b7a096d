/-! what is told, and what is not -/
def TD (S : GS) (s k : Nat) : Prop := k < 2 ∧ ∃ n, n ≤ 2 ∧ S.1 3 s = nI n ∧ S.1 318 s = nI n ∧ k < n
def TN (S : GS) (s : Nat) (c : Int32) : Prop := ∃ n, n ≤ 2 ∧ S.1 3 s = nI n ∧ S.1 318 s = nI n ∧ (c < 0 ∨ ∃ k, k < 2 ^ 31 ∧ c = nI k ∧ n ≤ k)
section TL
variable {S S' : GS} {s k : Nat} {c : Int32}
theorem TD.sm (h : TD S s k) (hS : Sm S S') : TD S' s k := by
  unfold TD
  rw [hS.2.2 3 (by decide), hS.2.2 318 (by decide)]
  exact h
theorem TN.sm (h : TN S s c) (hS : Sm S S') : TN S' s c := by
  unfold TN
  rw [hS.2.2 3 (by decide), hS.2.2 318 (by decide)]
  exact h
theorem Inv.cnt (h : Inv S) (hs : s < 6) : ∃ n, n ≤ 2 ∧ S.1 3 s = nI n ∧ S.1 318 s = nI n := by
  obtain ⟨n, h1, h2, h3⟩ := (h.2.1 0 (by omega)).2.2.2.2.1 s hs
  rw [Nat.mul_zero, Nat.zero_add] at h3
  exact ⟨n, h1, h2, h3⟩
theorem tld (h : Inv S) (hs : s < 6) (c : Int32) : (∃ k, c = nI k ∧ TD S s k) ∨ TN S s c := by
  obtain ⟨n, h1, h2, h3⟩ := h.cnt hs
  by_cases q : c < 0
  · exact Or.inr ⟨n, h1, h2, h3, Or.inl q⟩
  · obtain ⟨k, hk, e⟩ := nI_of q
    by_cases z : k < n
    · exact Or.inl ⟨k, e, by omega, n, h1, h2, h3, z⟩
    · exact Or.inr ⟨n, h1, h2, h3, Or.inr ⟨k, hk, e, by omega⟩⟩
theorem there_y (hW : Wr S) (hs : s < 6) (h : TD S s k) : f_X9_isThere 1 (nI s) (nI k) S = some 1 := by
  obtain ⟨h0, n, h1, h2, h3, h4⟩ := h
  unfold f_X9_isThere
  rw [if_neg (nI_pos (by omega)), if_neg (show ¬ (6 : Int32) ≤ nI s from nI_ge (b := 6) (by omega) (by omega)), if_neg (nI_pos (by omega)), if_neg (show ¬ (2 : Int32) ≤ nI k from nI_ge (b := 2) (by omega) (by omega)), r_1_1 hW, y_3 hW hs, h2, if_neg (nI_ge h4 (by omega))]
theorem there_n (hW : Wr S) (hs : s < 6) (h : TN S s c) : f_X9_isThere 1 (nI s) c S = some 0 := by
  obtain ⟨n, h1, h2, h3, h4⟩ := h
  unfold f_X9_isThere
  rw [if_neg (nI_pos (by omega)), if_neg (show ¬ (6 : Int32) ≤ nI s from nI_ge (b := 6) (by omega) (by omega))]
  rcases h4 with q | ⟨k, hk, rfl, hn⟩
  · rw [if_pos q]
  · rw [if_neg (nI_pos hk)]
    by_cases z : k < 2
    · rw [if_neg (show ¬ (2 : Int32) ≤ nI k from nI_ge (b := 2) (by omega) (by omega)), r_1_1 hW, y_3 hW hs, h2, if_pos (nI_le hn (by omega))]
    · rw [if_pos (show (2 : Int32) ≤ nI k from nI_le (a := 2) (by omega) hk)]
theorem is_y (hW : Wr S) (hs : s < 6) (h : TD S s k) : f_X12_is 313 (nI s) (nI k) S = some 1 := by
  obtain ⟨h0, n, h1, h2, h3, h4⟩ := h
  unfold f_X12_is
  rw [r_313_5 hW, y_318 hW (by omega), h3, m_in0 (by omega) (by omega), decide_eq_true h4]
  rfl
theorem is_n (hW : Wr S) (hs : s < 6) (h : TN S s c) : f_X12_is 313 (nI s) c S = some 0 := by
  obtain ⟨n, h1, h2, h3, h4⟩ := h
  unfold f_X12_is
  rw [r_313_5 hW, y_318 hW (by omega), h3]
  rcases h4 with q | ⟨k, hk, rfl, hn⟩
  · rw [m_inN q]
    rfl
  · rw [m_in0 hk (by omega), decide_eq_false (by omega)]
    rfl
theorem yR_w {α : Type} {o c i n : Nat} {g : Option Nat → Option α} (hW : Wr S) (ho : o < 343) (hc : kd o = c) (hl : ln o = n) (hk : i < n) (hn : i < 2 ^ 31) (hx : o ≠ 230) : yR (some o) c (nI i) S g = g (gRf o i) := by
  rw [yR_n (gk_n hW ho hc) (by rw [hl]; exact hk) hn, hW.2 o i (fun q => hx q.1)]
theorem two {P : Nat → Prop} (h0 : P 0) (h1 : P 1) (hk : k < 2) : P k := by
  rcases (show k = 0 ∨ k = 1 by omega) with rfl | rfl
  · exact h0
  · exact h1
theorem courtAt_y (hW : Wr S) (h : TD S 0 k) : f_X9_courtAt 1 (nI k) S = some (some (10 + 21 * k)) := by
  have hk := h.1
  unfold f_X9_courtAt
  rw [k_1 hW, show f_X9_isThere 1 0 (nI k) S = some 1 from there_y hW (by decide) h, b1_s, if_neg (by decide), r_1_2 hW, yR_w (o := 4) (c := 17) hW (by decide) rfl (n := 2) rfl hk (by omega) (by decide)]
  exact two (P := fun k => some (gRf 4 k) = some (some (10 + 21 * k))) rfl rfl hk
theorem courtAt_n (hW : Wr S) (h : TN S 0 c) : f_X9_courtAt 1 c S = some none := by
  unfold f_X9_courtAt
  rw [k_1 hW, show f_X9_isThere 1 0 c S = some 0 from there_n hW (by decide) h, b1_s, if_pos rfl]
theorem sightAt_y (hW : Wr S) (h : TD S 3 k) : f_X9_sightAt 1 (nI k) S = some (some (18 + 21 * k)) := by
  have hk := h.1
  unfold f_X9_sightAt
  rw [k_1 hW, show f_X9_isThere 1 3 (nI k) S = some 1 from there_y hW (by decide) h, b1_s, if_neg (by decide), r_1_3 hW, yR_w (o := 5) (c := 19) hW (by decide) rfl (n := 2) rfl hk (by omega) (by decide)]
  exact two (P := fun k => some (gRf 5 k) = some (some (18 + 21 * k))) rfl rfl hk
theorem sightAt_n (hW : Wr S) (h : TN S 3 c) : f_X9_sightAt 1 c S = some none := by
  unfold f_X9_sightAt
  rw [k_1 hW, show f_X9_isThere 1 3 c S = some 0 from there_n hW (by decide) h, b1_s, if_pos rfl]
theorem rowsAt_n (hW : Wr S) (hs : s < 6) (x : Int32) (hx : x = nI s) (h : TN S s c) : f_X9_rowsAt 1 x c S = some none := by
  subst hx
  unfold f_X9_rowsAt
  rw [k_1 hW, there_n hW hs h, b1_s, if_pos rfl]
theorem rowsAt_b (hW : Wr S) (h : TD S 1 k) : f_X9_rowsAt 1 1 (nI k) S = some (some (23 + 21 * k)) := by
  have hk := h.1
  unfold f_X9_rowsAt f_X9_rowsIn
  rw [k_1 hW, show f_X9_isThere 1 1 (nI k) S = some 1 from there_y hW (by decide) h, b1_s, if_neg (by decide), k_1 hW, if_neg (nI_pos (by omega)), if_pos (show nI k < (2 : Int32) from nI_lt (b := 2) hk (by omega)), tsw, if_pos rfl, r_1_4 hW, yR_w (o := 6) (c := 18) hW (by decide) rfl (n := 2) rfl hk (by omega) (by decide), b1_s]
  exact two (P := fun k => some (gRf 6 k) = some (some (23 + 21 * k))) rfl rfl hk
theorem rowsAt_f (hW : Wr S) (h : TD S 2 k) : f_X9_rowsAt 1 2 (nI k) S = some (some (25 + 21 * k)) := by
  have hk := h.1
  unfold f_X9_rowsAt f_X9_rowsIn
  rw [k_1 hW, show f_X9_isThere 1 2 (nI k) S = some 1 from there_y hW (by decide) h, b1_s, if_neg (by decide), k_1 hW, if_neg (nI_pos (by omega)), if_pos (show nI k < (2 : Int32) from nI_lt (b := 2) hk (by omega)), tsw, if_neg (by decide), tsw, if_pos (by decide), r_1_5 hW, yR_w (o := 7) (c := 18) hW (by decide) rfl (n := 2) rfl hk (by omega) (by decide), b1_s]
  exact two (P := fun k => some (gRf 7 k) = some (some (25 + 21 * k))) rfl rfl hk
theorem rowsAt_l (hW : Wr S) (h : TD S 4 k) : f_X9_rowsAt 1 4 (nI k) S = some (some (27 + 21 * k)) := by
  have hk := h.1
  unfold f_X9_rowsAt f_X9_rowsIn
  rw [k_1 hW, show f_X9_isThere 1 4 (nI k) S = some 1 from there_y hW (by decide) h, b1_s, if_neg (by decide), k_1 hW, if_neg (nI_pos (by omega)), if_pos (show nI k < (2 : Int32) from nI_lt (b := 2) hk (by omega)), tsw, if_neg (by decide), tsw, if_neg (by decide), tsw, if_neg (by decide), tsw, if_pos (by decide), r_1_6 hW, yR_w (o := 8) (c := 18) hW (by decide) rfl (n := 2) rfl hk (by omega) (by decide), b1_s]
  exact two (P := fun k => some (gRf 8 k) = some (some (27 + 21 * k))) rfl rfl hk
theorem rowsAt_m (hW : Wr S) (h : TD S 5 k) : f_X9_rowsAt 1 5 (nI k) S = some (some (29 + 21 * k)) := by
  have hk := h.1
  unfold f_X9_rowsAt f_X9_rowsIn
  rw [k_1 hW, show f_X9_isThere 1 5 (nI k) S = some 1 from there_y hW (by decide) h, b1_s, if_neg (by decide), k_1 hW, if_neg (nI_pos (by omega)), if_pos (show nI k < (2 : Int32) from nI_lt (b := 2) hk (by omega)), tsw, if_neg (by decide), tsw, if_neg (by decide), tsw, if_neg (by decide), tsw, if_neg (by decide), tsw, if_pos (by decide), r_1_7 hW, yR_w (o := 9) (c := 18) hW (by decide) rfl (n := 2) rfl hk (by omega) (by decide), b1_s]
  exact two (P := fun k => some (gRf 9 k) = some (some (29 + 21 * k))) rfl rfl hk
/-- the reference takes what it is asked about -/
theorem hasBall_y (hW : Wr S) (h : TD S 1 k) : f_X12_hasBall 313 (nI k) S = some (1, sI S 313 28 (nI k)) := by
  unfold f_X12_hasBall
  rw [p_313 hW, k_313 (S := sI S 313 28 (nI k)) hW, show f_X12_is 313 1 (nI k) (sI S 313 28 (nI k)) = some 1 from is_y hW (by decide) (h.sm (sm_I (by decide))), b1_s]
  rfl
theorem hasBall_n (hW : Wr S) (h : TN S 1 c) : f_X12_hasBall 313 c S = some (0, sI S 313 28 c) := by
  unfold f_X12_hasBall
  rw [p_313 hW, k_313 (S := sI S 313 28 c) hW, show f_X12_is 313 1 c (sI S 313 28 c) = some 0 from is_n hW (by decide) (h.sm (sm_I (by decide))), b1_s]
  rfl
theorem hasFc_y (hW : Wr S) (h : TD S 2 k) : f_X12_hasForecast 313 (nI k) S = some (1, sI S 313 45 (nI k)) := by
  unfold f_X12_hasForecast
  rw [p_313 hW, k_313 (S := sI S 313 45 (nI k)) hW, show f_X12_is 313 2 (nI k) (sI S 313 45 (nI k)) = some 1 from is_y hW (by decide) (h.sm (sm_I (by decide))), b1_s]
  rfl
theorem hasFc_n (hW : Wr S) (h : TN S 2 c) : f_X12_hasForecast 313 c S = some (0, sI S 313 45 c) := by
  unfold f_X12_hasForecast
  rw [p_313 hW, k_313 (S := sI S 313 45 c) hW, show f_X12_is 313 2 c (sI S 313 45 c) = some 0 from is_n hW (by decide) (h.sm (sm_I (by decide))), b1_s]
  rfl
theorem hasSi_y (hW : Wr S) (h : TD S 3 k) : f_X12_hasSight 313 (nI k) S = some (1, sI S 313 51 (nI k)) := by
  unfold f_X12_hasSight
  rw [p_313 hW, k_313 (S := sI S 313 51 (nI k)) hW, show f_X12_is 313 3 (nI k) (sI S 313 51 (nI k)) = some 1 from is_y hW (by decide) (h.sm (sm_I (by decide))), b1_s]
  rfl
theorem hasSi_n (hW : Wr S) (h : TN S 3 c) : f_X12_hasSight 313 c S = some (0, sI S 313 51 c) := by
  unfold f_X12_hasSight
  rw [p_313 hW, k_313 (S := sI S 313 51 c) hW, show f_X12_is 313 3 c (sI S 313 51 c) = some 0 from is_n hW (by decide) (h.sm (sm_I (by decide))), b1_s]
  rfl
theorem hasLe_y (hW : Wr S) (h : TD S 4 k) : f_X12_hasLedger 313 (nI k) S = some (1, sI S 313 55 (nI k)) := by
  unfold f_X12_hasLedger
  rw [p_313 hW, k_313 (S := sI S 313 55 (nI k)) hW, show f_X12_is 313 4 (nI k) (sI S 313 55 (nI k)) = some 1 from is_y hW (by decide) (h.sm (sm_I (by decide))), b1_s]
  rfl
theorem hasLe_n (hW : Wr S) (h : TN S 4 c) : f_X12_hasLedger 313 c S = some (0, sI S 313 55 c) := by
  unfold f_X12_hasLedger
  rw [p_313 hW, k_313 (S := sI S 313 55 c) hW, show f_X12_is 313 4 c (sI S 313 55 c) = some 0 from is_n hW (by decide) (h.sm (sm_I (by decide))), b1_s]
  rfl
theorem hasSh_y (hW : Wr S) (h : TD S 5 k) : f_X12_hasShifts 313 (nI k) S = some (1, sI S 313 59 (nI k)) := by
  unfold f_X12_hasShifts
  rw [p_313 hW, k_313 (S := sI S 313 59 (nI k)) hW, show f_X12_is 313 5 (nI k) (sI S 313 59 (nI k)) = some 1 from is_y hW (by decide) (h.sm (sm_I (by decide))), b1_s]
  rfl
theorem hasSh_n (hW : Wr S) (h : TN S 5 c) : f_X12_hasShifts 313 c S = some (0, sI S 313 59 c) := by
  unfold f_X12_hasShifts
  rw [p_313 hW, k_313 (S := sI S 313 59 c) hW, show f_X12_is 313 5 c (sI S 313 59 c) = some 0 from is_n hW (by decide) (h.sm (sm_I (by decide))), b1_s]
  rfl
/-- the court in hand -/
def hS (S : GS) (k : Nat) : GS := sI (sI (sI S 313 25 (nI k)) 313 26 (S.1 319 (69 * k))) 313 27 (S.1 319 (69 * k + 1))
theorem hS_sm (S : GS) (k : Nat) : Sm S (hS S k) := (sm_I (by decide)).tr ((sm_I (by decide)).tr (sm_I (by decide)))
theorem hS_Mc (hW : Wr S) (hk : k < 2) : Mc (hS S k) k := ⟨hW, hk, rfl, rfl, rfl⟩
theorem hand_y (hW : Wr S) (h : TD S 0 k) : f_X12_hand 313 (nI k) S = some (1, hS S k) := by
  have hk := h.1
  have e : ∀ (S' : GS) (x : Int32) (j : Nat), Wr S' → S'.1 313 25 = nI k → x = nI j → j < 69 → f_X12_ofCourt 313 x S' = some (S'.1 319 (69 * k + j)) := by
    intro S' x j hW h1 hx hj
    subst hx
    unfold f_X12_ofCourt
    rw [r_313_6 hW, i_313 hW, h1, show (69 : Int32) * nI k + nI j = nI (69 * k + j) by rw [← nI_add, ← nI_mul]; rfl, y_319 hW (by omega)]
  unfold f_X12_hand
  rw [k_313 hW, show f_X12_is 313 0 (nI k) S = some 1 from is_y hW (by decide) h, b1_s, if_neg (by decide), p_313 hW, k_313 (S := sI S 313 25 (nI k)) hW, e (sI S 313 25 (nI k)) 0 0 hW rfl rfl (by decide), b1_s, p_313 (S := sI S 313 25 (nI k)) hW]
  generalize hq : (sI S 313 25 (nI k)).1 319 (69 * k + 0) = q
  rw [k_313 (S := sI (sI S 313 25 (nI k)) 313 26 q) hW, e (sI (sI S 313 25 (nI k)) 313 26 q) 1 1 hW rfl rfl (by decide), b1_s, p_313 (S := sI (sI S 313 25 (nI k)) 313 26 q) hW]
  subst hq
  rfl
theorem hand_n (hW : Wr S) (h : TN S 0 c) : f_X12_hand 313 c S = some (0, S) := by
  unfold f_X12_hand
  rw [k_313 hW, show f_X12_is 313 0 c S = some 0 from is_n hW (by decide) h, b1_s, if_pos rfl]
end TL
