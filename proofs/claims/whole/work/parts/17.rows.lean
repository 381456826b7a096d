/-! row lists that are told: deed, pawn, maid, mark, dance -/
/-- both sides' row list -/
def LF (S : GS) (o w m a p q : Nat) (V : (Nat → Int32) → Prop) : Prop := Rw S o m w ∧ S.1 a p = nI (nr S o) ∧ (∀ k, k < nr S o → ∀ i, i < w → S.1 (o + 1) (w * k + i) = S.1 a (q + (w * k + i))) ∧ ∀ k, k < nr S o → V (fun i => S.1 a (q + (w * k + i)))
section LI
variable {S S' : GS} {o b k l w m a p q : Nat} {c : Int32} {V : (Nat → Int32) → Prop}
theorem Inv.lf_b (h : Inv S) (hk : k < 2) : LF S (23 + 21 * k) 3 40 320 (121 * k) (121 * k + 1) vDeed := by
  have hT := h.2.1 0 (by omega)
  have h0 : RwL S 23 3 40 320 0 1 vDeed := hT.2.2.2.2.2.1.2.2.2.2.1
  have h1 : RwL S 44 3 40 320 121 122 vDeed := hT.2.2.2.2.2.2.2.2.2.2.1
  exact two (P := fun k => LF S (23 + 21 * k) 3 40 320 (121 * k) (121 * k + 1) vDeed) (h0.rw h.1 (by decide) rfl rfl rfl rfl (by decide) (by decide)) (h1.rw h.1 (by decide) rfl rfl rfl rfl (by decide) (by decide)) hk
theorem Inv.lf_f (h : Inv S) (hk : k < 2) : LF S (25 + 21 * k) 1 16 321 (17 * k) (17 * k + 1) vMark := by
  have hT := h.2.1 0 (by omega)
  have h0 : RwL S 25 1 16 321 0 1 vMark := hT.2.2.2.2.2.1.2.2.2.2.2.1
  have h1 : RwL S 46 1 16 321 17 18 vMark := hT.2.2.2.2.2.2.2.2.2.2.2.1
  exact two (P := fun k => LF S (25 + 21 * k) 1 16 321 (17 * k) (17 * k + 1) vMark) (h0.rw h.1 (by decide) rfl rfl rfl rfl (by decide) (by decide)) (h1.rw h.1 (by decide) rfl rfl rfl rfl (by decide) (by decide)) hk
theorem Inv.lf_l (h : Inv S) (hk : k < 2) : LF S (27 + 21 * k) 3 30 323 (91 * k) (91 * k + 1) vPawn := by
  have hT := h.2.1 0 (by omega)
  have h0 : RwL S 27 3 30 323 0 1 vPawn := hT.2.2.2.2.2.1.2.2.2.2.2.2.1
  have h1 : RwL S 48 3 30 323 91 92 vPawn := hT.2.2.2.2.2.2.2.2.2.2.2.2.1
  exact two (P := fun k => LF S (27 + 21 * k) 3 30 323 (91 * k) (91 * k + 1) vPawn) (h0.rw h.1 (by decide) rfl rfl rfl rfl (by decide) (by decide)) (h1.rw h.1 (by decide) rfl rfl rfl rfl (by decide) (by decide)) hk
theorem Inv.lf_m (h : Inv S) (hk : k < 2) : LF S (29 + 21 * k) 2 10 324 (21 * k) (21 * k + 1) vMaid := by
  have hT := h.2.1 0 (by omega)
  have h0 : RwL S 29 2 10 324 0 1 vMaid := hT.2.2.2.2.2.1.2.2.2.2.2.2.2
  have h1 : RwL S 50 2 10 324 21 22 vMaid := hT.2.2.2.2.2.2.2.2.2.2.2.2.2
  exact two (P := fun k => LF S (29 + 21 * k) 2 10 324 (21 * k) (21 * k + 1) vMaid) (h0.rw h.1 (by decide) rfl rfl rfl rfl (by decide) (by decide)) (h1.rw h.1 (by decide) rfl rfl rfl rfl (by decide) (by decide)) hk
/-- how many; a row's number -/
theorem Rw.n40 (h : Rw S o m w) : nr S o ≤ 40 := Nat.le_trans h.2.2.2.2.2.2.2.1 h.2.2.2.2.2.2.2.2.1
theorem rowCell_n (x1 x2 : Int32) : f_X11_rowCell none x1 x2 S = some (-2) := rfl
theorem rowCell_c (h : Rw S o m w) (x2 : Int32) : f_X11_rowCell (some o) (-1) x2 S = some (if x2 = 0 then nI (nr S o) else -2) := by
  unfold f_X11_rowCell
  rw [nul_s, if_pos rfl, xI_s h.1, h.2.2.2.2.2.2.1]
  split <;> rfl
theorem rowCell_o (h : Rw S o m w) {x1 : Int32} (x2 : Int32) (hx : x1 ≠ -1) (hq : x1 < 0 ∨ ∃ l, l < 2 ^ 31 ∧ x1 = nI l ∧ nr S o ≤ l) : f_X11_rowCell (some o) x1 x2 S = some (-2) := by
  unfold f_X11_rowCell
  rw [nul_s, if_neg hx, c1_s h.1, has_n h hq, b1_s, if_pos rfl]
theorem rowCell_x (h : Rw S o m w) (hl : l < nr S o) {x2 : Int32} (hq : x2 < 0 ∨ ∃ i, i < 2 ^ 31 ∧ x2 = nI i ∧ w ≤ i) : f_X11_rowCell (some o) (nI l) x2 S = some (-2) := by
  have := h.n40
  unfold f_X11_rowCell
  rw [nul_s, if_neg (nI_neg1 l (by omega)), c1_s h.1, has_y h hl, b1_s, if_neg n10]
  rcases hq with q | ⟨i, hi, rfl, hw⟩
  · rw [if_pos q]
  · rw [if_neg (nI_pos hi), xI_s h.1, h.2.2.2.2.2.1, if_pos (nI_le hw hi)]
theorem rowCell_y (h : Rw S o m w) (hl : l < nr S o) {i : Nat} (hi : i < w) : f_X11_rowCell (some o) (nI l) (nI i) S = some (S.1 (o + 1) (w * l + i)) := by
  have := h.n40
  have h5 : w ≤ 5 := h.2.2.2.2.2.2.2.2.2
  unfold f_X11_rowCell
  rw [nul_s, if_neg (nI_neg1 l (by omega)), c1_s h.1, has_y h hl, b1_s, if_neg n10, if_neg (nI_pos (by omega)), xI_s h.1, h.2.2.2.2.2.1, if_neg (nI_ge hi (by omega)), c1_s h.1, h.cell hl hi, b1_s]
theorem numQ (x : Int32) (n : Nat) : (∃ l, x = nI l ∧ l < n) ∨ (x < 0 ∨ ∃ l, l < 2 ^ 31 ∧ x = nI l ∧ n ≤ l) := by
  by_cases q : x < 0
  · exact Or.inr (Or.inl q)
  · obtain ⟨l, hl, e⟩ := nI_of q
    by_cases z : l < n
    · exact Or.inl ⟨l, e, z⟩
    · exact Or.inr (Or.inr ⟨l, hl, e, by omega⟩)
theorem in0_n {n : Nat} (hn : n < 2 ^ 31) {x : Int32} (hq : x < 0 ∨ ∃ l, l < 2 ^ 31 ∧ x = nI l ∧ n ≤ l) : f_X12_in x 0 (nI n - 1) S = some 0 := by
  rcases hq with q | ⟨l, hl, rfl, hw⟩
  · exact m_inN q
  · rw [m_in0 hl hn, decide_eq_false (by omega)]
    rfl
theorem in0_y {n : Nat} (hn : n < 2 ^ 31) (hl : l < n) : f_X12_in (nI l) 0 (nI n - 1) S = some 1 := by
  rw [m_in0 (by omega) hn, decide_eq_true hl]
  rfl
theorem deeds_v (hW : Wr S) (hk : k < 2) (h1 : S.1 313 28 = nI k) : f_X12_deeds 313 S = some (S.1 320 (121 * k)) := by
  unfold f_X12_deeds
  rw [r_313_7 hW, i_313 hW, h1, show (121 : Int32) * nI k = nI (121 * k) from nI_mul 121 k, y_320 hW (by omega)]
theorem deedOf_v (hW : Wr S) (hk : k < 2) (h1 : S.1 313 28 = nI k) {x c : Int32} {i : Nat} (hx : x = nI l) (hc : c = nI i) (hl : l < 40) (hi : i < 3) : f_X12_deedOf 313 x c S = some (S.1 320 (121 * k + 1 + (3 * l + i))) := by
  subst hx hc
  unfold f_X12_deedOf
  rw [r_313_7 hW, i_313 hW, h1, show (121 : Int32) * nI k + 1 + 3 * nI l + nI i = nI (121 * k + 1 + (3 * l + i)) by rw [show 121 * k + 1 + (3 * l + i) = 121 * k + 1 + 3 * l + i by omega, ← nI_add, ← nI_add, ← nI_add, ← nI_mul, ← nI_mul]; rfl, y_320 hW (by omega)]
theorem both_deed (h : Inv S) (x1 x2 x3 : Int32) : Both (f_X11_deed 0 x1 x2 x3 S) (f_X12_deed 313 x1 x2 x3) S := by
  have hW := h.1
  have hs : Sm S (s0 S) := sm_I (by decide)
  unfold Both f_X11_deed f_X12_deed
  rw [r_0_0 hW, k_1 hW, p_313 hW, kk_313 (S := s0 S) hW]
  rcases tld h (s := 1) (by decide) x1 with ⟨k, rfl, hk⟩ | hn
  · obtain ⟨f1, f2, f3, f4⟩ := h.lf_b hk.1
    have n40 := f1.n40
    have hm : nr S (23 + 21 * k) ≤ 40 := f1.2.2.2.2.2.2.2.1
    have hs3 : Sm S (sI (s0 S) 313 28 (nI k)) := hs.tr (sm_I (by decide))
    have hv : f_X12_deeds 313 (sI (s0 S) 313 28 (nI k)) = some (nI (nr S (23 + 21 * k))) := by rw [deeds_v (S := sI (s0 S) 313 28 (nI k)) hW hk.1 rfl, ← f2]; rfl
    rw [rowsAt_b hW hk, b1_s, hasBall_y (S := s0 S) hW (hk.sm hs), b2_s, if_neg n10]
    by_cases q : x2 = -1
    · subst q
      rw [rowCell_c f1, b1_s, if_pos rfl]
      by_cases z : x3 = 0
      · refine ⟨_, _, by rw [if_pos z], ?_, h.sm hs3⟩
        rw [if_pos z, k_313 (S := sI (s0 S) 313 28 (nI k)) hW, hv, b1_s]
      · exact ⟨_, _, by rw [if_neg z], by rw [if_neg z], h.sm hs3⟩
    · rw [if_neg q, k_313 (S := sI (s0 S) 313 28 (nI k)) hW, hv, b1_s]
      rcases numQ x2 (nr S (23 + 21 * k)) with ⟨l, rfl, hl⟩ | hx
      · rw [in0_y (by omega) hl, b1_s, if_neg n10]
        rcases numQ x3 3 with ⟨i, rfl, hi⟩ | hx
        · refine ⟨_, _, by rw [rowCell_y f1 hl hi, b1_s], ?_, h.sm hs3⟩
          rw [show f_X12_in (nI i) 0 2 (sI (s0 S) 313 28 (nI k)) = some 1 from in0_y (n := 3) (by decide) hi, b1_s, if_neg n10, k_313 (S := sI (s0 S) 313 28 (nI k)) hW, deedOf_v (S := sI (s0 S) 313 28 (nI k)) hW hk.1 rfl rfl rfl (by omega) hi, b1_s, f3 l hl i hi]
          rfl
        · refine ⟨_, _, by rw [rowCell_x f1 hl hx, b1_s], ?_, h.sm hs3⟩
          rw [show f_X12_in x3 0 2 (sI (s0 S) 313 28 (nI k)) = some 0 from in0_n (n := 3) (by decide) hx, b1_s, if_pos rfl]
      · refine ⟨_, _, by rw [rowCell_o f1 x3 q hx, b1_s], ?_, h.sm hs3⟩
        rw [in0_n (by omega) hx, b1_s, if_pos rfl]
  · rw [rowsAt_n hW (s := 1) (by decide) 1 rfl hn, b1_s, rowCell_n, b1_s, hasBall_n (S := s0 S) hW (hn.sm hs), b2_s, if_pos rfl]
    exact ⟨-2, _, rfl, rfl, h.sm (hs.tr (sm_I (by decide)))⟩
theorem pawns_v (hW : Wr S) (hk : k < 2) (h1 : S.1 313 55 = nI k) : f_X12_pawns 313 S = some (S.1 323 (91 * k)) := by
  unfold f_X12_pawns
  rw [r_313_10 hW, i_313 hW, h1, show (91 : Int32) * nI k = nI (91 * k) from nI_mul 91 k, y_323 hW (by omega)]
theorem pawnOf_v (hW : Wr S) (hk : k < 2) (h1 : S.1 313 55 = nI k) {x c : Int32} {i : Nat} (hx : x = nI l) (hc : c = nI i) (hl : l < 30) (hi : i < 3) : f_X12_pawnOf 313 x c S = some (S.1 323 (91 * k + 1 + (3 * l + i))) := by
  subst hx hc
  unfold f_X12_pawnOf
  rw [r_313_10 hW, i_313 hW, h1, show (91 : Int32) * nI k + 1 + 3 * nI l + nI i = nI (91 * k + 1 + (3 * l + i)) by rw [show 91 * k + 1 + (3 * l + i) = 91 * k + 1 + 3 * l + i by omega, ← nI_add, ← nI_add, ← nI_add, ← nI_mul, ← nI_mul]; rfl, y_323 hW (by omega)]
theorem both_pawn (h : Inv S) (x1 x2 x3 : Int32) : Both (f_X11_pawn 0 x1 x2 x3 S) (f_X12_pawn 313 x1 x2 x3) S := by
  have hW := h.1
  have hs : Sm S (s0 S) := sm_I (by decide)
  unfold Both f_X11_pawn f_X12_pawn
  rw [r_0_0 hW, k_1 hW, p_313 hW, kk_313 (S := s0 S) hW]
  rcases tld h (s := 4) (by decide) x1 with ⟨k, rfl, hk⟩ | hn
  · obtain ⟨f1, f2, f3, f4⟩ := h.lf_l hk.1
    have n40 := f1.n40
    have hm : nr S (27 + 21 * k) ≤ 30 := f1.2.2.2.2.2.2.2.1
    have hs3 : Sm S (sI (s0 S) 313 55 (nI k)) := hs.tr (sm_I (by decide))
    have hv : f_X12_pawns 313 (sI (s0 S) 313 55 (nI k)) = some (nI (nr S (27 + 21 * k))) := by rw [pawns_v (S := sI (s0 S) 313 55 (nI k)) hW hk.1 rfl, ← f2]; rfl
    rw [rowsAt_l hW hk, b1_s, hasLe_y (S := s0 S) hW (hk.sm hs), b2_s, if_neg n10]
    by_cases q : x2 = -1
    · subst q
      rw [rowCell_c f1, b1_s, if_pos rfl]
      by_cases z : x3 = 0
      · refine ⟨_, _, by rw [if_pos z], ?_, h.sm hs3⟩
        rw [if_pos z, k_313 (S := sI (s0 S) 313 55 (nI k)) hW, hv, b1_s]
      · exact ⟨_, _, by rw [if_neg z], by rw [if_neg z], h.sm hs3⟩
    · rw [if_neg q, k_313 (S := sI (s0 S) 313 55 (nI k)) hW, hv, b1_s]
      rcases numQ x2 (nr S (27 + 21 * k)) with ⟨l, rfl, hl⟩ | hx
      · rw [in0_y (by omega) hl, b1_s, if_neg n10]
        rcases numQ x3 3 with ⟨i, rfl, hi⟩ | hx
        · refine ⟨_, _, by rw [rowCell_y f1 hl hi, b1_s], ?_, h.sm hs3⟩
          rw [show f_X12_in (nI i) 0 2 (sI (s0 S) 313 55 (nI k)) = some 1 from in0_y (n := 3) (by decide) hi, b1_s, if_neg n10, k_313 (S := sI (s0 S) 313 55 (nI k)) hW, pawnOf_v (S := sI (s0 S) 313 55 (nI k)) hW hk.1 rfl rfl rfl (by omega) hi, b1_s, f3 l hl i hi]
          rfl
        · refine ⟨_, _, by rw [rowCell_x f1 hl hx, b1_s], ?_, h.sm hs3⟩
          rw [show f_X12_in x3 0 2 (sI (s0 S) 313 55 (nI k)) = some 0 from in0_n (n := 3) (by decide) hx, b1_s, if_pos rfl]
      · refine ⟨_, _, by rw [rowCell_o f1 x3 q hx, b1_s], ?_, h.sm hs3⟩
        rw [in0_n (by omega) hx, b1_s, if_pos rfl]
  · rw [rowsAt_n hW (s := 4) (by decide) 4 rfl hn, b1_s, rowCell_n, b1_s, hasLe_n (S := s0 S) hW (hn.sm hs), b2_s, if_pos rfl]
    exact ⟨-2, _, rfl, rfl, h.sm (hs.tr (sm_I (by decide)))⟩
theorem maids_v (hW : Wr S) (hk : k < 2) (h1 : S.1 313 59 = nI k) : f_X12_maids 313 S = some (S.1 324 (21 * k)) := by
  unfold f_X12_maids
  rw [r_313_11 hW, i_313 hW, h1, show (21 : Int32) * nI k = nI (21 * k) from nI_mul 21 k, y_324 hW (by omega)]
theorem maidOf_v (hW : Wr S) (hk : k < 2) (h1 : S.1 313 59 = nI k) {x c : Int32} {i : Nat} (hx : x = nI l) (hc : c = nI i) (hl : l < 10) (hi : i < 2) : f_X12_maidOf 313 x c S = some (S.1 324 (21 * k + 1 + (2 * l + i))) := by
  subst hx hc
  unfold f_X12_maidOf
  rw [r_313_11 hW, i_313 hW, h1, show (21 : Int32) * nI k + 1 + 2 * nI l + nI i = nI (21 * k + 1 + (2 * l + i)) by rw [show 21 * k + 1 + (2 * l + i) = 21 * k + 1 + 2 * l + i by omega, ← nI_add, ← nI_add, ← nI_add, ← nI_mul, ← nI_mul]; rfl, y_324 hW (by omega)]
theorem both_maid (h : Inv S) (x1 x2 x3 : Int32) : Both (f_X11_maid 0 x1 x2 x3 S) (f_X12_maid 313 x1 x2 x3) S := by
  have hW := h.1
  have hs : Sm S (s0 S) := sm_I (by decide)
  unfold Both f_X11_maid f_X12_maid
  rw [r_0_0 hW, k_1 hW, p_313 hW, kk_313 (S := s0 S) hW]
  rcases tld h (s := 5) (by decide) x1 with ⟨k, rfl, hk⟩ | hn
  · obtain ⟨f1, f2, f3, f4⟩ := h.lf_m hk.1
    have n40 := f1.n40
    have hm : nr S (29 + 21 * k) ≤ 10 := f1.2.2.2.2.2.2.2.1
    have hs3 : Sm S (sI (s0 S) 313 59 (nI k)) := hs.tr (sm_I (by decide))
    have hv : f_X12_maids 313 (sI (s0 S) 313 59 (nI k)) = some (nI (nr S (29 + 21 * k))) := by rw [maids_v (S := sI (s0 S) 313 59 (nI k)) hW hk.1 rfl, ← f2]; rfl
    rw [rowsAt_m hW hk, b1_s, hasSh_y (S := s0 S) hW (hk.sm hs), b2_s, if_neg n10]
    by_cases q : x2 = -1
    · subst q
      rw [rowCell_c f1, b1_s, if_pos rfl]
      by_cases z : x3 = 0
      · refine ⟨_, _, by rw [if_pos z], ?_, h.sm hs3⟩
        rw [if_pos z, k_313 (S := sI (s0 S) 313 59 (nI k)) hW, hv, b1_s]
      · exact ⟨_, _, by rw [if_neg z], by rw [if_neg z], h.sm hs3⟩
    · rw [if_neg q, k_313 (S := sI (s0 S) 313 59 (nI k)) hW, hv, b1_s]
      rcases numQ x2 (nr S (29 + 21 * k)) with ⟨l, rfl, hl⟩ | hx
      · rw [in0_y (by omega) hl, b1_s, if_neg n10]
        rcases numQ x3 2 with ⟨i, rfl, hi⟩ | hx
        · refine ⟨_, _, by rw [rowCell_y f1 hl hi, b1_s], ?_, h.sm hs3⟩
          rw [show f_X12_in (nI i) 0 1 (sI (s0 S) 313 59 (nI k)) = some 1 from in0_y (n := 2) (by decide) hi, b1_s, if_neg n10, k_313 (S := sI (s0 S) 313 59 (nI k)) hW, maidOf_v (S := sI (s0 S) 313 59 (nI k)) hW hk.1 rfl rfl rfl (by omega) hi, b1_s, f3 l hl i hi]
          rfl
        · refine ⟨_, _, by rw [rowCell_x f1 hl hx, b1_s], ?_, h.sm hs3⟩
          rw [show f_X12_in x3 0 1 (sI (s0 S) 313 59 (nI k)) = some 0 from in0_n (n := 2) (by decide) hx, b1_s, if_pos rfl]
      · refine ⟨_, _, by rw [rowCell_o f1 x3 q hx, b1_s], ?_, h.sm hs3⟩
        rw [in0_n (by omega) hx, b1_s, if_pos rfl]
  · rw [rowsAt_n hW (s := 5) (by decide) 5 rfl hn, b1_s, rowCell_n, b1_s, hasSh_n (S := s0 S) hW (hn.sm hs), b2_s, if_pos rfl]
    exact ⟨-2, _, rfl, rfl, h.sm (hs.tr (sm_I (by decide)))⟩
theorem marks_v (hW : Wr S) (hk : k < 2) (h1 : S.1 313 45 = nI k) : f_X12_marks 313 S = some (S.1 321 (17 * k)) := by
  unfold f_X12_marks
  rw [r_313_8 hW, i_313 hW, h1, show (17 : Int32) * nI k = nI (17 * k) from nI_mul 17 k, y_321 hW (by omega)]
theorem markOf_v (hW : Wr S) (hk : k < 2) (h1 : S.1 313 45 = nI k) (hl : l < 16) : f_X12_markOf 313 (nI l) S = some (S.1 321 (17 * k + 1 + l)) := by
  unfold f_X12_markOf
  rw [r_313_8 hW, i_313 hW, h1, show (17 : Int32) * nI k + 1 + nI l = nI (17 * k + 1 + l) by rw [← nI_add, ← nI_add, ← nI_mul]; rfl, y_321 hW (by omega)]
theorem both_mark (h : Inv S) (x1 x2 : Int32) : Both (f_X11_mark 0 x1 x2 S) (f_X12_mark 313 x1 x2) S := by
  have hW := h.1
  have hs : Sm S (s0 S) := sm_I (by decide)
  unfold Both f_X11_mark f_X12_mark
  rw [r_0_0 hW, k_1 hW, p_313 hW, kk_313 (S := s0 S) hW]
  rcases tld h (s := 2) (by decide) x1 with ⟨k, rfl, hk⟩ | hn
  · obtain ⟨f1, f2, f3, f4⟩ := h.lf_f hk.1
    have n40 := f1.n40
    have hm : nr S (25 + 21 * k) ≤ 16 := f1.2.2.2.2.2.2.2.1
    have hs3 : Sm S (sI (s0 S) 313 45 (nI k)) := hs.tr (sm_I (by decide))
    have hv : f_X12_marks 313 (sI (s0 S) 313 45 (nI k)) = some (nI (nr S (25 + 21 * k))) := by rw [marks_v (S := sI (s0 S) 313 45 (nI k)) hW hk.1 rfl, ← f2]; rfl
    rw [rowsAt_f hW hk, b1_s, hasFc_y (S := s0 S) hW (hk.sm hs), b2_s, if_neg n10]
    by_cases q : x2 = -1
    · subst q
      rw [rowCell_c f1, b1_s, if_pos rfl, if_pos rfl, k_313 (S := sI (s0 S) 313 45 (nI k)) hW, hv, b1_s]
      exact ⟨_, _, rfl, rfl, h.sm hs3⟩
    · rw [if_neg q, k_313 (S := sI (s0 S) 313 45 (nI k)) hW, hv, b1_s]
      rcases numQ x2 (nr S (25 + 21 * k)) with ⟨l, rfl, hl⟩ | hx
      · rw [in0_y (by omega) hl, b1_s, if_neg n10]
        refine ⟨_, _, by rw [show f_X11_rowCell (some (25 + 21 * k)) (nI l) 0 S = _ from rowCell_y f1 hl (i := 0) (by decide), b1_s], ?_, h.sm hs3⟩
        rw [k_313 (S := sI (s0 S) 313 45 (nI k)) hW, markOf_v (S := sI (s0 S) 313 45 (nI k)) hW hk.1 rfl (by omega), b1_s, f3 l hl 0 (by decide), show 17 * k + 1 + (1 * l + 0) = 17 * k + 1 + l by omega]
        rfl
      · refine ⟨_, _, by rw [rowCell_o f1 0 q hx, b1_s], ?_, h.sm hs3⟩
        rw [in0_n (by omega) hx, b1_s, if_pos rfl]
  · rw [rowsAt_n hW (s := 2) (by decide) 2 rfl hn, b1_s, rowCell_n, b1_s, hasFc_n (S := s0 S) hW (hn.sm hs), b2_s, if_pos rfl]
    exact ⟨-2, _, rfl, rfl, h.sm (hs.tr (sm_I (by decide)))⟩
/-- the first mark that is so -/
theorem danceC_l {f : Nat → Int32} (hR : Rw S o 16 1) (hf : ∀ k, k < nr S o → S.1 (o + 1) (1 * k + 0) = f k) {x2 : Int32} : ∀ (d k n : Nat), k + d = nr S o → d < n → f_X11_dance_19 0 S n x2 (some o) (nI k) = some (firstS (fun k => decide (f k = x2)) d k)
  | _, _, 0, _, hn => absurd hn (Nat.not_lt_zero _)
  | 0, k, n + 1, hk, _ => by
    rw [f_X11_dance_19, xI_s hR.1, hR.2.2.2.2.2.2.1, if_pos (by rw [← hk]; exact nI_le (by omega) (by have := hR.n40; omega))]
    rfl
  | d + 1, k, n + 1, hk, hn => by
    have := hR.n40
    rw [f_X11_dance_19, xI_s hR.1, hR.2.2.2.2.2.2.1, if_neg (by rw [← hk]; exact nI_ge (by omega) (by omega)), c1_s hR.1, hR.cellL 0 0 rfl (by omega) (by decide), b1_s, hf k (by omega), nI_1, danceC_l hR hf d (k + 1) n (by omega) (by omega)]
    show _ = some (if decide (f k = x2) = true then nI k else firstS _ d (k + 1))
    by_cases q : f k = x2
    · rw [if_pos q, if_pos (decide_eq_true q)]
    · rw [if_neg q, if_neg (by simpa using q)]
theorem danceM_l {f : Nat → Int32} {nn : Nat} (hW : Wr S) (hn0 : nn ≤ 16) (hv : f_X12_marks 313 S = some (nI nn)) (hf : ∀ k, k < nn → f_X12_markOf 313 (nI k) S = some (f k)) {x2 : Int32} : ∀ (d k n : Nat), k + d = nn → d < n → f_X12_dance_17 313 n x2 (nI k) S = some (firstS (fun k => decide (f k = x2)) d k, S)
  | _, _, 0, _, hn => absurd hn (Nat.not_lt_zero _)
  | 0, k, n + 1, hk, _ => by
    rw [f_X12_dance_17, k_313 hW, hv, b1_s, if_pos (nI_le (by omega) (by omega))]
    rfl
  | d + 1, k, n + 1, hk, hn => by
    rw [f_X12_dance_17, k_313 hW, hv, b1_s, if_neg (nI_ge (by omega) (by omega)), k_313 hW, hf k (by omega), b1_s, nI_1, danceM_l hW hn0 hv hf d (k + 1) n (by omega) (by omega)]
    show _ = some ((if decide (f k = x2) = true then nI k else firstS _ d (k + 1)), S)
    by_cases q : f k = x2
    · rw [if_pos q, if_pos (decide_eq_true q)]
    · rw [if_neg q, if_neg (by simpa using q)]
theorem both_dance (h : Inv S) (x1 x2 : Int32) : Both (f_X11_dance 0 x1 x2 S) (f_X12_dance 313 x1 x2) S := by
  have hW := h.1
  have hs : Sm S (s0 S) := sm_I (by decide)
  unfold Both f_X11_dance f_X12_dance
  rw [r_0_0 hW, k_1 hW, p_313 hW, kk_313 (S := s0 S) hW]
  rcases tld h (s := 2) (by decide) x1 with ⟨k, rfl, hk⟩ | hn
  · obtain ⟨f1, f2, f3, f4⟩ := h.lf_f hk.1
    have hm : nr S (25 + 21 * k) ≤ 16 := f1.2.2.2.2.2.2.2.1
    have hs3 : Sm S (sI (s0 S) 313 45 (nI k)) := hs.tr (sm_I (by decide))
    have hv : f_X12_marks 313 (sI (s0 S) 313 45 (nI k)) = some (nI (nr S (25 + 21 * k))) := by rw [marks_v (S := sI (s0 S) 313 45 (nI k)) hW hk.1 rfl, ← f2]; rfl
    rw [rowsAt_f hW hk, b1_s, nul_s, hasFc_y (S := s0 S) hW (hk.sm hs), b2_s, if_neg n10]
    refine ⟨_, _, danceC_l f1 (f := fun l => S.1 321 (17 * k + 1 + l)) (fun l hl => ?_) (nr S (25 + 21 * k)) 0 fu (by omega) (by unfold fu; omega), danceM_l (S := sI (s0 S) 313 45 (nI k)) hW hm hv (f := fun l => S.1 321 (17 * k + 1 + l)) (fun l hl => ?_) (nr S (25 + 21 * k)) 0 fu (by omega) (by unfold fu; omega), h.sm hs3⟩
    · rw [f3 l hl 0 (by decide), show 17 * k + 1 + (1 * l + 0) = 17 * k + 1 + l by omega]
    · rw [markOf_v (S := sI (s0 S) 313 45 (nI k)) hW hk.1 rfl (by omega)]
      rfl
  · rw [rowsAt_n hW (s := 2) (by decide) 2 rfl hn, b1_s, nul_n, hasFc_n (S := s0 S) hW (hn.sm hs), b2_s, if_pos rfl]
    exact ⟨-1, _, rfl, rfl, h.sm (hs.tr (sm_I (by decide)))⟩
end LI
