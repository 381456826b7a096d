/-! promises that a court alone answers: lady, under, climb, calm, court -/
theorem n10 : ¬ (1 : Int32) = 0 := by decide
section GF
variable {S S' : GS} {o b k l : Nat} {c : Int32}
theorem has_y {m w : Nat} (h : Rw S o m w) (hl : l < nr S o) : f_X7_has o (nI l) S = some 1 := by
  have := h.2.2.2.2.2.2.2
  rw [h.has (by omega), if_pos hl]
theorem has_n {m w : Nat} (h : Rw S o m w) {x : Int32} (hx : x < 0 ∨ ∃ l, l < 2 ^ 31 ∧ x = nI l ∧ nr S o ≤ l) : f_X7_has o x S = some 0 := by
  rcases hx with q | ⟨l, hl, rfl, hn⟩
  · exact h.hasN q
  · rw [h.has hl, if_neg (by omega)]
theorem s3_sm (S : GS) (k : Nat) : Sm S (hS (s0 S) k) := (sm_I (by decide)).tr (hS_sm _ _)
/-- what the reference's hand comes to: the lady's there, or not -/
theorem isLady_y (hM : Mc S' b) (hl : l < nr S (o + 3)) (hn : nr S (o + 3) ≤ 8) (h1 : S'.1 319 (69 * b + 1) = nI (nr S (o + 3))) : f_X12_isLady 313 (nI l) S' = some 1 := by
  rw [isLady hM hn h1 (by omega), decide_eq_true hl]
  rfl
theorem isLady_n (hM : Mc S' b) (hn : nr S (o + 3) ≤ 8) (h1 : S'.1 319 (69 * b + 1) = nI (nr S (o + 3))) {x : Int32} (hx : x < 0 ∨ ∃ l, l < 2 ^ 31 ∧ x = nI l ∧ nr S (o + 3) ≤ l) : f_X12_isLady 313 x S' = some 0 := by
  rcases hx with q | ⟨l, hl, rfl, hq⟩
  · exact isLadyN hM q
  · rw [isLady hM hn h1 hl, decide_eq_false (by omega)]
    rfl
theorem CF.n8 (h : CF S o b) : nr S (o + 3) ≤ 8 := h.1.2.2.2.2.2.2.2.2.1.2.2.2.2.2.2.2.1
theorem CF.n4 (h : CF S o b) : nr S (o + 1) ≤ 4 := h.1.2.2.2.2.2.2.2.1.2.2.2.2.2.2.2.1
theorem CF.n6 (h : CF S o b) : nr S (o + 5) ≤ 6 := h.1.2.2.2.2.2.2.2.2.2.2.2.2.2.2.2.2.1
theorem CF.rl (h : CF S o b) : Rw S (o + 3) 8 5 := h.1.2.2.2.2.2.2.2.2.1
theorem both_lady (h : Inv S) (x1 x2 x3 : Int32) : Both (f_X11_lady 0 x1 x2 x3 S) (f_X12_lady 313 x1 x2 x3) S := by
  have hW := h.1
  have hs : Sm S (s0 S) := sm_I (by decide)
  unfold Both f_X11_lady f_X12_lady
  rw [r_0_0 hW, k_1 hW, p_313 hW, kk_313 (S := s0 S) hW]
  rcases tld h (s := 0) (by decide) x1 with ⟨k, rfl, hk⟩ | hn
  · have hcf := h.cf hk.1
    have hs3 := s3_sm S k
    have hM : Mc (hS (s0 S) k) k := hS_Mc hW hk.1
    have h1 : (hS (s0 S) k).1 319 (69 * k + 1) = nI (nr S (10 + 21 * k + 3)) := hcf.2.2.1
    rw [courtAt_y hW hk, b1_s, nul_s, hand_y (S := s0 S) hW (hk.sm hs), b2_s, xR_s hcf.1.1, hcf.1.2.2.1, c1_s hcf.rl.1, if_neg n10, k_313 (S := hS (s0 S) k) hM.1]
    rcases ladyQ hcf x2 with ⟨l, rfl, hl⟩ | hx
    · rw [isLady_y hM hl hcf.n8 h1, b1_s, if_neg n10, m_in, b1_s]
      by_cases q3 : x3 < 0
      · refine ⟨-1, _, ?_, ?_, h.sm hs3⟩
        · rw [hcf.rl.cellC (Or.inl q3), b1_s]
        · rw [if_pos q3, if_pos rfl]
      · obtain ⟨i, hi, rfl⟩ := nI_of q3
        rw [if_neg q3]
        by_cases z : i < 5
        · refine ⟨S.1 (10 + 21 * k + 3 + 1) (5 * l + i), _, ?_, ?_, h.sm hs3⟩
          · rw [hcf.rl.cell hl z, b1_s]
          · rw [if_neg (show ¬ (4 : Int32) < nI i from nI_nlt (a := 4) (by omega) (by omega)), if_neg n10, k_313 (S := hS (s0 S) k) hM.1, hM.lady (by have := hcf.n8; omega) (nI i) i rfl z, b1_s, hcf.2.2.2.2.2.1 l hl i z, show 69 * k + (29 + 5 * l + i) = 69 * k + 29 + (5 * l + i) by omega]
            rfl
        · refine ⟨-1, _, ?_, ?_, h.sm hs3⟩
          · rw [hcf.rl.cellC (Or.inr ⟨i, hi, by omega, rfl⟩), b1_s]
          · rw [if_pos (show (4 : Int32) < nI i from nI_lt (a := 4) (by omega) hi), if_pos rfl]
    · refine ⟨-1, _, ?_, ?_, h.sm hs3⟩
      · rcases hx with q | ⟨l, hl, rfl, hq⟩
        · rw [hcf.rl.cellN q, b1_s]
        · rw [hcf.rl.cellO hl hq, b1_s]
      · rw [isLady_n hM hcf.n8 h1 hx, b1_s, if_pos rfl]
  · rw [courtAt_n hW hn, b1_s, nul_n, hand_n (S := s0 S) hW (hn.sm hs), b2_s, if_pos rfl]
    exact ⟨-1, _, rfl, rfl, h.sm hs⟩
theorem isLace_q (x : Int32) : f_X11_isLace x S = f_X12_in x 0 30 S' := by
  rw [m_in]
  unfold f_X11_isLace
  split
  · rfl
  · split <;> rfl
theorem isMark_q (x : Int32) : f_X11_isMark x S = f_X12_in x 0 40 S' := by
  rw [m_in]
  unfold f_X11_isMark
  split
  · rfl
  · split <;> rfl
theorem in_or (x a b : Int32) : f_X12_in x a b S = some 0 ∨ f_X12_in x a b S = some 1 := by
  rw [m_in]
  split
  · exact Or.inl rfl
  · split
    · exact Or.inl rfl
    · exact Or.inr rfl
theorem in_S (x a b : Int32) : f_X12_in x a b S = f_X12_in x a b S' := by rw [m_in, m_in]
theorem both_under (h : Inv S) (x1 x2 x3 x4 : Int32) : Both (f_X11_under 0 x1 x2 x3 x4 S) (f_X12_under 313 x1 x2 x3 x4) S := by
  have hW := h.1
  have hs : Sm S (s0 S) := sm_I (by decide)
  unfold Both f_X11_under f_X12_under
  rw [r_0_0 hW, k_1 hW, p_313 hW, kk_313 (S := s0 S) hW]
  rcases tld h (s := 0) (by decide) x1 with ⟨k, rfl, hk⟩ | hn
  · have hcf := h.cf hk.1
    have hs3 := s3_sm S k
    have hM : Mc (hS (s0 S) k) k := hS_Mc hW hk.1
    have h1 : (hS (s0 S) k).1 319 (69 * k + 1) = nI (nr S (10 + 21 * k + 3)) := hcf.2.2.1
    rw [courtAt_y hW hk, b1_s, nul_s, hand_y (S := s0 S) hW (hk.sm hs), b2_s, xR_s hcf.1.1, hcf.1.2.2.1, c1_s hcf.rl.1, if_neg n10, k_313 (S := hS (s0 S) k) hM.1]
    rcases ladyQ hcf x2 with ⟨l, rfl, hl⟩ | hx
    · obtain ⟨bu, fa, he, la, hLw, hLm⟩ := hcf.lady hl rfl
      rw [isLady_y hM hl hcf.n8 h1, b1_s, if_neg n10, has_y hcf.rl hl, b1_s, if_neg n10, isLace_q (S' := hS (s0 S) k) x3]
      rcases in_or (S := hS (s0 S) k) x3 0 30 with e | e
      · exact ⟨-1, _, by rw [e, b1_s, if_pos rfl], by rw [e, b1_s, if_pos rfl], h.sm hs3⟩
      · rw [e, b1_s, b1_s, if_neg n10, if_neg n10, m_in, b1_s]
        by_cases q : x4 < -9
        · exact ⟨-1, _, by rw [if_pos q], by rw [if_pos q, if_pos rfl], h.sm hs3⟩
        · by_cases z : x4 ≤ 60
          · refine ⟨fate bu fa x3 x4, _, ?_, ?_, h.sm hs3⟩
            · rw [if_neg q, if_pos z, c1_s hcf.1.1, hLw.fate hcf.1, b1_s]
            · rw [if_neg q, if_neg (Int32.not_lt.mpr z), if_neg n10, k_313 (S := hS (s0 S) k) hM.1, (hLm.sm hs3).does hM, b1_s]
          · refine ⟨-1, _, ?_, ?_, h.sm hs3⟩
            · rw [if_neg q, if_neg z]
            · rw [if_neg q, if_pos (Int32.not_le.mp z), if_pos rfl]
    · refine ⟨-1, _, ?_, ?_, h.sm hs3⟩
      · rw [has_n hcf.rl hx, b1_s, if_pos rfl]
      · rw [isLady_n hM hcf.n8 h1 hx, b1_s, if_pos rfl]
  · rw [courtAt_n hW hn, b1_s, nul_n, hand_n (S := s0 S) hW (hn.sm hs), b2_s, if_pos rfl]
    exact ⟨-1, _, rfl, rfl, h.sm hs⟩
theorem both_calm (h : Inv S) (x1 x2 x3 : Int32) : Both (f_X11_calm 0 x1 x2 x3 S) (f_X12_calm 313 x1 x2 x3) S := by
  have hW := h.1
  have hs : Sm S (s0 S) := sm_I (by decide)
  unfold Both f_X11_calm f_X12_calm
  rw [r_0_0 hW, k_1 hW, p_313 hW, kk_313 (S := s0 S) hW]
  rcases tld h (s := 0) (by decide) x1 with ⟨k, rfl, hk⟩ | hn
  · have hcf := h.cf hk.1
    have hs3 := s3_sm S k
    have hM : Mc (hS (s0 S) k) k := hS_Mc hW hk.1
    have h1 : (hS (s0 S) k).1 319 (69 * k + 1) = nI (nr S (10 + 21 * k + 3)) := hcf.2.2.1
    rw [courtAt_y hW hk, b1_s, nul_s, hand_y (S := s0 S) hW (hk.sm hs), b2_s, xR_s hcf.1.1, hcf.1.2.2.1, c1_s hcf.rl.1, if_neg n10, k_313 (S := hS (s0 S) k) hM.1]
    rcases ladyQ hcf x2 with ⟨l, rfl, hl⟩ | hx
    · obtain ⟨bu, fa, he, la, hLw, hLm⟩ := hcf.lady hl rfl
      rw [isLady_y hM hl hcf.n8 h1, b1_s, if_neg n10, has_y hcf.rl hl, b1_s, if_neg n10]
      by_cases q : x3 = -1
      · subst q
        refine ⟨nI (bestS (fun j => calmS (fun k => sd bu fa he (nI j) (nI k)) 41 0 0 0) 30 1 0), _, ?_, ?_, h.sm hs3⟩
        · rw [if_pos rfl, c1_s hcf.1.1, hLw.calmest hcf.1, b1_s]
        · rw [show f_X12_in (-1) (-1) 30 (s0 S) = some 1 by rw [m_in]; rfl, b1_s, if_neg n10, if_pos rfl]
          exact calm_l hM.1 (f := fun j => calmS (fun k => sd bu fa he (nI j) (nI k)) 41 0 0 0) (fun k _ => (hLm.sm hs3).calmR hM (nI k)) 30 1 fu 0 (by omega) (by unfold fu; omega) (by omega)
      · rw [if_neg q, if_neg q]
        by_cases z : x3 < 0
        · refine ⟨-1, s0 S, ?_, ?_, h.sm hs⟩
          · rw [isLace_q (S' := s0 S), m_in, if_pos z, b1_s, if_pos rfl]
          · have : x3 < -1 := by
              rw [Int32.lt_iff_toInt_lt] at z ⊢
              have e0 : (0 : Int32).toInt = 0 := by decide
              have e1 : (-1 : Int32).toInt = -1 := by decide
              have : x3.toInt ≠ (-1 : Int32).toInt := fun e => q (Int32.toInt_inj.mp e)
              omega
            rw [m_in, if_pos this, b1_s, if_pos rfl]
        · have nz : ¬ x3 < -1 := by
            intro y
            rw [Int32.lt_iff_toInt_lt] at z y
            have e0 : (0 : Int32).toInt = 0 := by decide
            have e1 : (-1 : Int32).toInt = -1 := by decide
            omega
          by_cases y : (30 : Int32) < x3
          · refine ⟨-1, s0 S, ?_, ?_, h.sm hs⟩
            · rw [isLace_q (S' := s0 S), m_in, if_neg z, if_pos y, b1_s, if_pos rfl]
            · rw [m_in, if_neg nz, if_pos y, b1_s, if_pos rfl]
          · refine ⟨calmS (fun k => sd bu fa he x3 (nI k)) 41 0 0 0, _, ?_, ?_, h.sm hs3⟩
            · rw [isLace_q (S' := s0 S), m_in, if_neg z, if_neg y, b1_s, if_neg n10, c1_s hcf.1.1, hLw.calmR hcf.1, b1_s]
            · rw [m_in, if_neg nz, if_neg y, b1_s, if_neg n10, k_313 (S := hS (s0 S) k) hM.1, (hLm.sm hs3).calmR hM, b1_s]
    · rw [has_n hcf.rl hx, b1_s, if_pos rfl]
      rcases in_or (S := s0 S) x3 (-1) 30 with e | e
      · exact ⟨-1, s0 S, rfl, by rw [e, b1_s, if_pos rfl], h.sm hs⟩
      · exact ⟨-1, _, rfl, by rw [e, b1_s, if_neg n10, isLady_n hM hcf.n8 h1 hx, b1_s, if_pos rfl], h.sm hs3⟩
  · rw [courtAt_n hW hn, b1_s, nul_n, hand_n (S := s0 S) hW (hn.sm hs), b2_s, if_pos rfl]
    rcases in_or (S := s0 S) x3 (-1) 30 with e | e
    · exact ⟨-1, s0 S, rfl, by rw [e, b1_s, if_pos rfl], h.sm hs⟩
    · exact ⟨-1, s0 S, rfl, by rw [e, b1_s, if_neg n10], h.sm hs⟩
end GF
