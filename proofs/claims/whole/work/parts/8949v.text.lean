/-! text, as a whole -/
section TZ
variable {S T : GS} {L : Nat} {xs : Nat → Int32}
theorem is_1 (hW : Wr T) {srt c k : Nat} (hs : srt < 6) (hc : T.1 318 srt = nI c) (hc2 : c ≤ 2) (hk : k < c) : f_X12_is 313 (nI srt) (nI k) T = some 1 := by
  unfold f_X12_is
  rw [r_313_5 hW, y_318 hW (by omega), hc, m_in0 (by omega) (by omega), decide_eq_true hk]
  rfl
theorem is_0 (hW : Wr T) {srt c : Nat} (hs : srt < 6) (hc : T.1 318 srt = nI c) (hc2 : c ≤ 2) {y : Int32} (hy : y < 0 ∨ ∃ k, k < 2 ^ 31 ∧ y = nI k ∧ c ≤ k) : f_X12_is 313 (nI srt) y T = some 0 := by
  unfold f_X12_is
  rw [r_313_5 hW, y_318 hW (by omega), hc]
  rcases hy with q | ⟨k, hk, rfl, hn⟩
  · rw [m_inN q]
    rfl
  · rw [m_in0 hk (by omega), decide_eq_false (by omega)]
    rfl
theorem M0_w (hW : Wr T) : Wr (M0 T) := hW
theorem both_text (h : Inv S) (x y : Int32) : Both2 (f_X11_text 0 x y) (f_X12_text 313 x y) S := by
  have hW := h.1
  have hWc : Wr (clT 0 (-1) S) := hW
  have e318 : (M0 (clT 0 (-1) S)).1 318 = S.1 318 := by
    rw [M0_o (by decide) (by decide) (by decide) (by decide), clT_o (by decide)]
  by_cases q : x < 0
  · refine text_ns h x y ?_ ?_
    · unfold f_X9_numberFor
      rw [if_pos q]
    · rw [text_M hWc, m_inN q, b1_s, if_pos rfl]
  obtain ⟨srt, hsr, rfl⟩ := nI_of q
  by_cases hs : srt < 6
  · obtain ⟨c, c2, c3, c8⟩ := h.cnt hs
    have hnf : f_X9_numberFor 1 (nI srt) y S = (if y = (-1) then (if 2 ≤ nI c then (some (-2)) else (some (nI c))) else (if y < 0 then (some (-2)) else (if nI c ≤ y then (some (-2)) else (some y)))) := by
      unfold f_X9_numberFor
      rw [if_neg q, if_pos (show nI srt < 6 from nI_lt (b := 6) hs (by decide)), r_1_1 hW, y_3 hW hs, c3, r_1_1 hW, y_3 hW hs, c3, r_1_1 hW, y_3 hW hs, c3]
    have hin : ∀ T : GS, f_X12_in (nI srt) 0 5 T = some 1 := fun T => in_y (a := 0) (b := 5) (Nat.zero_le _) (by omega) (by decide)
    by_cases y1 : y = -1
    · by_cases z : c = 2
      · refine text_ns h _ y ?_ ?_
        · rw [hnf, if_pos y1, if_pos (show (2 : Int32) ≤ nI c from nI_le (a := 2) (by omega) (by omega))]
        · rw [text_M hWc, hin, b1_s, if_neg n10, if_pos y1, r_313_5 (M0_w hWc), y_318 (M0_w hWc) (by omega), e318, c8, if_pos (by rw [z]; rfl)]
      · refine text_ok (k := c) h hs (by omega) ⟨c8, c3⟩ c2 (Or.inr ⟨rfl, y1⟩) ?_ (fun T hT hT8 => ?_)
        · rw [hnf, if_pos y1, if_neg (show ¬ (2 : Int32) ≤ nI c from nI_ge (b := 2) (by omega) (by decide))]
        · rw [text_M hT, hin, b1_s, if_neg n10, if_pos y1, r_313_5 (M0_w hT), y_318 (M0_w hT) (by omega), M0_o (by decide) (by decide) (by decide) (by decide), hT8, c8, if_neg (show ¬ nI c = 2 from fun w => z ((nI_eq (b := 2) (by omega) (by decide)).mp w))]
    · have nsy : (y < 0 ∨ ∃ k, k < 2 ^ 31 ∧ y = nI k ∧ c ≤ k) → Both2 (f_X11_text 0 (nI srt) y) (f_X12_text 313 (nI srt) y) S := fun hy => by
        refine text_ns h _ y ?_ ?_
        · rw [hnf, if_neg y1]
          rcases hy with w | ⟨k, hk, rfl, hn⟩
          · rw [if_pos w]
          · rw [if_neg (nI_pos hk), if_pos (nI_le hn hk)]
        · rw [text_M hWc, hin, b1_s, if_neg n10, if_neg y1, k_313 (M0_w hWc), is_0 (M0_w hWc) hs (by rw [e318]; exact c8) c2 hy, b1_s, if_pos rfl]
      by_cases z : y < 0
      · exact nsy (Or.inl z)
      · obtain ⟨k, hk, rfl⟩ := nI_of z
        by_cases w : k < c
        · refine text_ok (k := k) h hs (by omega) ⟨c8, c3⟩ c2 (Or.inl ⟨w, rfl⟩) ?_ (fun T hT hT8 => ?_)
          · rw [hnf, if_neg y1, if_neg z, if_neg (nI_ge w (by omega))]
          · rw [text_M hT, hin, b1_s, if_neg n10, if_neg y1, k_313 (M0_w hT), is_1 (M0_w hT) hs (by rw [M0_o (by decide) (by decide) (by decide) (by decide), hT8]; exact c8) c2 w, b1_s, if_neg n10]
        · exact nsy (Or.inr ⟨k, hk, rfl, by omega⟩)
  · refine text_ns h _ y ?_ ?_
    · unfold f_X9_numberFor
      rw [if_neg q, if_neg (show ¬ nI srt < 6 from nI_nlt (b := 6) (by omega) hsr)]
    · rw [text_M hWc, show f_X12_in (nI srt) 0 5 _ = some 0 from in_n (a := 0) (b := 5) (by omega) hsr (by decide), b1_s, if_pos rfl]
end TZ
