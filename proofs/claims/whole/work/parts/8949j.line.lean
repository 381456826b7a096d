/-! texts: the class's tokens never fail; whether all rooms are there -/
section LZ
variable {α : Type} {L : Nat} {B : Nat → Nat} {S S' T T' S0 T0 : GS} {s e k f c o w m p q n d e0 v sl : Nat}
theorem byte_tot (hW : Wr S) (h7 : S.1 207 7 = nI L) (hL : L ≤ 600) (x : Int32) : ∃ v, f_X5_byteAt 207 x S = some v ∧ (x < 0 → v = 0) := by
  unfold f_X5_byteAt
  by_cases q : x < 0
  · exact ⟨0, by rw [if_pos q], fun _ => rfl⟩
  · obtain ⟨k, hk, rfl⟩ := nI_of q
    rw [if_neg q, i_207 hW, h7]
    by_cases z : k < L
    · rw [if_neg (nI_ge z (by omega)), r_207_0 hW, y_208 hW (by omega)]
      exact ⟨_, rfl, fun y => absurd y q⟩
    · rw [if_pos (nI_le (by omega) hk)]
      exact ⟨0, rfl, fun _ => rfl⟩
theorem let_tot (x : Int32) : ∃ v, f_X5_isLetter x S = some v := by
  unfold f_X5_isLetter
  split
  · exact ⟨_, rfl⟩
  · split <;> exact ⟨_, rfl⟩
theorem dig_tot (x : Int32) : ∃ v, f_X5_isDigit x S = some v := by
  unfold f_X5_isDigit
  split
  · exact ⟨_, rfl⟩
  · split <;> exact ⟨_, rfl⟩
theorem bla_tot (x : Int32) : ∃ v, f_X5_isBlank x S = some v := by
  unfold f_X5_isBlank f_X5_isBlank_12
  split
  · exact ⟨_, rfl⟩
  · split <;> exact ⟨_, rfl⟩
theorem tot99 (hL : L ≤ 600) : ∀ (d y n : Nat) (S : GS), Wr S → S.1 207 7 = nI L → S.1 207 10 = nI y → y < 2 ^ 31 → L ≤ y + d → d < n → ∃ S', f_X5_nextToken_99 207 n S = some S' ∧ FT S S'
  | _, _, 0, _, _, _, _, _, _, hn => absurd hn (Nat.not_lt_zero _)
  | d, y, n + 1, S, hW, h7, h10, hy, hd, hn => by
    have hf : f_X5_nextToken_137 207 S = some (sI S 207 8 1) := by
      unfold f_X5_nextToken_137
      rw [p_207 hW]
    rw [f_X5_nextToken_99, i_207 hW, h10, i_207 hW, h7, hf]
    by_cases q : L ≤ y
    · exact ⟨_, by rw [if_pos (nI_le q hy)], FT.I (by decide) (by decide)⟩
    · rw [if_neg (nI_ge (by omega) (by omega)), i_207 hW, h10, k_207 hW]
      obtain ⟨v, v1, -⟩ := byte_tot hW h7 hL (nI y)
      obtain ⟨u, u1⟩ := let_tot (S := S) v
      rw [v1, b1_s, u1, b1_s]
      split
      · exact ⟨_, rfl, FT.I (by decide) (by decide)⟩
      · rw [i_207 hW, h10, p_207 hW, nI_1]
        obtain ⟨S', g1, g2⟩ := tot99 hL (d - 1) (y + 1) n (sI S 207 10 (nI (y + 1))) hW h7 rfl (by omega) (by omega) (by omega)
        exact ⟨S', g1, (FT.I (by decide) (by decide)).tr g2⟩
theorem tot152 (hL : L ≤ 600) : ∀ (d y n : Nat) (S : GS), Wr S → S.1 207 7 = nI L → S.1 207 10 = nI y → y < 2 ^ 31 → L ≤ y + d → d < n → ∃ S', f_X5_nextToken_152 207 n S = some S' ∧ FT S S'
  | _, _, 0, _, _, _, _, _, _, hn => absurd hn (Nat.not_lt_zero _)
  | d, y, n + 1, S, hW, h7, h10, hy, hd, hn => by
    have hf : ∃ S', f_X5_nextToken_190 207 S = some S' ∧ FT S S' := by
      unfold f_X5_nextToken_190 f_X5_nextToken_209
      rw [i_207 hW, i_207 hW, p_207 hW, p_207 hW]
      split <;> exact ⟨_, rfl, FT.I (by decide) (by decide)⟩
    rw [f_X5_nextToken_152, i_207 hW, h10, i_207 hW, h7]
    by_cases q : L ≤ y
    · rw [if_pos (nI_le q hy)]
      exact hf
    · rw [if_neg (nI_ge (by omega) (by omega)), i_207 hW, h10, k_207 hW]
      obtain ⟨v, v1, -⟩ := byte_tot hW h7 hL (nI y)
      obtain ⟨u, u1⟩ := dig_tot (S := S) v
      rw [v1, b1_s, u1, b1_s]
      split
      · exact hf
      · rw [i_207 hW, h10, p_207 hW, nI_1]
        obtain ⟨S', g1, g2⟩ := tot152 hL (d - 1) (y + 1) n (sI S 207 10 (nI (y + 1))) hW h7 rfl (by omega) (by omega) (by omega)
        exact ⟨S', g1, (FT.I (by decide) (by decide)).tr g2⟩
theorem tot46 (hL : L ≤ 600) (hW : Wr S) (h7 : S.1 207 7 = nI L) : ∃ S', f_X5_nextToken_46 207 S = some S' ∧ FT S S' := by
  have hfu : fu = 4096 := rfl
  have hW1 : Wr (sI S 207 10 (S.1 207 9 + 1)) := hW
  have h71 : (sI S 207 10 (S.1 207 9 + 1)).1 207 7 = nI L := h7
  have f1 : FT S (sI S 207 10 (S.1 207 9 + 1)) := FT.I (by decide) (by decide)
  obtain ⟨v, v1, v2⟩ := byte_tot hW1 h71 hL (S.1 207 9)
  unfold f_X5_nextToken_46
  rw [i_207 hW, p_207 hW, i_207 hW1, show (sI S 207 10 (S.1 207 9 + 1)).1 207 9 = S.1 207 9 from rfl, k_207 hW1, v1, b1_s, i_207 hW1, show (sI S 207 10 (S.1 207 9 + 1)).1 207 9 = S.1 207 9 from rfl, i_207 hW1, h71]
  have e10 : (sI S 207 10 (S.1 207 9 + 1)).1 207 10 = S.1 207 9 + 1 := rfl
  by_cases q : S.1 207 9 < nI L
  · rw [if_pos q]
    by_cases z : S.1 207 9 < 0
    · rw [v2 z]
      generalize sI S 207 10 (S.1 207 9 + 1) = S1 at *
      rw [show f_X5_isLetter 0 S1 = some 0 from rfl, b1_s, if_pos rfl, show f_X5_isDigit 0 S1 = some 0 from rfl, b1_s, if_pos rfl, if_neg (by decide), p_207 hW1]
      exact ⟨_, rfl, f1.tr (FT.I (by decide) (by decide))⟩
    · obtain ⟨x, hx, ex⟩ := nI_of z
      rw [ex] at q
      have hxL : x < L := (nI_ltI hx (by omega)).mp q
      have e11 : (sI S 207 10 (S.1 207 9 + 1)).1 207 10 = nI (x + 1) := e10.trans (by rw [ex, nI_1])
      generalize sI S 207 10 (S.1 207 9 + 1) = S1 at *
      obtain ⟨u, u1⟩ := let_tot (S := S1) v
      obtain ⟨y, y1⟩ := dig_tot (S := S1) v
      rw [u1, b1_s]
      split
      · rw [y1, b1_s]
        split
        · rw [p_207 hW1, p_207 hW1]
          split <;> exact ⟨_, rfl, f1.tr (FT.I (by decide) (by decide))⟩
        · obtain ⟨S', g1, g2⟩ := tot152 hL 600 (x + 1) fu S1 hW1 h71 e11 (by omega) (by omega) (by omega)
          exact ⟨S', g1, f1.tr g2⟩
      · obtain ⟨S', g1, g2⟩ := tot99 hL 600 (x + 1) fu S1 hW1 h71 e11 (by omega) (by omega) (by omega)
        exact ⟨S', g1, f1.tr g2⟩
  · rw [if_neg q, i_207 hW1, h71, p_207 hW1, p_207 (S := sI (sI S 207 10 (S.1 207 9 + 1)) 207 10 (nI L)) hW1]
    exact ⟨_, rfl, (f1.tr (FT.I (by decide) (by decide))).tr (FT.I (by decide) (by decide))⟩
theorem tot8 (hL : L ≤ 600) : ∀ (d n : Nat) (S : GS), Wr S → S.1 207 7 = nI L → (S.1 207 9 < 0 ∨ ∃ y, y < 2 ^ 31 ∧ S.1 207 9 = nI y ∧ L ≤ y + d) → d < n → ∃ S', f_X5_nextToken_8 207 n S = some S' ∧ FT S S'
  | _, 0, _, _, _, _, hn => absurd hn (Nat.not_lt_zero _)
  | d, n + 1, S, hW, h7, h9, hn => by
    rw [f_X5_nextToken_8, i_207 hW, i_207 hW, h7]
    by_cases q : nI L ≤ S.1 207 9
    · rw [if_pos q]
      exact tot46 hL hW h7
    · rw [if_neg q, i_207 hW, k_207 hW]
      obtain ⟨v, v1, v2⟩ := byte_tot hW h7 hL (S.1 207 9)
      rw [v1, b1_s]
      rcases h9 with z | ⟨y, hy, z, hd⟩
      · rw [v2 z, show f_X5_isBlank 0 S = some 0 from rfl, b1_s, if_pos rfl]
        exact tot46 hL hW h7
      · obtain ⟨u, u1⟩ := bla_tot (S := S) v
        rw [z] at q
        have hyL : y < L := by
          by_cases w : y < L
          · exact w
          · exact absurd (nI_le (by omega) hy) q
        rw [u1, b1_s]
        split
        · exact tot46 hL hW h7
        · rw [i_207 hW, z, p_207 hW, nI_1]
          obtain ⟨S', g1, g2⟩ := tot8 hL (d - 1) n (sI S 207 9 (nI (y + 1))) hW h7 (Or.inr ⟨y + 1, by omega, rfl, by omega⟩) (by omega)
          exact ⟨S', g1, (FT.I (by decide) (by decide)).tr g2⟩
/-- the next token, wherever the reader stands -/
theorem next_tot (hL : L ≤ 600) (hW : Wr S) (h7 : S.1 207 7 = nI L) : ∃ S', f_X5_nextToken 207 S = some S' ∧ FT S S' := by
  have hfu : fu = 4096 := rfl
  unfold f_X5_nextToken
  rw [i_207 hW, p_207 hW]
  have h9 : (sI S 207 9 (S.1 207 10)).1 207 9 < 0 ∨ ∃ y, y < 2 ^ 31 ∧ (sI S 207 9 (S.1 207 10)).1 207 9 = nI y ∧ L ≤ y + 600 := by
    show S.1 207 10 < 0 ∨ ∃ y, y < 2 ^ 31 ∧ S.1 207 10 = nI y ∧ L ≤ y + 600
    by_cases q : S.1 207 10 < 0
    · exact Or.inl q
    · obtain ⟨y, hy, ey⟩ := nI_of q
      exact Or.inr ⟨y, hy, ey, by omega⟩
  obtain ⟨S', g1, g2⟩ := tot8 hL 600 fu (sI S 207 9 (S.1 207 10)) hW h7 h9 (by omega)
  exact ⟨S', g1, (FT.I (by decide) (by decide)).tr g2⟩
end LZ
