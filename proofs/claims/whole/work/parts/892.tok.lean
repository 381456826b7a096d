/-! texts: tokens, what both sides read -/
theorem sI_self {S : GS} {o i : Nat} {v : Int32} (h : S.1 o i = v) : sI S o i v = S := by
  unfold sI
  have : (fun o' i' => if o' = o ∧ i' = i then v else S.1 o' i') = S.1 := by
    funext a b
    by_cases q : a = o ∧ b = i
    · rw [if_pos q, q.1, q.2, h]
    · rw [if_neg q]
  rw [this]
theorem sI_sI {S : GS} {o i : Nat} {v w : Int32} : sI (sI S o i v) o i w = sI S o i w := by
  unfold sI
  have : (fun o' i' => if o' = o ∧ i' = i then w else if o' = o ∧ i' = i then v else S.1 o' i') = (fun o' i' => if o' = o ∧ i' = i then w else S.1 o' i') := by
    funext a b
    by_cases q : a = o ∧ b = i
    · rw [if_pos q, if_pos q]
    · rw [if_neg q, if_neg q, if_neg q]
  show (_, S.2) = (_, S.2)
  rw [this]
/-- a text of L bytes lies before both -/
def TB (L : Nat) (B : Nat → Nat) (S T : GS) : Prop := Wr S ∧ Wr T ∧ L ≤ 600 ∧ S.1 207 7 = nI L ∧ T.1 313 13 = nI L ∧ ∀ i, i < L → B i < 256 ∧ S.1 208 i &&& 255 = nI (B i) ∧ T.1 314 i &&& 255 = nI (B i)
/-- a token was read, nothing else changed: the class, the reference -/
def FT (S S' : GS) : Prop := S'.2 = S.2 ∧ ∀ o i, ¬ (o = 207 ∧ 8 ≤ i ∧ i ≤ 10) → S'.1 o i = S.1 o i
def FMt (T T' : GS) : Prop := T'.2.2 = T.2.2 ∧ (∀ o i, ¬ (o = 313 ∧ i = 17) → T'.2.1 o i = T.2.1 o i) ∧ ∀ o i, ¬ (o = 313 ∧ (i = 12 ∨ (14 ≤ i ∧ i ≤ 16))) → T'.1 o i = T.1 o i
section TO
variable {α : Type} {L : Nat} {B : Nat → Nat} {S S' T T' : GS} {s e k r b f : Nat}
theorem FT.rf (S : GS) : FT S S := ⟨rfl, fun _ _ _ => rfl⟩
theorem FT.tr {S1 : GS} (h : FT S S1) (h2 : FT S1 S') : FT S S' := ⟨h2.1.trans h.1, fun o i q => (h2.2 o i q).trans (h.2 o i q)⟩
theorem FT.I {i : Nat} {v : Int32} (h1 : 8 ≤ i) (h2 : i ≤ 10) : FT S (sI S 207 i v) := ⟨rfl, fun o j q => by
  show (if o = 207 ∧ j = i then v else S.1 o j) = _
  rw [if_neg (by omega)]⟩
theorem FMt.rf (S : GS) : FMt S S := ⟨rfl, fun _ _ _ => rfl, fun _ _ _ => rfl⟩
theorem FMt.tr {S1 : GS} (h : FMt S S1) (h2 : FMt S1 S') : FMt S S' := ⟨h2.1.trans h.1, fun o i q => (h2.2.1 o i q).trans (h.2.1 o i q), fun o i q => (h2.2.2 o i q).trans (h.2.2 o i q)⟩
theorem FMt.I {i : Nat} {v : Int32} (h : i = 12 ∨ (14 ≤ i ∧ i ≤ 16)) : FMt S (sI S 313 i v) := ⟨rfl, fun _ _ _ => rfl, fun o j q => by
  show (if o = 313 ∧ j = i then v else S.1 o j) = _
  rw [if_neg (by omega)]⟩
theorem FMt.J {v : Int64} : FMt S (sJ S 313 17 v) := ⟨rfl, fun o j q => by
  show (if o = 313 ∧ j = 17 then v else S.2.1 o j) = _
  rw [if_neg q], fun _ _ _ => rfl⟩
theorem wr_2 (h : S'.2.2 = S.2.2) (hW : Wr S) : Wr S' := by
  unfold Wr at hW ⊢
  rw [h]
  exact hW
theorem TB.cs (h : TB L B S T) (h1 : S'.2.2 = S.2.2) (h2 : S'.1 207 7 = S.1 207 7) (h3 : ∀ i, S'.1 208 i = S.1 208 i) : TB L B S' T := ⟨wr_2 h1 h.1, h.2.1, h.2.2.1, by rw [h2]; exact h.2.2.2.1, h.2.2.2.2.1, fun i hi => by rw [h3]; exact h.2.2.2.2.2 i hi⟩
theorem TB.cm (h : TB L B S T) (h1 : T'.2.2 = T.2.2) (h2 : T'.1 313 13 = T.1 313 13) (h3 : ∀ i, T'.1 314 i = T.1 314 i) : TB L B S T' := ⟨h.1, wr_2 h1 h.2.1, h.2.2.1, h.2.2.2.1, by rw [h2]; exact h.2.2.2.2.1, fun i hi => by rw [h3]; exact h.2.2.2.2.2 i hi⟩
theorem TB.ft (h : TB L B S T) (h1 : FT S S') : TB L B S' T := h.cs (by rw [h1.1]) (h1.2 _ _ (by omega)) (fun i => h1.2 _ _ (by omega))
theorem TB.fm (h : TB L B S T) (h1 : FMt T T') : TB L B S T' := h.cm h1.1 (h1.2.2 _ _ (by omega)) (fun i => h1.2.2 _ _ (by omega))
theorem byteAt_v (h : TB L B S T) (hk : k < 2 ^ 31) : f_X5_byteAt 207 (nI k) S = some (if k < L then nI (B k) else 0) := by
  obtain ⟨h1, h2, h3, h4, h5, h6⟩ := h
  unfold f_X5_byteAt
  rw [if_neg (nI_pos hk), i_207 h1, h4]
  by_cases q : k < L
  · rw [if_neg (nI_ge q (by omega)), r_207_0 h1, y_208 h1 (by omega), (h6 k q).2.1, if_pos q]
  · rw [if_pos (nI_le (by omega) hk), if_neg q]
theorem byteAt_y (h : TB L B S T) (hk : k < L) : f_X5_byteAt 207 (nI k) S = some (nI (B k)) := by
  have := h.2.2.1
  rw [byteAt_v h (by omega), if_pos hk]
theorem see_y (h : TB L B S T) (hr : T.1 313 12 = nI r) (hk : r < L) : f_X12_see 313 T = some (nI (B r)) := by
  obtain ⟨h1, h2, h3, h4, h5, h6⟩ := h
  unfold f_X12_see
  rw [i_313 h2, hr, i_313 h2, h5, if_neg (nI_ge hk (by omega)), r_313_1 h2, i_313 h2, hr, y_314 h2 (by omega), (h6 r hk).2.2]
theorem see_n (h : TB L B S T) (hr : T.1 313 12 = nI r) (hk : r = L) : f_X12_see 313 T = some (-1) := by
  obtain ⟨h1, h2, h3, h4, h5, h6⟩ := h
  subst hk
  unfold f_X12_see
  rw [i_313 h2, hr, i_313 h2, h5, if_pos (nI_le (Nat.le_refl _) (by omega))]
theorem blank_v (hb : b < 256) : f_X5_isBlank (nI b) S = some (if b = 10 ∨ b = 32 then 1 else 0) := by
  unfold f_X5_isBlank f_X5_isBlank_12
  have e1 : nI b = 10 ↔ b = 10 := nI_eq (b := 10) (by omega) (by decide)
  have e2 : nI b = 32 ↔ b = 32 := nI_eq (b := 32) (by omega) (by decide)
  by_cases q : b = 10
  · rw [if_pos (e1.mpr q), if_pos (Or.inl q)]
  · rw [if_neg (fun z => q (e1.mp z))]
    by_cases q2 : b = 32
    · rw [if_pos (e2.mpr q2), if_pos (Or.inr q2)]
    · rw [if_neg (fun z => q2 (e2.mp z)), if_neg (by omega)]
theorem letter_v (hb : b < 256) : f_X5_isLetter (nI b) S = some (if 97 ≤ b ∧ b ≤ 122 then 1 else 0) := by
  unfold f_X5_isLetter
  by_cases q : b < 97
  · rw [if_pos (show nI b < 97 from nI_lt (b := 97) q (by decide)), if_neg (by omega)]
  · rw [if_neg (show ¬ nI b < 97 from nI_nlt (b := 97) (by omega) (by omega))]
    by_cases q2 : 122 < b
    · rw [if_pos (show (122 : Int32) < nI b from nI_lt (a := 122) q2 (by omega)), if_neg (by omega)]
    · rw [if_neg (show ¬ (122 : Int32) < nI b from nI_nlt (a := 122) (by omega) (by decide)), if_pos (by omega)]
theorem digit_v (hb : b < 256) : f_X5_isDigit (nI b) S = some (if 48 ≤ b ∧ b ≤ 57 then 1 else 0) := by
  unfold f_X5_isDigit
  by_cases q : b < 48
  · rw [if_pos (show nI b < 48 from nI_lt (b := 48) q (by decide)), if_neg (by omega)]
  · rw [if_neg (show ¬ nI b < 48 from nI_nlt (b := 48) (by omega) (by omega))]
    by_cases q2 : 57 < b
    · rw [if_pos (show (57 : Int32) < nI b from nI_lt (a := 57) q2 (by omega)), if_neg (by omega)]
    · rw [if_neg (show ¬ (57 : Int32) < nI b from nI_nlt (a := 57) (by omega) (by decide)), if_pos (by omega)]
theorem inL_v (hb : b < 256) : f_X12_in (nI b) 97 122 S = some (if 97 ≤ b ∧ b ≤ 122 then 1 else 0) := by
  by_cases q : 97 ≤ b ∧ b ≤ 122
  · rw [if_pos q]
    exact in_y (a := 97) (b := 122) q.1 q.2 (by decide)
  · rw [if_neg q]
    exact in_n (a := 97) (b := 122) (by omega) (by omega) (by decide)
theorem inD_v (hb : b < 256) : f_X12_in (nI b) 48 57 S = some (if 48 ≤ b ∧ b ≤ 57 then 1 else 0) := by
  by_cases q : 48 ≤ b ∧ b ≤ 57
  · rw [if_pos q]
    exact in_y (a := 48) (b := 57) q.1 q.2 (by decide)
  · rw [if_neg q]
    exact in_n (a := 48) (b := 57) (by omega) (by omega) (by decide)
/-- as far as it goes -/
theorem run_ex (P : Nat → Prop) : ∀ d e, e + d = L → ∃ s, e ≤ s ∧ s ≤ L ∧ (∀ i, e ≤ i → i < s → P i) ∧ (s = L ∨ (s < L ∧ ¬ P s))
  | 0, e, h => ⟨e, Nat.le_refl _, by omega, fun i h1 h2 => absurd h2 (by omega), Or.inl (by omega)⟩
  | d + 1, e, h => by
    by_cases q : P e
    · obtain ⟨s, h1, h2, h3, h4⟩ := run_ex P d (e + 1) (by omega)
      refine ⟨s, by omega, h2, fun i a b => ?_, h4⟩
      by_cases z : i = e
      · rw [z]
        exact q
      · exact h3 i (by omega) b
    · exact ⟨e, Nat.le_refl _, by omega, fun i h1 h2 => absurd h2 (by omega), Or.inr ⟨by omega, q⟩⟩
theorem blankC : ∀ (d e n : Nat) (S : GS), TB L B S T → S.1 207 9 = nI e → e + d = s → d < n → s ≤ L → (∀ i, e ≤ i → i < s → B i = 10 ∨ B i = 32) → (s = L ∨ (s < L ∧ ¬ (B s = 10 ∨ B s = 32))) → f_X5_nextToken_8 207 n S = f_X5_nextToken_46 207 (sI S 207 9 (nI s))
  | _, _, 0, _, _, _, _, hn, _, _, _ => absurd hn (Nat.not_lt_zero _)
  | 0, e, n + 1, S, h, h9, he, _, hs, _, hx => by
    have he : e = s := he
    subst he
    have hL := h.2.2.1
    rw [f_X5_nextToken_8, i_207 h.1, h9, i_207 h.1, h.2.2.2.1, sI_self h9]
    rcases hx with q | ⟨q1, q2⟩
    · rw [if_pos (nI_le (by omega) (by omega))]
    · rw [if_neg (nI_ge q1 (by omega)), i_207 h.1, h9, k_207 h.1, byteAt_y h q1, b1_s, blank_v (h.2.2.2.2.2 e q1).1, if_neg q2, b1_s, if_pos rfl]
  | d + 1, e, n + 1, S, h, h9, he, hn, hs, hb, hx => by
    have hL := h.2.2.1
    have q1 : e < L := by omega
    rw [f_X5_nextToken_8, i_207 h.1, h9, i_207 h.1, h.2.2.2.1, if_neg (nI_ge q1 (by omega)), i_207 h.1, h9, k_207 h.1, byteAt_y h q1, b1_s, blank_v (h.2.2.2.2.2 e q1).1, if_pos (hb e (Nat.le_refl _) (by omega)), b1_s, if_neg n10, i_207 h.1, h9, p_207 h.1, nI_1, blankC d (e + 1) n (sI S 207 9 (nI (e + 1))) (h.ft (FT.I (by decide) (by decide))) rfl (by omega) (by omega) hs (fun i a b => hb i (by omega) b) hx, sI_sI]
theorem wordC : ∀ (d e n : Nat) (S : GS), TB L B S T → S.1 207 10 = nI e → e + d = f → d < n → f ≤ L → (∀ i, e ≤ i → i < f → 97 ≤ B i ∧ B i ≤ 122) → (f = L ∨ (f < L ∧ ¬ (97 ≤ B f ∧ B f ≤ 122))) → f_X5_nextToken_99 207 n S = some (sI (sI S 207 10 (nI f)) 207 8 1)
  | _, _, 0, _, _, _, _, hn, _, _, _ => absurd hn (Nat.not_lt_zero _)
  | 0, e, n + 1, S, h, h9, he, _, hs, _, hx => by
    have he : e = f := he
    subst he
    have hL := h.2.2.1
    rw [f_X5_nextToken_99, i_207 h.1, h9, i_207 h.1, h.2.2.2.1, sI_self h9]
    have hf : f_X5_nextToken_137 207 S = some (sI S 207 8 1) := by
      unfold f_X5_nextToken_137
      rw [p_207 h.1]
    rcases hx with q | ⟨q1, q2⟩
    · rw [if_pos (nI_le (by omega) (by omega)), hf]
    · rw [if_neg (nI_ge q1 (by omega)), i_207 h.1, h9, k_207 h.1, byteAt_y h q1, b1_s, letter_v (h.2.2.2.2.2 e q1).1, if_neg q2, b1_s, if_pos rfl, hf]
  | d + 1, e, n + 1, S, h, h9, he, hn, hs, hb, hx => by
    have hL := h.2.2.1
    have q1 : e < L := by omega
    rw [f_X5_nextToken_99, i_207 h.1, h9, i_207 h.1, h.2.2.2.1, if_neg (nI_ge q1 (by omega)), i_207 h.1, h9, k_207 h.1, byteAt_y h q1, b1_s, letter_v (h.2.2.2.2.2 e q1).1, if_pos (hb e (Nat.le_refl _) (by omega)), b1_s, if_neg n10, i_207 h.1, h9, p_207 h.1, nI_1, wordC d (e + 1) n (sI S 207 10 (nI (e + 1))) (h.ft (FT.I (by decide) (by decide))) rfl (by omega) (by omega) hs (fun i a b => hb i (by omega) b) hx, sI_sI]
theorem digC : ∀ (d e n : Nat) (S : GS), TB L B S T → S.1 207 10 = nI e → e + d = f → d < n → f ≤ L → (∀ i, e ≤ i → i < f → 48 ≤ B i ∧ B i ≤ 57) → (f = L ∨ (f < L ∧ ¬ (48 ≤ B f ∧ B f ≤ 57))) → f_X5_nextToken_152 207 n S = f_X5_nextToken_190 207 (sI S 207 10 (nI f))
  | _, _, 0, _, _, _, _, hn, _, _, _ => absurd hn (Nat.not_lt_zero _)
  | 0, e, n + 1, S, h, h9, he, _, hs, _, hx => by
    have he : e = f := he
    subst he
    have hL := h.2.2.1
    rw [f_X5_nextToken_152, i_207 h.1, h9, i_207 h.1, h.2.2.2.1, sI_self h9]
    rcases hx with q | ⟨q1, q2⟩
    · rw [if_pos (nI_le (by omega) (by omega))]
    · rw [if_neg (nI_ge q1 (by omega)), i_207 h.1, h9, k_207 h.1, byteAt_y h q1, b1_s, digit_v (h.2.2.2.2.2 e q1).1, if_neg q2, b1_s, if_pos rfl]
  | d + 1, e, n + 1, S, h, h9, he, hn, hs, hb, hx => by
    have hL := h.2.2.1
    have q1 : e < L := by omega
    rw [f_X5_nextToken_152, i_207 h.1, h9, i_207 h.1, h.2.2.2.1, if_neg (nI_ge q1 (by omega)), i_207 h.1, h9, k_207 h.1, byteAt_y h q1, b1_s, digit_v (h.2.2.2.2.2 e q1).1, if_pos (hb e (Nat.le_refl _) (by omega)), b1_s, if_neg n10, i_207 h.1, h9, p_207 h.1, nI_1, digC d (e + 1) n (sI S 207 10 (nI (e + 1))) (h.ft (FT.I (by decide) (by decide))) rfl (by omega) (by omega) hs (fun i a b => hb i (by omega) b) hx, sI_sI]
end TO
