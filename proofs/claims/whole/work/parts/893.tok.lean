/-! texts: tokens, the reference, and both -/
def nv (B : Nat → Nat) (s : Nat) : Nat → Nat
  | 0 => 0
  | n + 1 => nv B s n * 10 + (B (s + n) - 48)
def kM (k : Nat) : Nat := if k = 0 then 0 else if k = 4 then 1 else k + 1
def tokR (o : Nat) (S : GS) : Option GS := (xI (some o) 12 12 S fun v5 => (pI (some o) 12 14 v5 S fun S6 => (c1 (some o) 12 S6 (fun o' => f_X12_see o'  S6) fun v7 => (pJ (some o) 12 17 0 S6 fun S9 => (if 0 ≤ v7 then (b1 (f_X12_in v7 97 122 S9) fun v10 => (if v10 = 0 then (b1 (f_X12_in v7 48 57 S9) fun v12 => (if v12 = 0 then (xI (some o) 12 12 S9 fun v14 => (pI (some o) 12 12 (v14 + 1) S9 fun S15 => (if v7 = 59 then (pI (some o) 12 15 4 S15 fun S16 => (some S16)) else (pI (some o) 12 15 1 S15 fun S17 => (some S17))))) else (pI (some o) 12 16 0 S9 fun S18 => (f_X12_token_163 o fu 0 S18)))) else (f_X12_token_74 o fu 0 S9))) else (pI (some o) 12 15 0 S9 fun S19 => (some S19)))))))
/-- a token, on both sides: from s to e, of a kind -/
def Tk (L : Nat) (B : Nat → Nat) (S T : GS) (s e k : Nat) : Prop := S.1 207 9 = nI s ∧ S.1 207 10 = nI e ∧ S.1 207 8 = nI k ∧ T.1 313 14 = nI s ∧ T.1 313 12 = nI e ∧ T.1 313 15 = nI (kM k) ∧ e ≤ L ∧ (k = 0 → s = L ∧ e = L) ∧ (k ≠ 0 → s < e) ∧ k ≤ 4 ∧ (k = 1 → (∀ i, s ≤ i → i < e → 97 ≤ B i ∧ B i ≤ 122) ∧ T.2.1 313 17 = if e - s ≤ 8 then pk B s (e - s) else 0) ∧ (k = 2 → e - s ≤ 2 ∧ (∀ i, s ≤ i → i < e → 48 ≤ B i ∧ B i ≤ 57) ∧ T.1 313 16 = nI (nv B s (e - s)))
section TP
variable {α : Type} {L : Nat} {B : Nat → Nat} {S S' T T' : GS} {s e k r b f : Nat}
theorem blankM : ∀ (d e n : Nat) (T : GS), TB L B S T → T.1 313 12 = nI e → e + d = s → d < n → s ≤ L → (∀ i, e ≤ i → i < s → B i = 10 ∨ B i = 32) → (s = L ∨ (s < L ∧ ¬ (B s = 10 ∨ B s = 32))) → f_X12_token_0 313 n T = tokR 313 (sI T 313 12 (nI s))
  | _, _, 0, _, _, _, _, hn, _, _, _ => absurd hn (Nat.not_lt_zero _)
  | 0, e, n + 1, T, h, h9, he, _, hs, _, hx => by
    have he : e = s := he
    subst he
    have hL := h.2.2.1
    rw [f_X12_token_0, sI_self h9]
    rcases hx with q | ⟨q1, q2⟩
    · rw [k_313 h.2.1, see_n h h9 q, b1_s, if_neg (by decide), k_313 h.2.1, see_n h h9 q, b1_s, if_neg (by decide)]
      rfl
    · have hb := (h.2.2.2.2.2 e q1).1
      rw [k_313 h.2.1, see_y h h9 q1, b1_s, if_neg (show ¬ nI (B e) = 10 from fun z => q2 (Or.inl ((nI_eq (b := 10) (by omega) (by decide)).mp z))), k_313 h.2.1, see_y h h9 q1, b1_s, if_neg (show ¬ nI (B e) = 32 from fun z => q2 (Or.inr ((nI_eq (b := 32) (by omega) (by decide)).mp z)))]
      rfl
  | d + 1, e, n + 1, T, h, h9, he, hn, hs, hb, hx => by
    have hL := h.2.2.1
    have q1 : e < L := by omega
    have st : f_X12_token_18 (f_X12_token_0 313 n) 313 T = tokR 313 (sI T 313 12 (nI s)) := by
      unfold f_X12_token_18
      rw [i_313 h.2.1, h9, p_313 h.2.1, nI_1, blankM d (e + 1) n (sI T 313 12 (nI (e + 1))) (h.fm (FMt.I (by omega))) rfl (by omega) (by omega) hs (fun i a b => hb i (by omega) b) hx, sI_sI]
    rw [f_X12_token_0, k_313 h.2.1, see_y h h9 q1, b1_s]
    rcases hb e (Nat.le_refl _) (by omega) with z | z
    · rw [z, if_pos (show nI 10 = 10 from rfl), st]
    · rw [z, if_neg (show ¬ nI 32 = 10 by decide), k_313 h.2.1, see_y h h9 q1, b1_s, z, if_pos (show nI 32 = 32 from rfl), st]
theorem wordM : ∀ (d m n : Nat) (T : GS), TB L B S T → T.2.1 313 17 = pk B s m → T.1 313 12 = nI (s + m) → s + m + d = f → d < n → f ≤ L → (∀ i, s + m ≤ i → i < f → 97 ≤ B i ∧ B i ≤ 122) → (f = L ∨ (f < L ∧ ¬ (97 ≤ B f ∧ B f ≤ 122))) → ∃ T', f_X12_token_74 313 n (nI m) T = some T' ∧ FMt T T' ∧ T'.1 313 12 = nI f ∧ T'.1 313 14 = T.1 313 14 ∧ T'.1 313 15 = 2 ∧ T'.2.1 313 17 = if f - s ≤ 8 then pk B s (f - s) else 0
  | _, _, 0, _, _, _, _, _, hn, _, _, _ => absurd hn (Nat.not_lt_zero _)
  | 0, m, n + 1, T, h, hp, h9, he, _, hs, _, hx => by
    have he : s + m = f := he
    have hL := h.2.2.1
    have fin : ∀ x : Int64, f_X12_token_136 313 (some 313) x T = some (sI (sJ T 313 17 x) 313 15 2) := fun x => by
      unfold f_X12_token_136
      rw [pj_313 h.2.1, p_313 (S := sJ T 313 17 x) h.2.1]
    have hin : ∃ v, f_X12_see 313 T = some v ∧ f_X12_in v 97 122 T = some 0 := by
      rcases hx with q | ⟨q1, q2⟩
      · exact ⟨-1, see_n h h9 (by omega), in_neg (a := 97) (by decide) (by decide)⟩
      · exact ⟨nI (B f), by rw [see_y h h9 (by omega), he], by rw [inL_v (h.2.2.2.2.2 f q1).1, if_neg q2]⟩
    obtain ⟨v, v1, v2⟩ := hin
    have hm : f - s = m := by omega
    refine ⟨sI (sJ T 313 17 (if f - s ≤ 8 then pk B s (f - s) else 0)) 313 15 2, ?_, (FMt.J).tr (FMt.I (by omega)), ?_, rfl, rfl, rfl⟩
    · rw [f_X12_token_74, k_313 h.2.1, v1, b1_s, v2, b1_s, if_pos rfl, hm]
      by_cases q : m ≤ 8
      · rw [if_pos (show nI m ≤ 8 from nI_le (b := 8) q (by decide)), j_313 h.2.1, hp, fin, if_pos q]
      · rw [if_neg (show ¬ nI m ≤ 8 from nI_ge (a := 8) (by omega) (by omega)), fin, if_neg q]
    · show T.1 313 12 = _
      rw [h9, he]
  | d + 1, m, n + 1, T, h, hp, h9, he, hn, hs, hb, hx => by
    have hL := h.2.2.1
    have q1 : s + m < L := by omega
    have hW1 : Wr (sJ T 313 17 (pk B s (m + 1))) := h.2.1
    obtain ⟨T', g1, g2, g3, g4, g5, g6⟩ := wordM d (m + 1) n (sI (sJ T 313 17 (pk B s (m + 1))) 313 12 (nI (s + m + 1))) (h.fm ((FMt.J).tr (FMt.I (by omega)))) rfl rfl (by omega) (by omega) hs (fun i a b => hb i (by omega) b) hx
    refine ⟨T', ?_, ((FMt.J).tr (FMt.I (by omega))).tr g2, g3, g4, g5, g6⟩
    rw [f_X12_token_74, k_313 h.2.1, see_y h h9 q1, b1_s, inL_v (h.2.2.2.2.2 _ q1).1, if_pos (hb _ (Nat.le_refl _) (by omega)), b1_s, if_neg n10, j_313 h.2.1, hp, k_313 h.2.1, see_y h h9 q1, b1_s, pj_313 h.2.1, show (jlshl (pk B s m) 8) ||| (nI (B (s + m))).toInt64 = pk B s (m + 1) from rfl, i_313 hW1, show (sJ T 313 17 (pk B s (m + 1))).1 313 12 = nI (s + m) from h9, p_313 hW1, nI_1, nI_1]
    exact g1
theorem numM : ∀ (d m n : Nat) (T : GS), TB L B S T → T.1 313 16 = nI (nv B s (min m 2)) → T.1 313 12 = nI (s + m) → s + m + d = f → d < n → f ≤ L → (∀ i, s + m ≤ i → i < f → 48 ≤ B i ∧ B i ≤ 57) → (f = L ∨ (f < L ∧ ¬ (48 ≤ B f ∧ B f ≤ 57))) → ∃ T', f_X12_token_163 313 n (nI m) T = some T' ∧ FMt T T' ∧ T'.1 313 12 = nI f ∧ T'.1 313 14 = T.1 313 14 ∧ T'.1 313 15 = (if f - s ≤ 2 then 3 else 1) ∧ T'.1 313 16 = nI (nv B s (min (f - s) 2))
  | _, _, 0, _, _, _, _, _, hn, _, _, _ => absurd hn (Nat.not_lt_zero _)
  | 0, m, n + 1, T, h, hp, h9, he, _, hs, _, hx => by
    have he : s + m = f := he
    have hL := h.2.2.1
    have fin : ∀ x : Int32, f_X12_token_235 313 (some 313) x T = some (sI T 313 15 x) := fun x => by
      unfold f_X12_token_235
      rw [p_313 h.2.1]
    have hin : ∃ v, f_X12_see 313 T = some v ∧ f_X12_in v 48 57 T = some 0 := by
      rcases hx with q | ⟨q1, q2⟩
      · exact ⟨-1, see_n h h9 (by omega), in_neg (a := 48) (by decide) (by decide)⟩
      · exact ⟨nI (B f), by rw [see_y h h9 (by omega), he], by rw [inD_v (h.2.2.2.2.2 f q1).1, if_neg q2]⟩
    obtain ⟨v, v1, v2⟩ := hin
    have hm : f - s = m := by omega
    refine ⟨sI T 313 15 (if f - s ≤ 2 then 3 else 1), ?_, FMt.I (by omega), ?_, rfl, rfl, ?_⟩
    · rw [f_X12_token_163, k_313 h.2.1, v1, b1_s, v2, b1_s, if_pos rfl, hm]
      by_cases q : m ≤ 2
      · rw [if_pos (show nI m ≤ 2 from nI_le (b := 2) q (by decide)), fin, if_pos q]
      · rw [if_neg (show ¬ nI m ≤ 2 from nI_ge (a := 2) (by omega) (by omega)), fin, if_neg q]
    · show T.1 313 12 = _
      rw [h9, he]
    · show T.1 313 16 = _
      rw [hp, hm]
  | d + 1, m, n + 1, T, h, hp, h9, he, hn, hs, hb, hx => by
    have hL := h.2.2.1
    have q1 : s + m < L := by omega
    have hd := hb _ (Nat.le_refl _) (show s + m < f by omega)
    have go : ∀ x : Int32, x = nI (nv B s (min (m + 1) 2)) → ∃ T', f_X12_token_205 (f_X12_token_163 313 n) 313 (nI m) (some 313) x T = some T' ∧ FMt T T' ∧ T'.1 313 12 = nI f ∧ T'.1 313 14 = T.1 313 14 ∧ T'.1 313 15 = (if f - s ≤ 2 then 3 else 1) ∧ T'.1 313 16 = nI (nv B s (min (f - s) 2)) := fun x hx2 => by
      have hW1 : Wr (sI T 313 16 x) := h.2.1
      obtain ⟨T', g1, g2, g3, g4, g5, g6⟩ := numM d (m + 1) n (sI (sI T 313 16 x) 313 12 (nI (s + m + 1))) (h.fm ((FMt.I (by omega)).tr (FMt.I (by omega)))) hx2 rfl (by omega) (by omega) hs (fun i a b => hb i (by omega) b) hx
      refine ⟨T', ?_, ((FMt.I (by omega)).tr (FMt.I (by omega))).tr g2, g3, g4, g5, g6⟩
      unfold f_X12_token_205
      rw [p_313 h.2.1, i_313 hW1, show (sI T 313 16 x).1 313 12 = nI (s + m) from h9, p_313 hW1, nI_1, nI_1]
      exact g1
    rw [f_X12_token_163, k_313 h.2.1, see_y h h9 q1, b1_s, inD_v (h.2.2.2.2.2 _ q1).1, if_pos hd, b1_s, if_neg n10]
    by_cases q : 2 ≤ m
    · rw [if_pos (show (2 : Int32) ≤ nI m from nI_le (a := 2) q (by omega)), i_313 h.2.1, hp]
      refine go _ ?_
      rw [Nat.min_eq_right q, Nat.min_eq_right (by omega)]
    · rw [if_neg (show ¬ (2 : Int32) ≤ nI m from nI_ge (b := 2) (by omega) (by decide)), i_313 h.2.1, hp, k_313 h.2.1, see_y h h9 q1, b1_s]
      refine go _ ?_
      rw [Nat.min_eq_left (by omega), Nat.min_eq_left (by omega)]
      show nI 10 * nI (nv B s m) + nI (B (s + m)) - nI 48 = nI (nv B s m * 10 + (B (s + m) - 48))
      rw [nI_mul, nI_add, nI_sub (by omega)]
      congr 1
      omega
theorem tok_both (h : TB L B S T) (he : e ≤ L) (h1 : S.1 207 10 = nI e) (h2 : T.1 313 12 = nI e) : ∃ S' T' s' e' k, f_X5_nextToken 207 S = some S' ∧ f_X12_token 313 T = some T' ∧ FT S S' ∧ FMt T T' ∧ e ≤ s' ∧ s' ≤ L ∧ Tk L B S' T' s' e' k := by
  have hL := h.2.2.1
  have hfu : fu = 4096 := rfl
  obtain ⟨s, a1, a2, a3, a4⟩ := run_ex (L := L) (fun i => B i = 10 ∨ B i = 32) (L - e) e (by omega)
  have g1 : f_X5_nextToken 207 S = f_X5_nextToken_46 207 (sI S 207 9 (nI s)) := by
    unfold f_X5_nextToken
    rw [i_207 h.1, h1, p_207 h.1, blankC (s - e) e fu (sI S 207 9 (nI e)) (h.ft (FT.I (by decide) (by decide))) rfl (by omega) (by omega) a2 a3 a4, sI_sI]
  have g2 : f_X12_token 313 T = tokR 313 (sI T 313 12 (nI s)) := blankM (s - e) e fu T h h2 (by omega) (by omega) a2 a3 a4
  have f1 : FT S (sI S 207 9 (nI s)) := FT.I (by decide) (by decide)
  have f2 : FMt T (sI T 313 12 (nI s)) := FMt.I (by omega)
  rw [g1, g2]
  have e1 : (sI S 207 9 (nI s)).1 207 9 = nI s := rfl
  have e2 : (sI T 313 12 (nI s)).1 313 12 = nI s := rfl
  generalize sI S 207 9 (nI s) = S1 at f1 e1 ⊢
  generalize sI T 313 12 (nI s) = T1 at f2 e2 ⊢
  have hT := (h.ft f1).fm f2
  have f3 : FT S (sI S1 207 10 (nI (s + 1))) := f1.tr (FT.I (by decide) (by decide))
  have f4 : FMt T (sI T1 313 14 (nI s)) := f2.tr (FMt.I (by omega))
  have f5 : FMt T (sJ (sI T1 313 14 (nI s)) 313 17 0) := f4.tr FMt.J
  have hT3 := (h.ft f3).fm f4
  have hT5 := (h.ft f3).fm f5
  have e3 : (sI S1 207 10 (nI (s + 1))).1 207 10 = nI (s + 1) := rfl
  have e4 : (sI S1 207 10 (nI (s + 1))).1 207 9 = nI s := e1
  have e5 : (sI T1 313 14 (nI s)).1 313 12 = nI s := e2
  have e6 : (sJ (sI T1 313 14 (nI s)) 313 17 0).1 313 12 = nI s := e2
  have e7 : (sJ (sI T1 313 14 (nI s)) 313 17 0).1 313 14 = nI s := rfl
  have e8 : (sJ (sI T1 313 14 (nI s)) 313 17 0).2.1 313 17 = 0 := rfl
  unfold f_X5_nextToken_46 tokR
  rw [i_207 hT.1, e1, p_207 hT.1, nI_1, i_313 hT.2.1, e2, p_313 hT.2.1, k_313 hT3.2.1]
  rw [i_207 hT3.1, e4, k_207 hT3.1, byteAt_v hT3 (by omega), b1_s, i_207 hT3.1, e4, i_207 hT3.1, hT3.2.2.2.1]
  by_cases q : s < L
  · have hb := (h.2.2.2.2.2 s q).1
    rw [see_y hT3 e5 q, b1_s, pj_313 hT3.2.1, if_pos (nI_lt q (by omega)), if_pos q, if_pos (show (0 : Int32) ≤ nI (B s) from nI_pos' (by omega))]
    generalize sI S1 207 10 (nI (s + 1)) = S3 at f3 hT3 hT5 e3 e4 ⊢
    generalize sJ (sI T1 313 14 (nI s)) 313 17 0 = T3 at f5 hT5 e6 e7 e8 ⊢
    rw [letter_v hb, inL_v hb, b1_s, b1_s]
    by_cases z : 97 ≤ B s ∧ B s ≤ 122
    · rw [if_pos z, if_neg n10, if_neg n10]
      obtain ⟨f, c1', c2', c3', c4'⟩ := run_ex (L := L) (fun i => 97 ≤ B i ∧ B i ≤ 122) (L - (s + 1)) (s + 1) (by omega)
      have lt : ∀ i, s ≤ i → i < f → 97 ≤ B i ∧ B i ≤ 122 := fun i x y => by
        by_cases w : i = s
        · rw [w]
          exact z
        · exact c3' i (by omega) y
      obtain ⟨T', w1, w2, w3, w4, w5, w6⟩ := wordM (s := s) (f - s) 0 fu T3 hT5 e8 e6 (by omega) (by omega) c2' (fun i x y => lt i (by omega) y) c4'
      refine ⟨sI (sI S3 207 10 (nI f)) 207 8 1, T', s, f, 1, ?_, w1, (f3.tr (FT.I (by decide) (by decide))).tr (FT.I (by decide) (by decide)), f5.tr w2, a1, a2, e4, rfl, rfl, by rw [w4, e7], w3, w5, c2', fun x => absurd x (by decide), fun _ => by omega, by decide, fun _ => ⟨lt, w6⟩, fun x => absurd x (by decide)⟩
      exact wordC (f - (s + 1)) (s + 1) fu S3 hT5 e3 (by omega) (by omega) c2' c3' c4'
    · rw [if_neg z, if_pos rfl, if_pos rfl, digit_v hb, inD_v hb, b1_s, b1_s]
      by_cases z2 : 48 ≤ B s ∧ B s ≤ 57
      · rw [if_pos z2, if_neg n10, if_neg n10, p_313 hT5.2.1]
        obtain ⟨f, c1', c2', c3', c4'⟩ := run_ex (L := L) (fun i => 48 ≤ B i ∧ B i ≤ 57) (L - (s + 1)) (s + 1) (by omega)
        have lt : ∀ i, s ≤ i → i < f → 48 ≤ B i ∧ B i ≤ 57 := fun i x y => by
          by_cases w : i = s
          · rw [w]
            exact z2
          · exact c3' i (by omega) y
        have f6 : FMt T (sI T3 313 16 0) := f5.tr (FMt.I (by omega))
        obtain ⟨T', w1, w2, w3, w4, w5, w6⟩ := numM (s := s) (f - s) 0 fu (sI T3 313 16 0) (hT5.fm (FMt.I (by omega))) rfl e6 (by omega) (by omega) c2' (fun i x y => lt i (by omega) y) c4'
        have e9 : f_X5_nextToken_152 207 fu S3 = some (sI (sI S3 207 10 (nI f)) 207 8 (nI (if f - s ≤ 2 then 2 else 4))) := by
          have hW3 : Wr (sI S3 207 10 (nI f)) := hT5.1
          rw [digC (f - (s + 1)) (s + 1) fu S3 hT5 e3 (by omega) (by omega) c2' c3' c4']
          unfold f_X5_nextToken_190 f_X5_nextToken_209
          rw [i_207 hW3, i_207 hW3, show (sI S3 207 10 (nI f)).1 207 10 = nI f from rfl, show (sI S3 207 10 (nI f)).1 207 9 = nI s from e4, nI_sub (by omega), p_207 hW3, p_207 hW3]
          by_cases y : f - s ≤ 2
          · rw [if_neg (show ¬ (2 : Int32) < nI (f - s) from nI_nlt (a := 2) y (by decide)), if_pos y]
            rfl
          · rw [if_pos (show (2 : Int32) < nI (f - s) from nI_lt (a := 2) (by omega) (by omega)), if_neg y]
            rfl
        refine ⟨_, T', s, f, if f - s ≤ 2 then 2 else 4, e9, w1, (f3.tr (FT.I (by decide) (by decide))).tr (FT.I (by decide) (by decide)), f6.tr w2, a1, a2, e4, rfl, rfl, by rw [w4]; exact e7, w3, ?_, c2', ?_, fun _ => by omega, ?_, ?_, ?_⟩
        · rw [w5]
          by_cases y : f - s ≤ 2
          · rw [if_pos y, if_pos y]
            rfl
          · rw [if_neg y, if_neg y]
            rfl
        · split <;> intro x <;> exact absurd x (by decide)
        · split <;> decide
        · split <;> intro x <;> exact absurd x (by decide)
        · intro x
          have y : f - s ≤ 2 := by
            rcases Nat.lt_or_ge 2 (f - s) with y | y
            · rw [if_neg (by omega)] at x
              exact absurd x (by decide)
            · exact y
          exact ⟨y, lt, by rw [w6, Nat.min_eq_left y]⟩
      · rw [if_neg z2, if_pos rfl, if_pos rfl, i_313 hT5.2.1, e6, p_313 hT5.2.1, nI_1]
        have e9 : nI (B s) = 59 ↔ B s = 59 := nI_eq (b := 59) (by omega) (by decide)
        have hW4 : Wr (sI T3 313 12 (nI (s + 1))) := hT5.2.1
        rw [p_313 hW4, p_313 hW4, p_207 hT5.1, p_207 hT5.1]
        have f6 : FMt T (sI T3 313 12 (nI (s + 1))) := f5.tr (FMt.I (by omega))
        by_cases y : B s = 59
        · rw [if_pos (e9.mpr y), if_pos (e9.mpr y)]
          exact ⟨_, _, s, s + 1, 3, rfl, rfl, f3.tr (FT.I (by decide) (by decide)), f6.tr (FMt.I (by omega)), a1, a2, e4, e3, rfl, e7, rfl, rfl, q, fun x => absurd x (by decide), fun _ => by omega, by decide, fun x => absurd x (by decide), fun x => absurd x (by decide)⟩
        · rw [if_neg (fun w => y (e9.mp w)), if_neg (fun w => y (e9.mp w))]
          exact ⟨_, _, s, s + 1, 4, rfl, rfl, f3.tr (FT.I (by decide) (by decide)), f6.tr (FMt.I (by omega)), a1, a2, e4, e3, rfl, e7, rfl, rfl, q, fun x => absurd x (by decide), fun _ => by omega, by decide, fun x => absurd x (by decide), fun x => absurd x (by decide)⟩
  · have hs : s = L := by omega
    rw [see_n hT3 e5 hs, b1_s, pj_313 hT3.2.1, if_neg (nI_nlt (by omega) (by omega)), i_207 hT3.1, hT3.2.2.2.1, p_207 hT3.1, if_neg (show ¬ (0 : Int32) ≤ -1 by decide), p_313 hT5.2.1, p_207 (S := sI (sI S1 207 10 (nI (s + 1))) 207 10 (nI L)) hT3.1]
    exact ⟨_, _, s, L, 0, rfl, rfl, (f3.tr (FT.I (by decide) (by decide))).tr (FT.I (by decide) (by decide)), f5.tr (FMt.I (by omega)), a1, a2, e4, rfl, rfl, e7, by rw [← hs]; exact e6, rfl, Nat.le_refl _, fun _ => ⟨hs, rfl⟩, fun x => absurd rfl x, by decide, fun x => absurd x (by decide), fun x => absurd x (by decide)⟩
end TP
