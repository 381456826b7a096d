/-! images: the reference's copy -/
/-- one block of an array over another -/
def blkF (s b b' : Nat) (f : Nat → Int32) : Nat → Int32 := fun q => if b' ≤ q ∧ q < b' + s then f (b + (q - b')) else f q
def mSz (a : Nat) : Nat := if a = 314 then 600 else if a = 315 then 1 else if a = 316 then 1 else if a = 317 then 1 else if a = 318 then 6 else if a = 319 then 138 else if a = 320 then 242 else if a = 321 then 34 else if a = 322 then 244 else if a = 323 then 182 else 42
/-- the arrays before m are copied -/
def CmP (j j' m : Nat) (S S' : GS) : Prop := S'.2 = S.2 ∧ ∀ a, S'.1 a = if 314 ≤ a ∧ a < m then blkF (mSz a) (mSz a * j) (mSz a * j') (S.1 a) else S.1 a
section CM
variable {S S' : GS} {j j' : Nat}
theorem CmP.wr {m : Nat} (h : CmP j j' m S S') (hW : Wr S) : Wr S' := by
  unfold Wr at hW ⊢
  rw [h.1]
  exact hW
theorem cpM_l {a s b b' : Nat} (ha : a < 343) (hk : kd a = 14) (hs : s < 1000) (hj : j < 4) (hj' : j' < 4) (e : s * j = b) (e' : s * j' = b') (hl : b + s ≤ ln a) (hl' : b' + s ≤ ln a) (hd : b + s ≤ b' ∨ b' + s ≤ b) : ∀ (d i n : Nat) (T : GS), Wr S → T.2 = S.2 → (∀ o, o ≠ a → T.1 o = S.1 o) → T.1 a = blkF i b b' (S.1 a) → i + d = s → d < n → ∃ S', f_X12_copyRow_3 n (some a) (nI s) (nI j) (nI j') (nI i) T = some S' ∧ S'.2 = S.2 ∧ (∀ o, o ≠ a → S'.1 o = S.1 o) ∧ S'.1 a = blkF s b b' (S.1 a)
  | _, _, 0, _, _, _, _, _, _, hn => absurd hn (Nat.not_lt_zero _)
  | 0, i, n + 1, T, hW, h1, h2, h3, hi, _ => by
    have ei : i = s := by omega
    subst ei
    refine ⟨T, ?_, h1, h2, h3⟩
    rw [f_X12_copyRow_3, if_pos (nI_le (Nat.le_refl _) (by omega))]
  | d + 1, i, n + 1, T, hW, h1, h2, h3, hi, hn => by
    have b3 : b < 4000 := by
      rw [← e]
      have := Nat.mul_le_mul (show s ≤ 999 by omega) (show j ≤ 3 by omega)
      omega
    have b4 : b' < 4000 := by
      rw [← e']
      have := Nat.mul_le_mul (show s ≤ 999 by omega) (show j' ≤ 3 by omega)
      omega
    have hWT : Wr T := by
      unfold Wr at hW ⊢
      rw [h1]
      exact hW
    have rd : T.1 a (b + i) = S.1 a (b + i) := by
      rw [h3]
      unfold blkF
      rw [if_neg (by omega)]
    obtain ⟨S', k1, k2, k3, k4⟩ := cpM_l ha hk hs hj hj' e e' hl hl' hd d (i + 1) n (sI T a (b' + i) (S.1 a (b + i))) hW h1 (fun o ho => by rw [sI_o ho]; exact h2 o ho) (by
      funext q
      rw [sI_at, h3]
      unfold blkF
      by_cases z : q = b' + i
      · subst z
        rw [if_pos rfl, if_pos ⟨by omega, by omega⟩, show b + (b' + i - b') = b + i by omega]
      · rw [if_neg z]
        by_cases y : b' ≤ q ∧ q < b' + i
        · rw [if_pos y, if_pos ⟨y.1, by omega⟩]
        · rw [if_neg y, if_neg (by omega)]) (by omega) (by omega)
    refine ⟨S', ?_, k2, k3, k4⟩
    rw [f_X12_copyRow_3, if_neg (nI_ge (by omega) (by omega)), nI_mul, nI_mul, e, e', nI_add, nI_add, yI_n (gk_n hWT ha hk) (by omega) (by omega), rd, qI_n (gk_n hWT ha hk) (by omega) (by omega), nI_1, k1]
theorem cpM {a s : Nat} (hW : Wr S) (ha : a < 343) (hk : kd a = 14) (hs : s < 1000) (hj : j < 4) (hj' : j' < 4) (hl : ln a = 4 * s) (hd : j ≠ j') : ∃ S', f_X12_copyRow (some a) (nI s) (nI j) (nI j') S = some S' ∧ S'.2 = S.2 ∧ (∀ o, o ≠ a → S'.1 o = S.1 o) ∧ S'.1 a = blkF s (s * j) (s * j') (S.1 a) := by
  have m1 := Nat.mul_le_mul_left s (show j + 1 ≤ 4 by omega)
  have m2 := Nat.mul_le_mul_left s (show j' + 1 ≤ 4 by omega)
  have m3 : s * j + s ≤ s * j' ∨ s * j' + s ≤ s * j := by
    rcases Nat.lt_or_gt_of_ne hd with z | z
    · have := Nat.mul_le_mul_left s (show j + 1 ≤ j' by omega)
      rw [Nat.mul_succ] at this
      exact Or.inl this
    · have := Nat.mul_le_mul_left s (show j' + 1 ≤ j by omega)
      rw [Nat.mul_succ] at this
      exact Or.inr this
  rw [Nat.mul_succ] at m1 m2
  exact cpM_l ha hk hs hj hj' rfl rfl (by rw [hl]; omega) (by rw [hl]; omega) m3 s 0 fu S hW rfl (fun _ _ => rfl) (by
    funext q
    unfold blkF
    rw [if_neg (by omega)]) (by omega) (by unfold fu; omega)
theorem cpM_s {a : Nat} (hW : Wr S) (h : CmP j j' a S S') (ha : 315 ≤ a) (ha2 : a < 325) (hk : kd a = 14) (hs : mSz a < 1000) (hj : j < 4) (hj' : j' < 4) (hl : ln a = 4 * mSz a) (hd : j ≠ j') : ∃ S2, f_X12_copyRow (some a) (nI (mSz a)) (nI j) (nI j') S' = some S2 ∧ CmP j j' (a + 1) S S2 := by
  obtain ⟨S2, k1, k2, k3, k4⟩ := cpM (S := S') (h.wr hW) (by omega) hk hs hj hj' hl hd
  refine ⟨S2, k1, k2.trans h.1, fun o => ?_⟩
  by_cases z : o = a
  · subst z
    rw [k4, h.2 o, if_neg (by omega), if_pos ⟨by omega, by omega⟩]
  · rw [k3 o z, h.2 o]
    by_cases y : 314 ≤ o ∧ o < a
    · rw [if_pos y, if_pos ⟨y.1, by omega⟩]
    · rw [if_neg y, if_neg (by omega)]
theorem cpM600 (hW : Wr S) (hb : ∀ i, By (S.1 314 i)) (hj : j < 4) (hj' : j' < 4) (hd : j ≠ j') : ∀ (d i n : Nat) (T : GS), T.2 = S.2 → (∀ o, o ≠ 314 → T.1 o = S.1 o) → T.1 314 = blkF i (600 * j) (600 * j') (S.1 314) → i + d = 600 → d < n → ∃ S' m, f_X12_copyAll_2 313 n (nI j) (nI j') (nI i) T = f_X12_copyAll_2 313 (m + 1) (nI j) (nI j') (nI 600) S' ∧ CmP j j' 315 S S'
  | _, _, 0, _, _, _, _, _, hn => absurd hn (Nat.not_lt_zero _)
  | 0, i, n + 1, T, h1, h2, h3, hi, _ => by
    have ei : i = 600 := by omega
    subst ei
    refine ⟨T, n, rfl, h1, fun a => ?_⟩
    by_cases z : a = 314
    · subst z
      rw [if_pos ⟨by omega, by omega⟩, h3]
      rfl
    · rw [if_neg (by omega), h2 a z]
  | d + 1, i, n + 1, T, h1, h2, h3, hi, hn => by
    have hWT : Wr T := by
      unfold Wr at hW ⊢
      rw [h1]
      exact hW
    have rd : T.1 314 (600 * j + i) = S.1 314 (600 * j + i) := by
      rw [h3]
      unfold blkF
      rw [if_neg (by omega)]
    obtain ⟨S', m, k1, k2⟩ := cpM600 hW hb hj hj' hd d (i + 1) n (sI T 314 (600 * j' + i) (S.1 314 (600 * j + i))) h1 (fun o ho => by rw [sI_o ho]; exact h2 o ho) (by
      funext q
      rw [sI_at, h3]
      unfold blkF
      by_cases z : q = 600 * j' + i
      · subst z
        rw [if_pos rfl, if_pos ⟨by omega, by omega⟩, show 600 * j + (600 * j' + i - 600 * j') = 600 * j + i by omega]
      · rw [if_neg z]
        by_cases y : 600 * j' ≤ q ∧ q < 600 * j' + i
        · rw [if_pos y, if_pos ⟨y.1, by omega⟩]
        · rw [if_neg y, if_neg (by omega)]) (by omega) (by omega)
    refine ⟨S', m, ?_, k2⟩
    rw [f_X12_copyAll_2, if_neg (show ¬ (600 : Int32) ≤ nI i from nI_ge (b := 600) (by omega) (by omega)), r_313_1 hWT, r_313_1 hWT, show (600 : Int32) * nI j + nI i = nI (600 * j + i) by rw [← nI_add, ← nI_mul]; rfl, show (600 : Int32) * nI j' + nI i = nI (600 * j' + i) by rw [← nI_add, ← nI_mul]; rfl, y_314 hWT (by omega), rd, q_314 hWT (by omega), hb (600 * j + i), nI_1, k1]
theorem cpAllM (hW : Wr S) (hb : ∀ i, By (S.1 314 i)) (hj : j < 4) (hj' : j' < 4) (hd : j ≠ j') : ∃ S', f_X12_copyAll 313 (nI j) (nI j') S = some S' ∧ CmP j j' 325 S S' := by
  obtain ⟨T, m, g1, g2⟩ := cpM600 hW hb hj hj' hd 600 0 fu S rfl (fun _ _ => rfl) (by
    funext q
    unfold blkF
    rw [if_neg (by omega)]) (by omega) (by unfold fu; omega)
  obtain ⟨T1, a1, b1'⟩ := cpM_s hW g2 (by decide) (by decide) rfl (by decide) hj hj' rfl hd
  obtain ⟨T2, a2, b2'⟩ := cpM_s hW b1' (by decide) (by decide) rfl (by decide) hj hj' rfl hd
  obtain ⟨T3, a3, b3'⟩ := cpM_s hW b2' (by decide) (by decide) rfl (by decide) hj hj' rfl hd
  obtain ⟨T4, a4, b4'⟩ := cpM_s hW b3' (by decide) (by decide) rfl (by decide) hj hj' rfl hd
  obtain ⟨T5, a5, b5'⟩ := cpM_s hW b4' (by decide) (by decide) rfl (by decide) hj hj' rfl hd
  obtain ⟨T6, a6, b6'⟩ := cpM_s hW b5' (by decide) (by decide) rfl (by decide) hj hj' rfl hd
  obtain ⟨T7, a7, b7'⟩ := cpM_s hW b6' (by decide) (by decide) rfl (by decide) hj hj' rfl hd
  obtain ⟨T8, a8, b8'⟩ := cpM_s hW b7' (by decide) (by decide) rfl (by decide) hj hj' rfl hd
  obtain ⟨T9, a9, b9'⟩ := cpM_s hW b8' (by decide) (by decide) rfl (by decide) hj hj' rfl hd
  obtain ⟨TA, aA, bA'⟩ := cpM_s hW b9' (by decide) (by decide) rfl (by decide) hj hj' rfl hd
  refine ⟨TA, ?_, bA'⟩
  unfold f_X12_copyAll
  rw [show f_X12_copyAll_2 313 fu (nI j) (nI j') 0 S = _ from g1, f_X12_copyAll_2, if_pos (show (600 : Int32) ≤ nI 600 by decide)]
  rw [r_313_2 (g2.wr hW), show f_X12_copyRow (some 315) 1 (nI j) (nI j') T = _ from a1, b1_s, r_313_3 (b1'.wr hW), show f_X12_copyRow (some 316) 1 (nI j) (nI j') T1 = _ from a2, b1_s, r_313_4 (b2'.wr hW), show f_X12_copyRow (some 317) 1 (nI j) (nI j') T2 = _ from a3, b1_s, r_313_5 (b3'.wr hW), show f_X12_copyRow (some 318) 6 (nI j) (nI j') T3 = _ from a4, b1_s, r_313_6 (b4'.wr hW), show f_X12_copyRow (some 319) 138 (nI j) (nI j') T4 = _ from a5, b1_s, r_313_7 (b5'.wr hW), show f_X12_copyRow (some 320) 242 (nI j) (nI j') T5 = _ from a6, b1_s, r_313_8 (b6'.wr hW), show f_X12_copyRow (some 321) 34 (nI j) (nI j') T6 = _ from a7, b1_s, r_313_9 (b7'.wr hW), show f_X12_copyRow (some 322) 244 (nI j) (nI j') T7 = _ from a8, b1_s, r_313_10 (b8'.wr hW), show f_X12_copyRow (some 323) 182 (nI j) (nI j') T8 = _ from a9, b1_s, r_313_11 (b9'.wr hW), show f_X12_copyRow (some 324) 42 (nI j) (nI j') T9 = _ from aA, b1_s]
end CM
