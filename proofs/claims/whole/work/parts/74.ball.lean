/-! drawn: the reference, and both alike -/
section BT
variable {S S' T : GS} {co nl nro c : Nat} {D : DSt} {B : BSt} {w : Nat → Nat}
theorem HM.pI {i : Nat} {v : Int32} (hB : HM S nl nro B) (hi : 38 < i) : HM (sI S 313 i v) nl nro B := by
  obtain ⟨⟨a1, a2, a3, a4, a5, a6⟩, f2, f3, f4, f5⟩ := hB
  refine ⟨⟨?_, ?_, ?_, ?_, ?_, ?_⟩, SeM.o f2 (by omega), OpM.o f3 (by omega), fun r hr => RoM.o (f4 r hr) (by omega), fun l hl => LaM.o (f5 l hl) (by omega)⟩
  · rw [sI_at, if_neg (by omega)]; exact a1
  · rw [sI_at, if_neg (by omega)]; exact a2
  · rw [sI_at, if_neg (by omega)]; exact a3
  · rw [sI_at, if_neg (by omega)]; exact a4
  · rw [sI_at, if_neg (by omega)]; exact a5
  · rw [sI_at, if_neg (by omega)]; exact a6
theorem HM.gl {v : Int32} (hB : HM S nl nro B) : HM (sI S 313 29 v) nl nro ((v, B.1.2), B.2) := by
  obtain ⟨⟨a1, a2, a3, a4, a5, a6⟩, f2, f3, f4, f5⟩ := hB
  refine ⟨⟨?_, ?_, ?_, ?_, ?_, ?_⟩, SeM.o f2 (by omega), OpM.o f3 (by omega), fun r hr => RoM.o (f4 r hr) (by omega), fun l hl => LaM.o (f5 l hl) (by omega)⟩
  · rw [sI_at, if_pos rfl]
  · rw [sI_at, if_neg (by omega)]; exact a2
  · rw [sI_at, if_neg (by omega)]; exact a3
  · rw [sI_at, if_neg (by omega)]; exact a4
  · rw [sI_at, if_neg (by omega)]; exact a5
  · rw [sI_at, if_neg (by omega)]; exact a6
theorem HxM.pI {i : Nat} {v : Int32} (h : HxM S c nl nro D) (hi : 27 < i) : HxM (sI S 313 i v) c nl nro D := by
  obtain ⟨⟨m1, m2, m3, m4, m5⟩, h2⟩ := h
  have e : (sI S 313 i v).1 319 = S.1 319 := sI_o (by decide)
  unfold HxM Mc
  rw [e, sI_at, sI_at, sI_at, if_neg (by omega), if_neg (by omega), if_neg (by omega)]
  exact ⟨⟨m1, m2, m3, m4, m5⟩, h2⟩
theorem HM.l (hB : HM S nl nro B) (hO : OfL S S') : HM S' nl nro B := by
  unfold HM FiM SeM OpM RoM LaM at hB ⊢
  rw [hO.1]
  exact hB
theorem HxM.l (h : HxM S c nl nro D) (hO : OfL S S') : HxM S' c nl nro D := by
  obtain ⟨m, h2⟩ := h
  exact ⟨hO.mc m, by rw [hO.1]; exact h2⟩
theorem drawEndM (h : HxM S c nl nro D) (hB : HM S nl nro B) {N k nn : Nat} (hk : N ≤ k) (hk2 : k < 2 ^ 31) {j : Nat} (hj : j < 7 ∨ (10 ≤ j ∧ j - 10 < nl)) (lo hi : Int32) : f_X12_drawn_81 313 (nn + 1) (nI N) (nI j) lo hi (nI k) S = some (drwA nl j (lo, hi, B), S) := by
  have hW := h.1.1
  have n8 := h.2.2.2.2.2.2.1
  obtain ⟨⟨a1, a2, a3, a4, a5, a6⟩, f2, f3, f4, f5⟩ := id hB
  rw [f_X12_drawn_81, if_pos (nI_le hk hk2)]
  by_cases z : j < 7
  · rw [tsw_in (by exact z) (by exact (by decide : 7 < 1000))]
    rcases (show j = 0 ∨ j = 1 ∨ j = 2 ∨ j = 3 ∨ j = 4 ∨ j = 5 ∨ j = 6 by omega) with rfl | rfl | rfl | rfl | rfl | rfl | rfl
    · simp only [List.getD_cons_succ, List.getD_cons_zero]
      show _ = some (B.1.1, S)
      rw [i_313 hW, a1]
    · simp only [List.getD_cons_succ, List.getD_cons_zero]
      show _ = some (setQ 8 nl (fun l => upL (B.2.2 l)), S)
      rw [i_313 hW, show S.1 313 31 = _ from f2.1]
    · simp only [List.getD_cons_succ, List.getD_cons_zero]
      show _ = some (setQ 8 nl (fun l => dnL (B.2.2 l)), S)
      rw [i_313 hW, show S.1 313 32 = _ from f2.2.1]
    · simp only [List.getD_cons_succ, List.getD_cons_zero]
      show _ = some (setQ 8 nl (fun l => buL (B.2.2 l)), S)
      rw [i_313 hW, show S.1 313 33 = _ from f2.2.2]
    · simp only [List.getD_cons_succ, List.getD_cons_zero]
      show _ = some (B.1.2.2.2.1, S)
      rw [i_313 hW, a4]
    · rfl
    · rfl
  · rw [tsw_out (n := 7) (Or.inr ⟨j, by omega, rfl, by omega⟩) rfl (by decide), r_313_43 hW, nI_litsub 10 10 rfl (by omega), y_331 hW (by omega), (f5 _ (by omega)).2.2.2.1]
    unfold drwA
    rw [if_neg (show ¬ j = 0 by omega), if_neg (show ¬ j = 1 by omega), if_neg (show ¬ j = 2 by omega), if_neg (show ¬ j = 3 by omega), if_neg (show ¬ j = 4 by omega), if_neg (show ¬ j = 5 by omega), if_neg (show ¬ j = 6 by omega)]
theorem drawM (hr1 : 1 ≤ D.2.2.2.2.2) {nx : Int32 → Int32} {gs : Int32 → Nat} (hnx : ∀ s : Int32, s * 1103515245 + 12345 = nx s) (hgs : ∀ s, (¬ nI (w 0) ≤ jrem (jushr s 16) (nI (sw w)) ∧ gs s = 0) ∨ (nI (w 0) ≤ jrem (jushr s 16) (nI (sw w)) ∧ ¬ nI (w 0) + nI (w 1) ≤ jrem (jushr s 16) (nI (sw w)) ∧ gs s = 1) ∨ (nI (w 0) ≤ jrem (jushr s 16) (nI (sw w)) ∧ nI (w 0) + nI (w 1) ≤ jrem (jushr s 16) (nI (sw w)) ∧ gs s = 2)) {N : Nat} (hN : N ≤ 60) {j : Nat} (hj : j < 7 ∨ (10 ≤ j ∧ j - 10 < nl)) : ∀ (d k nn m : Nat) (s lo hi : Int32) (S : GS) (B : BSt), HxM S c nl nro D → Wm S c w → 0 < sw w → BI nl nro D.2.2.2.2.2 B → HM S nl nro B → B.1.1 = nI m → m < 41 → S.1 313 50 = nI (sw w) → S.1 313 60 = s → k + d = N → d < nn → ∃ S', f_X12_drawn_81 313 nn (nI N) (nI j) lo hi (nI k) S = some (drwA nl j (drwB D nl nx gs d s m lo hi B), S') ∧ Sm S S'
  | _, _, 0, _, _, _, _, _, _, _, _, _, _, _, _, _, _, _, _, hn => absurd hn (Nat.not_lt_zero _)
  | 0, k, nn + 1, m, s, lo, hi, S, B, h, hw, hp, hI, hB, hm, hm41, h50, h60, hk, _ => ⟨S, drawEndM h hB (by omega) (by omega) hj lo hi, Sm.rf S⟩
  | d + 1, k, nn + 1, m, s, lo, hi, S, B, h, hw, hp, hI, hB, hm, hm41, h50, h60, hk, hn => by
    have hW := h.1.1
    have hle := hw.le
    have n8 := h.2.2.2.2.2.2.1
    generalize hS1 : sI S 313 60 (nx s) = S1
    have hx1 : HxM S1 c nl nro D := by rw [← hS1]; exact h.pI (by decide)
    have hB1 : HM S1 nl nro B := by rw [← hS1]; exact hB.pI (by decide)
    have z1 : Sm S S1 := by rw [← hS1]; exact sm_I (by decide)
    have hW1 := hx1.1.1
    have hw1 : Wm S1 c w := ⟨hx1.1, by rw [z1.2.2 319 (by decide)]; exact hw.2⟩
    have e60 : S1.1 313 60 = nx s := by rw [← hS1, sI_at, if_pos rfl]
    have e50 : S1.1 313 50 = nI (sw w) := by rw [← hS1, sI_at, if_neg (by decide)]; exact h50
    have hdr : f_X12_draw 313 (nI (sw w)) S = some (jrem (jushr (nx s) 16) (nI (sw w)), S1) := by
      unfold f_X12_draw dz
      rw [i_313 hW, h60, hnx, p_313 hW, hS1, i_313 hW1, e60, if_neg (nI_ne0 hp (by omega))]
    have e29 : S1.1 313 29 = nI m := hB1.1.1.trans hm
    have g3 : gs (nx s) < 3 := by
      rcases hgs (nx s) with ⟨-, q⟩ | ⟨-, -, q⟩ | ⟨-, -, q⟩ <;> omega
    have haf := afN_lt m (gs (nx s))
    generalize hS2 : sI S1 313 29 (nI (afN m (gs (nx s)))) = S2
    have o2 : OfM S1 S2 := by rw [← hS2]; exact om_p (by decide) (by decide)
    have hx2 := o2.hx hx1
    have hW2 := hx2.1.1
    have hB2 : HM S2 nl nro ((nI (afN m (gs (nx s))), B.1.2), B.2) := by rw [← hS2]; exact hB1.gl
    have e29' : S2.1 313 29 = nI (afN m (gs (nx s))) := hB2.1.1
    have hI1 : BI nl nro D.2.2.2.2.2 ((nI (afN m (gs (nx s))), B.1.2), B.2) := hI
    obtain ⟨S3, k1, k2, k3⟩ := minuteM hr1 hx2 hI1 hB2
    have hx3 := k2.hx hx2
    have z3 : Sm S S3 := z1.tr (o2.sm.tr k2.sm)
    obtain ⟨S', j1, j2⟩ := drawM hr1 hnx hgs hN hj d (k + 1) nn (afN m (gs (nx s))) (nx s) (jmin lo (nI (afN m (gs (nx s))))) (jmax hi (nI (afN m (gs (nx s))))) S3 _ hx3 ⟨hx3.1, by rw [z3.2.2 319 (by decide)]; exact hw.2⟩ hp hI1.min k3 rfl haf (by rw [(o2.tr k2).2.2 50 (by decide)]; exact e50) (by rw [(o2.tr k2).2.2 60 (by decide)]; exact e60) (by omega) (by omega)
    have tail : ∀ g, g = gs (nx s) → f_X12_drawn_138 (f_X12_drawn_81 313 nn) 313 (nI N) (nI j) lo hi (nI k) (some 313) (some 313) (nI m) (nI g) S1 = some (drwA nl j (drwB D nl nx gs (d + 1) s m lo hi B), S') := fun g hg => by
      subst hg
      unfold f_X12_drawn_138
      rw [k_313 hW1, after_v hm41 g3, b1_s, p_313 hW1, hS2, i_313 hW2, e29', m_lesser, b1_s, i_313 hW2, e29', m_greater, b1_s, k_313 hW2, k1, b1_s, nI_1, j1]
      rfl
    refine ⟨S', ?_, z3.tr j2⟩
    rw [f_X12_drawn_81, if_neg (nI_ge (by omega) (by omega)), i_313 hW, h50, kk_313 hW, hdr, b2_s, i_313 hW1, e29, k_313 hW1, hw1.of 0 0 rfl (by decide), b1_s]
    rcases hgs (nx s) with ⟨q1, q2⟩ | ⟨q1, q3, q2⟩ | ⟨q1, q3, q2⟩
    · rw [if_neg q1]
      exact tail 0 q2.symm
    · rw [if_pos q1, k_313 hW1, hw1.of 0 0 rfl (by decide), b1_s, k_313 hW1, hw1.of 1 1 rfl (by decide), b1_s, if_neg q3]
      exact tail 1 q2.symm
    · rw [if_pos q1, k_313 hW1, hw1.of 0 0 rfl (by decide), b1_s, k_313 hW1, hw1.of 1 1 rfl (by decide), b1_s, if_pos q3]
      exact tail 2 q2.symm
end BT
