/-! image, again: both answer alike -/
section IM
variable {S S1 F : GS} {j j' k t1 t2 j1 j2 : Nat}
theorem inL_ex {L : List (Nat × Nat × Nat)} {x q : Nat} (h : inL L x q = true) : ∃ lo n, (x, lo, n) ∈ L ∧ lo ≤ q ∧ q < lo + n := by
  unfold inL at h
  rw [List.any_eq_true] at h
  obtain ⟨⟨y, lo, n⟩, h1, h2⟩ := h
  rw [Bool.and_eq_true, Bool.and_eq_true, Nat.beq_eq, Nat.ble_eq, Nat.blt_eq] at h2
  obtain ⟨h3, h4, h5⟩ := h2
  have h3 : y = x := h3
  subst h3
  exact ⟨lo, n, h1, h4, h5⟩
theorem cpF_51 : ∀ e, e ∈ cpF → e.1 < 51 := by decide
theorem tO_dj {i : Nat} (hi : i < 4) (hj : j' < 4) (h : i ≠ j') : tO i + 51 ≤ tO j' ∨ tO j' + 51 ≤ tO i := by
  unfold tO
  split <;> split <;> omega
theorem tO_Dj (hj : j < 4) (hj' : j' < 4) (h : j ≠ j') : Dj (tO j) (tO j') := ⟨tO_dj hj hj' h, by have := tO_le hj; omega, by have := tO_le hj'; omega⟩
theorem rlE {x q : Nat} (h1 : RwK S t1 j1 k) (h2 : RwK S t2 j2 k) (hi : inL (rlL k) x q = true) : S.1 (t1 + x) q = S.1 (t2 + x) q := by
  obtain ⟨lo, n, hm, h3, h4⟩ := inL_ex hi
  obtain ⟨⟨c1, c2, c3, -⟩, -, d1, d2, d3, d4, d5, d6⟩ := h1
  obtain ⟨⟨e1, e2, e3, -⟩, -, f1, f2, f3, f4, f5, f6⟩ := h2
  unfold rlL at hm
  simp only [List.mem_cons, Prod.mk.injEq, List.not_mem_nil, or_false] at hm
  rcases hm with ⟨rfl, rfl, rfl⟩ | ⟨rfl, rfl, rfl⟩ | ⟨rfl, rfl, rfl⟩ | ⟨rfl, rfl, rfl⟩ | ⟨rfl, rfl, rfl⟩ | ⟨rfl, rfl, rfl⟩ | ⟨rfl, rfl, rfl⟩ | ⟨rfl, rfl, rfl⟩ | ⟨rfl, rfl, rfl⟩
  · rcases (show q = 0 ∨ q = 1 by omega) with rfl | rfl
    · exact c1.1.trans e1.1.symm
    · exact c1.2.1.trans e1.2.1.symm
  · rcases (show q = 0 ∨ q = 1 by omega) with rfl | rfl
    · exact c2.1.trans e2.1.symm
    · exact c2.2.1.trans e2.2.1.symm
  · rcases (show q = 0 ∨ q = 1 by omega) with rfl | rfl
    · exact c3.1.trans e3.1.symm
    · exact c3.2.1.trans e3.2.1.symm
  · rcases (show q = 0 ∨ q = 1 by omega) with rfl | rfl
    · exact d1.1.trans f1.1.symm
    · exact d1.2.1.trans f1.2.1.symm
  · rcases (show q = 0 ∨ q = 1 by omega) with rfl | rfl
    · exact d2.1.trans f2.1.symm
    · exact d2.2.1.trans f2.2.1.symm
  · rcases (show q = 0 ∨ q = 1 by omega) with rfl | rfl
    · exact d3.1.trans f3.1.symm
    · exact d3.2.1.trans f3.2.1.symm
  · rcases (show q = 0 ∨ q = 1 by omega) with rfl | rfl
    · exact d4.1.trans f4.1.symm
    · exact d4.2.1.trans f4.2.1.symm
  · rcases (show q = 0 ∨ q = 1 by omega) with rfl | rfl
    · exact d5.1.trans f5.1.symm
    · exact d5.2.1.trans f5.2.1.symm
  · rcases (show q = 0 ∨ q = 1 by omega) with rfl | rfl
    · exact d6.1.trans f6.1.symm
    · exact d6.2.1.trans f6.2.1.symm
theorem rlL_51 : ∀ k, k < 2 → ∀ e, e ∈ rlL k → e.1 < 51 := by decide
theorem Inv.copy (h : Inv S) (hj : j < 4) (hj' : j' < 4) (hd : j ≠ j') (c : CpR (tO j) (tO j') cpF S S1) (hW : Wr F) (hA : ∀ o, o < 206 → F.1 o = S1.1 o) (hM : ∀ a, 314 ≤ a → a < 325 → F.1 a = blkF (mSz a) (mSz a * j) (mSz a * j') (S.1 a)) (h206 : ∀ k, k < 3 → F.1 206 k = F.1 342 k ∧ In (F.1 206 k) 0 1) (h309 : F.1 309 = S.1 309) (hR : ∀ o, 207 ≤ o → o < 230 → F.1 o = S.1 o) (hs : S.1 (tO j) 10 = S.1 317 j) (h6 : ∀ i, i < 3 → i + 1 ≠ j' → F.1 206 i = S.1 206 i) : Inv F := by
  obtain ⟨c1, c2, c3, c4⟩ := id h
  have tl : ∀ i, i < 4 → tO i + 51 ≤ 206 := fun i hi => tO_le hi
  refine ⟨hW, fun i hi => ?_, ⟨h206, by rw [h309]; exact c3.2.1, fun i => ?_⟩, ?_⟩
  · by_cases z : i = j'
    · subst z
      have tg : ∀ x q, x < 51 → F.1 (tO i + x) q = if inL cpF x q = true then S.1 (tO j + x) q else S.1 (tO i + x) q := fun x q hx => by
        rw [hA _ (by have := tl i hi; omega), c.2, show tO i + x - tO i = x by omega]
        by_cases y : inL cpF x q = true
        · rw [if_pos y, if_pos ⟨by omega, by omega, y⟩]
        · rw [if_neg y, if_neg (fun w => y w.2.2)]
      refine RwT.mv (t := tO j) (j := j) (c2 j hj) ⟨fun x q hx => ?_, fun k hk x q hx => ?_⟩ (fun a h1 h2 q hq => ?_) ?_
      · obtain ⟨lo, n, hm, -, -⟩ := inL_ex hx
        rw [tg x q (cpF_51 _ hm), if_pos hx]
      · obtain ⟨lo, n, hm, -, -⟩ := inL_ex hx
        rw [tg x q (rlL_51 k hk _ hm)]
        split
        · rfl
        · rcases (show k = 0 ∨ k = 1 by omega) with e | e
          · subst e
            exact rlE (c2 i hi).2.2.2.2.2.1 (c2 j hj).2.2.2.2.2.1 hx
          · subst e
            exact rlE (c2 i hi).2.2.2.2.2.2 (c2 j hj).2.2.2.2.2.2 hx
      · rw [hM a h1 h2]
        unfold blkF
        rw [if_pos ⟨by omega, by omega⟩, Nat.add_sub_cancel_left]
      · refine Or.inr ?_
        have e1 : F.1 (tO i) 10 = S.1 (tO j) 10 := (tg 0 10 (by decide)).trans (if_pos (by decide))
        have e2 : F.1 317 i = S.1 317 j := by
          rw [hM 317 (by decide) (by decide)]
          show blkF 1 (1 * j) (1 * i) (S.1 317) i = _
          unfold blkF
          rw [if_pos ⟨by omega, by omega⟩, show 1 * j + (i - 1 * i) = j by omega]
        rw [e1, e2]
        exact hs
    · have tg : ∀ x q, x < 51 → F.1 (tO i + x) q = S.1 (tO i + x) q := fun x q hx => by
        have hdj := tO_dj hi hj' z
        rw [hA _ (by have := tl i hi; omega), c.2, if_neg (by omega)]
      refine RwT.mv (t := tO i) (j := i) (c2 i hi) ⟨fun x q hx => ?_, fun k hk x q hx => ?_⟩ (fun a h1 h2 q hq => ?_) ?_
      · obtain ⟨lo, n, hm, -, -⟩ := inL_ex hx
        exact tg x q (cpF_51 _ hm)
      · obtain ⟨lo, n, hm, -, -⟩ := inL_ex hx
        exact tg x q (rlL_51 k hk _ hm)
      · rw [hM a h1 h2]
        unfold blkF
        rw [if_neg]
        rcases Nat.lt_or_gt_of_ne z with y | y
        · have := Nat.mul_le_mul_left (mSz a) (show i + 1 ≤ j' by omega)
          rw [Nat.mul_succ] at this
          omega
        · have := Nat.mul_le_mul_left (mSz a) (show j' + 1 ≤ i by omega)
          rw [Nat.mul_succ] at this
          omega
      · have e1 : F.1 (tO i) 10 = S.1 (tO i) 10 := tg 0 10 (by decide)
        have e2 : F.1 317 i = S.1 317 i := by
          rw [hM 317 (by decide) (by decide)]
          show blkF 1 (1 * j) (1 * j') (S.1 317) i = _
          unfold blkF
          rw [if_neg (by omega)]
        rw [e1, e2]
        rcases (c2 i hi).2.2.2.1 with w | w
        · refine Or.inl ⟨w.1, ?_⟩
          have := w.1
          rw [h6 (i - 1) (by omega) (by omega)]
          exact w.2
        · exact Or.inr w
  · rw [hM 314 (by decide) (by decide)]
    unfold blkF
    split
    · exact c3.2.2 _
    · exact c3.2.2 _
  · obtain ⟨d1, d2, d3, d4, d5, d6, d7, d8, d9⟩ := c4
    exact ⟨d1.sm (hR _ (by decide) (by decide)), d2.sm (hR _ (by decide) (by decide)), d3.sm (hR _ (by decide) (by decide)), d4.sm (hR _ (by decide) (by decide)), d5.sm (hR _ (by decide) (by decide)), d6.sm (hR _ (by decide) (by decide)), d7.sm (hR _ (by decide) (by decide)), d8.sm (hR _ (by decide) (by decide)), d9.sm (hR _ (by decide) (by decide))⟩
theorem img_r (hk : k < 3) : gRf 52 k = some (tO (k + 1)) := by
  rcases (show k = 0 ∨ k = 1 ∨ k = 2 by omega) with rfl | rfl | rfl <;> rfl
theorem kd_t (hj : j < 4) : kd (tO j) = 9 := (tSh_j hj).1
theorem CpR.hi (c : CpR (tO j) (tO j') cpF S S1) (hj' : j' < 4) {o : Nat} (ho : 206 ≤ o) : S1.1 o = S.1 o := by
  have := tO_le hj'
  funext q
  rw [c.2, if_neg (by omega)]
theorem both_image (h : Inv S) (x1 : Int32) : Both2 (f_X11_image 0 x1) (f_X12_image 313 x1) S := by
  have hW := h.1
  unfold Both2 f_X11_image f_X12_image
  rcases numQ x1 3 with ⟨k, rfl, hk⟩ | hx
  · obtain ⟨S1, g1, c1⟩ := cpTold hW (tO_Dj (j := 0) (j' := k + 1) (by decide) (by omega) (by omega)) (tSh_j (by decide)) (tSh_j (j := k + 1) (by omega))
    have hW1 := c1.wr hW
    have c0 : CpR (tO 0) (tO (k + 1)) cpF S S1 := c1
    generalize hS2 : sI S1 206 k (1 &&& 1) = S2
    have hW2 : Wr S2 := by rw [← hS2]; exact hW1
    have e14 : ∀ o, o ≠ 206 → S2.1 o = S1.1 o := fun o ho => by rw [← hS2, sI_o ho]
    have hb : ∀ i, By ((s0 S2).1 314 i) := fun i => by
      show By (S2.1 314 i)
      rw [e14 314 (by decide), c0.hi (by omega) (by decide)]
      exact h.2.2.1.2.2 i
    obtain ⟨S3, k1, k2⟩ := cpAllM (S := s0 S2) hW2 hb (j := 0) (j' := k + 1) (by decide) (by omega) (by omega)
    have hW3 : Wr S3 := k2.wr hW2
    have e3 : ∀ o, o < 314 ∨ 325 ≤ o → S3.1 o = (s0 S2).1 o := fun o ho => by rw [k2.2 o, if_neg (by omega)]
    refine ⟨1, S2, sI S3 342 k (1 &&& 1), ?_, ?_, ?_⟩
    · rw [if_neg (nI_pos (by omega)), if_pos (show nI k < (3 : Int32) from nI_lt (b := 3) hk (by decide)), r_0_1 hW, yR_w hW (o := 52) (c := 20) (n := 3) (by decide) rfl rfl hk (by omega) (by decide), img_r hk, r_0_0 hW, c1_w hW (by have := tO_le (show k + 1 < 4 by omega); omega) (kd_t (by omega)), show f_X9_copyFrom (tO (k + 1)) (some 1) S = _ from g1, b1_s, r_0_2 hW1, q_206 hW1 hk, hS2]
    · rw [p_313 hW2, show f_X12_in (nI k) 0 2 (sI S2 313 0 0) = some 1 from in_y (a := 0) (b := 2) (by omega) (by omega) (by omega), b1_s, if_neg n10, k_313 (S := s0 S2) hW2, nI_1, show f_X12_copyAll 313 0 (nI (k + 1)) (s0 S2) = _ from k1, b1_s, r_313_61 hW3, q_342 hW3 hk]
    · have eo : ∀ o, o ≠ 342 → (o < 314 ∨ 325 ≤ o) → o ≠ 313 → (sI S3 342 k (1 &&& 1)).1 o = S2.1 o := fun o h1 h2 h3 => by
        rw [sI_o h1, e3 o h2]
        exact sI_o h3
      refine h.copy (j := 0) (j' := k + 1) (by decide) (by omega) (by omega) c0 hW3 (fun o ho => ?_) (fun a h1 h2 => ?_) (fun i hi => ?_) ?_ (fun o h1 h2 => ?_) ((h.2.1 0 (by decide)).2.2.2.1.resolve_left (fun z => z.1 rfl)) (fun i hi hne => by rw [eo 206 (by decide) (by decide) (by decide), ← hS2, sI_at, if_neg (by omega), c0.hi (by omega) (by decide)])
      · rw [eo o (by omega) (by omega) (by omega), e14 o (by omega)]
      · rw [sI_o (by omega), k2.2 a, if_pos ⟨h1, h2⟩]
        congr 1
        rw [show (s0 S2).1 a = S2.1 a from sI_o (by omega), e14 a (by omega), c0.hi (by omega) (by omega)]
      · obtain ⟨q1, q2⟩ := h.2.2.1.1 i hi
        rw [eo 206 (by decide) (by decide) (by decide), ← hS2, sI_at, sI_at, e3 342 (by decide)]
        by_cases z : i = k
        · rw [if_pos z, if_pos z]
          exact ⟨rfl, 1, by decide, by decide, rfl⟩
        · rw [if_neg z, if_neg z, c0.hi (by omega) (by decide)]
          refine ⟨?_, q2⟩
          rw [show (s0 S2).1 342 = S2.1 342 from sI_o (by decide), e14 342 (by decide), c0.hi (by omega) (by decide)]
          exact q1
      · rw [eo 309 (by decide) (by decide) (by decide), e14 309 (by decide), c0.hi (by omega) (by decide)]
      · rw [eo o (by omega) (by omega) (by omega), e14 o (by omega), c0.hi (by omega) (by omega)]
  · have e0 : f_X12_in x1 0 2 (s0 S) = some 0 := in0_n (n := 3) (by decide) hx
    refine ⟨0, S, s0 S, ?_, ?_, h.sm (sm_I (by decide))⟩
    · rcases hx with q | ⟨l, hl, rfl, hq⟩
      · rw [if_pos q]
      · rw [if_neg (nI_pos hl), if_neg (show ¬ nI l < (3 : Int32) from nI_nlt (b := 3) hq hl)]
    · rw [p_313 hW, show f_X12_in x1 0 2 (sI S 313 0 0) = some 0 from e0, b1_s, if_pos rfl]
theorem both_again (h : Inv S) (x1 : Int32) : Both2 (f_X11_again 0 x1) (f_X12_again 313 x1) S := by
  have hW := h.1
  unfold Both2 f_X11_again f_X12_again
  rcases numQ x1 3 with ⟨k, rfl, hk⟩ | hx
  · obtain ⟨q1, b, -, b1', q2⟩ := h.2.2.1.1 k hk
    have hin : ∀ T, f_X12_in (nI k) 0 2 T = some 1 := fun T => in_y (a := 0) (b := 2) (by omega) (by omega) (by omega)
    by_cases z : b = 0
    · subst z
      refine ⟨0, S, s0 S, ?_, ?_, h.sm (sm_I (by decide))⟩
      · rw [if_neg (nI_pos (by omega)), if_neg (show ¬ (3 : Int32) ≤ nI k from nI_ge (b := 3) hk (by decide)), r_0_2 hW, y_206 hW hk, q2, if_pos (show nI 0 = 0 from rfl)]
      · rw [p_313 hW, hin, b1_s, if_neg n10, r_313_61 (S := s0 S) hW, y_342 (S := s0 S) hW hk, show (s0 S).1 342 k = nI 0 from q1.symm.trans q2, if_pos (show nI 0 = 0 from rfl)]
    · obtain ⟨S1, g1, c1⟩ := cpTold hW (tO_Dj (j := k + 1) (j' := 0) (by omega) (by decide) (by omega)) (tSh_j (j := k + 1) (by omega)) (tSh_j (by decide))
      have hW1 := c1.wr hW
      have c0 : CpR (tO (k + 1)) (tO 0) cpF S S1 := c1
      have hb : ∀ i, By ((s0 S1).1 314 i) := fun i => by
        show By (S1.1 314 i)
        rw [c0.hi (by decide) (by decide)]
        exact h.2.2.1.2.2 i
      obtain ⟨S3, k1, k2⟩ := cpAllM (S := s0 S1) hW1 hb (j := k + 1) (j' := 0) (by omega) (by decide) (by omega)
      have hW3 : Wr S3 := k2.wr hW1
      have e3 : ∀ o, o < 314 ∨ 325 ≤ o → o ≠ 313 → S3.1 o = S1.1 o := fun o ho h2 => by
        rw [k2.2 o, if_neg (by omega)]
        exact sI_o h2
      refine ⟨1, S1, S3, ?_, ?_, ?_⟩
      · rw [if_neg (nI_pos (by omega)), if_neg (show ¬ (3 : Int32) ≤ nI k from nI_ge (b := 3) hk (by decide)), r_0_2 hW, y_206 hW hk, q2, if_neg (nI_ne0 (by omega) (by omega)), r_0_0 hW, r_0_1 hW, yR_w hW (o := 52) (c := 20) (n := 3) (by decide) rfl rfl hk (by omega) (by decide), img_r hk, k_1 hW, show f_X9_copyFrom 1 (some (tO (k + 1))) S = _ from g1, b1_s]
      · rw [p_313 hW1, hin, b1_s, if_neg n10, r_313_61 (S := s0 S1) hW1, y_342 (S := s0 S1) hW1 hk, show (s0 S1).1 342 k = nI b from by
          show S1.1 342 k = nI b
          rw [c0.hi (by decide) (by decide)]
          exact q1.symm.trans q2, if_neg (nI_ne0 (by omega) (by omega)), k_313 (S := s0 S1) hW1, nI_1, show f_X12_copyAll 313 (nI (k + 1)) 0 (s0 S1) = _ from k1, b1_s]
      · refine h.copy (j := k + 1) (j' := 0) (by omega) (by decide) (by omega) c0 hW3 (fun o ho => ?_) (fun a h1 h2 => ?_) (fun i hi => ?_) ?_ (fun o h1 h2 => ?_) ((h.2.1 (k + 1) (by omega)).2.2.2.1.resolve_left (fun z => nI_ne0 (by omega) (by omega) (q2.symm.trans z.2))) (fun i hi _ => by rw [e3 206 (by decide) (by decide), c0.hi (by decide) (by decide)])
        · rw [e3 o (by omega) (by omega)]
        · rw [k2.2 a, if_pos ⟨h1, h2⟩]
          congr 1
          rw [show (s0 S1).1 a = S1.1 a from sI_o (by omega), c0.hi (by decide) (by omega)]
        · rw [e3 206 (by decide) (by decide), e3 342 (by decide) (by decide), c0.hi (by decide) (by decide), c0.hi (by decide) (by decide)]
          exact h.2.2.1.1 i hi
        · rw [e3 309 (by decide) (by decide), c0.hi (by decide) (by decide)]
        · rw [e3 o (by omega) (by omega), c0.hi (by decide) (by omega)]
  · have e0 : f_X12_in x1 0 2 (s0 S) = some 0 := in0_n (n := 3) (by decide) hx
    refine ⟨0, S, s0 S, ?_, ?_, h.sm (sm_I (by decide))⟩
    · rcases hx with q | ⟨l, hl, rfl, hq⟩
      · rw [if_pos q]
      · rw [if_neg (nI_pos hl), if_pos (show (3 : Int32) ≤ nI l from nI_le (a := 3) hq hl)]
    · rw [p_313 hW, show f_X12_in x1 0 2 (sI S 313 0 0) = some 0 from e0, b1_s, if_pos rfl]
end IM
