/-! the law's rounds -/
section LW
variable {S : GS} {L : Nat} {xs : Nat → Int32}
theorem gk_pI {o c i : Nat} {v : Int32} {α : Type} {g : GS → Option α} {r : α} (h : pI (some o) c i v S g = some r) : gk S o = c := by
  refine Classical.byContradiction fun z => ?_
  rw [show pI (some o) c i v S g = none from if_neg z] at h
  cases h
theorem lgc (v : Int64) : lg_cmp v v = 0 := by
  unfold lg_cmp
  simp
theorem sub6_s : ∀ L, L < 6 → (nI L - 6).toInt = (L : Int) - 6 := by decide
theorem sub6_k (L : Nat) (h : L < 3073) : (nI L - 6).toInt = (L : Int) - 6 := by
  by_cases q : 6 ≤ L
  · rw [show nI L - 6 = nI (L - 6) from nI_sub (b := 6) q, nI_toInt (by omega)]
    omega
  · exact sub6_s L (by omega)
theorem law_l (hT : ∀ (S : GS) (a b : Int32), Inv S → Both2 (f_X11_text 0 a b) (f_X12_text 313 a b) S) (hL : L ≤ 3072) : ∀ (n k : Nat) (S : GS), Inv S → k ≤ L → L < k + 6 * n → f_L_law_18 L xs n (some 0) (some 313) (nI k) S = some ()
  | 0, k, S, _, h1, h2 => by omega
  | n + 1, k, S, h, h1, h2 => by
    have hW := h.1
    rw [f_L_law_18]
    unfold sl
    dsimp only
    have el : (Int32.ofNat L - 6).toInt = (L : Int) - 6 := sub6_k L (by omega)
    by_cases q : L < k + 6
    · rw [if_pos (by rw [Int32.lt_iff_toInt_lt, el, nI_toInt (by omega)]; omega)]
    · rw [if_neg (by rw [Int32.lt_iff_toInt_lt, el, nI_toInt (by omega)]; omega)]
      have step : ∀ S2, Inv S2 → f_L_law_1814 (f_L_law_18 L xs n) L xs (some 0) (some 313) (nI k) S2 = some () := fun S2 h2' => by
        unfold f_L_law_1814
        rw [show nI k + 6 = nI (k + 6) from nI_add k 6]
        exact law_l hT hL n (k + 6) S2 h2' (by omega) (by omega)
      have r0 : ∀ {g : Int32 → Option Unit}, sx L xs (nI k) g = g (xs k) := fun {g} => ix_n (by omega) (by omega)
      have r1 : ∀ {g : Int32 → Option Unit}, sx L xs (nI k + 1) g = g (xs (k + 1)) := fun {g} => by
        rw [show nI k + 1 = nI (k + 1) from nI_add k 1]
        exact ix_n (by omega) (by omega)
      have r2 : ∀ {g : Int32 → Option Unit}, sx L xs (nI k + 2) g = g (xs (k + 2)) := fun {g} => by
        rw [show nI k + 2 = nI (k + 2) from nI_add k 2]
        exact ix_n (by omega) (by omega)
      have r3 : ∀ {g : Int32 → Option Unit}, sx L xs (nI k + 3) g = g (xs (k + 3)) := fun {g} => by
        rw [show nI k + 3 = nI (k + 3) from nI_add k 3]
        exact ix_n (by omega) (by omega)
      have r4 : ∀ {g : Int32 → Option Unit}, sx L xs (nI k + 4) g = g (xs (k + 4)) := fun {g} => by
        rw [show nI k + 4 = nI (k + 4) from nI_add k 4]
        exact ix_n (by omega) (by omega)
      have r5 : ∀ {g : Int32 → Option Unit}, sx L xs (nI k + 5) g = g (xs (k + 5)) := fun {g} => by
        rw [show nI k + 5 = nI (k + 5) from nI_add k 5]
        exact ix_n (by omega) (by omega)
      rw [r0]
      rcases numQ (xs k &&& 63) 35 with ⟨i, ei, hi⟩ | hx
      · rw [ei, tsw_in (by exact hi) (by exact (by decide : 35 < 1000))]
        clear ei
        rcases (show i = 0 ∨ i = 1 ∨ i = 2 ∨ i = 3 ∨ i = 4 ∨ i = 5 ∨ i = 6 ∨ i = 7 ∨ i = 8 ∨ i = 9 ∨ i = 10 ∨ i = 11 ∨ i = 12 ∨ i = 13 ∨ i = 14 ∨ i = 15 ∨ i = 16 ∨ i = 17 ∨ i = 18 ∨ i = 19 ∨ i = 20 ∨ i = 21 ∨ i = 22 ∨ i = 23 ∨ i = 24 ∨ i = 25 ∨ i = 26 ∨ i = 27 ∨ i = 28 ∨ i = 29 ∨ i = 30 ∨ i = 31 ∨ i = 32 ∨ i = 33 ∨ i = 34 by omega) with rfl | rfl | rfl | rfl | rfl | rfl | rfl | rfl | rfl | rfl | rfl | rfl | rfl | rfl | rfl | rfl | rfl | rfl | rfl | rfl | rfl | rfl | rfl | rfl | rfl | rfl | rfl | rfl | rfl | rfl | rfl | rfl | rfl | rfl | rfl
        · simp only [List.getD_cons_succ, List.getD_cons_zero]
          obtain ⟨v, S1, S2, e1, e2, i2⟩ := both_feed h (xs (k + 1)) (xs (k + 2)) (xs (k + 3)) (xs (k + 4)) (xs (k + 5))
          have g1 : gk S1 313 = 12 := by
            have e3 := e2
            unfold f_X12_feed at e3
            exact gk_pI e3
          rw [r1, r2, r3, r4, r5, kk_0 hW, e1, b2_s, r1, r2, r3, r4, r5, c2_s g1, e2, b2_s, if_pos rfl]
          exact step S2 i2
        · simp only [List.getD_cons_succ, List.getD_cons_zero]
          obtain ⟨v, S1, S2, e1, e2, i2⟩ := both_end h (xs (k + 1))
          have g1 : gk S1 313 = 12 := by
            have e3 := e2
            unfold f_X12_end at e3
            exact gk_pI e3
          rw [r1, kk_0 hW, e1, b2_s, r1, c2_s g1, e2, b2_s, if_pos rfl]
          exact step S2 i2
        · simp only [List.getD_cons_succ, List.getD_cons_zero]
          obtain ⟨v, S1, S2, e1, e2, i2⟩ := hT S (xs (k + 1)) (xs (k + 2)) h
          have g1 : gk S1 313 = 12 := by
            have e3 := e2
            unfold f_X12_text at e3
            exact gk_pI e3
          rw [r1, r2, kk_0 hW, e1, b2_s, r1, r2, c2_s g1, e2, b2_s, if_pos rfl]
          exact step S2 i2
        · simp only [List.getD_cons_succ, List.getD_cons_zero]
          obtain ⟨v, S2, e1, e2, i2⟩ := both_fault h (xs (k + 1))
          rw [r1, k_0 hW, e1, b1_s, r1, kk_313 hW, e2, b2_s, if_pos rfl]
          exact step S2 i2
        · simp only [List.getD_cons_succ, List.getD_cons_zero]
          obtain ⟨v, S2, e1, e2, i2⟩ := both_court h (xs (k + 1)) (xs (k + 2))
          rw [r1, r2, k_0 hW, e1, b1_s, r1, r2, kk_313 hW, e2, b2_s, if_pos rfl]
          exact step S2 i2
        · simp only [List.getD_cons_succ, List.getD_cons_zero]
          obtain ⟨v, S2, e1, e2, i2⟩ := both_lady h (xs (k + 1)) (xs (k + 2)) (xs (k + 3))
          rw [r1, r2, r3, k_0 hW, e1, b1_s, r1, r2, r3, kk_313 hW, e2, b2_s, if_pos rfl]
          exact step S2 i2
        · simp only [List.getD_cons_succ, List.getD_cons_zero]
          obtain ⟨v, S2, e1, e2, i2⟩ := both_under h (xs (k + 1)) (xs (k + 2)) (xs (k + 3)) (xs (k + 4))
          rw [r1, r2, r3, r4, k_0 hW, e1, b1_s, r1, r2, r3, r4, kk_313 hW, e2, b2_s, if_pos rfl]
          exact step S2 i2
        · simp only [List.getD_cons_succ, List.getD_cons_zero]
          obtain ⟨v, S2, e1, e2, i2⟩ := both_deed h (xs (k + 1)) (xs (k + 2)) (xs (k + 3))
          rw [r1, r2, r3, k_0 hW, e1, b1_s, r1, r2, r3, kk_313 hW, e2, b2_s, if_pos rfl]
          exact step S2 i2
        · simp only [List.getD_cons_succ, List.getD_cons_zero]
          obtain ⟨v, S1, S2, e1, e2, i2⟩ := both_stop h (xs (k + 1)) (xs (k + 2))
          have g1 : gk S1 313 = 12 := by
            have e3 := e2
            unfold f_X12_stop at e3
            exact gk_pI e3
          rw [r1, r2, kk_0 hW, e1, b2_s, r1, r2, c2_s g1, e2, b2_s, if_pos rfl]
          exact step S2 i2
        · simp only [List.getD_cons_succ, List.getD_cons_zero]
          obtain ⟨v, S1, S2, e1, e2, i2⟩ := both_state h (xs (k + 1)) (xs (k + 2)) (xs (k + 3)) (xs (k + 4))
          have g1 : gk S1 313 = 12 := by
            have e3 := e2
            unfold f_X12_state at e3
            exact gk_pI e3
          rw [r1, r2, r3, r4, kk_0 hW, e1, b2_s, r1, r2, r3, r4, c2_s g1, e2, b2_s, if_pos rfl]
          exact step S2 i2
        · simp only [List.getD_cons_succ, List.getD_cons_zero]
          obtain ⟨v, S1, S2, e1, e2, i2⟩ := both_of h (xs (k + 1)) (xs (k + 2)) (xs (k + 3)) (xs (k + 4)) (xs (k + 5))
          have g1 : gk S1 313 = 12 := by
            have e3 := e2
            unfold f_X12_of at e3
            exact gk_pI e3
          rw [r1, r2, r3, r4, r5, kk_0 hW, e1, b2_s, r1, r2, r3, r4, r5, c2_s g1, e2, b2_s, if_pos rfl]
          exact step S2 i2
        · simp only [List.getD_cons_succ, List.getD_cons_zero]
          obtain ⟨v, S2, e1, e2, i2⟩ := both_mark h (xs (k + 1)) (xs (k + 2))
          rw [r1, r2, k_0 hW, e1, b1_s, r1, r2, kk_313 hW, e2, b2_s, if_pos rfl]
          exact step S2 i2
        · simp only [List.getD_cons_succ, List.getD_cons_zero]
          obtain ⟨v, S2, e1, e2, i2⟩ := both_falls h (xs (k + 1)) (xs (k + 2)) (xs (k + 3))
          rw [r1, r2, r3, k_0 hW, e1, b1_s, r1, r2, r3, kk_313 hW, e2, b2_s, if_pos rfl]
          exact step S2 i2
        · simp only [List.getD_cons_succ, List.getD_cons_zero]
          by_cases z4 : xs (k + 4) = 0
          · skip
            obtain ⟨v, S1, S2, e1, e2, i2⟩ := both_laced h (xs (k + 1)) (xs (k + 2)) (xs (k + 3)) 0 (xs (k + 5))
            have g1 : gk S1 313 = 12 := by
              have e3 := e2
              unfold f_X12_laced at e3
              exact gk_pI e3
            rw [r1, r2, r3, r4, if_pos z4]
            unfold f_L_law_756
            rw [r5, kk_0 hW, e1, b2_s, r1, r2, r3, r4, if_pos z4]
            unfold f_L_law_793
            rw [r5, c2_s g1, e2, b2_s, if_pos rfl]
            exact step S2 i2
          · skip
            obtain ⟨v, S1, S2, e1, e2, i2⟩ := both_laced h (xs (k + 1)) (xs (k + 2)) (xs (k + 3)) 1 (xs (k + 5))
            have g1 : gk S1 313 = 12 := by
              have e3 := e2
              unfold f_X12_laced at e3
              exact gk_pI e3
            rw [r1, r2, r3, r4, if_neg z4]
            unfold f_L_law_756
            rw [r5, kk_0 hW, e1, b2_s, r1, r2, r3, r4, if_neg z4]
            unfold f_L_law_793
            rw [r5, c2_s g1, e2, b2_s, if_pos rfl]
            exact step S2 i2
        · simp only [List.getD_cons_succ, List.getD_cons_zero]
          by_cases z4 : xs (k + 4) = 0
          · skip
            by_cases z5 : xs (k + 5) = 0
            · skip
              obtain ⟨v, S1, S2, e1, e2, i2⟩ := both_least h (xs (k + 1)) (xs (k + 2)) (xs (k + 3)) 0 0
              have g1 : gk S1 313 = 12 := by
                have e3 := e2
                unfold f_X12_least at e3
                exact gk_pI e3
              rw [r1, r2, r3, r4, if_pos z4]
              unfold f_L_law_835
              rw [r5, if_pos z5]
              unfold f_L_law_848
              rw [kk_0 hW, e1, b2_s, r1, r2, r3, r4, if_pos z4]
              unfold f_L_law_880
              rw [r5, if_pos z5]
              unfold f_L_law_893
              rw [c2_s g1, e2, b2_s, if_pos rfl]
              exact step S2 i2
            · skip
              obtain ⟨v, S1, S2, e1, e2, i2⟩ := both_least h (xs (k + 1)) (xs (k + 2)) (xs (k + 3)) 0 1
              have g1 : gk S1 313 = 12 := by
                have e3 := e2
                unfold f_X12_least at e3
                exact gk_pI e3
              rw [r1, r2, r3, r4, if_pos z4]
              unfold f_L_law_835
              rw [r5, if_neg z5]
              unfold f_L_law_848
              rw [kk_0 hW, e1, b2_s, r1, r2, r3, r4, if_pos z4]
              unfold f_L_law_880
              rw [r5, if_neg z5]
              unfold f_L_law_893
              rw [c2_s g1, e2, b2_s, if_pos rfl]
              exact step S2 i2
          · skip
            by_cases z5 : xs (k + 5) = 0
            · skip
              obtain ⟨v, S1, S2, e1, e2, i2⟩ := both_least h (xs (k + 1)) (xs (k + 2)) (xs (k + 3)) 1 0
              have g1 : gk S1 313 = 12 := by
                have e3 := e2
                unfold f_X12_least at e3
                exact gk_pI e3
              rw [r1, r2, r3, r4, if_neg z4]
              unfold f_L_law_835
              rw [r5, if_pos z5]
              unfold f_L_law_848
              rw [kk_0 hW, e1, b2_s, r1, r2, r3, r4, if_neg z4]
              unfold f_L_law_880
              rw [r5, if_pos z5]
              unfold f_L_law_893
              rw [c2_s g1, e2, b2_s, if_pos rfl]
              exact step S2 i2
            · skip
              obtain ⟨v, S1, S2, e1, e2, i2⟩ := both_least h (xs (k + 1)) (xs (k + 2)) (xs (k + 3)) 1 1
              have g1 : gk S1 313 = 12 := by
                have e3 := e2
                unfold f_X12_least at e3
                exact gk_pI e3
              rw [r1, r2, r3, r4, if_neg z4]
              unfold f_L_law_835
              rw [r5, if_neg z5]
              unfold f_L_law_848
              rw [kk_0 hW, e1, b2_s, r1, r2, r3, r4, if_neg z4]
              unfold f_L_law_880
              rw [r5, if_neg z5]
              unfold f_L_law_893
              rw [c2_s g1, e2, b2_s, if_pos rfl]
              exact step S2 i2
        · simp only [List.getD_cons_succ, List.getD_cons_zero]
          obtain ⟨v, S2, e1, e2, i2⟩ := both_dance h (xs (k + 1)) (xs (k + 2))
          rw [r1, r2, k_0 hW, e1, b1_s, r1, r2, kk_313 hW, e2, b2_s, if_pos rfl]
          exact step S2 i2
        · simp only [List.getD_cons_succ, List.getD_cons_zero]
          by_cases z4 : xs (k + 4) = 0
          · skip
            by_cases z5 : xs (k + 5) = 0
            · skip
              obtain ⟨v, S1, S2, e1, e2, i2⟩ := both_reach h (xs (k + 1)) (xs (k + 2)) (xs (k + 3)) 0 0
              have g1 : gk S1 313 = 12 := by
                have e3 := e2
                unfold f_X12_reach at e3
                exact gk_pI e3
              rw [r1, r2, r3, r4, if_pos z4]
              unfold f_L_law_963
              rw [r5, if_pos z5]
              unfold f_L_law_976
              rw [kk_0 hW, e1, b2_s, r1, r2, r3, r4, if_pos z4]
              unfold f_L_law_1008
              rw [r5, if_pos z5]
              unfold f_L_law_1021
              rw [c2_s g1, e2, b2_s, if_pos (lgc v)]
              exact step S2 i2
            · skip
              obtain ⟨v, S1, S2, e1, e2, i2⟩ := both_reach h (xs (k + 1)) (xs (k + 2)) (xs (k + 3)) 0 1
              have g1 : gk S1 313 = 12 := by
                have e3 := e2
                unfold f_X12_reach at e3
                exact gk_pI e3
              rw [r1, r2, r3, r4, if_pos z4]
              unfold f_L_law_963
              rw [r5, if_neg z5]
              unfold f_L_law_976
              rw [kk_0 hW, e1, b2_s, r1, r2, r3, r4, if_pos z4]
              unfold f_L_law_1008
              rw [r5, if_neg z5]
              unfold f_L_law_1021
              rw [c2_s g1, e2, b2_s, if_pos (lgc v)]
              exact step S2 i2
          · skip
            by_cases z5 : xs (k + 5) = 0
            · skip
              obtain ⟨v, S1, S2, e1, e2, i2⟩ := both_reach h (xs (k + 1)) (xs (k + 2)) (xs (k + 3)) 1 0
              have g1 : gk S1 313 = 12 := by
                have e3 := e2
                unfold f_X12_reach at e3
                exact gk_pI e3
              rw [r1, r2, r3, r4, if_neg z4]
              unfold f_L_law_963
              rw [r5, if_pos z5]
              unfold f_L_law_976
              rw [kk_0 hW, e1, b2_s, r1, r2, r3, r4, if_neg z4]
              unfold f_L_law_1008
              rw [r5, if_pos z5]
              unfold f_L_law_1021
              rw [c2_s g1, e2, b2_s, if_pos (lgc v)]
              exact step S2 i2
            · skip
              obtain ⟨v, S1, S2, e1, e2, i2⟩ := both_reach h (xs (k + 1)) (xs (k + 2)) (xs (k + 3)) 1 1
              have g1 : gk S1 313 = 12 := by
                have e3 := e2
                unfold f_X12_reach at e3
                exact gk_pI e3
              rw [r1, r2, r3, r4, if_neg z4]
              unfold f_L_law_963
              rw [r5, if_neg z5]
              unfold f_L_law_976
              rw [kk_0 hW, e1, b2_s, r1, r2, r3, r4, if_neg z4]
              unfold f_L_law_1008
              rw [r5, if_neg z5]
              unfold f_L_law_1021
              rw [c2_s g1, e2, b2_s, if_pos (lgc v)]
              exact step S2 i2
        · simp only [List.getD_cons_succ, List.getD_cons_zero]
          by_cases z4 : xs (k + 4) = 0
          · skip
            obtain ⟨v, S1, S2, e1, e2, i2⟩ := both_drop h (xs (k + 1)) (xs (k + 2)) (xs (k + 3)) 0
            have g1 : gk S1 313 = 12 := by
              have e3 := e2
              unfold f_X12_drop at e3
              exact gk_pI e3
            rw [r1, r2, r3, r4, if_pos z4]
            unfold f_L_law_1059
            rw [kk_0 hW, e1, b2_s, r1, r2, r3, r4, if_pos z4]
            unfold f_L_law_1091
            rw [c2_s g1, e2, b2_s, if_pos (lgc v)]
            exact step S2 i2
          · skip
            obtain ⟨v, S1, S2, e1, e2, i2⟩ := both_drop h (xs (k + 1)) (xs (k + 2)) (xs (k + 3)) 1
            have g1 : gk S1 313 = 12 := by
              have e3 := e2
              unfold f_X12_drop at e3
              exact gk_pI e3
            rw [r1, r2, r3, r4, if_neg z4]
            unfold f_L_law_1059
            rw [kk_0 hW, e1, b2_s, r1, r2, r3, r4, if_neg z4]
            unfold f_L_law_1091
            rw [c2_s g1, e2, b2_s, if_pos (lgc v)]
            exact step S2 i2
        · simp only [List.getD_cons_succ, List.getD_cons_zero]
          obtain ⟨v, S1, S2, e1, e2, i2⟩ := both_worth h (xs (k + 1)) (xs (k + 2)) (xs (k + 3)) (xs (k + 4))
          have g1 : gk S1 313 = 12 := by
            have e3 := e2
            unfold f_X12_worth at e3
            exact gk_pI e3
          rw [r1, r2, r3, r4, kk_0 hW, e1, b2_s, r1, r2, r3, r4, c2_s g1, e2, b2_s, if_pos rfl]
          exact step S2 i2
        · simp only [List.getD_cons_succ, List.getD_cons_zero]
          obtain ⟨v, S2, e1, e2, i2⟩ := both_sight h (xs (k + 1)) (xs (k + 2))
          rw [r1, r2, k_0 hW, e1, b1_s, r1, r2, kk_313 hW, e2, b2_s, if_pos rfl]
          exact step S2 i2
        · simp only [List.getD_cons_succ, List.getD_cons_zero]
          obtain ⟨v, S1, S2, e1, e2, i2⟩ := both_ways h (xs (k + 1)) (xs (k + 2))
          have g1 : gk S1 313 = 12 := by
            have e3 := e2
            unfold f_X12_ways at e3
            exact gk_pI e3
          rw [r1, r2, kk_0 hW, e1, b2_s, r1, r2, c2_s g1, e2, b2_s, if_pos (lgc v)]
          exact step S2 i2
        · simp only [List.getD_cons_succ, List.getD_cons_zero]
          obtain ⟨v, S1, S2, e1, e2, i2⟩ := both_may h (xs (k + 1)) (xs (k + 2)) (xs (k + 3)) (xs (k + 4))
          have g1 : gk S1 313 = 12 := by
            have e3 := e2
            unfold f_X12_may at e3
            exact gk_pI e3
          rw [r1, r2, r3, r4, kk_0 hW, e1, b2_s, r1, r2, r3, r4, c2_s g1, e2, b2_s, if_pos rfl]
          exact step S2 i2
        · simp only [List.getD_cons_succ, List.getD_cons_zero]
          obtain ⟨v, S2, e1, e2, i2⟩ := both_spy h (xs (k + 1)) (xs (k + 2)) (xs (k + 3))
          rw [r1, r2, r3, k_0 hW, e1, b1_s, r1, r2, r3, kk_313 hW, e2, b2_s, if_pos rfl]
          exact step S2 i2
        · simp only [List.getD_cons_succ, List.getD_cons_zero]
          obtain ⟨v, S2, e1, e2, i2⟩ := both_pawn h (xs (k + 1)) (xs (k + 2)) (xs (k + 3))
          rw [r1, r2, r3, k_0 hW, e1, b1_s, r1, r2, r3, kk_313 hW, e2, b2_s, if_pos rfl]
          exact step S2 i2
        · simp only [List.getD_cons_succ, List.getD_cons_zero]
          obtain ⟨v, S2, e1, e2, i2⟩ := both_net h (xs (k + 1)) (xs (k + 2))
          rw [r1, r2, k_0 hW, e1, b1_s, r1, r2, kk_313 hW, e2, b2_s, if_pos rfl]
          exact step S2 i2
        · simp only [List.getD_cons_succ, List.getD_cons_zero]
          by_cases z2 : xs (k + 2) = 0
          · skip
            obtain ⟨v, S1, S2, e1, e2, i2⟩ := both_pays h (xs (k + 1)) 0
            have g1 : gk S1 313 = 12 := by
              have e3 := e2
              unfold f_X12_pays at e3
              exact gk_pI e3
            rw [r1, r2, if_pos z2]
            unfold f_L_law_1411
            rw [kk_0 hW, e1, b2_s, r1, r2, if_pos z2]
            unfold f_L_law_1433
            rw [c2_s g1, e2, b2_s, if_pos rfl]
            exact step S2 i2
          · skip
            obtain ⟨v, S1, S2, e1, e2, i2⟩ := both_pays h (xs (k + 1)) 1
            have g1 : gk S1 313 = 12 := by
              have e3 := e2
              unfold f_X12_pays at e3
              exact gk_pI e3
            rw [r1, r2, if_neg z2]
            unfold f_L_law_1411
            rw [kk_0 hW, e1, b2_s, r1, r2, if_neg z2]
            unfold f_L_law_1433
            rw [c2_s g1, e2, b2_s, if_pos rfl]
            exact step S2 i2
        · simp only [List.getD_cons_succ, List.getD_cons_zero]
          obtain ⟨v, S2, e1, e2, i2⟩ := both_maid h (xs (k + 1)) (xs (k + 2)) (xs (k + 3))
          rw [r1, r2, r3, k_0 hW, e1, b1_s, r1, r2, r3, kk_313 hW, e2, b2_s, if_pos rfl]
          exact step S2 i2
        · simp only [List.getD_cons_succ, List.getD_cons_zero]
          by_cases z5 : xs (k + 5) = 0
          · skip
            obtain ⟨v, S1, S2, e1, e2, i2⟩ := both_cover h (xs (k + 1)) (xs (k + 2)) (xs (k + 3)) (xs (k + 4)) 0
            have g1 : gk S1 313 = 12 := by
              have e3 := e2
              unfold f_X12_cover at e3
              exact gk_pI e3
            rw [r1, r2, r3, r4, r5, if_pos z5]
            unfold f_L_law_1518
            rw [kk_0 hW, e1, b2_s, r1, r2, r3, r4, r5, if_pos z5]
            unfold f_L_law_1555
            rw [c2_s g1, e2, b2_s, if_pos rfl]
            exact step S2 i2
          · skip
            obtain ⟨v, S1, S2, e1, e2, i2⟩ := both_cover h (xs (k + 1)) (xs (k + 2)) (xs (k + 3)) (xs (k + 4)) 1
            have g1 : gk S1 313 = 12 := by
              have e3 := e2
              unfold f_X12_cover at e3
              exact gk_pI e3
            rw [r1, r2, r3, r4, r5, if_neg z5]
            unfold f_L_law_1518
            rw [kk_0 hW, e1, b2_s, r1, r2, r3, r4, r5, if_neg z5]
            unfold f_L_law_1555
            rw [c2_s g1, e2, b2_s, if_pos rfl]
            exact step S2 i2
        · simp only [List.getD_cons_succ, List.getD_cons_zero]
          obtain ⟨v, S1, S2, e1, e2, i2⟩ := both_longest h (xs (k + 1)) (xs (k + 2))
          have g1 : gk S1 313 = 12 := by
            have e3 := e2
            unfold f_X12_longest at e3
            exact gk_pI e3
          rw [r1, r2, kk_0 hW, e1, b2_s, r1, r2, c2_s g1, e2, b2_s, if_pos rfl]
          exact step S2 i2
        · simp only [List.getD_cons_succ, List.getD_cons_zero]
          obtain ⟨v, S1, S2, e1, e2, i2⟩ := both_drawn h (xs (k + 1)) (xs (k + 2)) (xs (k + 3)) (xs (k + 4))
          have g1 : gk S1 313 = 12 := by
            have e3 := e2
            unfold f_X12_drawn at e3
            exact gk_pI e3
          rw [r1, r2, r3, r4, kk_0 hW, e1, b2_s, r1, r2, r3, r4, c2_s g1, e2, b2_s, if_pos rfl]
          exact step S2 i2
        · simp only [List.getD_cons_succ, List.getD_cons_zero]
          obtain ⟨v, S2, e1, e2, i2⟩ := both_climb h (xs (k + 1)) (xs (k + 2)) (xs (k + 3)) (xs (k + 4))
          rw [r1, r2, r3, r4, k_0 hW, e1, b1_s, r1, r2, r3, r4, kk_313 hW, e2, b2_s, if_pos rfl]
          exact step S2 i2
        · simp only [List.getD_cons_succ, List.getD_cons_zero]
          obtain ⟨v, S2, e1, e2, i2⟩ := both_calm h (xs (k + 1)) (xs (k + 2)) (xs (k + 3))
          rw [r1, r2, r3, k_0 hW, e1, b1_s, r1, r2, r3, kk_313 hW, e2, b2_s, if_pos rfl]
          exact step S2 i2
        · simp only [List.getD_cons_succ, List.getD_cons_zero]
          obtain ⟨v, S2, e1, e2, i2⟩ := both_count h (xs (k + 1))
          rw [r1, k_0 hW, e1, b1_s, r1, kk_313 hW, e2, b2_s, if_pos rfl]
          exact step S2 i2
        · simp only [List.getD_cons_succ, List.getD_cons_zero]
          obtain ⟨v, S1, S2, e1, e2, i2⟩ := both_image h (xs (k + 1))
          have g1 : gk S1 313 = 12 := by
            have e3 := e2
            unfold f_X12_image at e3
            exact gk_pI e3
          rw [r1, kk_0 hW, e1, b2_s, r1, c2_s g1, e2, b2_s, if_pos rfl]
          exact step S2 i2
        · simp only [List.getD_cons_succ, List.getD_cons_zero]
          obtain ⟨v, S1, S2, e1, e2, i2⟩ := both_again h (xs (k + 1))
          have g1 : gk S1 313 = 12 := by
            have e3 := e2
            unfold f_X12_again at e3
            exact gk_pI e3
          rw [r1, kk_0 hW, e1, b2_s, r1, c2_s g1, e2, b2_s, if_pos rfl]
          exact step S2 i2
      · rw [tsw_out (n := 35) hx rfl (by decide)]
        exact step S h
end LW
