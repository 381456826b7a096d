/-! feed and end answer alike, and keep the relation -/
section FG
variable {S S' : GS} {o b k l : Nat} {c : Int32}
theorem RwK.sm2 {t j : Nat} (h : RwK S t j k) (hk : k < 2) (h1 : ∀ i, 9 ≤ i → i < 51 → S'.1 (t + i) = S.1 (t + i)) (h3 : ∀ a, 318 ≤ a → a < 325 → S'.1 a = S.1 a) : RwK S' t j k := by
  obtain ⟨c1, c2, c3, c4, c5, c6, c7, c8⟩ := h
  have f (i : Nat) (h9 : 9 ≤ i) (hi : i < 51) : S'.1 (t + i) = S.1 (t + i) := h1 i h9 hi
  have g (x i : Nat) (h9 : 9 ≤ x) (hx : x + i < 51) : S'.1 (t + x + i) = S.1 (t + x + i) := by
    rw [Nat.add_assoc]
    exact h1 _ (by omega) hx
  refine ⟨c1.sm (fun i hi => g _ i (by omega) (by omega)) (h3 319 (by omega) (by omega)), ?_, c3.sm (f _ (by omega) (by omega)) (g _ 1 (by omega) (by omega)) (h3 322 (by omega) (by omega)), c4.sm (f _ (by omega) (by omega)) (g _ 1 (by omega) (by omega)) (h3 322 (by omega) (by omega)), c5.sm (f _ (by omega) (by omega)) (g _ 1 (by omega) (by omega)) (h3 320 (by omega) (by omega)), c6.sm (f _ (by omega) (by omega)) (g _ 1 (by omega) (by omega)) (h3 321 (by omega) (by omega)), c7.sm (f _ (by omega) (by omega)) (g _ 1 (by omega) (by omega)) (h3 323 (by omega) (by omega)), c8.sm (f _ (by omega) (by omega)) (g _ 1 (by omega) (by omega)) (h3 324 (by omega) (by omega))⟩
  unfold vCourt
  rw [h3 318 (by omega) (by omega), h3 319 (by omega) (by omega)]
  exact c2
/-- the tape in use, its length, the fault and its place are written anew, alike on both sides -/
theorem Inv.tape (h : Inv S) (hW : Wr S') (hP : ∀ o, Pm o = true → o ≠ 1 → o ≠ 2 → o ≠ 314 → o ≠ 315 → o ≠ 316 → o ≠ 317 → S'.1 o = S.1 o) (h0 : ∀ i, i < 600 → S'.1 2 i = S'.1 314 i) (hJ : ∀ i, 600 ≤ i → S'.1 314 i = S.1 314 i) (hl : ∃ n, n ≤ 600 ∧ S'.1 1 8 = nI n ∧ S'.1 315 0 = nI n) (hlJ : ∀ i, i ≠ 0 → S'.1 315 i = S.1 315 i) (hf : S'.1 1 9 = S'.1 316 0) (hfJ : ∀ i, i ≠ 0 → S'.1 316 i = S.1 316 i) (hp : S'.1 1 10 = S'.1 317 0) (hpJ : ∀ i, i ≠ 0 → S'.1 317 i = S.1 317 i) (h8 : ∀ i, By (S'.1 314 i)) : Inv S' := by
  obtain ⟨c1, c2, c3, c4⟩ := h
  have ha : ∀ a, 318 ≤ a → a < 325 → S'.1 a = S.1 a := fun a h1 h2 => hP a (pm_ar (by omega) h2) (by omega) (by omega) (by omega) (by omega) (by omega) (by omega)
  have hb : ∀ a, 3 ≤ a → a < 230 → S'.1 a = S.1 a := fun a h1 h2 => hP a (pm_lo h2) (by omega) (by omega) (by omega) (by omega) (by omega) (by omega)
  refine ⟨hW, fun j hj => ?_, ?_, ?_⟩
  · obtain ⟨d1, d2, d3, d4, d5, d6, d7⟩ := c2 j hj
    by_cases q : j = 0
    · subst q
      refine ⟨fun i hi => ?_, ?_, hf, Or.inr hp, ?_, d6.sm2 (by omega) (fun i h1 h2 => ?_) ha, d7.sm2 (by omega) (fun i h1 h2 => ?_) ha⟩
      · rw [Nat.mul_zero, Nat.zero_add]
        exact h0 i hi
      · exact hl
      · rw [ha 318 (by omega) (by omega)]
        show ∀ s, s < 6 → ∃ n, n ≤ 2 ∧ S'.1 3 s = nI n ∧ _
        rw [hb 3 (by omega) (by omega)]
        exact d5
      · exact hb _ (by show 3 ≤ 1 + i; omega) (by show 1 + i < 230; omega)
      · exact hb _ (by show 3 ≤ 1 + i; omega) (by show 1 + i < 230; omega)
    · have ht := tO_le hj
      have ht2 : 53 ≤ tO j := by
        unfold tO
        rw [if_neg q]
        omega
      refine ⟨fun i hi => ?_, ?_, ?_, ?_, ?_, d6.sm2 (by omega) (fun i h1 h2 => hb _ (by omega) (by omega)) ha, d7.sm2 (by omega) (fun i h1 h2 => hb _ (by omega) (by omega)) ha⟩
      · rw [hb _ (by omega) (by omega), hJ _ (by omega)]
        exact d1 i hi
      · rw [hb _ (by omega) (by omega), hlJ j q]
        exact d2
      · rw [hb _ (by omega) (by omega), hfJ j q]
        exact d3
      · rw [hb 206 (by omega) (by omega), hb (tO j) (by omega) (by omega), hpJ j q]
        exact d4
      · rw [hb _ (by omega) (by omega), ha 318 (by omega) (by omega)]
        exact d5
  · refine ⟨?_, ?_, h8⟩
    · rw [hb 206 (by omega) (by omega), hP 342 (by decide) (by decide) (by decide) (by decide) (by decide) (by decide) (by decide)]
      exact c3.1
    · rw [hP 309 (by decide) (by decide) (by decide) (by decide) (by decide) (by decide) (by decide)]
      exact c3.2.1
  · obtain ⟨e1, e2, e3, e4, e5, e6, e7, e8, e9⟩ := c4
    exact ⟨e1.sm (hb _ (by omega) (by omega)), e2.sm (hb _ (by omega) (by omega)), e3.sm (hb _ (by omega) (by omega)), e4.sm (hb _ (by omega) (by omega)), e5.sm (hb _ (by omega) (by omega)), e6.sm (hb _ (by omega) (by omega)), e7.sm (hb _ (by omega) (by omega)), e8.sm (hb _ (by omega) (by omega)), e9.sm (hb _ (by omega) (by omega))⟩
theorem Inv.len (h : Inv S) : ∃ n, n ≤ 600 ∧ S.1 1 8 = nI n ∧ S.1 315 0 = nI n := (h.2.1 0 (by omega)).2.1
theorem both_end (h : Inv S) (x : Int32) : Both2 (f_X11_end 0 x) (f_X12_end 313 x) S := by
  have hW := h.1
  obtain ⟨n, hn, l1, l2⟩ := h.len
  have hT := h.2.1 0 (by omega)
  unfold Both2 f_X11_end f_X12_end
  by_cases q : x < 0
  · refine ⟨-1, S, s0 S, by rw [if_pos q], ?_, h.sm (sm_I (by decide))⟩
    rw [p_313 hW, r_313_2 (S := s0 S) hW, show yI (some 315) 14 0 (s0 S) _ = _ from y_315 (S := s0 S) (k := 0) hW (by decide), m_inN q, b1_s, if_pos rfl]
  · obtain ⟨k, hk, rfl⟩ := nI_of q
    by_cases z : k ≤ n
    · refine ⟨nI k, sI S 1 8 (nI k), sI (sI (sI S 1 8 (nI k)) 313 0 0) 315 0 (nI k), ?_, ?_, ?_⟩
      · rw [if_neg q, r_0_0 hW, i_1 hW, l1, if_pos (nI_le z (by omega)), r_0_0 hW, p_1 hW]
      · have hW1 : Wr (sI S 1 8 (nI k)) := hW
        have hW2 : Wr (sI (sI S 1 8 (nI k)) 313 0 0) := hW
        rw [p_313 hW1, r_313_2 hW2, show yI (some 315) 14 0 (sI (sI S 1 8 (nI k)) 313 0 0) _ = _ from y_315 (S := sI (sI S 1 8 (nI k)) 313 0 0) (k := 0) hW2 (by decide), show (sI (sI S 1 8 (nI k)) 313 0 0).1 315 0 = nI n from l2, show f_X12_in (nI k) 0 (nI n) (sI (sI S 1 8 (nI k)) 313 0 0) = some 1 from in_y (a := 0) (by omega) z (by omega), b1_s, if_neg n10, r_313_2 hW2, show qI (some 315) 0 (nI k) (sI (sI S 1 8 (nI k)) 313 0 0) _ = _ from q_315 (S := sI (sI S 1 8 (nI k)) 313 0 0) (k := 0) hW2 (by decide)]
      · refine h.tape (S' := sI (sI (sI S 1 8 (nI k)) 313 0 0) 315 0 (nI k)) hW (fun o hP a1 a2 a3 a4 a5 a6 => ?_) (fun i hi => ?_) (fun i hi => rfl) ⟨k, by omega, rfl, rfl⟩ (fun i hi => ?_) hT.2.2.1 (fun i hi => rfl) (hT.2.2.2.1.resolve_left (fun z => z.1 rfl)) (fun i hi => rfl) h.2.2.1.2.2
        · rw [sI_o a4, sI_o (fun e => by rw [e] at hP; exact absurd hP (by decide)), sI_o a1]
        · have := hT.1 i hi
          rw [Nat.mul_zero, Nat.zero_add] at this
          exact this
        · rw [sI_at, if_neg hi]
          rfl
    · refine ⟨-1, S, s0 S, ?_, ?_, h.sm (sm_I (by decide))⟩
      · rw [if_neg q, r_0_0 hW, i_1 hW, l1, if_neg (nI_ge (by omega) hk)]
      · rw [p_313 hW, r_313_2 (S := s0 S) hW, show yI (some 315) 14 0 (s0 S) _ = _ from y_315 (S := s0 S) (k := 0) hW (by decide), show (s0 S).1 315 0 = nI n from l2, show f_X12_in (nI k) 0 (nI n) (s0 S) = some 0 from in_n (a := 0) (by omega) hk (by omega), b1_s, if_pos rfl]
theorem both_feed (h : Inv S) (a b c d e : Int32) : Both2 (f_X11_feed 0 a b c d e) (f_X12_feed 313 a b c d e) S := by
  have hW := h.1
  obtain ⟨n, hn, l1, l2⟩ := h.len
  have hT := h.2.1 0 (by omega)
  unfold Both2 f_X11_feed f_X12_feed
  by_cases z : n + 20 ≤ 600
  · obtain ⟨S1, g1, p1, p2, p3, p4, p5⟩ := addC (x := a) hW l1 (by omega)
    have hW1 : Wr S1 := by unfold Wr; rw [p1]; exact hW
    obtain ⟨S2, g2, q1, q2, q3, q4, q5⟩ := addC (x := b) hW1 p4 (by omega)
    have hW2 : Wr S2 := by unfold Wr; rw [q1]; exact hW1
    obtain ⟨S3, g3, r1, r2, r3, r4, r5⟩ := addC (x := c) hW2 q4 (by omega)
    have hW3 : Wr S3 := by unfold Wr; rw [r1]; exact hW2
    obtain ⟨S4, g4, s1, s2, s3, s4, s5⟩ := addC (x := d) hW3 r4 (by omega)
    have hW4 : Wr S4 := by unfold Wr; rw [s1]; exact hW3
    obtain ⟨S5, g5, t1, t2, t3, t4, t5⟩ := addC (x := e) hW4 s4 (by omega)
    have hW5 : Wr S5 := by unfold Wr; rw [t1]; exact hW4
    have hWm : Wr (s0 S5) := hW5
    have k315 : S5.1 315 = S.1 315 := by rw [t2 315 (by decide) (by decide), s2 315 (by decide) (by decide), r2 315 (by decide) (by decide), q2 315 (by decide) (by decide), p2 315 (by decide) (by decide)]
    have k314 : S5.1 314 = S.1 314 := by rw [t2 314 (by decide) (by decide), s2 314 (by decide) (by decide), r2 314 (by decide) (by decide), q2 314 (by decide) (by decide), p2 314 (by decide) (by decide)]
    have m0 : (s0 S5).1 315 0 = nI n := by
      show S5.1 315 0 = _
      rw [k315, l2]
    obtain ⟨M1, f1, u1, u2, u3, u4, u5⟩ := addM (x := a) hWm m0 (by omega)
    have hM1 : Wr M1 := by unfold Wr; rw [u1]; exact hWm
    obtain ⟨M2, f2, v1, v2, v3, v4, v5⟩ := addM (x := b) hM1 u4 (by omega)
    have hM2 : Wr M2 := by unfold Wr; rw [v1]; exact hM1
    obtain ⟨M3, f3, w1, w2, w3, w4, w5⟩ := addM (x := c) hM2 v4 (by omega)
    have hM3 : Wr M3 := by unfold Wr; rw [w1]; exact hM2
    obtain ⟨M4, f4, x1, x2, x3, x4, x5⟩ := addM (x := d) hM3 w4 (by omega)
    have hM4 : Wr M4 := by unfold Wr; rw [x1]; exact hM3
    obtain ⟨M5, f5, y1, y2, y3, y4, y5⟩ := addM (x := e) hM4 x4 (by omega)
    have hM5 : Wr M5 := by unfold Wr; rw [y1]; exact hM4
    refine ⟨nI (n + 4 + 4 + 4 + 4 + 4), S5, M5, ?_, ?_, ?_⟩
    · rw [r_0_0 hW, i_1 hW, l1, show nI n + 20 = nI (n + 20) from nI_add n 20, if_pos (show nI (n + 20) ≤ (600 : Int32) from nI_le (b := 600) z (by omega)), r_0_0 hW, k_1 hW, g1, b1_s, r_0_0 hW1, k_1 hW1, g2, b1_s, r_0_0 hW2, k_1 hW2, g3, b1_s, r_0_0 hW3, k_1 hW3, g4, b1_s, r_0_0 hW4, k_1 hW4, g5, b1_s, r_0_0 hW5, i_1 hW5, t4]
    · rw [p_313 hW5, r_313_2 hWm, show yI (some 315) 14 0 (s0 S5) _ = _ from y_315 (S := s0 S5) (k := 0) hWm (by decide), m0, show nI n + 20 = nI (n + 20) from nI_add n 20, if_pos (show nI (n + 20) ≤ (600 : Int32) from nI_le (b := 600) z (by omega)), k_313 hWm, f1, b1_s, k_313 hM1, f2, b1_s, k_313 hM2, f3, b1_s, k_313 hM3, f4, b1_s, k_313 hM4, f5, b1_s, r_313_2 hM5, show yI (some 315) 14 0 M5 _ = _ from y_315 (S := M5) (k := 0) hM5 (by decide), y4]
    · have kM : ∀ o, o ≠ 314 → o ≠ 315 → M5.1 o = (s0 S5).1 o := fun o h1 h2 => by rw [y2 o h1 h2, x2 o h1 h2, w2 o h1 h2, v2 o h1 h2, u2 o h1 h2]
      have kC : ∀ o, o ≠ 1 → o ≠ 2 → S5.1 o = S.1 o := fun o h1 h2 => by rw [t2 o h1 h2, s2 o h1 h2, r2 o h1 h2, q2 o h1 h2, p2 o h1 h2]
      have kC1 : ∀ i, i ≠ 8 → S5.1 1 i = S.1 1 i := fun i h1 => by rw [t3 i h1, s3 i h1, r3 i h1, q3 i h1, p3 i h1]
      have kM5 : ∀ i, i ≠ 0 → M5.1 315 i = S.1 315 i := fun i h1 => by
        rw [y3 i h1, x3 i h1, w3 i h1, v3 i h1, u3 i h1]
        show S5.1 315 i = _
        rw [k315]
      have t2' : S5.1 2 = tapeF e 4 (n + 4 + 4 + 4 + 4) (tapeF d 4 (n + 4 + 4 + 4) (tapeF c 4 (n + 4 + 4) (tapeF b 4 (n + 4) (tapeF a 4 n (S.1 2))))) := by rw [t5, s5, r5, q5, p5]
      have m2' : M5.1 314 = tapeF e 4 (n + 4 + 4 + 4 + 4) (tapeF d 4 (n + 4 + 4 + 4) (tapeF c 4 (n + 4 + 4) (tapeF b 4 (n + 4) (tapeF a 4 n (S.1 314))))) := by
        rw [y5, x5, w5, v5, u5]
        show tapeF e 4 _ (tapeF d 4 _ (tapeF c 4 _ (tapeF b 4 _ (tapeF a 4 n (S5.1 314))))) = _
        rw [k314]
      refine h.tape hM5 (fun o hP a1 a2 a3 a4 a5 a6 => ?_) (fun i hi => ?_) (fun i hi => ?_) ⟨_, by omega, ?_, y4⟩ kM5 ?_ (fun i hi => ?_) ?_ (fun i hi => ?_) (by rw [m2']; exact tapeF_b _ _ _ _ (tapeF_b _ _ _ _ (tapeF_b _ _ _ _ (tapeF_b _ _ _ _ (tapeF_b _ _ _ _ h.2.2.1.2.2)))))
      · rw [kM o a3 a4, sI_o (fun e => by rw [e] at hP; exact absurd hP (by decide)), kC o a1 a2]
      · rw [kM 2 (by decide) (by decide), m2']
        show S5.1 2 i = _
        rw [t2']
        refine tapeF_c _ _ _ _ _ (tapeF_c _ _ _ _ _ (tapeF_c _ _ _ _ _ (tapeF_c _ _ _ _ _ (tapeF_c _ _ _ _ _ fun i hi => ?_)))) i hi
        have := hT.1 i hi
        rw [Nat.mul_zero, Nat.zero_add] at this
        exact this
      · rw [m2', tapeF_hi _ _ _ _ _ (by omega), tapeF_hi _ _ _ _ _ (by omega), tapeF_hi _ _ _ _ _ (by omega), tapeF_hi _ _ _ _ _ (by omega), tapeF_hi _ _ _ _ _ (by omega)]
      · rw [kM 1 (by decide) (by decide)]
        exact t4
      · rw [kM 1 (by decide) (by decide), kM 316 (by decide) (by decide)]
        show S5.1 1 9 = S5.1 316 0
        rw [kC1 9 (by decide), kC 316 (by decide) (by decide)]
        exact hT.2.2.1
      · rw [kM 316 (by decide) (by decide)]
        show S5.1 316 i = _
        rw [kC 316 (by decide) (by decide)]
      · rw [kM 1 (by decide) (by decide), kM 317 (by decide) (by decide)]
        show S5.1 1 10 = S5.1 317 0
        rw [kC1 10 (by decide), kC 317 (by decide) (by decide)]
        exact hT.2.2.2.1.resolve_left (fun z => z.1 rfl)
      · rw [kM 317 (by decide) (by decide)]
        show S5.1 317 i = _
        rw [kC 317 (by decide) (by decide)]
  · refine ⟨-1, S, s0 S, ?_, ?_, h.sm (sm_I (by decide))⟩
    · rw [r_0_0 hW, i_1 hW, l1, show nI n + 20 = nI (n + 20) from nI_add n 20, if_neg (show ¬ nI (n + 20) ≤ (600 : Int32) from nI_ge (a := 600) (by omega) (by omega))]
    · rw [p_313 hW, r_313_2 (S := s0 S) hW, show yI (some 315) 14 0 (s0 S) _ = _ from y_315 (S := s0 S) (k := 0) hW (by decide), show (s0 S).1 315 0 = nI n from l2, show nI n + 20 = nI (n + 20) from nI_add n 20, if_neg (show ¬ nI (n + 20) ≤ (600 : Int32) from nI_ge (a := 600) (by omega) (by omega))]
end FG
