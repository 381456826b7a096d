/-! state, of: both answer alike, as a whole -/
section BQ
variable {S S' T : GS} {kc kb n : Nat}
theorem both_state (h : Inv S) (x1 x2 x3 x4 : Int32) : Both2 (f_X11_state 0 x1 x2 x3 x4) (f_X12_state 313 x1 x2 x3 x4) S := by
  have hW := h.1
  rcases layNo h x1 x2 x3 with ⟨kc, kb, n, rfl, rfl, rfl, hkc, hkb, hn⟩ | ⟨⟨o, b, g1, g2, g3⟩, S2, k1, k2⟩
  · obtain ⟨S1, g1, g2, g3, g4, g5, g6, g7⟩ := clsPlay h hkc hkb hn
    have hs1 := g2.sm
    have hW1 := hs1.wr hW
    obtain ⟨S2, k1, k2, k3, k4⟩ := modLay h hkc hkb hs1 hn
    have hcf := h.cf hkc.1
    have hcl : f_X11_state 0 (nI kc) (nI kb) (nI n) x4 S = if bi (decide ((plS S kc kb n).1 = n)) = 0 then some (-100, S1) else b1 (f_X2_tell 230 x4 S1) fun v11 => some (v11, S1) := by
      unfold f_X11_state
      rw [r_0_4 hW, r_0_0 hW, k_1 hW, courtAt_y hW hkc, b1_s, r_0_0 hW, k_1 hW, rowsAt_b hW hkb, b1_s, kk_230 hW, g1, b2_s, r_0_4 hW1, k_230 hW1]
    have hmo : f_X12_state 313 (nI kc) (nI kb) (nI n) x4 S1 = if bi (decide ((plS S kc kb n).1 = n)) = 0 then some (-100, S2) else tellF x4 S2 := by
      unfold f_X12_state
      rw [p_313 hW1, kk_313 (S := s0 S1) hW1, show f_X12_layState 313 (nI kc) (nI kb) (nI n) (sI S1 313 0 0) = _ from k1, b2_s]
      rfl
    cases q : decide ((plS S kc kb n).1 = n)
    · exact ⟨-100, S1, S2, by rw [hcl, q]; rfl, by rw [hmo, q]; rfl, h.sm (hs1.tr k2)⟩
    · have hcf1 := g2.cf (by have := hkc.1; omega) hcf
      have e19 : S2.1 319 = S.1 319 := (hs1.tr k2).2.2 319 (by decide)
      have n5 : nr S1 (10 + 21 * kc + 5) = nr S (10 + 21 * kc + 5) := by
        unfold nr
        rw [g2.2.2.2 _ (by have := hkc.1; omega)]
      have elee : S1.1 (10 + 21 * kc) 4 = S.1 319 (69 * kc + 3) := by
        obtain ⟨f0, f1, f2, f3, f4, f5, f6, f7, f8, f9, y1, y2⟩ := hcf
        rw [g2.2.2.2 _ (by have := hkc.1; omega)]
        exact y1
      by_cases z : x4 < 0
      · exact ⟨-100, S1, S2, by rw [hcl, q, if_neg (show ¬ bi true = 0 by decide), tellHN g3 z, b1_s], by rw [hmo, q, if_neg (show ¬ bi true = 0 by decide), tellMN k3 z], h.sm (hs1.tr k2)⟩
      · obtain ⟨k, hk, rfl⟩ := nI_of z
        refine ⟨_, S1, S2, by rw [hcl, q, if_neg (show ¬ bi true = 0 by decide), tellH g3 hcf1 g6 g4 hk, b1_s], ?_, h.sm (hs1.tr k2)⟩
        rw [hmo, q, if_neg (show ¬ bi true = 0 by decide), tellM k3 k4 (ns := nr S (10 + 21 * kc + 5)) hcf.n6 (by rw [e19]; exact hcf.2.2.2.1) hk, n5, elee, e19, g2.pc]
        unfold propC
        rw [e19]
  · have zs := k2
    refine ⟨-100, S, S2, ?_, ?_, h.sm k2⟩
    · unfold f_X11_state
      rw [r_0_4 hW, r_0_0 hW, k_1 hW, g1, b1_s, r_0_0 hW, k_1 hW, g2, b1_s, kk_230 hW, g3, b2_s, if_pos rfl]
    · unfold f_X12_state
      rw [p_313 hW, kk_313 (S := s0 S) hW, show f_X12_layState 313 x1 x2 x3 (sI S 313 0 0) = _ from k1, b2_s, if_pos rfl]
theorem both_of (h : Inv S) (x1 x2 x3 x4 x5 : Int32) : Both2 (f_X11_of 0 x1 x2 x3 x4 x5) (f_X12_of 313 x1 x2 x3 x4 x5) S := by
  have hW := h.1
  rcases layNo h x1 x2 x3 with ⟨kc, kb, n, rfl, rfl, rfl, hkc, hkb, hn⟩ | ⟨⟨o, b, g1, g2, g3⟩, S2, k1, k2⟩
  · obtain ⟨S1, g1, g2, g3, g4, g5, g6, g7⟩ := clsPlay h hkc hkb hn
    have hs1 := g2.sm
    have hW1 := hs1.wr hW
    obtain ⟨S2, k1, k2, k3, k4⟩ := modLay h hkc hkb hs1 hn
    have hcf := h.cf hkc.1
    have hW2 := k3.1.1
    have n8 : nlS S kc ≤ 8 := hcf.n8
    have hcl : f_X11_of 0 (nI kc) (nI kb) (nI n) x4 x5 S = if bi (decide ((plS S kc kb n).1 = n)) = 0 then some (-2, S1) else b1 (f_X2_tellOf 230 x4 x5 S1) fun v11 => some (v11, S1) := by
      unfold f_X11_of
      rw [r_0_4 hW, r_0_0 hW, k_1 hW, courtAt_y hW hkc, b1_s, r_0_0 hW, k_1 hW, rowsAt_b hW hkb, b1_s, kk_230 hW, g1, b2_s, r_0_4 hW1, k_230 hW1]
    cases q : decide ((plS S kc kb n).1 = n)
    · refine ⟨-2, S1, S2, by rw [hcl, q]; rfl, ?_, h.sm (hs1.tr k2)⟩
      unfold f_X12_of
      rw [p_313 hW1, kk_313 (S := s0 S1) hW1, show f_X12_layState 313 (nI kc) (nI kb) (nI n) (sI S1 313 0 0) = _ from k1, b2_s, q, if_pos (show bi false = 0 from rfl)]
    · refine ⟨_, S1, S2, by rw [hcl, q, if_neg (show ¬ bi true = 0 by decide), tellOfH g3 g4, b1_s], ?_, h.sm (hs1.tr k2)⟩
      unfold f_X12_of
      rw [p_313 hW1, kk_313 (S := s0 S1) hW1, show f_X12_layState 313 (nI kc) (nI kb) (nI n) (sI S1 313 0 0) = _ from k1, b2_s, q, if_neg (show ¬ bi true = 0 by decide), k_313 hW2, k3.lady, b1_s]
      cases r : inQ x4 (nlS S kc)
      · rw [if_pos (show bi false = 0 from rfl), if_neg (fun z => Bool.false_ne_true z.1)]
      · obtain ⟨l, rfl, hl, el, -⟩ := inQ_t r
        obtain ⟨a1, a2, a3, a4, a5⟩ := k4.2.2.2.2 l hl
        rw [if_neg (show ¬ bi true = 0 by decide), el]
        rcases numQ x5 5 with ⟨i, rfl, hi⟩ | hy
        · rw [tsw_in (by exact hi) (by exact (by decide : 5 < 1000)), inQ_y hi (by decide), if_pos ⟨rfl, rfl⟩, nI_clamp (by omega)]
          rcases (show i = 0 ∨ i = 1 ∨ i = 2 ∨ i = 3 ∨ i = 4 by omega) with rfl | rfl | rfl | rfl | rfl
          · simp only [List.getD_cons_succ, List.getD_cons_zero]
            show _ = some (nI ((plS S kc kb n).2.2.2 l).1, S2)
            rw [r_313_40 hW2, y_328 hW2 (by omega), a1]
          · simp only [List.getD_cons_succ, List.getD_cons_zero]
            show _ = some (((plS S kc kb n).2.2.2 l).2.1, S2)
            rw [r_313_41 hW2, y_329 hW2 (by omega), a2]
          · simp only [List.getD_cons_succ, List.getD_cons_zero]
            show _ = some (nI ((plS S kc kb n).2.2.2 l).2.2.1, S2)
            rw [i_313 hW2, k4.2.1.2.1.has hl n8, b1_s]
            show (if bi (dnL ((plS S kc kb n).2.2.2 l)) = 0 then _ else _) = _
            unfold dnL
            by_cases z : ((plS S kc kb n).2.2.2 l).2.2.1 = 0
            · rw [decide_eq_false (fun w => w z), if_pos (show bi false = 0 from rfl), z]
              rfl
            · rw [decide_eq_true z, if_neg (show ¬ bi true = 0 by decide), r_313_42 hW2, y_330 hW2 (by omega), a3 z]
          · simp only [List.getD_cons_succ, List.getD_cons_zero]
            show _ = some (((plS S kc kb n).2.2.2 l).2.2.2.2.1, S2)
            rw [r_313_43 hW2, y_331 hW2 (by omega), a4]
          · simp only [List.getD_cons_succ, List.getD_cons_zero]
            show _ = some (((plS S kc kb n).2.2.2 l).2.2.2.2.2, S2)
            rw [r_313_44 hW2, y_332 hW2 (by omega), a5]
        · rw [tsw_out (n := 5) hy rfl (by decide), if_neg]
          rintro ⟨-, w⟩
          obtain ⟨w1, w2⟩ := of_decide_eq_true w
          rcases hy with z | ⟨i, hi, rfl, hq⟩
          · exact w1 z
          · rw [nI_clamp hi] at w2
            omega
  · refine ⟨-2, S, S2, ?_, ?_, h.sm k2⟩
    · unfold f_X11_of
      rw [r_0_4 hW, r_0_0 hW, k_1 hW, g1, b1_s, r_0_0 hW, k_1 hW, g2, b1_s, kk_230 hW, g3, b2_s, if_pos rfl]
    · unfold f_X12_of
      rw [p_313 hW, kk_313 (S := s0 S) hW, show f_X12_layState 313 x1 x2 x3 (sI S 313 0 0) = _ from k1, b2_s, if_pos rfl]
end BQ
