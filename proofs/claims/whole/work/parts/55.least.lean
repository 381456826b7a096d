/-! least: the answers -/
section LG
variable {S S' : GS} {o b k l co fo n kf nl : Nat}
abbrev leV (kv : Nat → Nat) (m nl : Nat) (x5 : Int32) : Int32 := match leS kv m (2 ^ nl) 0 none with
  | none => -1
  | some j => if x5 = 0 then nI (ksN kv j) else nI j
theorem both_least (h : Inv S) (x1 x2 x3 x4 x5 : Int32) : Both2 (f_X11_least 0 x1 x2 x3 x4 x5) (f_X12_least 313 x1 x2 x3 x4 x5) S := by
  have hW := h.1
  have hs0 : Sm S (s0 S) := sm_I (by decide)
  unfold Both2
  rcases tld h (s := 2) (by decide) x2 with ⟨kf, rfl, hkf⟩ | hnf
  · have hf := h.lf_f hkf.1
    have hsf : Sm S (sI (s0 S) 313 45 (nI kf)) := hs0.tr (sm_I (by decide))
    rcases tld h (s := 0) (by decide) x1 with ⟨k, rfl, hk⟩ | hn
    · have hcf := h.cf hk.1
      have hn8 := hcf.n8
      have hn16 : nr S (25 + 21 * kf) ≤ 16 := hf.1.2.2.2.2.2.2.2.1
      have h27 : ∀ T0 : GS, Mc T0 k → T0.1 319 = S.1 319 → T0.1 313 27 = nI (nr S (10 + 21 * k + 3)) := fun T0 hM e => by
        rw [hM.2.2.2.2, e]
        exact hcf.2.2.1
      rcases in_or (S := S) x3 0 (nI (nr S (10 + 21 * k + 3))) with e3 | e3
      · obtain ⟨T, t1, t2, t3, t4, t5, t6, t7, t8⟩ := handF h hk hkf h (Sm.rf S)
        refine ⟨-1, S, T, ?_, ?_, h.sm t4⟩
        · unfold f_X11_least
          rw [r_0_0 hW, k_1 hW, courtAt_y hW hk, b1_s, r_0_0 hW, k_1 hW, show f_X9_rowsAt 1 2 (nI kf) S = _ from rowsAt_f hW hkf, b1_s, nul_s, nul_s, xR_s hcf.1.1, hcf.1.2.2.1, xI_s hcf.rl.1, hcf.rl.2.2.2.2.2.2.1, in0_if _ e3]
        · unfold f_X12_least
          rw [p_313 hW, kk_313 (S := s0 S) hW, t1, b2_s, if_neg n10, kk_313 (S := sI (s0 S) 313 45 (nI kf)) hW, t2, b2_s, if_neg n10, i_313 t5.1, h27 T t5 t7, in_S (S' := S), e3, b1_s, if_pos rfl]
      · obtain ⟨m, rfl, -, hm⟩ := in1 (a := 0) (by decide) (by omega) e3
        have hex : ∀ l, ∃ v, (l < nr S (10 + 21 * k + 3) → ∃ bu fa he laN, Lw S (10 + 21 * k) l bu fa he (nI laN) ∧ Lm S k l bu fa he (nI laN) ∧ laN < 31 ∧ v = nR (fiN bu fa he (slS S k) x4 (mkS S kf) (prS S k kf)) (nr S (25 + 21 * kf)) 0 laN) ∧ (¬ l < nr S (10 + 21 * k + 3) → v = 0) := fun l => by
          by_cases hl : l < nr S (10 + 21 * k + 3)
          · obtain ⟨bu, fa, he, la, hLw, hLm⟩ := hcf.lady hl rfl
            obtain ⟨laN, rfl, hla⟩ := hcf.laceN hl rfl hLm
            exact ⟨_, fun _ => ⟨bu, fa, he, laN, hLw, hLm, hla, rfl⟩, fun z => absurd hl z⟩
          · exact ⟨0, fun z => absurd z hl, fun _ => rfl⟩
        obtain ⟨kv, hkv⟩ := Classical.skolem.mp hex
        have hK : Kv kv := fun l => by
          by_cases hl : l < nr S (10 + 21 * k + 3)
          · obtain ⟨bu, fa, he, laN, -, -, hla, e⟩ := (hkv l).1 hl
            rw [e]
            refine ⟨nd_le _ _ _ _, fun z => ?_⟩
            have := nd_b (ft := fiN bu fa he (slS S k) x4 (mkS S kf) (prS S k kf)) (n := nr S (25 + 21 * kf)) (nr S (25 + 21 * kf)) (Nat.le_refl _) laN hla (by rw [Nat.sub_self]; exact z)
            rw [Nat.sub_self] at this
            omega
          · rw [(hkv l).2 hl]
            exact ⟨by omega, fun _ => by omega⟩
        obtain ⟨S1, g1, g2, g3⟩ := le3 (S := S) (co := 10 + 21 * k) (fo := 25 + 21 * kf) (nl := nr S (10 + 21 * k + 3)) (x4 := x4) hW hK hn8 (fun S' hO => ⟨((h.sm (hO.sm (by decide) (by decide))).cf hk.1).1, by unfold nr; rw [hO.2 _ (by have := hk.1; omega)]⟩) (fun l hl S' hO => by
          obtain ⟨bu, fa, he, laN, hLw, hLm, hla, e⟩ := (hkv l).1 hl
          rw [e]
          obtain ⟨S'', q1, q2, q3, -⟩ := fewC (S := S') (x4 := x4) hn16 hla (hO.wr hW) (fun U hU => h.lcc hk.1 hkf.1 hLw U (hO.tr hU))
          exact ⟨S'', q1, q2, q3⟩) (m := m) (by omega) 8 0 fu S (OfA.rf _ _ _) (fun j hj => absurd hj (Nat.not_lt_zero _)) (by omega) (by unfold fu; omega)
        have hs1 := g2.sm (by decide) (by decide)
        have hI1 := h.sm hs1
        have hW1 := hI1.1
        obtain ⟨T, t1, t2, t3, t4, t5, t6, t7, t8⟩ := handF h hk hkf hI1 hs1
        obtain ⟨T', k1, k2⟩ := le38 (T0 := T) (nl := nr S (10 + 21 * k + 3)) (x4 := x4) hn8 hK (fun T' hO => ⟨hO.wr t5.1, by rw [hO.2 313 (by decide) (by decide)]; exact h27 T t5 t7⟩) (fun l hl T' hO => by
          obtain ⟨bu, fa, he, laN, hLw, hLm, hla, e⟩ := (hkv l).1 hl
          rw [e]
          have e313 := hO.2 313 (by decide) (by decide)
          have e319 : T'.1 319 = S.1 319 := (hO.2 319 (by decide) (by decide)).trans t7
          have e321 : T'.1 321 = S.1 321 := (hO.2 321 (by decide) (by decide)).trans t8
          obtain ⟨m1, m2, m3, m4, m5⟩ := t5
          have hM' : Mc T' k := ⟨hO.wr m1, m2, by rw [e313]; exact m3, by rw [e313, e319, ← t7]; exact m4, by rw [e313, e319, ← t7]; exact m5⟩
          obtain ⟨T'', q1, q2, -⟩ := knotsM (S := T') (x4 := x4) hn16 hla (lcmS h hk.1 hkf.1 hLm hM' (by rw [e313]; exact t6) e319 e321)
          exact ⟨T'', q1, q2⟩) (x5 := x5) (m := m) (by omega) (nr S (10 + 21 * k + 3)) 0 fu T (Of2.rf _ _ _) (fun j hj => absurd hj (Nat.not_lt_zero _)) (by omega) (by unfold fu; omega)
        have hok := le_ok (kv := kv) (m := m) (2 ^ nr S (10 + 21 * k + 3)) 0 none (fun j hj => nomatch hj)
        have hp : 2 ^ nr S (10 + 21 * k + 3) ≤ 2 ^ 8 := Nat.pow_le_pow_right (by decide) hn8
        refine ⟨leV kv m (nr S (10 + 21 * k + 3)) x5, S1, T', ?_, ?_, hI1.sm (t4.tr (k2.sm (by decide) (by decide)))⟩
        · unfold f_X11_least f_X11_least_76
          rw [r_0_0 hW, k_1 hW, courtAt_y hW hk, b1_s, r_0_0 hW, k_1 hW, show f_X9_rowsAt 1 2 (nI kf) S = _ from rowsAt_f hW hkf, b1_s, nul_s, nul_s, xR_s hcf.1.1, hcf.1.2.2.1, xI_s hcf.rl.1, hcf.rl.2.2.2.2.2.2.1, in1_if _ e3, r_0_5 hW, kk_247 hW]
          unfold f_X3_leastOf
          rw [show f_X3_leastOf_3 247 fu (some (10 + 21 * k)) (some (25 + 21 * kf)) (nI m) x4 0 S = _ from g1, b2_s, r_0_5 hW1, k_247 hW1]
          unfold leV
          generalize leS kv m (2 ^ nr S (10 + 21 * k + 3)) 0 none = r at hok
          cases r with
          | none =>
            rw [if_pos (show deepV none = -1 from rfl)]
            split <;> rfl
          | some j =>
            obtain ⟨j1, j2⟩ := hok j rfl
            rw [if_neg (show ¬ deepV (some j) = -1 from nI_neg1 j (by omega)), show f_X3_knotsOf 247 (deepV (some j)) S1 = _ from ksC hW1 g3 hK hn8 (a := j) (by omega), if_pos j2, b1_s]
            show (if x5 = 0 then some (nI (ksN kv j), S1) else some (nI j, S1)) = some (if x5 = 0 then nI (ksN kv j) else nI j, S1)
            split <;> rfl
        · unfold f_X12_least
          rw [p_313 hW1, kk_313 (S := s0 S1) hW1, t1, b2_s, if_neg n10, kk_313 (S := sI (s0 S1) 313 45 (nI kf)) hW1, t2, b2_s, if_neg n10, i_313 t5.1, h27 T t5 t7, in_S (S' := S), e3, b1_s, if_neg n10]
          exact k1
    · refine ⟨-1, S, sI (s0 S) 313 45 (nI kf), ?_, ?_, h.sm hsf⟩
      · unfold f_X11_least
        rw [r_0_0 hW, k_1 hW, courtAt_n hW hn, b1_s, r_0_0 hW, k_1 hW, show f_X9_rowsAt 1 2 (nI kf) S = _ from rowsAt_f hW hkf, b1_s, nul_n]
      · unfold f_X12_least
        rw [p_313 hW, kk_313 (S := s0 S) hW, hasFc_y (S := s0 S) hW (hkf.sm hs0), b2_s, if_neg n10, kk_313 (S := sI (s0 S) 313 45 (nI kf)) hW, hand_n (S := sI (s0 S) 313 45 (nI kf)) hW (hn.sm hsf), b2_s, if_pos rfl]
  · refine ⟨-1, S, sI (s0 S) 313 45 x2, ?_, ?_, h.sm (hs0.tr (sm_I (by decide)))⟩
    · unfold f_X11_least
      rcases tld h (s := 0) (by decide) x1 with ⟨k, rfl, hk⟩ | hn
      · rw [r_0_0 hW, k_1 hW, courtAt_y hW hk, b1_s, r_0_0 hW, k_1 hW, rowsAt_n hW (s := 2) (by decide) 2 rfl hnf, b1_s, nul_s, nul_n]
      · rw [r_0_0 hW, k_1 hW, courtAt_n hW hn, b1_s, r_0_0 hW, k_1 hW, rowsAt_n hW (s := 2) (by decide) 2 rfl hnf, b1_s, nul_n]
    · unfold f_X12_least
      rw [p_313 hW, kk_313 (S := s0 S) hW, hasFc_n (S := s0 S) hW (hnf.sm hs0), b2_s, if_pos rfl]
end LG
