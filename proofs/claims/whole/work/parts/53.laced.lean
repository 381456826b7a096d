/-! laced: both answer alike -/
section LE
variable {S S' : GS} {o b k l co fo n kf : Nat} {c : Int32} {bu fa he la : Int32} {x4 : Int32}
theorem OfA.lw {a b2 : Nat} (h : OfA a b2 S S') (ho : o + 7 < a) (hL : Lw S o l bu fa he la) : Lw S' o l bu fa he la := by
  unfold Lw nr
  rw [h.2 (o + 1) (by omega), h.2 (o + 2) (by omega), h.2 (o + 3) (by omega), h.2 (o + 4) (by omega)]
  exact hL
abbrev mkS (S : GS) (kf : Nat) : Nat → Int32 := fun i => S.1 321 (17 * kf + 1 + i)
abbrev prS (S : GS) (k kf : Nat) : Nat → Int32 := fun i => propC S (69 * k) (nr S (10 + 21 * k + 5)) (mkS S kf i)
abbrev slS (S : GS) (k : Nat) : Int32 := S.1 319 (69 * k + 3)
theorem Inv.lcc {laN : Nat} (h : Inv S) (hk : k < 2) (hkf : kf < 2) (hL : Lw S (10 + 21 * k) l bu fa he (nI laN)) : ∀ S', OfA 247 268 S S' → Lcc S' (10 + 21 * k) (25 + 21 * kf) l (nr S (25 + 21 * kf)) bu fa he (slS S k) laN (mkS S kf) (prS S k kf) := fun S' hO => by
  have hs := hO.sm (by decide) (by decide)
  have h' := h.sm hs
  have hcf' := h'.cf hk
  have hf' := h'.lf_f hkf
  have e319 := hs.2.2 319 (by decide)
  have e321 := hs.2.2 321 (by decide)
  have n1 : nr S' (25 + 21 * kf) = nr S (25 + 21 * kf) := by
    unfold nr
    rw [hO.2 _ (by omega)]
  have n2 : nr S' (10 + 21 * k + 5) = nr S (10 + 21 * k + 5) := by
    unfold nr
    rw [hO.2 _ (by omega)]
  refine ⟨hcf'.1, hO.lw (by omega) hL, hf'.1, n1, fun i hi => ⟨?_, ?_⟩, ?_⟩
  · have := hf'.2.2.1 i (by rw [n1]; exact hi) 0 (by decide)
    rw [this, e321]
    show S.1 321 (17 * kf + 1 + (1 * i + 0)) = S.1 321 (17 * kf + 1 + i)
    rw [Nat.one_mul]
    rfl
  · have := hcf'.properC (mkS S kf i)
    rw [n2] at this
    rw [this]
    unfold prS propC
    rw [e319]
  · have := hcf'.2.2.2.2.2.2.2.2.2.2.1
    rw [this, e319]
/-- the reference's hand: forecast and court -/
theorem handF (h : Inv S) (hk : TD S 0 k) (hkf : TD S 2 kf) {T : GS} (hT : Inv T) (hs : Sm S T) : ∃ T0, f_X12_hasForecast 313 (nI kf) (s0 T) = some (1, sI (s0 T) 313 45 (nI kf)) ∧ f_X12_hand 313 (nI k) (sI (s0 T) 313 45 (nI kf)) = some (1, T0) ∧ Sm S T0 ∧ Sm T T0 ∧ Mc T0 k ∧ T0.1 313 45 = nI kf ∧ T0.1 319 = S.1 319 ∧ T0.1 321 = S.1 321 := by
  have hW := hT.1
  have s1 : Sm T (sI (s0 T) 313 45 (nI kf)) := (sm_I (by decide)).tr (sm_I (by decide))
  have s2 : Sm T (hS (sI (s0 T) 313 45 (nI kf)) k) := s1.tr (hS_sm _ _)
  refine ⟨hS (sI (s0 T) 313 45 (nI kf)) k, hasFc_y (S := s0 T) hW ((hkf.sm hs).sm (sm_I (by decide))), hand_y (S := sI (s0 T) 313 45 (nI kf)) hW ((hk.sm hs).sm s1), hs.tr s2, s2, hS_Mc hW hk.1, rfl, (hs.tr s2).2.2 319 (by decide), (hs.tr s2).2.2 321 (by decide)⟩
theorem lcmS {laN : Nat} (h : Inv S) (hk : k < 2) (hkf : kf < 2) (hL : Lm S k l bu fa he (nI laN)) {T0 : GS} (hM : Mc T0 k) (h45 : T0.1 313 45 = nI kf) (e319 : T0.1 319 = S.1 319) (e321 : T0.1 321 = S.1 321) : ∀ S', Of 333 T0 S' → Lcm S' k kf l (nr S (25 + 21 * kf)) bu fa he (slS S k) laN (mkS S kf) (prS S k kf) := fun S' hO => by
  have hcf := h.cf hk
  have hf := h.lf_f hkf
  have f319 : S'.1 319 = S.1 319 := (hO.2 319 (by decide)).trans e319
  have f321 : S'.1 321 = S.1 321 := (hO.2 321 (by decide)).trans e321
  have f313 : S'.1 313 = T0.1 313 := hO.2 313 (by decide)
  obtain ⟨m1, m2, m3, m4, m5⟩ := hM
  have hM' : Mc S' k := ⟨hO.wr m1, m2, by rw [f313]; exact m3, by rw [f313, f319, ← e319]; exact m4, by rw [f313, f319, ← e319]; exact m5⟩
  refine ⟨hM', ?_, hkf, by rw [f313]; exact h45, by rw [f321]; exact hf.2.1, fun i hi => ⟨by rw [f321], ?_⟩, by rw [f319]⟩
  · unfold Lm
    rw [f319]
    exact hL
  · rw [hM'.properM hcf.n6 (by rw [f319]; exact hcf.2.2.2.1) (mkS S kf i)]
    unfold prS propC
    rw [f319]
/-- what may be asked: the knots, a minute's lace, another -/
theorem lcQ (x : Int32) (n : Nat) : x = 0 ∨ (∃ w, w < n ∧ x = nI (w + 10)) ∨ (¬ x = 0 ∧ (x < 0 ∨ ∃ w, w < 2 ^ 31 ∧ x = nI w ∧ (w < 10 ∨ n + 10 ≤ w))) := by
  by_cases q0 : x = 0
  · exact Or.inl q0
  · by_cases q : x < 0
    · exact Or.inr (Or.inr ⟨q0, Or.inl q⟩)
    · obtain ⟨w, hw, rfl⟩ := nI_of q
      by_cases z : 10 ≤ w ∧ w < n + 10
      · exact Or.inr (Or.inl ⟨w - 10, by omega, by rw [Nat.sub_add_cancel z.1]⟩)
      · exact Or.inr (Or.inr ⟨q0, Or.inr ⟨w, hw, rfl, by omega⟩⟩)
theorem both_laced (h : Inv S) (x1 x2 x3 x4 x5 : Int32) : Both2 (f_X11_laced 0 x1 x2 x3 x4 x5) (f_X12_laced 313 x1 x2 x3 x4 x5) S := by
  have hW := h.1
  have hs0 : Sm S (s0 S) := sm_I (by decide)
  unfold Both2
  rcases tld h (s := 2) (by decide) x2 with ⟨kf, rfl, hkf⟩ | hnf
  · have hf := h.lf_f hkf.1
    have hsf : Sm S (sI (s0 S) 313 45 (nI kf)) := hs0.tr (sm_I (by decide))
    rcases tld h (s := 0) (by decide) x1 with ⟨k, rfl, hk⟩ | hn
    · have hcf := h.cf hk.1
      have hn16 : nr S (25 + 21 * kf) ≤ 16 := hf.1.2.2.2.2.2.2.2.1
      rcases ladyQ hcf x3 with ⟨l, rfl, hl⟩ | hx
      · obtain ⟨bu, fa, he, la, hLw, hLm⟩ := hcf.lady hl rfl
        obtain ⟨laN, rfl, hla⟩ := hcf.laceN hl rfl hLm
        have hlcc := h.lcc hk.1 hkf.1 hLw
        obtain ⟨S1, g1, g2, g3, g4⟩ := fewC (x4 := x4) hn16 hla hW hlcc
        obtain ⟨-, -, c3, c4, -, -⟩ := hlcc S1 g2
        have hs1 := g2.sm (by decide) (by decide)
        have hI1 := h.sm hs1
        have hW1 := hI1.1
        obtain ⟨T, t1, t2, t3, t4, t5, t6, t7, t8⟩ := handF h hk hkf hI1 hs1
        have hH := lcmS h hk.1 hkf.1 hLm t5 t6 t7 t8
        obtain ⟨T', k1, k2, k3⟩ := knotsM (x4 := x4) hn16 hla hH
        have hL' := hH T' k2
        have hIf : Inv T' := hI1.sm (t4.tr (k2.sm (by decide)))
        have hlad : f_X12_isLady 313 (nI l) T = some 1 := isLady_y t5 hl hcf.n8 (by rw [t7]; exact hcf.2.2.1)
        have hkn : nR (fiN bu fa he (slS S k) x4 (mkS S kf) (prS S k kf)) (nr S (25 + 21 * kf)) 0 laN ≤ 1000000 := nd_le _ _ _ laN
        have e83 := fun w hw hm => laced83 (x6 := nI (nR (fiN bu fa he (slS S k) x4 (mkS S kf) (prS S k kf)) (nr S (25 + 21 * kf)) 0 laN)) hL' hn16 hla k3 hm (w := w) hw (w + 1) 0 fu (by omega) (by unfold fu; omega)
        have eAt := fun w hw hm => laceAtC (w := w) hn16 hla hW1 g4 hm hw
        have hpre : ∀ v, (v = (if nR (fiN bu fa he (slS S k) x4 (mkS S kf) (prS S k kf)) (nr S (25 + 21 * kf)) 0 laN < FARN then nI (nR (fiN bu fa he (slS S k) x4 (mkS S kf) (prS S k kf)) (nr S (25 + 21 * kf)) 0 laN) else -1)) → f_X11_laced 0 (nI k) (nI kf) (nI l) x4 x5 S = (if x5 = 0 then (some (v, S1)) else (if v = (-1) then (some (v, S1)) else (if x5 < 10 then (some ((-1), S1)) else (if nI (nr S (25 + 21 * kf)) ≤ (x5 - 10) then (some ((-1), S1)) else (c1 (some 247) 3 S1 (fun o' => f_X3_laceAt o' (x5 - 10) S1) fun v15 => (some (v15, S1))))))) := fun v hv => by
          subst hv
          unfold f_X11_laced
          rw [r_0_0 hW, k_1 hW, courtAt_y hW hk, b1_s, r_0_0 hW, k_1 hW, show f_X9_rowsAt 1 2 (nI kf) S = _ from rowsAt_f hW hkf, b1_s, nul_s, nul_s, xR_s hcf.1.1, hcf.1.2.2.1, c1_s hcf.rl.1, has_y hcf.rl hl, b1_s, if_neg n10, r_0_5 hW, kk_247 hW, g1, b2_s, xI_s c3.1, c3.2.2.2.2.2.2.1, c4, r_0_5 hW1]
        have hmod : f_X12_laced 313 (nI k) (nI kf) (nI l) x4 x5 S1 = (if 1000000 ≤ nI (nR (fiN bu fa he (slS S k) x4 (mkS S kf) (prS S k kf)) (nr S (25 + 21 * kf)) 0 laN) then (some ((-1), T')) else (if x5 = 0 then (f_X12_laced_83 313 fu (nI l) x4 x5 (nI (nR (fiN bu fa he (slS S k) x4 (mkS S kf) (prS S k kf)) (nr S (25 + 21 * kf)) 0 laN)) (nI laN) 0 T') else (b1 (f_X12_in x5 10 (nI (9 + nr S (25 + 21 * kf))) T') fun v12 => (if v12 = 0 then (some ((-1), T')) else (f_X12_laced_83 313 fu (nI l) x4 x5 (nI (nR (fiN bu fa he (slS S k) x4 (mkS S kf) (prS S k kf)) (nr S (25 + 21 * kf)) 0 laN)) (nI laN) 0 T'))))) := by
          unfold f_X12_laced f_X12_laced_72
          rw [p_313 hW1, kk_313 (S := s0 S1) hW1, t1, b2_s, if_neg n10, kk_313 (S := sI (s0 S1) 313 45 (nI kf)) hW1, t2, b2_s, if_neg n10, k_313 t5.1, hlad, b1_s, if_neg n10, kk_313 t5.1, k1, b2_s, k_313 hL'.1.1, hL'.2.1.lace hL'.1, b1_s, k_313 hL'.1.1, marks_v hL'.1.1 hL'.2.2.1 hL'.2.2.2.1, hL'.2.2.2.2.1, b1_s, nI_la 9 9 _ rfl]
        generalize fiN bu fa he (slS S k) x4 (mkS S kf) (prS S k kf) = ft at *
        generalize nr S (25 + 21 * kf) = n at *
        by_cases q : nR ft n 0 laN < FARN
        · have hq2 : ¬ (1000000 : Int32) ≤ nI (nR ft n 0 laN) := nI_ge (b := 1000000) q (by decide)
          have hcl := hpre _ (if_pos q).symm
          rw [if_neg hq2] at hmod
          rw [if_neg (nI_neg1 _ (by omega))] at hcl
          rcases lcQ x5 n with rfl | ⟨w, hw, rfl⟩ | ⟨hx0, hx⟩
          · refine ⟨nI (nR ft n 0 laN), S1, T', by rw [hcl, if_pos rfl], ?_, hIf⟩
            rw [hmod, if_pos rfl]
            show f_X12_laced_83 313 (4095 + 1) (nI l) x4 0 _ (nI laN) 0 T' = _
            rw [f_X12_laced_83, if_pos (by decide), if_pos rfl]
          · have hz : ¬ nI (w + 10) = 0 := nI_ne0 (by omega) (by omega)
            refine ⟨nI (ptN ft n laN (w + 1)), S1, T', ?_, ?_, hIf⟩
            · rw [hcl, if_neg hz, if_neg (show ¬ nI (w + 10) < (10 : Int32) from nI_nlt (b := 10) (by omega) (by omega)), nI_litsub 10 10 rfl (by omega), Nat.add_sub_cancel, if_neg (nI_ge hw (by omega)), k_247 hW1, eAt w hw q, b1_s]
            · rw [hmod, if_neg hz, show f_X12_in (nI (w + 10)) 10 (nI (9 + n)) T' = some 1 from in_y (a := 10) (by omega) (by omega) (by omega), b1_s, if_neg n10]
              exact e83 w hw q
          · refine ⟨-1, S1, T', ?_, ?_, hIf⟩
            · rw [hcl, if_neg hx0]
              rcases hx with hx | ⟨w, hw, rfl, hw2⟩
              · rw [if_pos (lt_neg (a := 10) 10 rfl (by decide) hx)]
              · by_cases z : w < 10
                · rw [if_pos (show nI w < (10 : Int32) from nI_lt (b := 10) z (by decide))]
                · rw [if_neg (show ¬ nI w < (10 : Int32) from nI_nlt (b := 10) (by omega) hw), nI_litsub 10 10 rfl (by omega), if_pos (nI_le (by omega) (by omega))]
            · rw [hmod, if_neg hx0]
              rcases hx with hx | ⟨w, hw, rfl, hw2⟩
              · rw [show f_X12_in x5 10 (nI (9 + n)) T' = some 0 from in_neg (a := 10) hx (by decide), b1_s, if_pos rfl]
              · rw [show f_X12_in (nI w) 10 (nI (9 + n)) T' = some 0 from in_n (a := 10) (by omega) hw (by decide), b1_s, if_pos rfl]
        · have hq2 : (1000000 : Int32) ≤ nI (nR ft n 0 laN) := nI_le (a := 1000000) (Nat.not_lt.mp q) (by omega)
          have hcl := hpre _ (if_neg q).symm
          rw [if_pos hq2] at hmod
          refine ⟨-1, S1, T', ?_, hmod, hIf⟩
          rw [hcl, if_pos (rfl : (-1 : Int32) = -1)]
          split <;> rfl
      · obtain ⟨T, t1, t2, t3, t4, t5, t6, t7, t8⟩ := handF h hk hkf h (Sm.rf S)
        refine ⟨-1, S, T, ?_, ?_, h.sm t4⟩
        · unfold f_X11_laced
          rw [r_0_0 hW, k_1 hW, courtAt_y hW hk, b1_s, r_0_0 hW, k_1 hW, show f_X9_rowsAt 1 2 (nI kf) S = _ from rowsAt_f hW hkf, b1_s, nul_s, nul_s, xR_s hcf.1.1, hcf.1.2.2.1, c1_s hcf.rl.1, has_n hcf.rl hx, b1_s, if_pos rfl]
        · unfold f_X12_laced
          rw [p_313 hW, kk_313 (S := s0 S) hW, t1, b2_s, if_neg n10, kk_313 (S := sI (s0 S) 313 45 (nI kf)) hW, t2, b2_s, if_neg n10, k_313 t5.1, isLady_n t5 hcf.n8 (by rw [t7]; exact hcf.2.2.1) hx, b1_s, if_pos rfl]
    · refine ⟨-1, S, sI (s0 S) 313 45 (nI kf), ?_, ?_, h.sm hsf⟩
      · unfold f_X11_laced
        rw [r_0_0 hW, k_1 hW, courtAt_n hW hn, b1_s, r_0_0 hW, k_1 hW, show f_X9_rowsAt 1 2 (nI kf) S = _ from rowsAt_f hW hkf, b1_s, nul_n]
      · unfold f_X12_laced
        rw [p_313 hW, kk_313 (S := s0 S) hW, hasFc_y (S := s0 S) hW (hkf.sm hs0), b2_s, if_neg n10, kk_313 (S := sI (s0 S) 313 45 (nI kf)) hW, hand_n (S := sI (s0 S) 313 45 (nI kf)) hW (hn.sm hsf), b2_s, if_pos rfl]
  · refine ⟨-1, S, sI (s0 S) 313 45 x2, ?_, ?_, h.sm (hs0.tr (sm_I (by decide)))⟩
    · unfold f_X11_laced
      rcases tld h (s := 0) (by decide) x1 with ⟨k, rfl, hk⟩ | hn
      · rw [r_0_0 hW, k_1 hW, courtAt_y hW hk, b1_s, r_0_0 hW, k_1 hW, rowsAt_n hW (s := 2) (by decide) 2 rfl hnf, b1_s, nul_s, nul_n]
      · rw [r_0_0 hW, k_1 hW, courtAt_n hW hn, b1_s, r_0_0 hW, k_1 hW, rowsAt_n hW (s := 2) (by decide) 2 rfl hnf, b1_s, nul_n]
    · unfold f_X12_laced
      rw [p_313 hW, kk_313 (S := s0 S) hW, hasFc_n (S := s0 S) hW (hnf.sm hs0), b2_s, if_pos rfl]
end LE
