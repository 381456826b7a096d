/-! worth: both answer alike -/
section WP
variable {S S' : GS} {o b c k l co : Nat} {w F : Nat → Nat} {bu fa he la : Int32} {laN gl pen : Nat}
theorem numQ3 (x : Int32) : x = 0 ∨ x = 1 ∨ x = 2 ∨ (f_X12_in x 0 2 S = some 0 ∧ (x < 0 ∨ ∃ k, k < 2 ^ 31 ∧ x = nI k ∧ 3 ≤ k)) := by
  by_cases q : x < 0
  · exact Or.inr (Or.inr (Or.inr ⟨by rw [m_in, if_pos q], Or.inl q⟩))
  · obtain ⟨k, hk, rfl⟩ := nI_of q
    by_cases z : k < 3
    · rcases (show k = 0 ∨ k = 1 ∨ k = 2 by omega) with rfl | rfl | rfl
      · exact Or.inl rfl
      · exact Or.inr (Or.inl rfl)
      · exact Or.inr (Or.inr (Or.inl rfl))
    · exact Or.inr (Or.inr (Or.inr ⟨in_n (a := 0) (b := 2) (by omega) hk (by decide), Or.inr ⟨k, hk, rfl, by omega⟩⟩))
theorem in02 {x : Int32} (h : x = 0 ∨ x = 1 ∨ x = 2) : f_X12_in x 0 2 S = some 1 := by
  rcases h with rfl | rfl | rfl <;> rw [m_in] <;> rfl
/-- what the class answers, by what is asked -/
def woV (x : Int32) (lace n d g : Nat) : Int32 := if x = 2 then nI lace else nI ((if x = 1 then d else n) / g)
theorem woC {x : Int32} {lace a b : Nat} (hW : Wr S) (h : Od S a b) (hx : x = 0 ∨ x = 1 ∨ x = 2) : tsw x 0 [(xR (some 0) 11 6 S fun v10 => (xJ v10 4 2 S fun v11 => (some ((v11).toInt32, S)))), (xR (some 0) 11 6 S fun v12 => (xJ v12 4 3 S fun v13 => (some ((v13).toInt32, S)))), (some (nI lace, S))] (some ((-1), S)) = some (woV x lace a b (Nat.gcd a b), S) := by
  unfold woV
  rcases hx with rfl | rfl | rfl
  · rw [tsw, if_pos rfl, r_0_6 hW, j_268 hW, h.1, lN_i]
    rfl
  · rw [tsw, if_neg (by decide), tsw, if_pos (by decide), r_0_6 hW, j_268 hW, h.2, lN_i]
    rfl
  · rw [tsw, if_neg (by decide), tsw, if_neg (by decide), tsw, if_pos (by decide)]
    rfl
theorem both_worth (h : Inv S) (x1 x2 x3 x4 : Int32) : Both2 (f_X11_worth 0 x1 x2 x3 x4) (f_X12_worth 313 x1 x2 x3 x4) S := by
  have hW := h.1
  unfold Both2 f_X11_worth f_X12_worth
  rcases tld h (s := 0) (by decide) x1 with ⟨k, rfl, hk⟩ | hn
  · have hcf := h.cf hk.1
    have hs3 := s3_sm S k
    rw [r_0_0 hW, k_1 hW, courtAt_y hW hk, b1_s, nul_s, xR_s hcf.1.1, hcf.1.2.2.1, c1_s hcf.rl.1]
    rcases in_or (S := S) x3 0 99 with e9 | e9
    · refine ⟨-1, S, s0 S, ?_, by rw [p_313 hW, in_S (S' := S), e9, b1_s, if_pos rfl], h.sm (sm_I (by decide))⟩
      rw [in0_if 99 e9]
      rcases ladyQ hcf x2 with ⟨l, rfl, hl⟩ | hx
      · rw [has_y hcf.rl hl, b1_s, if_neg n10]
      · rw [has_n hcf.rl hx, b1_s, if_pos rfl]
    have hM : Mc (hS (s0 S) k) k := hS_Mc hW hk.1
    have h1 : (hS (s0 S) k).1 319 (69 * k + 1) = nI (nr S (10 + 21 * k + 3)) := hcf.2.2.1
    rcases ladyQ hcf x2 with ⟨l, rfl, hl⟩ | hx
    · obtain ⟨pen, rfl, -, hpen⟩ := in1 (a := 0) (b := 99) (by decide) (by decide) e9
      obtain ⟨w, gl, hWd, hwm, hw0, hgl, eg1, eg2⟩ := hcf.wd (h.vc hk) hcf.1.2.2.2.2.1
      obtain ⟨bu, fa, he, la, hLw, hLm⟩ := hcf.lady hl rfl
      obtain ⟨laN, rfl, hla⟩ := hcf.laceN hl rfl hLm
      obtain ⟨S1, b1', b2', b3'⟩ := worthC_15 hW hWd hcf.1 hLw eg1 hgl hla hpen hw0 30 1 fu 0 (by omega) (by unfold fu; omega) (by decide)
      have hW1 := b2'.wr hW
      have hjl := best_lt (unN w bu fa he laN gl pen) (N := 31) 30 1 0 (by decide) (by decide)
      generalize hj : bestN (unN w bu fa he laN gl pen) 30 1 0 = j at b1' b3' hjl
      have eC : f_X4_worthOf 268 (some (10 + 21 * k)) (nI l) (nI pen) S = some (nI j, S1) := by
        unfold f_X4_worthOf
        rw [show f_X4_costUnknown (some (10 + 21 * k)) (nI l) (nI pen) 0 S = _ from unC hWd hcf.1 hLw eg1 hgl hla (lace := 0) (by decide), b1_s]
        exact b1'
      rw [has_y hcf.rl hl, b1_s, if_neg n10, in1_if 99 e9, r_0_6 hW, kk_268 hW, eC, b2_s]
      rcases numQ3 (S := S) x4 with hx | hx | hx | ⟨e4, hx⟩
      case inr.inr.inr =>
        refine ⟨-1, S1, s0 S1, ?_, by rw [p_313 hW1, in_S (S' := S), e9, b1_s, if_neg n10, in_S (S' := S), e4, b1_s, if_pos rfl], h.sm (b2'.sm.tr (sm_I (by decide)))⟩
        rw [tsw_out (n := 3) hx rfl (by decide)]
      all_goals
        have hx3 : x4 = 0 ∨ x4 = 1 ∨ x4 = 2 := by
          first | exact Or.inl hx | exact Or.inr (Or.inl hx) | exact Or.inr (Or.inr hx)
        obtain ⟨S3, m1, m2, m3, m4, m5, m6⟩ := stillH hW1 (hk.sm b2'.sm) (by rw [b2'.1]; exact hwm) hgl (by rw [b2'.1]; exact eg2)
        have hLm3 := (hLm.sm b2'.sm).sm m2
        have eg3 : S3.1 319 (69 * k + 5) = nI gl := by rw [m3, b2'.1]; exact eg2
        have hM2 : Mc (hS (s0 S1) k) k := hS_Mc hW1 hk.1
        have h12 : (hS (s0 S1) k).1 319 (69 * k + 1) = nI (nr S (10 + 21 * k + 3)) := by
          rw [(s3_sm S1 k).2.2 319 (by decide), b2'.1]
          exact hcf.2.2.1
        have hf : ∀ j, j < 31 → f_X12_costOf 313 (nI l) (nI j) (nI pen) 7 S3 = some (nI (unN w bu fa he laN gl pen j)) ∧ unN w bu fa he laN gl pen j < 2 ^ 31 := fun j hj => ⟨by
          rw [← co7 w laN gl pen]
          exact costM m4 hLm3 eg3 hgl hla hj (a := 7) (by decide), by
          have : unN w bu fa he laN gl pen j ≤ 27 * 129 := un_le (c := cN bu fa he laN gl pen j) hWd.w9 (fun g => cN_le bu fa he hla hj hpen)
          omega⟩
        have hb := bestM_l m4.1.1 hf 30 1 fu 0 (by omega) (by unfold fu; omega) (by decide)
        rw [hj] at hb
        have hu : unN w bu fa he laN gl pen j ≤ 27 * 129 := un_le (c := cN bu fa he laN gl pen j) hWd.w9 (fun g => cN_le bu fa he hla hjl hpen)
        have hfin := worthM_81 m4 hLm3 eg3 hgl hla hpen m5 hw0 hu (wi_le hjl) (x4 := x4) 3 0 fu (by omega) (by unfold fu; omega) (Nat.zero_le _)
        refine ⟨woV x4 j (unN w bu fa he laN gl pen j - wiN w bu fa he laN gl pen) (sw w) (Nat.gcd (unN w bu fa he laN gl pen j - wiN w bu fa he laN gl pen) (sw w)), S1, S3, woC hW1 b3' hx3, ?_, h.sm (b2'.sm.tr m2)⟩
        rw [p_313 hW1, in_S (S' := S), e9, b1_s, if_neg n10, in02 hx3, b1_s, if_neg n10, kk_313 (S := s0 S1) hW1, hand_y (S := s0 S1) hW1 ((hk.sm b2'.sm).sm (sm_I (by decide))), b2_s, if_neg n10, k_313 (S := hS (s0 S1) k) hW1, isLady_y hM2 hl hcf.n8 h12, b1_s, if_neg n10, k_313 (S := hS (s0 S1) k) hW1, m1, b1_s, k_313 m4.1.1, show f_X12_bestLace 313 (nI l) (nI pen) 7 S3 = _ from hb, b1_s, k_313 m4.1.1, (hf j hjl).1, b1_s]
        unfold woV
        by_cases q2 : x4 = 2
        · rw [if_pos q2, if_pos q2]
        · rw [if_neg q2, if_neg q2]
          exact hfin
    · refine ⟨-1, S, ?_⟩
      rcases in_or (S := S) x4 0 2 with e4 | e4
      · exact ⟨s0 S, by rw [has_n hcf.rl hx, b1_s, if_pos rfl], by rw [p_313 hW, in_S (S' := S), e9, b1_s, if_neg n10, in_S (S' := S), e4, b1_s, if_pos rfl], h.sm (sm_I (by decide))⟩
      · exact ⟨_, by rw [has_n hcf.rl hx, b1_s, if_pos rfl], by rw [p_313 hW, in_S (S' := S), e9, b1_s, if_neg n10, in_S (S' := S), e4, b1_s, if_neg n10, kk_313 (S := s0 S) hW, hand_y (S := s0 S) hW (hk.sm (sm_I (by decide))), b2_s, if_neg n10, k_313 (S := hS (s0 S) k) hW, isLady_n hM hcf.n8 h1 hx, b1_s, if_pos rfl], h.sm hs3⟩
  · rw [r_0_0 hW, k_1 hW, courtAt_n hW hn, b1_s, nul_n]
    rcases in_or (S := S) x3 0 99 with e9 | e9
    · exact ⟨-1, S, s0 S, rfl, by rw [p_313 hW, in_S (S' := S), e9, b1_s, if_pos rfl], h.sm (sm_I (by decide))⟩
    rcases in_or (S := S) x4 0 2 with e4 | e4
    · exact ⟨-1, S, s0 S, rfl, by rw [p_313 hW, in_S (S' := S), e9, b1_s, if_neg n10, in_S (S' := S), e4, b1_s, if_pos rfl], h.sm (sm_I (by decide))⟩
    exact ⟨-1, S, s0 S, rfl, by rw [p_313 hW, in_S (S' := S), e9, b1_s, if_neg n10, in_S (S' := S), e4, b1_s, if_neg n10, kk_313 (S := s0 S) hW, hand_n (S := s0 S) hW (hn.sm (sm_I (by decide))), b2_s, if_pos rfl], h.sm (sm_I (by decide))⟩
end WP
