/-! reach, drop: both answer alike -/
section OF
variable {S S' : GS} {o b c k l : Nat} {w F : Nat → Nat} {bu fa he la : Int32}
theorem in1 {x : Int32} {a b : Nat} (ha : a < 2 ^ 31) (hb : b < 2 ^ 31) (e : f_X12_in x (nI a) (nI b) S = some 1) : ∃ k, x = nI k ∧ a ≤ k ∧ k ≤ b := by
  rw [m_in] at e
  by_cases q : x < nI a
  · rw [if_pos q] at e
    exact absurd e (by decide)
  · rw [if_neg q] at e
    have h0 : ¬ x < 0 := fun z => q (lt_neg a rfl ha z)
    obtain ⟨k, hk, rfl⟩ := nI_of h0
    refine ⟨k, rfl, Nat.not_lt.mp fun z => q (nI_lt z ha), Nat.not_lt.mp fun z => ?_⟩
    rw [if_pos (nI_lt z hk)] at e
    exact absurd e (by decide)
/-- a number from nought to a most, as the class asks -/
theorem in0_if {α : Type} {x : Int32} {A B : α} (m : Int32) (e : f_X12_in x 0 m S = some 0) : (if x < 0 then B else if x ≤ m then A else B) = B := by
  rw [m_in] at e
  by_cases q : x < 0
  · rw [if_pos q]
  · rw [if_neg q]
    rw [if_neg q] at e
    by_cases z : m < x
    · rw [if_neg (Int32.not_le.mpr z)]
    · rw [if_neg z] at e
      exact absurd e (by decide)
theorem in1_if {α : Type} {x : Int32} {A B : α} (m : Int32) (e : f_X12_in x 0 m S = some 1) : (if x < 0 then B else if x ≤ m then A else B) = A := by
  rw [m_in] at e
  by_cases q : x < 0
  · rw [if_pos q] at e
    exact absurd e (by decide)
  · rw [if_neg q]
    rw [if_neg q] at e
    by_cases z : m < x
    · rw [if_pos z] at e
      exact absurd e (by decide)
    · rw [if_pos (Int32.not_lt.mp z)]
theorem Inv.vc (h : Inv S) (hk : TD S 0 k) : vCourt S (69 * k) := by
  obtain ⟨h2, n, n2, -, e, hn⟩ := hk
  have hT := h.2.1 0 (by omega)
  have h0 : (∃ n, S.1 318 0 = nI n ∧ n ≤ 2 ∧ 0 < n) → vCourt S 0 := hT.2.2.2.2.2.1.2.1
  have h1 : (∃ n, S.1 318 0 = nI n ∧ n ≤ 2 ∧ 1 < n) → vCourt S 69 := hT.2.2.2.2.2.2.2.1
  rcases (show k = 0 ∨ k = 1 by omega) with rfl | rfl
  · exact h0 ⟨n, e, n2, hn⟩
  · exact h1 ⟨n, e, n2, hn⟩
/-- a court's wind and glass, both sides -/
theorem CF.wd (h : CF S o b) (v : vCourt S b) (ho : S.2.2.1 o 3 = some (o + 7)) : ∃ (w : Nat → Nat) (gl : Nat), Wd S o w ∧ (∀ g, g < 3 → S.1 319 (b + (6 + g)) = nI (w g) ∧ w g ≤ 9) ∧ 0 < sw w ∧ gl ≤ 40 ∧ S.1 o 6 = nI gl ∧ S.1 319 (b + 5) = nI gl := by
  obtain ⟨f0, f1, f2, f3, f4, f5, f6, f7, f8, f9, g4, g5, g6, g7, g8, g9⟩ := h
  obtain ⟨v3, v4, v5, v6, v7, v8, v9⟩ := v
  obtain ⟨gl, e5, -, l5⟩ := v5.nat
  obtain ⟨w0, e6, -, l6⟩ := v6.nat
  obtain ⟨w1, e7, -, l7⟩ := v7.nat
  obtain ⟨w2, e8, -, l8⟩ := v8.nat
  refine ⟨fun g => if g = 0 then w0 else if g = 1 then w1 else w2, gl, ⟨f0.1, ho, f0.2.2.2.2.2.1, f0.2.2.2.2.2.2.1, fun g hg => ?_⟩, fun g hg => ?_, ?_, l5, by rw [g6, e5], e5⟩
  · rcases (show g = 0 ∨ g = 1 ∨ g = 2 by omega) with rfl | rfl | rfl
    · exact ⟨g7.trans e6, l6⟩
    · exact ⟨g8.trans e7, l7⟩
    · exact ⟨g9.trans e8, l8⟩
  · rcases (show g = 0 ∨ g = 1 ∨ g = 2 by omega) with rfl | rfl | rfl
    · exact ⟨e6, l6⟩
    · exact ⟨e7, l7⟩
    · exact ⟨e8, l8⟩
  · show 0 < w0 + w1 + w2
    rw [e6, e7, e8, nI_add, nI_add] at v9
    refine Nat.pos_of_ne_zero fun z => v9 ?_
    rw [z]
    rfl
/-- what is answered of the odds: above, or below -/
abbrev odV (x : Int32) (a b : Nat) : Int64 := lN ((if x = 0 then a else b) / Nat.gcd a b)
theorem reach66 {x5 : Int32} {a b : Nat} (hW : Wr S) (h : Od S a b) : f_X11_reach_66 0 x5 S = some (lN ((if x5 = 0 then a else b) / Nat.gcd a b), S) := by
  unfold f_X11_reach_66
  rw [r_0_6 hW, j_268 hW, r_0_6 hW, j_268 hW, h.1, h.2]
  by_cases q : x5 = 0
  · rw [if_pos q, if_pos q]
  · rw [if_neg q, if_neg q]
theorem reach131 {x5 : Int32} {a b : Nat} (ha : a < 2 ^ 43) (hb : b < 2 ^ 43) (h0 : 0 < b) : f_X12_reach_131 313 x5 (lN b) (lN a) S = some (lN ((if x5 = 0 then a else b) / Nat.gcd a b), S) := by
  unfold f_X12_reach_131
  rw [terms_v S ha hb h0, b1_s]
/-- the court in hand, its wind still -/
theorem stillH {w : Nat → Nat} {gl : Nat} (hW : Wr S) (hk : TD S 0 k) (hw : ∀ g, g < 3 → S.1 319 (69 * k + (6 + g)) = nI (w g) ∧ w g ≤ 9) (hgl : gl ≤ 40) (hg : S.1 319 (69 * k + 5) = nI gl) : ∃ S', f_X12_still 313 (hS (s0 S) k) = some S' ∧ Sm S S' ∧ S'.1 319 = S.1 319 ∧ Wm S' k w ∧ S'.1 313 50 = nI (sw w) ∧ Nw S' 335 (st0 gl) := by
  have hs3 := s3_sm S k
  have hM : Wm (hS (s0 S) k) k w := ⟨hS_Mc hW hk.1, by rw [hs3.2.2 319 (by decide)]; exact hw⟩
  obtain ⟨S', g1, g2, g3⟩ := still_v hM hgl (by rw [hs3.2.2 319 (by decide)]; exact hg)
  refine ⟨S', g1, (hs3.tr (sm_I (by decide))).tr g2.sm, ?_, g2.wm (hM.pI (by decide)), ?_, g3⟩
  · rw [g2.1]
    show (hS (s0 S) k).1 319 = _
    exact hs3.2.2 319 (by decide)
  · rw [g2.1, sI_at, if_pos rfl]
theorem both_reach (h : Inv S) (x1 x2 x3 x4 x5 : Int32) : Both2 (f_X11_reach 0 x1 x2 x3 x4 x5) (f_X12_reach 313 x1 x2 x3 x4 x5) S := by
  have hW := h.1
  unfold Both2 f_X11_reach f_X12_reach
  rcases tld h (s := 0) (by decide) x1 with ⟨k, rfl, hk⟩ | hn
  · rw [r_0_0 hW, k_1 hW, courtAt_y hW hk, b1_s, nul_s, isMark_q (S' := S)]
    rcases in_or (S := S) x3 0 9 with e9 | e9
    · refine ⟨-1, S, s0 S, ?_, by rw [p_313 hW, in_S (S' := S), e9, b1_s, if_pos rfl], h.sm (sm_I (by decide))⟩
      rw [in0_if 9 e9]
      rcases in_or (S := S) x2 0 40 with e | e
      · rw [e, b1_s, if_pos rfl]
      · rw [e, b1_s, if_neg n10]
    rcases in_or (S := S) x2 0 40 with e | e
    · exact ⟨-1, S, s0 S, by rw [e, b1_s, if_pos rfl], by rw [p_313 hW, in_S (S' := S), e9, b1_s, if_neg n10, in_S (S' := S), e, b1_s, if_pos rfl], h.sm (sm_I (by decide))⟩
    obtain ⟨nn, rfl, -, hnn⟩ := in1 (a := 0) (b := 9) (by decide) (by decide) e9
    obtain ⟨mk, rfl, -, hmk⟩ := in1 (a := 0) (b := 40) (by decide) (by decide) e
    have hcf := h.cf hk.1
    obtain ⟨w, gl, hWd, hwm, hw0, hgl, eg1, eg2⟩ := hcf.wd (h.vc hk) hcf.1.2.2.2.2.1
    have hp := pow43 hWd.le hnn
    have hp0 := Nat.pow_pos (n := nn) hw0
    obtain ⟨S1, b1', b2', b3'⟩ := beginC hW hcf.1.1 eg1 hgl
    have hW1 := b2'.wr hW
    have hs0 : sumN (st0 gl) 41 = 1 := by rw [st0_sum, if_pos (by omega)]
    rw [e, b1_s, if_neg n10, in1_if 9 e9]
    by_cases q : x4 = 0
    · subst q
      obtain ⟨S2, k1, k2, k3⟩ := thenC (co := 10 + 21 * k) (mark := mk) (by omega) hnn hw0 nn 0 fu S1 (st0 gl) hW1 (b2'.wd hWd) b3' (by rw [hs0]; exact Nat.le_refl _) (by omega) (by unfold fu; omega)
      have hL2 := b2'.tr k2
      have hW2 := hL2.wr hW
      obtain ⟨S3, m1, m2, m3, m4, m5, m6⟩ := stillH hW2 (hk.sm hL2.sm) (by rw [hL2.1]; exact hwm) hgl (by rw [hL2.1]; exact eg2)
      obtain ⟨S4, r1, r2⟩ := reachM_n (x5 := x5) (mark := mk) (by omega) hnn nn 0 fu S3 (st0 gl) 0 m4 m5 m6 (by omega) (by unfold fu; omega)
      have ha := sumN_le (F := itN w (fun _ => false) nn (st0 gl)) 41 (show mk < 41 by omega)
      have ha2 := it_le w (fun _ => false) nn (st0 gl)
      rw [hs0, Nat.one_mul] at ha2
      have ha3 : itN w (fun _ => false) nn (st0 gl) mk < 2 ^ 43 := Nat.lt_of_le_of_lt (Nat.le_trans ha ha2) hp
      refine ⟨odV x5 (itN w (fun _ => false) nn (st0 gl) mk) (sw w ^ nn), S2, S4, ?_, ?_, h.sm (hL2.sm.tr (m2.tr r2.sm))⟩
      · rw [if_pos rfl, r_0_6 hW, k_268 hW]
        unfold f_X4_thenAt
        rw [k_268 hW, b1', b1_s, show f_X4_thenAt_8 268 fu (some (10 + 21 * k)) (nI mk) (nI nn) 0 S1 = _ from k1, b1_s, reach66 hW2 k3]
      · rw [p_313 hW2, in_S (S' := S), e9, b1_s, if_neg n10, in_S (S' := S), e, b1_s, if_neg n10, kk_313 (S := s0 S2) hW2, hand_y (S := s0 S2) hW2 ((hk.sm hL2.sm).sm (sm_I (by decide))), b2_s, if_neg n10, k_313 (S := hS (s0 S2) k) hW2, m1, b1_s, show f_X12_reach_50 313 fu (nI mk) (nI nn) 0 x5 0 1 0 S3 = _ from r1, reach131 ha3 hp hp0]
    · have hWd1 : Wd (sJ S1 269 mk 0) (10 + 21 * k) w := ofL_J.wd (b2'.wd hWd)
      have hF1 := b3'.strike (m := mk)
      have hs1 : sumN (stN (isM mk) (st0 gl)) 41 ≤ 1 := by
        have := st_le (isM mk) (st0 gl)
        omega
      obtain ⟨S2, k1, k2, k3⟩ := everC (co := 10 + 21 * k) (mark := mk) (by omega) hnn hw0 nn 0 fu (sJ S1 269 mk 0) (stN (isM mk) (st0 gl)) hW1 hWd1 hF1 hs1 (by omega) (by unfold fu; omega)
      have hL2 := b2'.tr (ofL_J.tr k2)
      have hW2 := hL2.wr hW
      obtain ⟨S3, m1, m2, m3, m4, m5, m6⟩ := stillH hW2 (hk.sm hL2.sm) (by rw [hL2.1]; exact hwm) hgl (by rw [hL2.1]; exact eg2)
      obtain ⟨S4, r1, r2⟩ := reachM_e (x5 := x5) q (mark := mk) (by omega) hnn nn 0 fu S3 (st0 gl) 0 m4 m5 m6 (by rw [hs0]; rfl) (by omega) (by unfold fu; omega)
      have ha3 : sw w ^ nn - sumN (itN w (isM mk) nn (stN (isM mk) (st0 gl))) 41 < 2 ^ 43 := Nat.lt_of_le_of_lt (Nat.sub_le _ _) hp
      refine ⟨odV x5 (sw w ^ nn - sumN (itN w (isM mk) nn (stN (isM mk) (st0 gl))) 41) (sw w ^ nn), S2, S4, ?_, ?_, h.sm (hL2.sm.tr (m2.tr r2.sm))⟩
      · rw [if_neg q, r_0_6 hW, k_268 hW]
        unfold f_X4_everAt
        rw [k_268 hW, b1', b1_s, k_268 hW1, strikeC hW1 (by omega), b1_s, show f_X4_everAt_13 268 fu (some (10 + 21 * k)) (nI mk) (nI nn) 0 (sJ S1 269 mk 0) = _ from k1, b1_s, reach66 hW2 k3]
      · rw [p_313 hW2, in_S (S' := S), e9, b1_s, if_neg n10, in_S (S' := S), e, b1_s, if_neg n10, kk_313 (S := s0 S2) hW2, hand_y (S := s0 S2) hW2 ((hk.sm hL2.sm).sm (sm_I (by decide))), b2_s, if_neg n10, k_313 (S := hS (s0 S2) k) hW2, m1, b1_s, show f_X12_reach_50 313 fu (nI mk) (nI nn) x4 x5 0 1 0 S3 = _ from r1, reach131 ha3 hp hp0]
  · rw [r_0_0 hW, k_1 hW, courtAt_n hW hn, b1_s, nul_n]
    rcases in_or (S := S) x3 0 9 with e9 | e9
    · exact ⟨-1, S, s0 S, rfl, by rw [p_313 hW, in_S (S' := S), e9, b1_s, if_pos rfl], h.sm (sm_I (by decide))⟩
    rcases in_or (S := S) x2 0 40 with e | e
    · exact ⟨-1, S, s0 S, rfl, by rw [p_313 hW, in_S (S' := S), e9, b1_s, if_neg n10, in_S (S' := S), e, b1_s, if_pos rfl], h.sm (sm_I (by decide))⟩
    exact ⟨-1, S, s0 S, rfl, by rw [p_313 hW, in_S (S' := S), e9, b1_s, if_neg n10, in_S (S' := S), e, b1_s, if_neg n10, kk_313 (S := s0 S) hW, hand_n (S := s0 S) hW (hn.sm (sm_I (by decide))), b2_s, if_pos rfl], h.sm (sm_I (by decide))⟩
theorem both_drop (h : Inv S) (x1 x2 x3 x4 : Int32) : Both2 (f_X11_drop 0 x1 x2 x3 x4) (f_X12_drop 313 x1 x2 x3 x4) S := by
  have hW := h.1
  unfold Both2 f_X11_drop f_X12_drop
  rcases tld h (s := 0) (by decide) x1 with ⟨k, rfl, hk⟩ | hn
  · have hcf := h.cf hk.1
    have hs3 := s3_sm S k
    rw [r_0_0 hW, k_1 hW, courtAt_y hW hk, b1_s, nul_s, xR_s hcf.1.1, hcf.1.2.2.1, c1_s hcf.rl.1]
    rcases in_or (S := S) x3 0 9 with e9 | e9
    · refine ⟨-1, S, s0 S, ?_, by rw [p_313 hW, in_S (S' := S), e9, b1_s, if_pos rfl], h.sm (sm_I (by decide))⟩
      rw [in0_if 9 e9]
      rcases ladyQ hcf x2 with ⟨l, rfl, hl⟩ | hx
      · rw [has_y hcf.rl hl, b1_s, if_neg n10]
      · rw [has_n hcf.rl hx, b1_s, if_pos rfl]
    have hM : Mc (hS (s0 S) k) k := hS_Mc hW hk.1
    have h1 : (hS (s0 S) k).1 319 (69 * k + 1) = nI (nr S (10 + 21 * k + 3)) := hcf.2.2.1
    rcases ladyQ hcf x2 with ⟨l, rfl, hl⟩ | hx
    · obtain ⟨nn, rfl, -, hnn⟩ := in1 (a := 0) (b := 9) (by decide) (by decide) e9
      obtain ⟨w, gl, hWd, hwm, hw0, hgl, eg1, eg2⟩ := hcf.wd (h.vc hk) hcf.1.2.2.2.2.1
      obtain ⟨bu, fa, he, la, hLw, hLm⟩ := hcf.lady hl rfl
      have hp := pow43 hWd.le hnn
      have hp0 := Nat.pow_pos (n := nn) hw0
      obtain ⟨S1, b1', b2', b3'⟩ := beginC hW hcf.1.1 eg1 hgl
      have hW1 := b2'.wr hW
      have hs0 : sumN (st0 gl) 41 = 1 := by rw [st0_sum, if_pos (by omega)]
      have hcw1 := b2'.cw hcf.1
      obtain ⟨S2, k1, k2, k3⟩ := fallC (co := 10 + 21 * k) (l := l) hnn hw0 nn 0 fu S1 (st0 gl) hW1 hcw1 (b2'.lw hLw) (b2'.wd hWd) b3' (by rw [hs0]; exact Nat.le_refl _) (by omega) (by unfold fu; omega)
      have hL2 := b2'.tr k2
      have hW2 := hL2.wr hW
      obtain ⟨S3, m1, m2, m3, m4, m5, m6⟩ := stillH hW2 (hk.sm hL2.sm) (by rw [hL2.1]; exact hwm) hgl (by rw [hL2.1]; exact eg2)
      obtain ⟨S4, r1, r2⟩ := dropM (x4 := x4) (l := l) hnn nn 0 fu S3 (st0 gl) 0 m4 ((hLm.sm hL2.sm).sm m2) m5 m6 (by rw [hs0]; rfl) (by omega) (by unfold fu; omega)
      have ha3 : sw w ^ nn - sumN (itN w (noS bu fa he la) nn (st0 gl)) 41 < 2 ^ 43 := Nat.lt_of_le_of_lt (Nat.sub_le _ _) hp
      have hM2 : Mc (hS (s0 S2) k) k := hS_Mc hW2 hk.1
      have h12 : (hS (s0 S2) k).1 319 (69 * k + 1) = nI (nr S (10 + 21 * k + 3)) := by
        rw [(s3_sm S2 k).2.2 319 (by decide), hL2.1]
        exact hcf.2.2.1
      refine ⟨odV x4 (sw w ^ nn - sumN (itN w (noS bu fa he la) nn (st0 gl)) 41) (sw w ^ nn), S2, S4, ?_, ?_, h.sm (hL2.sm.tr (m2.tr r2.sm))⟩
      · rw [has_y hcf.rl hl, b1_s, if_neg n10, in1_if 9 e9, r_0_6 hW, k_268 hW]
        unfold f_X4_everFallen
        rw [k_268 hW, b1', b1_s, xR_s hcw1.1, hcw1.2.2.1, c1_s hcw1.2.2.2.2.2.2.2.2.1.1, (b2'.lw hLw).lace hcw1, b1_s, show f_X4_everFallen_19 268 fu (some (10 + 21 * k)) (nI l) (nI nn) la 0 S1 = _ from k1, b1_s]
        have := reach66 (x5 := x4) hW2 k3
        unfold f_X11_reach_66 at this
        exact this
      · rw [p_313 hW2, in_S (S' := S), e9, b1_s, if_neg n10, kk_313 (S := s0 S2) hW2, hand_y (S := s0 S2) hW2 ((hk.sm hL2.sm).sm (sm_I (by decide))), b2_s, if_neg n10, k_313 (S := hS (s0 S2) k) hW2, isLady_y hM2 hl hcf.n8 h12, b1_s, if_neg n10, k_313 (S := hS (s0 S2) k) hW2, m1, b1_s, show f_X12_drop_48 313 fu (nI l) (nI nn) x4 0 1 0 S3 = _ from r1, terms_v S4 ha3 hp hp0, b1_s]
    · refine ⟨-1, S, _, by rw [has_n hcf.rl hx, b1_s, if_pos rfl], ?_, h.sm hs3⟩
      rw [p_313 hW, in_S (S' := S), e9, b1_s, if_neg n10, kk_313 (S := s0 S) hW, hand_y (S := s0 S) hW (hk.sm (sm_I (by decide))), b2_s, if_neg n10, k_313 (S := hS (s0 S) k) hW, isLady_n hM hcf.n8 h1 hx, b1_s, if_pos rfl]
  · rw [r_0_0 hW, k_1 hW, courtAt_n hW hn, b1_s, nul_n]
    rcases in_or (S := S) x3 0 9 with e9 | e9
    · exact ⟨-1, S, s0 S, rfl, by rw [p_313 hW, in_S (S' := S), e9, b1_s, if_pos rfl], h.sm (sm_I (by decide))⟩
    exact ⟨-1, S, s0 S, rfl, by rw [p_313 hW, in_S (S' := S), e9, b1_s, if_neg n10, kk_313 (S := s0 S) hW, hand_n (S := s0 S) hW (hn.sm (sm_I (by decide))), b2_s, if_pos rfl], h.sm (sm_I (by decide))⟩
end OF
