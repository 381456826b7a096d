/-! odds: the reference -/
section OE
variable {S S' : GS} {o b c k l : Nat} {w F : Nat → Nat} {bu fa he la : Int32}
/-- the reference's court in hand, and its wind -/
def Wm (S : GS) (c : Nat) (w : Nat → Nat) : Prop := Mc S c ∧ ∀ g, g < 3 → S.1 319 (69 * c + (6 + g)) = nI (w g) ∧ w g ≤ 9
theorem OfL.wm (h : OfL S S') (hM : Wm S c w) : Wm S' c w := ⟨h.mc hM.1, by rw [h.1]; exact hM.2⟩
theorem Wm.le (hC : Wm S c w) : sw w ≤ 27 := by
  have h0 := (hC.2 0 (by decide)).2
  have h1 := (hC.2 1 (by decide)).2
  have h2 := (hC.2 2 (by decide)).2
  show w 0 + w 1 + w 2 ≤ 27
  omega
theorem Wm.of (hM : Wm S c w) (x : Int32) (g : Nat) (hx : x = nI g) (hg : g < 3) : f_X12_windOf 313 x S = some (nI (w g)) := by
  subst hx
  unfold f_X12_windOf
  rw [k_313 hM.1.1, hM.1.of _ (6 + g) (by rw [← nI_add]; rfl) (by omega), b1_s, (hM.2 g hg).1]
theorem after_v {m g : Nat} (hm : m < 41) (hg : g < 3) : f_X12_after 313 (nI m) (nI g) S = some (nI (afN m g)) := by
  unfold f_X12_after
  rw [m_lesser, b1_s, m_greater, b1_s, af_k m hm g hg]
theorem still_l {gl : Nat} (hgl : gl ≤ 40) : ∀ (d m n : Nat) (S : GS), Mc S c → S.1 319 (69 * c + 5) = nI gl → (∀ j, j < m → S.2.1 335 j = lN (st0 gl j)) → m + d = 41 → d < n → ∃ S', f_X12_still_23 313 n (nI m) S = some S' ∧ OfL S S' ∧ Nw S' 335 (st0 gl)
  | _, _, 0, _, _, _, _, _, hn => absurd hn (Nat.not_lt_zero _)
  | 0, m, n + 1, S, hM, hg, hF, hm, _ => by
    refine ⟨S, ?_, OfL.rf S, fun j hj => hF j (by omega)⟩
    rw [f_X12_still_23, if_pos (show (40 : Int32) < nI m from nI_lt (a := 40) (by omega) (by omega))]
  | d + 1, m, n + 1, S, hM, hg, hF, hm, hn => by
    obtain ⟨S', k1, k2, k3⟩ := still_l hgl d (m + 1) n (sJ S 335 m (lN (st0 gl m))) (ofL_J.mc hM) hg (fun j hj => by
      rw [sJ_at]
      by_cases q : j = m
      · rw [if_pos q, q]
      · rw [if_neg q]
        exact hF j (by omega)) (by omega) (by omega)
    refine ⟨S', ?_, ofL_J.tr k2, k3⟩
    rw [f_X12_still_23, if_neg (show ¬ (40 : Int32) < nI m from nI_nlt (a := 40) (by omega) (by omega)), r_313_48 hM.1, k_313 hM.1, hM.of 5 5 rfl (by decide), b1_s, hg]
    unfold f_X12_still_48
    rw [q_335 hM.1 (by omega), q_335 hM.1 (by omega), nI_1]
    by_cases q : m = gl
    · rw [if_pos (by rw [q])]
      rw [show lN (st0 gl m) = 1 by unfold st0; rw [if_pos q]; rfl] at k1
      exact k1
    · rw [if_neg (by rw [nI_eq (by omega) (by omega)]; exact q)]
      rw [show lN (st0 gl m) = 0 by unfold st0; rw [if_neg q]; rfl] at k1
      exact k1
theorem Mc.pI {v : Int32} {i : Nat} (hM : Mc S c) (hi : 27 < i) : Mc (sI S 313 i v) c := by
  obtain ⟨h1, h2, h3, h4, h5⟩ := hM
  refine ⟨h1, h2, ?_, ?_, ?_⟩
  · rw [sI_at, if_neg (by omega)]; exact h3
  · rw [sI_at, if_neg (by omega)]; exact h4
  · rw [sI_at, if_neg (by omega)]; exact h5
theorem Wm.pI {v : Int32} {i : Nat} (hM : Wm S c w) (hi : 27 < i) : Wm (sI S 313 i v) c w := ⟨hM.1.pI hi, hM.2⟩
theorem still_v {gl : Nat} (hM : Wm S c w) (hgl : gl ≤ 40) (hg : S.1 319 (69 * c + 5) = nI gl) : ∃ S', f_X12_still 313 S = some S' ∧ OfL (sI S 313 50 (nI (sw w))) S' ∧ Nw S' 335 (st0 gl) := by
  obtain ⟨S', k1, k2, k3⟩ := still_l hgl 41 0 fu (sI S 313 50 (nI (sw w))) (hM.1.pI (by decide)) hg (fun j hj => absurd hj (Nat.not_lt_zero _)) (by omega) (by unfold fu; omega)
  refine ⟨S', ?_, k2, k3⟩
  unfold f_X12_still
  rw [k_313 hM.1.1, hM.of 0 0 rfl (by decide), b1_s, k_313 hM.1.1, hM.of 1 1 rfl (by decide), b1_s, k_313 hM.1.1, hM.of 2 2 rfl (by decide), b1_s, nI_add, nI_add, p_313 hM.1.1]
  exact k1
theorem blowM_2 : ∀ (d j n : Nat) (S : GS), Wr S → (∀ i, i < j → S.2.1 336 i = 0) → j + d = 41 → d < n → ∃ S', f_X12_blows_2 313 n (nI j) S = f_X12_blows_23 313 fu 0 S' ∧ OfJ 336 S S' ∧ ∀ i, i < 41 → S'.2.1 336 i = 0
  | _, _, 0, _, _, _, _, hn => absurd hn (Nat.not_lt_zero _)
  | 0, j, n + 1, S, hW, h0, hj, _ => by
    refine ⟨S, ?_, OfJ.rf _ _, fun i hi => h0 i (by omega)⟩
    rw [f_X12_blows_2, if_pos (show (40 : Int32) < nI j from nI_lt (a := 40) (by omega) (by omega))]
  | d + 1, j, n + 1, S, hW, h0, hj, hn => by
    obtain ⟨S', k1, k2, k3⟩ := blowM_2 d (j + 1) n (sJ S 336 j 0) hW (fun i hi => by
      rw [sJ_at]
      by_cases q : i = j
      · rw [if_pos q]
      · rw [if_neg q]
        exact h0 i (by omega)) (by omega) (by omega)
    refine ⟨S', ?_, ofJ_J.tr k2, k3⟩
    rw [f_X12_blows_2, if_neg (show ¬ (40 : Int32) < nI j from nI_nlt (a := 40) (by omega) (by omega)), r_313_49 hW, q_336 hW (by omega), nI_1, k1]
theorem blowM_31 {K : Int32 → GS → Option GS} {m : Nat} (hm : m < 41) : ∀ (d g n : Nat) (S : GS) (G : Nat → Nat), Wm S c w → S.2.1 335 m = lN (F m) → Nw S 336 G → g + d = 3 → d < n → ∃ S', f_X12_blows_31 K 313 n (nI m) (nI g) S = K (nI (m + 1)) S' ∧ OfJ 336 S S' ∧ Nw S' 336 (guN w F m d g G)
  | _, _, 0, _, _, _, _, _, _, hn => absurd hn (Nat.not_lt_zero _)
  | 0, g, n + 1, S, G, hM, h1, h2, hg, _ => by
    refine ⟨S, ?_, OfJ.rf _ _, h2⟩
    rw [f_X12_blows_31, if_pos (show (3 : Int32) ≤ nI g from nI_le (a := 3) (by omega) (by omega)), nI_1]
  | d + 1, g, n + 1, S, G, hM, h1, h2, hg, hn => by
    have hW := hM.1.1
    have e2 := (hM.2 g (by omega)).2
    generalize hS1 : sJ S 336 (afN m g) (lN (G (afN m g) + F m * w g)) = S1
    have o1 : OfJ 336 S S1 := by rw [← hS1]; exact ofJ_J
    obtain ⟨S', g1, g2, g3⟩ := blowM_31 hm (K := K) d (g + 1) n S1 (addN G (afN m g) (F m * w g)) (o1.l.wm hM) (by rw [o1.2.2 335 (by decide)]; exact h1) (fun j hj => by
      rw [← hS1, sJ_at]
      unfold addN
      by_cases z : j = afN m g
      · rw [if_pos z, if_pos z, z]
      · rw [if_neg z, if_neg z]
        exact h2 j hj) (by omega) (by omega)
    refine ⟨S', ?_, o1.tr g2, g3⟩
    rw [f_X12_blows_31, if_neg (show ¬ (3 : Int32) ≤ nI g from nI_ge (b := 3) (by omega) (by omega)), r_313_49 hW, k_313 hW, after_v hm (by omega), b1_s, y_336 hW (afN_lt _ _), h2 _ (afN_lt _ _), r_313_48 hW, y_335 hW hm, h1, k_313 hW, hM.of (nI g) g rfl (by omega), b1_s, wt_l (by omega), lN_mul, lN_add, q_336 hW (afN_lt _ _), hS1, nI_1, g1]
theorem blowM_77 : ∀ (d j n : Nat) (S : GS) (G : Nat → Nat), Wr S → (∀ i, i < j → S.2.1 335 i = lN (G i)) → Nw S 336 G → j + d = 41 → d < n → ∃ S', f_X12_blows_77 313 n (nI j) S = some S' ∧ OfJ 335 S S' ∧ Nw S' 335 G
  | _, _, 0, _, _, _, _, _, _, hn => absurd hn (Nat.not_lt_zero _)
  | 0, j, n + 1, S, G, hW, h0, h1, hj, _ => by
    refine ⟨S, ?_, OfJ.rf _ _, fun i hi => h0 i (by omega)⟩
    rw [f_X12_blows_77, if_pos (show (40 : Int32) < nI j from nI_lt (a := 40) (by omega) (by omega))]
  | d + 1, j, n + 1, S, G, hW, h0, h1, hj, hn => by
    obtain ⟨S', k1, k2, k3⟩ := blowM_77 d (j + 1) n (sJ S 335 j (lN (G j))) G hW (fun i hi => by
      rw [sJ_at]
      by_cases q : i = j
      · rw [if_pos q, q]
      · rw [if_neg q]
        exact h0 i (by omega)) (fun i hi => by rw [sJ_o (by decide)]; exact h1 i hi) (by omega) (by omega)
    refine ⟨S', ?_, ofJ_J.tr k2, k3⟩
    rw [f_X12_blows_77, if_neg (show ¬ (40 : Int32) < nI j from nI_nlt (a := 40) (by omega) (by omega)), r_313_48 hW, r_313_49 hW, y_336 hW (by omega), h1 j (by omega), q_335 hW (by omega), nI_1, k1]
theorem blowM_23 : ∀ (d m n : Nat) (S : GS) (G : Nat → Nat), Wm S c w → Nw S 335 F → Nw S 336 G → m + d = 41 → d < n → ∃ S', f_X12_blows_23 313 n (nI m) S = some S' ∧ OfL S S' ∧ Nw S' 335 (blN w F d m G)
  | _, _, 0, _, _, _, _, _, _, hn => absurd hn (Nat.not_lt_zero _)
  | 0, m, n + 1, S, G, hM, h1, h2, hm, _ => by
    obtain ⟨S', k1, k2, k3⟩ := blowM_77 41 0 fu S G hM.1.1 (fun i hi => absurd hi (Nat.not_lt_zero _)) h2 (by omega) (by unfold fu; omega)
    refine ⟨S', ?_, k2.l, k3⟩
    rw [f_X12_blows_23, if_pos (show (40 : Int32) < nI m from nI_lt (a := 40) (by omega) (by omega))]
    exact k1
  | d + 1, m, n + 1, S, G, hM, h1, h2, hm, hn => by
    obtain ⟨S1, g1, g2, g3⟩ := blowM_31 (F := F) (m := m) (by omega) (K := f_X12_blows_23 313 n) 3 0 fu S G hM (h1 m (by omega)) h2 (by omega) (by unfold fu; omega)
    obtain ⟨S', k1, k2, k3⟩ := blowM_23 d (m + 1) n S1 (guN w F m 3 0 G) (g2.l.wm hM) (fun j hj => by rw [g2.2.2 335 (by decide)]; exact h1 j hj) g3 (by omega) (by omega)
    refine ⟨S', ?_, g2.l.tr k2, k3⟩
    rw [f_X12_blows_23, if_neg (show ¬ (40 : Int32) < nI m from nI_nlt (a := 40) (by omega) (by omega)), show f_X12_blows_31 (f_X12_blows_23 313 n) 313 fu (nI m) 0 S = _ from g1, k1]
theorem blowM (hM : Wm S c w) (h1 : Nw S 335 F) : ∃ S', f_X12_blows 313 S = some S' ∧ OfL S S' ∧ Nw S' 335 (blow w F) := by
  obtain ⟨S1, g1, g2, g3⟩ := blowM_2 41 0 fu S hM.1.1 (fun i hi => absurd hi (Nat.not_lt_zero _)) (by omega) (by unfold fu; omega)
  obtain ⟨S', k1, k2, k3⟩ := blowM_23 (F := F) 41 0 fu S1 (fun _ => 0) (g2.l.wm hM) (fun j hj => by rw [g2.2.2 335 (by decide)]; exact h1 j hj) (fun j hj => g3 j hj) (by omega) (by unfold fu; omega)
  exact ⟨S', g1.trans k1, g2.l.tr k2, k3⟩
theorem reachM_n {mark nn : Nat} {x5 : Int32} (hm : mark < 41) (hnn : nn ≤ 9) : ∀ (d k n : Nat) (S : GS) (F : Nat → Nat) (v : Int64), Wm S c w → S.1 313 50 = nI (sw w) → Nw S 335 F → k + d = nn → d + 1 < n → ∃ S', f_X12_reach_50 313 n (nI mark) (nI nn) 0 x5 v (lN (sw w ^ k)) (nI k) S = f_X12_reach_131 313 x5 (lN (sw w ^ nn)) (lN (itN w (fun _ => false) d F mark)) S' ∧ OfL S S'
  | _, _, 0, _, _, _, _, _, _, _, hn => absurd hn (Nat.not_lt_zero _)
  | _, _, 1, _, _, _, _, _, _, _, hn => absurd hn (by omega)
  | 0, k, n + 2, S, F, v, hM, h5, hF, hk, _ => by
    refine ⟨S, ?_, OfL.rf S⟩
    rw [f_X12_reach_50, if_neg (nI_nlt (by omega) (by omega)), if_pos rfl]
    unfold f_X12_reach_79 f_X12_reach_109
    rw [if_pos (nI_le (by omega) (by omega)), nI_1, f_X12_reach_50, if_pos (nI_lt (by omega) (by omega)), if_pos rfl, r_313_48 hM.1.1, y_335 hM.1.1 hm, hF _ hm, show k = nn by omega]
    rfl
  | d + 1, k, n + 2, S, F, v, hM, h5, hF, hk, hn => by
    obtain ⟨S1, g1, g2, g3⟩ := blowM hM hF
    have hM1 := g2.wm hM
    have h51 : S1.1 313 50 = nI (sw w) := by rw [g2.1]; exact h5
    obtain ⟨S', k1, k2⟩ := reachM_n hm hnn (x5 := x5) d (k + 1) (n + 1) S1 (blow w F) (v * lN (sw w)) hM1 h51 g3 (by omega) (by omega)
    refine ⟨S', ?_, g2.tr k2⟩
    rw [f_X12_reach_50, if_neg (nI_nlt (by omega) (by omega)), if_pos rfl]
    unfold f_X12_reach_79 f_X12_reach_109
    rw [if_neg (nI_ge (by omega) (by omega)), k_313 hM.1.1, g1, b1_s, i_313 hM1.1.1, i_313 hM1.1.1, h51, wt_l hM.le, lN_mul, ← Nat.pow_succ, nI_1, k1]
    show _ = f_X12_reach_131 313 x5 _ (lN (itN w _ d (stN _ (blow w F)) mark)) S'
    rw [st_no]
theorem isM_sum (F : Nat → Nat) {m : Nat} (hm : m < 41) : sumN (stN (isM m) F) 41 + F m = sumN F 41 := by
  have h1 := st_sum (isM m) F 41
  have h2 : sumN (cutN (isM m) F) 41 = F m := by
    have e : cutN (isM m) F = addN (fun _ => 0) m (F m) := by
      funext j
      unfold cutN isM addN
      by_cases q : j = m
      · rw [if_pos (by rw [q]; exact beq_self_eq_true m), if_pos q, q, Nat.zero_add]
      · rw [if_neg (fun z => q (eq_of_beq z)), if_neg q]
    rw [e, sumN_add 41 hm, sumN_0, Nat.zero_add]
  omega
theorem Nw.strikeM {m : Nat} (h : Nw S 335 F) : Nw (sJ S 335 m 0) 335 (stN (isM m) F) := fun j hj => by
  rw [sJ_at]
  unfold stN isM
  by_cases q : j = m
  · rw [if_pos q, if_pos (by rw [q]; exact beq_self_eq_true m)]
    rfl
  · rw [if_neg q, if_neg (fun z => q (eq_of_beq z))]
    exact h j hj
theorem reachM_e {mark nn : Nat} {x4 x5 : Int32} (h4 : ¬ x4 = 0) (hm : mark < 41) (hnn : nn ≤ 9) : ∀ (d k n : Nat) (S : GS) (F : Nat → Nat) (v : Nat), Wm S c w → S.1 313 50 = nI (sw w) → Nw S 335 F → v + sumN F 41 = sw w ^ k → k + d = nn → d + 1 < n → ∃ S', f_X12_reach_50 313 n (nI mark) (nI nn) x4 x5 (lN v) (lN (sw w ^ k)) (nI k) S = f_X12_reach_131 313 x5 (lN (sw w ^ nn)) (lN (sw w ^ nn - sumN (itN w (isM mark) d (stN (isM mark) F)) 41)) S' ∧ OfL S S'
  | _, _, 0, _, _, _, _, _, _, _, _, hn => absurd hn (Nat.not_lt_zero _)
  | _, _, 1, _, _, _, _, _, _, _, _, hn => absurd hn (by omega)
  | 0, k, n + 2, S, F, v, hM, h5, hF, hv, hk, _ => by
    have hW := hM.1.1
    have hq := isM_sum F hm
    refine ⟨sJ S 335 mark 0, ?_, ofL_J⟩
    rw [f_X12_reach_50, if_neg (nI_nlt (by omega) (by omega)), if_neg h4, r_313_48 hW, y_335 hW hm, hF _ hm, r_313_48 hW, q_335 hW hm]
    unfold f_X12_reach_79 f_X12_reach_109
    rw [if_pos (nI_le (by omega) (by omega)), nI_1, f_X12_reach_50, if_pos (nI_lt (by omega) (by omega)), if_neg h4, lN_add, show nn = k by omega]
    show f_X12_reach_131 313 x5 _ (lN (v + F mark)) _ = f_X12_reach_131 313 x5 _ (lN (sw w ^ k - sumN (stN (isM mark) F) 41)) _
    rw [show v + F mark = sw w ^ k - sumN (stN (isM mark) F) 41 by omega]
  | d + 1, k, n + 2, S, F, v, hM, h5, hF, hv, hk, hn => by
    have hW := hM.1.1
    have hq := isM_sum F hm
    obtain ⟨S1, g1, g2, g3⟩ := blowM (S := sJ S 335 mark 0) (w := w) (c := c) (ofL_J.wm hM) (hF.strikeM (m := mark))
    have hM1 := g2.wm (ofL_J.wm hM)
    have h51 : S1.1 313 50 = nI (sw w) := by rw [g2.1]; exact h5
    obtain ⟨S', k1, k2⟩ := reachM_e h4 hm hnn (x5 := x5) d (k + 1) (n + 1) S1 (blow w (stN (isM mark) F)) ((v + F mark) * sw w) hM1 h51 g3 (by
      rw [blow_sum, Nat.pow_succ, ← Nat.add_mul]
      congr 1
      omega) (by omega) (by omega)
    refine ⟨S', ?_, ofL_J.tr (g2.tr k2)⟩
    rw [f_X12_reach_50, if_neg (nI_nlt (by omega) (by omega)), if_neg h4, r_313_48 hW, y_335 hW hm, hF _ hm, r_313_48 hW, q_335 hW hm]
    unfold f_X12_reach_79 f_X12_reach_109
    rw [if_neg (nI_ge (by omega) (by omega)), k_313 (S := sJ S 335 mark 0) hW, g1, b1_s, i_313 hM1.1.1, i_313 hM1.1.1, h51, wt_l hM.le, lN_add, lN_mul, lN_mul, ← Nat.pow_succ, nI_1, k1]
    rfl
theorem dropM_81 {K : Int32 → Int32 → Int32 → Int64 → Int64 → Int32 → GS → Option (Int64 × GS)} {x3 x4 : Int32} {x7 : Int64} {k v : Nat} : ∀ (d m n : Nat) (S : GS), Mc S c → Lm S c l bu fa he la → Nw S 335 (hsN (noS bu fa he la) F m) → m + d = 41 → d < n → ∃ S', f_X12_drop_81 K 313 n (nI l) x3 x4 (lN (v + sumN (cutN (noS bu fa he la) F) m)) x7 (nI k) (nI m) S = K (nI l) x3 x4 (lN (v + sumN (cutN (noS bu fa he la) F) 41)) x7 (nI (k + 1)) S' ∧ OfL S S' ∧ Nw S' 335 (stN (noS bu fa he la) F)
  | _, _, 0, _, _, _, _, _, hn => absurd hn (Nat.not_lt_zero _)
  | 0, m, n + 1, S, hM, hL, hF, hm, _ => by
    refine ⟨S, ?_, OfL.rf S, fun j hj => by rw [hF j hj, hs_lt (by omega)]⟩
    rw [f_X12_drop_81, if_pos (show (40 : Int32) < nI m from nI_lt (a := 40) (by omega) (by omega)), nI_1, show m = 41 by omega]
  | d + 1, m, n + 1, S, hM, hL, hF, hm, hn => by
    have hW := hM.1
    by_cases q : sd bu fa he la (nI m) = true
    · have hp : noS bu fa he la m = false := by show (!sd bu fa he la (nI m)) = false; rw [q]; rfl
      obtain ⟨S', k1, k2, k3⟩ := dropM_81 (K := K) (x3 := x3) (x4 := x4) (x7 := x7) (k := k) (v := v) d (m + 1) n S hM hL (fun j hj => by rw [hs_n hp]; exact hF j hj) (by omega) (by omega)
      refine ⟨S', ?_, k2, k3⟩
      have e : sumN (cutN (noS bu fa he la) F) (m + 1) = sumN (cutN (noS bu fa he la) F) m := by
        show _ + (if noS bu fa he la m = true then F m else 0) = _
        rw [if_neg (by rw [hp]; exact Bool.false_ne_true), Nat.add_zero]
      rw [e] at k1
      rw [f_X12_drop_81, if_neg (show ¬ (40 : Int32) < nI m from nI_nlt (a := 40) (by omega) (by omega)), k_313 hW, hL.lace hM, b1_s, k_313 hW, hL.stands hM, b1_s, q, if_neg (show ¬ bi true = 0 by decide)]
      unfold f_X12_drop_124
      rw [nI_1, k1]
    · have q2 : sd bu fa he la (nI m) = false := Bool.eq_false_iff.mpr q
      have hp : noS bu fa he la m = true := by show (!sd bu fa he la (nI m)) = true; rw [q2]; rfl
      obtain ⟨S', k1, k2, k3⟩ := dropM_81 (K := K) (x3 := x3) (x4 := x4) (x7 := x7) (k := k) (v := v) d (m + 1) n (sJ S 335 m 0) (ofL_J.mc hM) (ofL_J.lm hL) (hF.hs hp) (by omega) (by omega)
      refine ⟨S', ?_, ofL_J.tr k2, k3⟩
      have e : sumN (cutN (noS bu fa he la) F) (m + 1) = sumN (cutN (noS bu fa he la) F) m + F m := by
        show _ + (if noS bu fa he la m = true then F m else 0) = _
        rw [if_pos hp]
      rw [e, ← Nat.add_assoc] at k1
      have hFm : S.2.1 335 m = lN (F m) := by rw [hF m (by omega), hs_ge (Nat.lt_irrefl m)]
      rw [f_X12_drop_81, if_neg (show ¬ (40 : Int32) < nI m from nI_nlt (a := 40) (by omega) (by omega)), k_313 hW, hL.lace hM, b1_s, k_313 hW, hL.stands hM, b1_s, q2, if_pos (show bi false = 0 from rfl), r_313_48 hW, y_335 hW (by omega), hFm, r_313_48 hW, q_335 hW (by omega)]
      unfold f_X12_drop_124
      rw [lN_add, nI_1, k1]
theorem dropM {nn : Nat} {x4 : Int32} (hnn : nn ≤ 9) : ∀ (d k n : Nat) (S : GS) (F : Nat → Nat) (v : Nat), Wm S c w → Lm S c l bu fa he la → S.1 313 50 = nI (sw w) → Nw S 335 F → v + sumN F 41 = sw w ^ k → k + d = nn → d < n → ∃ S', f_X12_drop_48 313 n (nI l) (nI nn) x4 (lN v) (lN (sw w ^ k)) (nI k) S = b1 (f_X12_terms (lN (sw w ^ nn - sumN (itN w (noS bu fa he la) d F) 41)) (lN (sw w ^ nn)) x4 S') (fun v => some (v, S')) ∧ OfL S S'
  | _, _, 0, _, _, _, _, _, _, _, _, _, hn => absurd hn (Nat.not_lt_zero _)
  | 0, k, n + 1, S, F, v, hM, hL, h5, hF, hv, hk, _ => by
    refine ⟨S, ?_, OfL.rf S⟩
    rw [f_X12_drop_48, if_pos (nI_le (by omega) (by omega)), show nn = k by omega]
    show _ = b1 (f_X12_terms (lN (sw w ^ k - sumN F 41)) _ x4 S) _
    rw [show v = sw w ^ k - sumN F 41 by omega]
  | d + 1, k, n + 1, S, F, v, hM, hL, h5, hF, hv, hk, hn => by
    obtain ⟨S1, g1, g2, g3⟩ := blowM hM hF
    have hM1 := g2.wm hM
    have h51 : S1.1 313 50 = nI (sw w) := by rw [g2.1]; exact h5
    obtain ⟨S2, r1, r2, r3⟩ := dropM_81 (F := blow w F) (K := f_X12_drop_48 313 n) (x3 := nI nn) (x4 := x4) (x7 := lN (sw w ^ (k + 1))) (k := k) (v := v * sw w) 41 0 fu S1 hM1.1 (g2.lm hL) (fun j hj => by rw [hs_ge (Nat.not_lt_zero j)]; exact g3 j hj) (by omega) (by unfold fu; omega)
    have hs := st_sum (noS bu fa he la) (blow w F) 41
    rw [blow_sum] at hs
    obtain ⟨S', k1, k2⟩ := dropM hnn (x4 := x4) d (k + 1) n S2 (stN (noS bu fa he la) (blow w F)) (v * sw w + sumN (cutN (noS bu fa he la) (blow w F)) 41) (r2.wm hM1) (r2.lm (g2.lm hL)) (by rw [r2.1]; exact h51) r3 (by
      have e : sw w ^ (k + 1) = v * sw w + sumN F 41 * sw w := by rw [Nat.pow_succ, ← hv, Nat.add_mul]
      rw [e]
      show _ = v * sw w + sumN F 41 * (w 0 + w 1 + w 2)
      omega) (by omega) (by omega)
    refine ⟨S', ?_, g2.tr (r2.tr k2)⟩
    rw [f_X12_drop_48, if_neg (nI_ge (by omega) (by omega)), k_313 hM.1.1, g1, b1_s, i_313 hM1.1.1, i_313 hM1.1.1, h51, wt_l hM.le, lN_mul, lN_mul, ← Nat.pow_succ, show f_X12_drop_81 (f_X12_drop_48 313 n) 313 fu (nI l) (nI nn) x4 (lN (v * sw w)) (lN (sw w ^ (k + 1))) (nI k) 0 S1 = _ from r1, k1]
    rfl
end OE
