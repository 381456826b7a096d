/-! odds: the class -/
section OD
variable {S S' : GS} {co l : Nat} {w F : Nat → Nat} {bu fa he la : Int32}
/-- a court's wind -/
def Wd (S : GS) (co : Nat) (w : Nat → Nat) : Prop := gk S co = 0 ∧ S.2.2.1 co 3 = some (co + 7) ∧ gk S (co + 7) = 14 ∧ ln (co + 7) = 3 ∧ ∀ g, g < 3 → S.1 (co + 7) g = nI (w g) ∧ w g ≤ 9
theorem OfL.wd (h : OfL S S') (hC : Wd S co w) : Wd S' co w := by
  unfold Wd
  rw [h.gkE, h.gkE, h.1, h.2]
  exact hC
abbrev sw (w : Nat → Nat) : Nat := w 0 + w 1 + w 2
/-- the marks' weights now -/
def Nw (S : GS) (a : Nat) (F : Nat → Nat) : Prop := ∀ j, j < 41 → S.2.1 a j = lN (F j)
theorem wt_l {x : Nat} (h : x ≤ 27) : (nI x).toInt64 = lN x := nI_l (by omega)
theorem markAfter_v {m g : Nat} (hm : m < 41) (hg : g < 3) : f_X0_markAfter co (nI m) (nI g) S = some (nI (afN m g)) := congrArg some (af_k m hm g hg)
theorem blowC_18 {K : Option Nat → Int32 → GS → Option GS} {m : Nat} (hm : m < 41) : ∀ (d g n : Nat) (S : GS) (G : Nat → Nat), Wr S → Wd S co w → S.2.1 269 m = lN (F m) → Nw S 270 G → g + d = 3 → d < n → ∃ S', f_X4_blow_18 K 268 n (some co) (nI m) (nI g) S = K (some co) (nI (m + 1)) S' ∧ OfJ 270 S S' ∧ Nw S' 270 (guN w F m d g G)
  | _, _, 0, _, _, _, _, _, _, _, hn => absurd hn (Nat.not_lt_zero _)
  | 0, g, n + 1, S, G, hW, hC, h1, h2, hg, _ => by
    refine ⟨S, ?_, OfJ.rf _ _, h2⟩
    unfold f_X4_blow_18 f_X4_blow_68
    rw [if_pos (show (3 : Int32) ≤ nI g from nI_le (a := 3) (by omega) (by omega)), nI_1]
  | d + 1, g, n + 1, S, G, hW, hC, h1, h2, hg, hn => by
    by_cases q : lN (F m) = 0
    · refine ⟨S, ?_, OfJ.rf _ _, fun j hj => by rw [gu_zero q]; exact h2 j hj⟩
      unfold f_X4_blow_18 f_X4_blow_68
      rw [if_neg (show ¬ (3 : Int32) ≤ nI g from nI_ge (b := 3) (by omega) (by omega)), r_268_0 hW, y_269 hW hm, h1, if_pos ((lg_cmp_eq _ _).mpr q), nI_1]
    · obtain ⟨c0, c1, c2, c3, c4⟩ := id hC
      obtain ⟨e1, e2⟩ := c4 g (by omega)
      generalize hS1 : sJ S 270 (afN m g) (lN (G (afN m g) + F m * w g)) = S1
      have o1 : OfJ 270 S S1 := by rw [← hS1]; exact ofJ_J
      obtain ⟨S', g1, g2, g3⟩ := blowC_18 hm (K := K) d (g + 1) n S1 (addN G (afN m g) (F m * w g)) (o1.wr hW) (o1.l.wd hC) (by rw [o1.2.2 269 (by decide)]; exact h1) (fun j hj => by
        rw [← hS1, sJ_at]
        unfold addN
        by_cases z : j = afN m g
        · rw [if_pos z, if_pos z, z]
        · rw [if_neg z, if_neg z]
          exact h2 j hj) (by omega) (by omega)
      refine ⟨S', ?_, o1.tr g2, g3⟩
      rw [f_X4_blow_18, if_neg (show ¬ (3 : Int32) ≤ nI g from nI_ge (b := 3) (by omega) (by omega)), r_268_0 hW, y_269 hW hm, h1, if_neg (fun z => q ((lg_cmp_eq _ _).mp z)), r_268_1 hW, c1_s c0, markAfter_v hm (by omega), b1_s, y_270 hW (afN_lt _ _), h2 _ (afN_lt _ _), r_268_0 hW, y_269 hW hm, h1, xR_s c0, c1, yI_n c2 (by rw [c3]; omega) (by omega), e1, wt_l (by omega), lN_mul, lN_add, q_270 hW (afN_lt _ _), hS1, nI_1, g1]
theorem acJ_v (hW : Wr S) {g : GS → Option GS} : acJ (some 270) 0 (some 269) 0 41 S g = g (sCJ S 270 269 0 0 41) := by
  unfold acJ
  rw [rn_s (gk_n (c := 15) hW (by decide) rfl), rn_s (gk_n (c := 15) hW (by decide) rfl), if_neg (by decide +kernel)]
  rfl
theorem blowC_10 : ∀ (d m n : Nat) (S : GS) (G : Nat → Nat), Wr S → Wd S co w → Nw S 269 F → Nw S 270 G → m + d = 41 → d < n → ∃ S', f_X4_blow_10 268 n (some co) (nI m) S = some S' ∧ OfL S S' ∧ Nw S' 269 (blN w F d m G)
  | _, _, 0, _, _, _, _, _, _, _, hn => absurd hn (Nat.not_lt_zero _)
  | 0, m, n + 1, S, G, hW, hC, h1, h2, hm, _ => by
    refine ⟨sCJ S 270 269 0 0 41, ?_, ⟨rfl, rfl⟩, fun j hj => ?_⟩
    · rw [f_X4_blow_10, if_pos (show (40 : Int32) < nI m from nI_lt (a := 40) (by omega) (by omega)), r_268_1 hW, r_268_0 hW, acJ_v hW]
    · show (if 269 = 269 then (if 0 ≤ j ∧ j < 0 + 41 then S.2.1 270 (0 + (j - 0)) else S.2.1 269 j) else S.2.1 269 j) = _
      rw [if_pos rfl, if_pos (by omega), Nat.zero_add, Nat.sub_zero]
      exact h2 j hj
  | d + 1, m, n + 1, S, G, hW, hC, h1, h2, hm, hn => by
    obtain ⟨S1, g1, g2, g3⟩ := blowC_18 (F := F) (m := m) (by omega) (K := f_X4_blow_10 268 n) 3 0 fu S G hW hC (h1 m (by omega)) h2 (by omega) (by unfold fu; omega)
    obtain ⟨S', k1, k2, k3⟩ := blowC_10 d (m + 1) n S1 (guN w F m 3 0 G) (g2.wr hW) (g2.l.wd hC) (fun j hj => by rw [g2.2.2 269 (by decide)]; exact h1 j hj) g3 (by omega) (by omega)
    refine ⟨S', ?_, g2.l.tr k2, k3⟩
    rw [f_X4_blow_10, if_neg (show ¬ (40 : Int32) < nI m from nI_nlt (a := 40) (by omega) (by omega)), show f_X4_blow_18 (f_X4_blow_10 268 n) 268 fu (some co) (nI m) 0 S = _ from g1, k1]
theorem blowC (hW : Wr S) (hC : Wd S co w) (h1 : Nw S 269 F) : ∃ S', f_X4_blow 268 (some co) S = some S' ∧ OfL S S' ∧ Nw S' 269 (blow w F) := by
  obtain ⟨S1, g1, g2, g3⟩ := fillJ_v (S := S) (a := 270) 0 (N := 41) rfl (by decide) (gk_n hW (by decide) rfl)
  obtain ⟨S', k1, k2, k3⟩ := blowC_10 (F := F) 41 0 fu S1 (fun _ => 0) (g2.wr hW) (g2.l.wd hC) (fun j hj => by rw [g2.2.2 269 (by decide)]; exact h1 j hj) (fun j hj => g3 j hj) (by omega) (by unfold fu; omega)
  refine ⟨S', ?_, g2.l.tr k2, k3⟩
  unfold f_X4_blow
  rw [r_268_1 hW, g1, b1_s]
  exact k1
def st0 (gl : Nat) : Nat → Nat := fun m => if m = gl then 1 else 0
theorem st0_sum {gl : Nat} : ∀ n, sumN (st0 gl) n = if gl < n then 1 else 0
  | 0 => rfl
  | n + 1 => by
    show sumN (st0 gl) n + (if n = gl then 1 else 0) = _
    rw [st0_sum n]
    by_cases q : gl < n
    · rw [if_pos q, if_neg (by omega), if_pos (by omega)]
    · rw [if_neg q]
      by_cases z : n = gl
      · rw [if_pos z, if_pos (by omega)]
      · rw [if_neg z, if_neg (by omega)]
theorem beginC {gl : Nat} (hW : Wr S) (hc : gk S co = 0) (hg : S.1 co 6 = nI gl) (hl : gl ≤ 40) : ∃ S', f_X4_begin 268 (some co) S = some S' ∧ OfL S S' ∧ Nw S' 269 (st0 gl) := by
  obtain ⟨S1, g1, g2, g3⟩ := fillJ_v (S := S) (a := 269) 0 (N := 41) rfl (by decide) (gk_n hW (by decide) rfl)
  have hW1 := g2.wr hW
  have e1 : S1.1 co 6 = nI gl := by rw [g2.1]; exact hg
  refine ⟨sJ S1 269 gl 1, ?_, g2.l.tr ofL_J, fun j hj => ?_⟩
  · unfold f_X4_begin
    rw [r_268_0 hW, g1, b1_s, xI_s (by rw [g2.l.gkE]; exact hc), e1, isMark_q (S' := S1), show f_X12_in (nI gl) 0 40 S1 = some 1 from in_y (a := 0) (b := 40) (by omega) hl (by omega), b1_s, if_neg n10, r_268_0 hW1, xI_s (by rw [g2.l.gkE]; exact hc), e1, q_269 hW1 (by omega)]
  · rw [sJ_at, g3 j hj]
    unfold st0
    split <;> rfl
theorem power_v {W nn : Nat} (hn31 : nn < 2 ^ 31) : ∀ (d k n x : Nat), k + d = nn → d < n → f_X4_power_5 S n (lN W) (nI nn) (lN x) (nI k) = some (lN (x * W ^ d))
  | _, _, 0, _, _, hn => absurd hn (Nat.not_lt_zero _)
  | 0, k, n + 1, x, hk, _ => by
    rw [f_X4_power_5, if_pos (nI_le (by omega) (by omega)), Nat.pow_zero, Nat.mul_one]
  | d + 1, k, n + 1, x, hk, hn => by
    rw [f_X4_power_5, if_neg (nI_ge (by omega) (by omega)), lN_mul, nI_1, power_v hn31 d (k + 1) n (x * W) (by omega) (by omega), Nat.pow_succ, Nat.mul_assoc, Nat.mul_comm W]
theorem powerC {W nn : Nat} (h : nn ≤ 9) : f_X4_power (lN W) (nI nn) S = some (lN (W ^ nn)) := by
  have := power_v (S := S) (W := W) (nn := nn) (by omega) nn 0 fu 1 (by omega) (by unfold fu; omega)
  rw [Nat.one_mul] at this
  exact this
theorem allWC (hC : Wd S co w) : f_X0_allWeights co S = some (nI (sw w)) := by
  obtain ⟨c0, c1, c2, c3, c4⟩ := hC
  unfold f_X0_allWeights
  rw [xR_s c0, c1, show yI (some (co + 7)) 14 0 S _ = _ from yI_n (k := 0) c2 (by rw [c3]; decide) (by decide), xR_s c0, c1, show yI (some (co + 7)) 14 1 S _ = _ from yI_n (k := 1) c2 (by rw [c3]; decide) (by decide), xR_s c0, c1, show yI (some (co + 7)) 14 2 S _ = _ from yI_n (k := 2) c2 (by rw [c3]; decide) (by decide), (c4 0 (by decide)).1, (c4 1 (by decide)).1, (c4 2 (by decide)).1, nI_add, nI_add]
theorem Wd.le (hC : Wd S co w) : sw w ≤ 27 := by
  have h0 := (hC.2.2.2.2 0 (by decide)).2
  have h1 := (hC.2.2.2.2 1 (by decide)).2
  have h2 := (hC.2.2.2.2 2 (by decide)).2
  show w 0 + w 1 + w 2 ≤ 27
  omega
theorem pow43 {W n : Nat} (h : W ≤ 27) (hn : n ≤ 9) : W ^ n < 2 ^ 43 :=
  Nat.lt_of_le_of_lt (Nat.le_trans (Nat.pow_le_pow_left h n) (Nat.pow_le_pow_right (by decide) hn)) (by decide)
/-- what the odds come to -/
def Od (S : GS) (a b : Nat) : Prop := S.2.1 268 2 = lN (a / Nat.gcd a b) ∧ S.2.1 268 3 = lN (b / Nat.gcd a b)
theorem setC {a b : Nat} (hW : Wr S) (ha : a < 2 ^ 43) (hb : b < 2 ^ 43) (h0 : 0 < b) : ∃ S', f_X4_setOdds 268 (lN a) (lN b) S = some S' ∧ OfL S S' ∧ Od S' a b := by
  have hg : 0 < Nat.gcd a b := Nat.gcd_pos_of_pos_right _ h0
  have hg2 : Nat.gcd a b ≤ b := Nat.gcd_le_right _ h0
  refine ⟨sJ (sJ S 268 2 (lN (a / Nat.gcd a b))) 268 3 (lN (b / Nat.gcd a b)), ?_, ofL_J.tr ofL_J, ?_, ?_⟩
  · unfold f_X4_setOdds f_X4_setOdds_23 f_X4_commonDivisor
    rw [show f_X4_commonDivisor_9 S fu (lN a) (lN b) 0 = _ from gcdC S 43 a b 0 fu (by omega) hb (by omega) (by omega) (by unfold fu; omega), b1_s, if_neg (by rw [lgt (by omega)]; omega), dzl, if_neg (by rw [lz2 (by omega)]; omega), pk_lDiv (by omega) hg (by omega), pj_268 hW, if_neg (by rw [lgt (by omega)]; omega), dzl, if_neg (by rw [lz2 (by omega)]; omega), pk_lDiv (by omega) hg (by omega), pj_268 (S := sJ S 268 2 _) hW]
  · rw [sJ_at, if_neg (by decide), sJ_at, if_pos rfl]
  · rw [sJ_at, if_pos rfl]
theorem then43 {x3 : Int32} {a nn : Nat} (hW : Wr S) (hC : Wd S co w) (hx : x3 = nI nn) (hn : nn ≤ 9) (h0 : 0 < sw w) (ha : a ≤ sw w ^ nn) : ∃ S', f_X4_thenAt_43 268 (some co) x3 (some 268) (lN a) S = some S' ∧ OfL S S' ∧ Od S' a (sw w ^ nn) := by
  subst hx
  have hp := pow43 hC.le hn
  obtain ⟨S', g1, g2, g3⟩ := setC (S := S) (a := a) (b := sw w ^ nn) hW (by omega) hp (Nat.pow_pos h0)
  refine ⟨S', ?_, g2, g3⟩
  unfold f_X4_thenAt_43
  rw [c1_s hC.1, allWC hC, b1_s, wt_l hC.le, powerC hn, b1_s, k_268 hW, g1, b1_s]
theorem thenC {mark nn : Nat} (hm : mark < 41) (hnn : nn ≤ 9) (h0 : 0 < sw w) : ∀ (d k n : Nat) (S : GS) (F : Nat → Nat), Wr S → Wd S co w → Nw S 269 F → sumN F 41 ≤ sw w ^ k → k + d = nn → d < n → ∃ S', f_X4_thenAt_8 268 n (some co) (nI mark) (nI nn) (nI k) S = some S' ∧ OfL S S' ∧ Od S' (itN w (fun _ => false) d F mark) (sw w ^ nn)
  | _, _, 0, _, _, _, _, _, _, _, hn => absurd hn (Nat.not_lt_zero _)
  | 0, k, n + 1, S, F, hW, hC, hF, hs, hk, _ => by
    have := sumN_le (F := F) 41 hm
    obtain ⟨S', g1, g2, g3⟩ := then43 (x3 := nI nn) (a := F mark) hW hC rfl hnn h0 (by rw [show nn = k by omega]; omega)
    refine ⟨S', ?_, g2, g3⟩
    rw [f_X4_thenAt_8, if_pos (nI_le (by omega) (by omega)), isMark_q (S' := S), show f_X12_in (nI mark) 0 40 S = some 1 from in_y (a := 0) (b := 40) (by omega) (by omega) (by omega), b1_s, if_neg n10, r_268_0 hW, y_269 hW hm, hF _ hm, g1]
  | d + 1, k, n + 1, S, F, hW, hC, hF, hs, hk, hn => by
    obtain ⟨S1, g1, g2, g3⟩ := blowC hW hC hF
    obtain ⟨S', k1, k2, k3⟩ := thenC hm hnn h0 d (k + 1) n S1 (blow w F) (g2.wr hW) (g2.wd hC) g3 (by
      rw [blow_sum, Nat.pow_succ]
      exact Nat.mul_le_mul_right _ hs) (by omega) (by omega)
    refine ⟨S', ?_, g2.tr k2, ?_⟩
    · rw [f_X4_thenAt_8, if_neg (nI_ge (by omega) (by omega)), k_268 hW, g1, b1_s, nI_1, k1]
    · show Od S' (itN w _ d (stN _ (blow w F)) mark) _
      rw [st_no]
      exact k3
theorem strikeC {m : Nat} (hW : Wr S) (hm : m < 41) : f_X4_strike 268 (nI m) S = some (sJ S 269 m 0) := by
  unfold f_X4_strike
  rw [isMark_q (S' := S), show f_X12_in (nI m) 0 40 S = some 1 from in_y (a := 0) (b := 40) (by omega) (by omega) (by omega), b1_s, if_neg n10, r_268_0 hW, q_269 hW hm]
theorem struck_l {b : Nat} (hW : Wr S) (hF : Nw S 269 F) (hb : b < 2 ^ 43) (h0 : 0 < b) (hs : sumN F 41 ≤ b) : ∀ (d k n : Nat), k + d = 41 → d < n → ∃ S', f_X4_setOddsOfStruck_5 268 n (lN b) (lN (sumN F k)) (nI k) S = some S' ∧ OfL S S' ∧ Od S' (b - sumN F 41) b
  | _, _, 0, _, hn => absurd hn (Nat.not_lt_zero _)
  | 0, k, n + 1, hk, _ => by
    obtain ⟨S', g1, g2, g3⟩ := setC (S := S) (a := b - sumN F 41) (b := b) hW (by omega) hb h0
    refine ⟨S', ?_, g2, g3⟩
    rw [f_X4_setOddsOfStruck_5, if_pos (show (40 : Int32) < nI k from nI_lt (a := 40) (by omega) (by omega)), show k = 41 by omega, lN_sub hs, k_268 hW, g1, b1_s]
  | d + 1, k, n + 1, hk, hn => by
    obtain ⟨S', g1, g2, g3⟩ := struck_l hW hF hb h0 hs d (k + 1) n (by omega) (by omega)
    refine ⟨S', ?_, g2, g3⟩
    rw [f_X4_setOddsOfStruck_5, if_neg (show ¬ (40 : Int32) < nI k from nI_nlt (a := 40) (by omega) (by omega)), r_268_0 hW, y_269 hW (by omega), hF _ (by omega), lN_add, nI_1]
    exact g1
theorem struckC {nn : Nat} (hW : Wr S) (hC : Wd S co w) (hF : Nw S 269 F) (hn : nn ≤ 9) (h0 : 0 < sw w) (hs : sumN F 41 ≤ sw w ^ nn) : ∃ S', f_X4_setOddsOfStruck 268 (lN (sw w ^ nn)) S = some S' ∧ OfL S S' ∧ Od S' (sw w ^ nn - sumN F 41) (sw w ^ nn) :=
  struck_l hW hF (pow43 hC.le hn) (Nat.pow_pos h0) hs 41 0 fu (by omega) (by unfold fu; omega)
/-- one mark struck out -/
def isM (mark : Nat) : Nat → Bool := fun m => m == mark
theorem Nw.strike {m : Nat} (h : Nw S 269 F) : Nw (sJ S 269 m 0) 269 (stN (isM m) F) := fun j hj => by
  rw [sJ_at]
  unfold stN isM
  by_cases q : j = m
  · rw [if_pos q, if_pos (by rw [q]; exact beq_self_eq_true m)]
    rfl
  · rw [if_neg q, if_neg (fun z => q (eq_of_beq z))]
    exact h j hj
theorem st_le (p : Nat → Bool) (F : Nat → Nat) : sumN (stN p F) 41 ≤ sumN F 41 := by
  have := st_sum p F 41
  omega
theorem everC {mark nn : Nat} (hm : mark < 41) (hnn : nn ≤ 9) (h0 : 0 < sw w) : ∀ (d k n : Nat) (S : GS) (F : Nat → Nat), Wr S → Wd S co w → Nw S 269 F → sumN F 41 ≤ sw w ^ k → k + d = nn → d < n → ∃ S', f_X4_everAt_13 268 n (some co) (nI mark) (nI nn) (nI k) S = some S' ∧ OfL S S' ∧ Od S' (sw w ^ nn - sumN (itN w (isM mark) d F) 41) (sw w ^ nn)
  | _, _, 0, _, _, _, _, _, _, _, hn => absurd hn (Nat.not_lt_zero _)
  | 0, k, n + 1, S, F, hW, hC, hF, hs, hk, _ => by
    obtain ⟨S', g1, g2, g3⟩ := struckC hW hC hF hnn h0 (by rw [show nn = k by omega]; exact hs)
    refine ⟨S', ?_, g2, g3⟩
    rw [f_X4_everAt_13, if_pos (nI_le (by omega) (by omega)), c1_s hC.1, allWC hC, b1_s, wt_l hC.le, powerC hnn, b1_s, k_268 hW, g1, b1_s]
  | d + 1, k, n + 1, S, F, hW, hC, hF, hs, hk, hn => by
    obtain ⟨S1, g1, g2, g3⟩ := blowC hW hC hF
    have hW1 := g2.wr hW
    obtain ⟨S', k1, k2, k3⟩ := everC hm hnn h0 d (k + 1) n (sJ S1 269 mark 0) (stN (isM mark) (blow w F)) hW1 (ofL_J.wd (g2.wd hC)) g3.strike (by
      have := st_le (isM mark) (blow w F)
      rw [blow_sum] at this
      rw [Nat.pow_succ]
      exact Nat.le_trans this (Nat.mul_le_mul_right _ hs)) (by omega) (by omega)
    refine ⟨S', ?_, g2.tr (ofL_J.tr k2), k3⟩
    rw [f_X4_everAt_13, if_neg (nI_ge (by omega) (by omega)), k_268 hW, g1, b1_s, k_268 hW1, strikeC hW1 hm, b1_s, nI_1, k1]
/-- the first marks struck out -/
def hsN (p : Nat → Bool) (F : Nat → Nat) (m : Nat) : Nat → Nat := fun j => if j < m then stN p F j else F j
theorem hs_lt {p : Nat → Bool} {m j : Nat} (h : j < m) : hsN p F m j = stN p F j := if_pos h
theorem hs_ge {p : Nat → Bool} {m j : Nat} (h : ¬ j < m) : hsN p F m j = F j := if_neg h
theorem hs_n {p : Nat → Bool} {m : Nat} (h : p m = false) (j : Nat) : hsN p F (m + 1) j = hsN p F m j := by
  by_cases z : j < m
  · rw [hs_lt z, hs_lt (by omega)]
  · by_cases y : j = m
    · subst y
      rw [hs_ge z, hs_lt (by omega)]
      exact if_neg (by rw [h]; exact Bool.false_ne_true)
    · rw [hs_ge z, hs_ge (by omega)]
theorem hs_y {p : Nat → Bool} {m : Nat} (h : p m = true) (j : Nat) : hsN p F (m + 1) j = if j = m then 0 else hsN p F m j := by
  by_cases y : j = m
  · subst y
    rw [if_pos rfl, hs_lt (by omega)]
    exact if_pos h
  · rw [if_neg y]
    by_cases z : j < m
    · rw [hs_lt z, hs_lt (by omega)]
    · rw [hs_ge z, hs_ge (by omega)]
abbrev noS (bu fa he la : Int32) : Nat → Bool := fun j => !sd bu fa he la (nI j)
theorem Nw.hs {p : Nat → Bool} {m a : Nat} (h : Nw S a (hsN p F m)) (hp : p m = true) : Nw (sJ S a m 0) a (hsN p F (m + 1)) := fun j hj => by
  rw [sJ_at, hs_y hp]
  by_cases y : j = m
  · rw [if_pos y, if_pos y]
    rfl
  · rw [if_neg y, if_neg y]
    exact h j hj
theorem fall33 {K : Option Nat → Int32 → Int32 → Int32 → Int32 → GS → Option GS} {x3 : Int32} {k : Nat} : ∀ (d m n : Nat) (S : GS), Wr S → Cw S co → Lw S co l bu fa he la → Nw S 269 (hsN (noS bu fa he la) F m) → m + d = 41 → d < n → ∃ S', f_X4_everFallen_33 K 268 n (some co) (nI l) x3 la (nI k) (nI m) S = K (some co) (nI l) x3 la (nI (k + 1)) S' ∧ OfL S S' ∧ Nw S' 269 (stN (noS bu fa he la) F)
  | _, _, 0, _, _, _, _, _, _, hn => absurd hn (Nat.not_lt_zero _)
  | 0, m, n + 1, S, hW, hC, hL, hF, hm, _ => by
    refine ⟨S, ?_, OfL.rf S, fun j hj => by rw [hF j hj, hs_lt (by omega)]⟩
    rw [f_X4_everFallen_33, if_pos (show (40 : Int32) < nI m from nI_lt (a := 40) (by omega) (by omega)), nI_1]
  | d + 1, m, n + 1, S, hW, hC, hL, hF, hm, hn => by
    by_cases q : sd bu fa he la (nI m) = true
    · have hp : noS bu fa he la m = false := by show (!sd bu fa he la (nI m)) = false; rw [q]; rfl
      obtain ⟨S', k1, k2, k3⟩ := fall33 d (m + 1) n S hW hC hL (fun j hj => by rw [hs_n hp]; exact hF j hj) (by omega) (by omega)
      refine ⟨S', ?_, k2, k3⟩
      rw [f_X4_everFallen_33, if_neg (show ¬ (40 : Int32) < nI m from nI_nlt (a := 40) (by omega) (by omega)), c1_s hC.1, hL.standsAt hC, b1_s, q, if_neg (show ¬ bi true = 0 by decide)]
      unfold f_X4_everFallen_58
      rw [nI_1, k1]
    · have q2 : sd bu fa he la (nI m) = false := Bool.eq_false_iff.mpr q
      have hp : noS bu fa he la m = true := by show (!sd bu fa he la (nI m)) = true; rw [q2]; rfl
      obtain ⟨S', k1, k2, k3⟩ := fall33 d (m + 1) n (sJ S 269 m 0) hW (ofL_J.cw hC) (ofL_J.lw hL) (hF.hs hp) (by omega) (by omega)
      refine ⟨S', ?_, ofL_J.tr k2, k3⟩
      rw [f_X4_everFallen_33, if_neg (show ¬ (40 : Int32) < nI m from nI_nlt (a := 40) (by omega) (by omega)), c1_s hC.1, hL.standsAt hC, b1_s, q2, if_pos (show bi false = 0 from rfl), k_268 hW, strikeC hW (by omega), b1_s]
      unfold f_X4_everFallen_58
      rw [nI_1, k1]
theorem fallC {nn : Nat} (hnn : nn ≤ 9) (h0 : 0 < sw w) : ∀ (d k n : Nat) (S : GS) (F : Nat → Nat), Wr S → Cw S co → Lw S co l bu fa he la → Wd S co w → Nw S 269 F → sumN F 41 ≤ sw w ^ k → k + d = nn → d < n → ∃ S', f_X4_everFallen_19 268 n (some co) (nI l) (nI nn) la (nI k) S = some S' ∧ OfL S S' ∧ Od S' (sw w ^ nn - sumN (itN w (noS bu fa he la) d F) 41) (sw w ^ nn)
  | _, _, 0, _, _, _, _, _, _, _, _, _, hn => absurd hn (Nat.not_lt_zero _)
  | 0, k, n + 1, S, F, hW, hC, hL, hWd, hF, hs, hk, _ => by
    obtain ⟨S', g1, g2, g3⟩ := struckC hW hWd hF hnn h0 (by rw [show nn = k by omega]; exact hs)
    refine ⟨S', ?_, g2, g3⟩
    rw [f_X4_everFallen_19, if_pos (nI_le (by omega) (by omega)), c1_s hC.1, allWC hWd, b1_s, wt_l hWd.le, powerC hnn, b1_s, k_268 hW, g1, b1_s]
  | d + 1, k, n + 1, S, F, hW, hC, hL, hWd, hF, hs, hk, hn => by
    obtain ⟨S1, g1, g2, g3⟩ := blowC hW hWd hF
    have hW1 := g2.wr hW
    obtain ⟨S2, r1, r2, r3⟩ := fall33 (F := blow w F) (K := f_X4_everFallen_19 268 n) (x3 := nI nn) (k := k) 41 0 fu S1 hW1 (g2.cw hC) (g2.lw hL) (fun j hj => by rw [hs_ge (Nat.not_lt_zero j)]; exact g3 j hj) (by omega) (by unfold fu; omega)
    have g23 := g2.tr r2
    obtain ⟨S', k1, k2, k3⟩ := fallC hnn h0 d (k + 1) n S2 (stN (noS bu fa he la) (blow w F)) (g23.wr hW) (g23.cw hC) (g23.lw hL) (g23.wd hWd) r3 (by
      have := st_le (noS bu fa he la) (blow w F)
      rw [blow_sum] at this
      rw [Nat.pow_succ]
      exact Nat.le_trans this (Nat.mul_le_mul_right _ hs)) (by omega) (by omega)
    refine ⟨S', ?_, g23.tr k2, k3⟩
    rw [f_X4_everFallen_19, if_neg (nI_ge (by omega) (by omega)), k_268 hW, g1, b1_s, show f_X4_everFallen_33 (f_X4_everFallen_19 268 n) 268 fu (some co) (nI l) (nI nn) la (nI k) 0 S1 = _ from r1, k1]
end OD
