/-! worth -/
def dN (a b : Nat) : Nat := (a - b) + (b - a)
theorem dist_k : ∀ a, a < 31 → ∀ b, b < 31 → jabs (nI a - nI b) = nI (dN a b) := by decide +kernel
def cN (bu fa he : Int32) (la gl pen lace g : Nat) : Nat := dN lace la + (if sd bu fa he (nI lace) (nI (afN gl g)) = true then 0 else pen)
def minN (f : Nat → Nat) : Nat → Nat → Nat → Nat
  | 0, _, m => m
  | d + 1, k, m => minN f d (k + 1) (if f k < m then f k else m)
def bestN (f : Nat → Nat) : Nat → Nat → Nat → Nat
  | 0, _, b => b
  | d + 1, k, b => bestN f d (k + 1) (if f b ≤ f k then b else k)
theorem best_min (f : Nat → Nat) : ∀ (d k b : Nat), f (bestN f d k b) = minN f d k (f b)
  | 0, k, b => rfl
  | d + 1, k, b => by
    show f (bestN f d (k + 1) (if f b ≤ f k then b else k)) = minN f d (k + 1) (if f k < f b then f k else f b)
    rw [best_min f d (k + 1)]
    by_cases q : f b ≤ f k
    · rw [if_pos q, if_neg (by omega)]
    · rw [if_neg q, if_pos (by omega)]
theorem best_lt (f : Nat → Nat) {N : Nat} : ∀ (d k b : Nat), k + d ≤ N → b < N → bestN f d k b < N
  | 0, k, b, _, hb => hb
  | d + 1, k, b, hk, hb => by
    refine best_lt f d (k + 1) _ (by omega) ?_
    split <;> omega
theorem min_le (f : Nat → Nat) : ∀ (d k m : Nat), minN f d k m ≤ m ∧ ∀ j, k ≤ j → j < k + d → minN f d k m ≤ f j
  | 0, k, m => ⟨Nat.le_refl _, fun j h1 h2 => by omega⟩
  | d + 1, k, m => by
    obtain ⟨h1, h2⟩ := min_le f d (k + 1) (if f k < m then f k else m)
    show minN f d (k + 1) (if f k < m then f k else m) ≤ m ∧ _
    have e : (if f k < m then f k else m) ≤ m ∧ (if f k < m then f k else m) ≤ f k := by split <;> omega
    refine ⟨Nat.le_trans h1 e.1, fun j a b => ?_⟩
    by_cases q : j = k
    · rw [q]
      exact Nat.le_trans h1 e.2
    · exact h2 j (by omega) (by omega)
theorem min_mul (f : Nat → Nat) (w : Nat) : ∀ (d k m : Nat), minN (fun j => f j * w) d k (m * w) = minN f d k m * w
  | 0, k, m => rfl
  | d + 1, k, m => by
    show minN _ d (k + 1) (if f k * w < m * w then f k * w else m * w) = minN f d (k + 1) (if f k < m then f k else m) * w
    rw [← min_mul f w d (k + 1)]
    congr 1
    by_cases q : f k < m
    · rw [if_pos q]
      by_cases z : w = 0
      · subst z
        rw [Nat.mul_zero, Nat.mul_zero, if_neg (by omega)]
      · rw [if_pos (Nat.mul_lt_mul_of_pos_right q (by omega))]
    · rw [if_neg q, if_neg (by
        have := Nat.mul_le_mul_right w (show m ≤ f k by omega)
        omega)]
section WO
variable {S S' : GS} {o b c k l co : Nat} {w F : Nat → Nat} {bu fa he la : Int32} {laN gl pen : Nat}
theorem CF.laceN (h : CF S o b) (hl : l < nr S (o + 3)) (hb : b = 69 * c) (hL : Lm S c l bu fa he la) : ∃ n, la = nI n ∧ n < 31 := by
  obtain ⟨f0, f1, f2, f3, f4, f5, f6, f7, f8, f9, -⟩ := h
  obtain ⟨n, e, -, h30⟩ := (f8 l hl).2.1.nat
  subst hb
  have e : S.1 319 (69 * c + 29 + (5 * l + 1)) = nI n := e
  rw [show 69 * c + 29 + (5 * l + 1) = 69 * c + (29 + 5 * l + 1) by omega, hL.2.2.2.1] at e
  exact ⟨n, e, by omega⟩
theorem cN_le (bu fa he : Int32) {la gl pen lace g : Nat} (h1 : la < 31) (h2 : lace < 31) (h3 : pen ≤ 99) : cN bu fa he la gl pen lace g ≤ 129 := by
  unfold cN dN
  split <;> omega
theorem costAfterC (hC : Cw S co) (hL : Lw S co l bu fa he (nI laN)) (hg : S.1 co 6 = nI gl) (hgl : gl ≤ 40) (hla : laN < 31) {lace g : Nat} (hl : lace < 31) (hg3 : g < 3) : f_X4_costAfter (some co) (nI l) (nI pen) (nI lace) (nI g) S = some (nI (cN bu fa he laN gl pen lace g)) := by
  unfold f_X4_costAfter cN
  rw [xR_s hC.1, hC.2.2.1, c1_s hC.2.2.2.2.2.2.2.2.1.1, hL.lace hC, b1_s, xI_s hC.1, hg, c1_s hC.1, markAfter_v (by omega) hg3, b1_s, c1_s hC.1, hL.standsAt hC, b1_s, dist_k lace hl laN hla, nI_add]
  cases sd bu fa he (nI lace) (nI (afN gl g))
  · rw [if_pos (show bi false = 0 from rfl), if_neg Bool.false_ne_true]
  · rw [if_neg (show ¬ bi true = 0 by decide), if_pos rfl, Nat.add_zero]
abbrev unN (w : Nat → Nat) (bu fa he : Int32) (la gl pen lace : Nat) : Nat := sumN (fun g => w g * cN bu fa he la gl pen lace g) 3
theorem un_le {w : Nat → Nat} (hw : ∀ g, g < 3 → w g ≤ 9) {c : Nat → Nat} {M : Nat} (hc : ∀ g, c g ≤ M) : sumN (fun g => w g * c g) 3 ≤ 27 * M := by
  show 0 + w 0 * c 0 + w 1 * c 1 + w 2 * c 2 ≤ _
  have h0 := Nat.mul_le_mul (hw 0 (by decide)) (hc 0)
  have h1 := Nat.mul_le_mul (hw 1 (by decide)) (hc 1)
  have h2 := Nat.mul_le_mul (hw 2 (by decide)) (hc 2)
  omega
theorem unC_l (hWd : Wd S co w) (hC : Cw S co) (hL : Lw S co l bu fa he (nI laN)) (hg : S.1 co 6 = nI gl) (hgl : gl ≤ 40) (hla : laN < 31) {lace : Nat} (hl : lace < 31) : ∀ (d g n : Nat), g + d = 3 → d < n → f_X4_costUnknown_6 S n (some co) (nI l) (nI pen) (nI lace) (nI (sumN (fun g => w g * cN bu fa he laN gl pen lace g) g)) (nI g) = some (nI (unN w bu fa he laN gl pen lace))
  | _, _, 0, _, hn => absurd hn (Nat.not_lt_zero _)
  | 0, g, n + 1, hg3, _ => by
    rw [f_X4_costUnknown_6, if_pos (show (3 : Int32) ≤ nI g from nI_le (a := 3) (by omega) (by omega)), show g = 3 by omega]
  | d + 1, g, n + 1, hg3, hn => by
    obtain ⟨c0, c1, c2, c3, c4⟩ := id hWd
    rw [f_X4_costUnknown_6, if_neg (show ¬ (3 : Int32) ≤ nI g from nI_ge (b := 3) (by omega) (by omega)), xR_s c0, c1, yI_n c2 (by rw [c3]; omega) (by omega), (c4 g (by omega)).1, costAfterC hC hL hg hgl hla hl (by omega), b1_s, nI_mul, nI_add, nI_1]
    exact unC_l hWd hC hL hg hgl hla hl d (g + 1) n (by omega) (by omega)
theorem unC (hWd : Wd S co w) (hC : Cw S co) (hL : Lw S co l bu fa he (nI laN)) (hg : S.1 co 6 = nI gl) (hgl : gl ≤ 40) (hla : laN < 31) {lace : Nat} (hl : lace < 31) : f_X4_costUnknown (some co) (nI l) (nI pen) (nI lace) S = some (nI (unN w bu fa he laN gl pen lace)) :=
  unC_l hWd hC hL hg hgl hla hl 3 0 fu (by omega) (by unfold fu; omega)
theorem leastC_l (hC : Cw S co) (hL : Lw S co l bu fa he (nI laN)) (hg : S.1 co 6 = nI gl) (hgl : gl ≤ 40) (hla : laN < 31) (hpen : pen ≤ 99) {g : Nat} (hg3 : g < 3) : ∀ (d k n m : Nat), k + d = 31 → d < n → m ≤ 129 → f_X4_leastCostAfter_13 S n (some co) (nI l) (nI pen) (nI g) (nI m) (nI k) = some (nI (minN (fun k => cN bu fa he laN gl pen k g) d k m))
  | _, _, 0, _, _, hn, _ => absurd hn (Nat.not_lt_zero _)
  | 0, k, n + 1, m, hk, _, _ => by
    rw [f_X4_leastCostAfter_13, if_pos (show (30 : Int32) < nI k from nI_lt (a := 30) (by omega) (by omega))]
    rfl
  | d + 1, k, n + 1, m, hk, hn, hm => by
    have hc := cN_le bu fa he (gl := gl) (g := g) hla (show k < 31 by omega) hpen
    rw [f_X4_leastCostAfter_13, if_neg (show ¬ (30 : Int32) < nI k from nI_nlt (a := 30) (by omega) (by omega)), costAfterC hC hL hg hgl hla (by omega) hg3, b1_s, nI_1, show jmin (nI m) (nI (cN bu fa he laN gl pen k g)) = nI (if cN bu fa he laN gl pen k g < m then cN bu fa he laN gl pen k g else m) from by
      unfold jmin
      by_cases q : cN bu fa he laN gl pen k g < m
      · rw [if_pos q, if_pos (nI_lt q (by omega))]
      · rw [if_neg q, if_neg (nI_nlt (by omega) (by omega))], leastC_l hC hL hg hgl hla hpen hg3 d (k + 1) n _ (by omega) (by omega) (by split <;> omega)]
    rfl
abbrev leN (bu fa he : Int32) (la gl pen g : Nat) : Nat := minN (fun k => cN bu fa he la gl pen k g) 30 1 (cN bu fa he la gl pen 0 g)
theorem leastC (hC : Cw S co) (hL : Lw S co l bu fa he (nI laN)) (hg : S.1 co 6 = nI gl) (hgl : gl ≤ 40) (hla : laN < 31) (hpen : pen ≤ 99) {g : Nat} (hg3 : g < 3) : f_X4_leastCostAfter (some co) (nI l) (nI pen) (nI g) S = some (nI (leN bu fa he laN gl pen g)) := by
  unfold f_X4_leastCostAfter
  rw [show f_X4_costAfter (some co) (nI l) (nI pen) 0 (nI g) S = _ from costAfterC hC hL hg hgl hla (lace := 0) (by decide) hg3, b1_s]
  exact leastC_l hC hL hg hgl hla hpen hg3 30 1 fu _ (by omega) (by unfold fu; omega) (cN_le bu fa he hla (by decide) hpen)
abbrev wiN (w : Nat → Nat) (bu fa he : Int32) (la gl pen : Nat) : Nat := sumN (fun g => w g * leN bu fa he la gl pen g) 3
theorem worthC_59 (hW : Wr S) (hWd : Wd S co w) (hC : Cw S co) (hL : Lw S co l bu fa he (nI laN)) (hg : S.1 co 6 = nI gl) (hgl : gl ≤ 40) (hla : laN < 31) (hpen : pen ≤ 99) (h0 : 0 < sw w) {u : Nat} (hu : u ≤ 27 * 129) (hle : wiN w bu fa he laN gl pen ≤ u) {x4 : Int32} : ∀ (d g n : Nat), g + d = 3 → d < n → ∃ S', f_X4_worthOf_59 268 n (some co) (nI l) (nI pen) x4 (nI u) (nI (sumN (fun g => w g * leN bu fa he laN gl pen g) g)) (nI g) S = some (x4, S') ∧ OfL S S' ∧ Od S' (u - wiN w bu fa he laN gl pen) (sw w)
  | _, _, 0, _, hn => absurd hn (Nat.not_lt_zero _)
  | 0, g, n + 1, hg3, _ => by
    have hs := hWd.le
    obtain ⟨S', g1, g2, g3⟩ := setC (a := u - wiN w bu fa he laN gl pen) (b := sw w) hW (by omega) (by omega) h0
    refine ⟨S', ?_, g2, g3⟩
    rw [f_X4_worthOf_59, if_pos (show (3 : Int32) ≤ nI g from nI_le (a := 3) (by omega) (by omega)), show g = 3 by omega, c1_s hC.1, allWC hWd, b1_s, nI_sub hle, wt_l hs, nI_l (by omega), k_268 hW, g1, b1_s]
  | d + 1, g, n + 1, hg3, hn => by
    obtain ⟨c0, c1, c2, c3, c4⟩ := id hWd
    rw [f_X4_worthOf_59, if_neg (show ¬ (3 : Int32) ≤ nI g from nI_ge (b := 3) (by omega) (by omega)), xR_s c0, c1, yI_n c2 (by rw [c3]; omega) (by omega), (c4 g (by omega)).1, leastC hC hL hg hgl hla hpen (by omega), b1_s, nI_mul, nI_add, nI_1]
    exact worthC_59 hW hWd hC hL hg hgl hla hpen h0 hu hle d (g + 1) n (by omega) (by omega)
theorem wi_le {w : Nat → Nat} {j : Nat} (hj : j < 31) : wiN w bu fa he laN gl pen ≤ unN w bu fa he laN gl pen j := by
  have h (g : Nat) : leN bu fa he laN gl pen g ≤ cN bu fa he laN gl pen j g := by
    obtain ⟨h1, h2⟩ := min_le (fun k => cN bu fa he laN gl pen k g) 30 1 (cN bu fa he laN gl pen 0 g)
    by_cases q : j = 0
    · rw [q]; exact h1
    · exact h2 j (by omega) (by omega)
  show 0 + w 0 * leN bu fa he laN gl pen 0 + w 1 * leN bu fa he laN gl pen 1 + w 2 * leN bu fa he laN gl pen 2 ≤ 0 + w 0 * cN bu fa he laN gl pen j 0 + w 1 * cN bu fa he laN gl pen j 1 + w 2 * cN bu fa he laN gl pen j 2
  have h0 := Nat.mul_le_mul_left (w 0) (h 0)
  have h1 := Nat.mul_le_mul_left (w 1) (h 1)
  have h2 := Nat.mul_le_mul_left (w 2) (h 2)
  omega
theorem Wd.w9 (hWd : Wd S co w) : ∀ g, g < 3 → w g ≤ 9 := fun g hg => (hWd.2.2.2.2 g hg).2
theorem worthC_15 (hW : Wr S) (hWd : Wd S co w) (hC : Cw S co) (hL : Lw S co l bu fa he (nI laN)) (hg : S.1 co 6 = nI gl) (hgl : gl ≤ 40) (hla : laN < 31) (hpen : pen ≤ 99) (h0 : 0 < sw w) : ∀ (d k n j : Nat), k + d = 31 → d < n → j < 31 → ∃ S', f_X4_worthOf_15 268 n (some co) (nI l) (nI pen) (nI j) (nI (unN w bu fa he laN gl pen j)) (nI k) S = some (nI (bestN (unN w bu fa he laN gl pen) d k j), S') ∧ OfL S S' ∧ Od S' (unN w bu fa he laN gl pen (bestN (unN w bu fa he laN gl pen) d k j) - wiN w bu fa he laN gl pen) (sw w)
  | _, _, 0, _, _, hn, _ => absurd hn (Nat.not_lt_zero _)
  | 0, k, n + 1, j, hk, _, hj => by
    have hu : unN w bu fa he laN gl pen j ≤ 27 * 129 := un_le (c := cN bu fa he laN gl pen j) hWd.w9 (fun g => cN_le bu fa he hla hj hpen)
    obtain ⟨S', g1, g2, g3⟩ := worthC_59 hW hWd hC hL hg hgl hla hpen h0 hu (wi_le hj) (x4 := nI j) 3 0 fu (by omega) (by unfold fu; omega)
    refine ⟨S', ?_, g2, g3⟩
    rw [f_X4_worthOf_15, if_pos (show (30 : Int32) < nI k from nI_lt (a := 30) (by omega) (by omega))]
    exact g1
  | d + 1, k, n + 1, j, hk, hn, hj => by
    have hu : unN w bu fa he laN gl pen j ≤ 27 * 129 := un_le (c := cN bu fa he laN gl pen j) hWd.w9 (fun g => cN_le bu fa he hla hj hpen)
    have hk2 : unN w bu fa he laN gl pen k ≤ 27 * 129 := un_le (c := cN bu fa he laN gl pen k) hWd.w9 (fun g => cN_le bu fa he hla (show k < 31 by omega) hpen)
    show ∃ S', _ = some (nI (bestN _ d (k + 1) (if unN w bu fa he laN gl pen j ≤ unN w bu fa he laN gl pen k then j else k)), S') ∧ _ ∧ Od S' (unN w bu fa he laN gl pen (bestN _ d (k + 1) (if unN w bu fa he laN gl pen j ≤ unN w bu fa he laN gl pen k then j else k)) - _) _
    rw [f_X4_worthOf_15, if_neg (show ¬ (30 : Int32) < nI k from nI_nlt (a := 30) (by omega) (by omega)), unC hWd hC hL hg hgl hla (by omega), b1_s]
    unfold f_X4_worthOf_47
    rw [nI_1]
    by_cases q : unN w bu fa he laN gl pen j ≤ unN w bu fa he laN gl pen k
    · rw [if_pos q, if_pos (nI_le q (by omega))]
      exact worthC_15 hW hWd hC hL hg hgl hla hpen h0 d (k + 1) n j (by omega) (by omega) hj
    · rw [if_neg q, if_neg (nI_ge (by omega) (by omega))]
      exact worthC_15 hW hWd hC hL hg hgl hla hpen h0 d (k + 1) n k (by omega) (by omega) (by omega)
/-! the reference -/
theorem costM_l (hM : Wm S c w) (hL : Lm S c l bu fa he (nI laN)) (hg : S.1 319 (69 * c + 5) = nI gl) (hgl : gl ≤ 40) (hla : laN < 31) {lace a : Nat} (hl : lace < 31) (ha : a < 1024) : ∀ (d g n : Nat), g + d = 3 → d < n → f_X12_costOf_6 313 S n (nI l) (nI lace) (nI pen) (nI a) (nI (sumN (fun g => if a.testBit g = true then cN bu fa he laN gl pen lace g * w g else 0) g)) (nI g) = some (nI (sumN (fun g => if a.testBit g = true then cN bu fa he laN gl pen lace g * w g else 0) 3))
  | _, _, 0, _, hn => absurd hn (Nat.not_lt_zero _)
  | 0, g, n + 1, hg3, _ => by
    rw [f_X12_costOf_6, if_pos (show (3 : Int32) ≤ nI g from nI_le (a := 3) (by omega) (by omega)), show g = 3 by omega]
  | d + 1, g, n + 1, hg3, hn => by
    have hW := hM.1.1
    have ih := costM_l hM hL hg hgl hla hl ha d (g + 1) n (by omega) (by omega)
    have hq (v y : Nat) (hv : v + y = cN bu fa he laN gl pen lace g) : f_X12_costOf_48 (f_X12_costOf_6 313 S n) 313 S (nI l) (nI lace) (nI pen) (nI a) (nI (sumN (fun g => if a.testBit g = true then cN bu fa he laN gl pen lace g * w g else 0) g)) (nI g) (nI v) (nI y) = some (nI (sumN (fun g => if a.testBit g = true then cN bu fa he laN gl pen lace g * w g else 0) 3)) := by
      unfold f_X12_costOf_48 f_X12_costOf_76
      have e : sumN (fun g => if a.testBit g = true then cN bu fa he laN gl pen lace g * w g else 0) (g + 1) = sumN (fun g => if a.testBit g = true then cN bu fa he laN gl pen lace g * w g else 0) g + (if a.testBit g = true then cN bu fa he laN gl pen lace g * w g else 0) := rfl
      rw [e] at ih
      rw [m_has, b1_s, has_k a ha g (by omega), k_313 hW, hM.of (nI g) g rfl (by omega), b1_s, nI_add, hv, nI_mul, nI_add, nI_1]
      cases hb : a.testBit g
      · rw [hb, if_neg Bool.false_ne_true] at ih
        rw [if_pos (show bi false = 0 from rfl), Int32.add_zero]
        exact ih
      · rw [hb, if_pos rfl] at ih
        rw [if_neg (show ¬ bi true = 0 by decide)]
        exact ih
    rw [f_X12_costOf_6, if_neg (show ¬ (3 : Int32) ≤ nI g from nI_ge (b := 3) (by omega) (by omega)), k_313 hW, hL.lace hM.1, b1_s, m_size, dist_k lace hl laN hla, b1_s, k_313 hW, hM.1.of 5 5 rfl (by decide), hg, b1_s, k_313 hW, after_v (by omega) (by omega), b1_s, k_313 hW, hL.stands hM.1, b1_s]
    cases hs : sd bu fa he (nI lace) (nI (afN gl g))
    · rw [if_pos (show bi false = 0 from rfl)]
      refine hq _ _ ?_
      unfold cN
      rw [hs, if_neg Bool.false_ne_true]
    · rw [if_neg (show ¬ bi true = 0 by decide)]
      refine hq _ 0 ?_
      unfold cN
      rw [hs, if_pos rfl]
abbrev coN (w : Nat → Nat) (bu fa he : Int32) (la gl pen a lace : Nat) : Nat := sumN (fun g => if a.testBit g = true then cN bu fa he la gl pen lace g * w g else 0) 3
theorem costM (hM : Wm S c w) (hL : Lm S c l bu fa he (nI laN)) (hg : S.1 319 (69 * c + 5) = nI gl) (hgl : gl ≤ 40) (hla : laN < 31) {lace a : Nat} (hl : lace < 31) (ha : a < 1024) : f_X12_costOf 313 (nI l) (nI lace) (nI pen) (nI a) S = some (nI (coN w bu fa he laN gl pen a lace)) :=
  costM_l hM hL hg hgl hla hl ha 3 0 fu (by omega) (by unfold fu; omega)
theorem bestM_l (hW : Wr S) {x1 x2 x3 : Int32} {f : Nat → Nat} (hf : ∀ k, k < 31 → f_X12_costOf 313 x1 (nI k) x2 x3 S = some (nI (f k)) ∧ f k < 2 ^ 31) : ∀ (d k n j : Nat), k + d = 31 → d < n → j < 31 → f_X12_bestLace_6 313 S n x1 x2 x3 (nI j) (nI k) = some (nI (bestN f d k j))
  | _, _, 0, _, _, hn, _ => absurd hn (Nat.not_lt_zero _)
  | 0, k, n + 1, j, hk, _, hj => by
    rw [f_X12_bestLace_6, if_pos (show (31 : Int32) ≤ nI k from nI_le (a := 31) (by omega) (by omega))]
    rfl
  | d + 1, k, n + 1, j, hk, hn, hj => by
    obtain ⟨a1, a2⟩ := hf k (by omega)
    obtain ⟨b1', b2'⟩ := hf j hj
    rw [f_X12_bestLace_6, if_neg (show ¬ (31 : Int32) ≤ nI k from nI_ge (b := 31) (by omega) (by omega)), k_313 hW, a1, b1_s, k_313 hW, b1', b1_s]
    unfold f_X12_bestLace_41
    rw [nI_1]
    show _ = some (nI (bestN f d (k + 1) (if f j ≤ f k then j else k)))
    by_cases q : f j ≤ f k
    · rw [if_pos q, if_pos (nI_le q a2)]
      exact bestM_l hW hf d (k + 1) n j (by omega) (by omega) hj
    · rw [if_neg q, if_neg (nI_ge (by omega) b2')]
      exact bestM_l hW hf d (k + 1) n k (by omega) (by omega) (by omega)
theorem co7 (w : Nat → Nat) (la gl pen : Nat) : coN w bu fa he la gl pen 7 = unN w bu fa he la gl pen := by
  funext j
  show 0 + (if (7 : Nat).testBit 0 = true then _ else 0) + (if (7 : Nat).testBit 1 = true then _ else 0) + (if (7 : Nat).testBit 2 = true then _ else 0) = 0 + w 0 * _ + w 1 * _ + w 2 * _
  rw [if_pos (by decide), if_pos (by decide), if_pos (by decide), Nat.mul_comm (w 0), Nat.mul_comm (w 1), Nat.mul_comm (w 2)]
theorem co1 (w : Nat → Nat) (la gl pen : Nat) {i : Nat} (hi : i < 3) : coN w bu fa he la gl pen (2 ^ i) = fun j => cN bu fa he la gl pen j i * w i := by
  funext j
  show 0 + (if (2 ^ i : Nat).testBit 0 = true then _ else 0) + (if (2 ^ i : Nat).testBit 1 = true then _ else 0) + (if (2 ^ i : Nat).testBit 2 = true then _ else 0) = _
  rcases (show i = 0 ∨ i = 1 ∨ i = 2 by omega) with rfl | rfl | rfl
  · rw [if_pos (by decide), if_neg (by decide), if_neg (by decide), Nat.zero_add]
    rfl
  · rw [if_neg (by decide), if_pos (by decide), if_neg (by decide), Nat.zero_add]
    rfl
  · rw [if_neg (by decide), if_neg (by decide), if_pos (by decide), Nat.zero_add]
theorem worthM_81 (hM : Wm S c w) (hL : Lm S c l bu fa he (nI laN)) (hg : S.1 319 (69 * c + 5) = nI gl) (hgl : gl ≤ 40) (hla : laN < 31) (hpen : pen ≤ 99) (h5 : S.1 313 50 = nI (sw w)) (h0 : 0 < sw w) {u : Nat} (hu : u ≤ 27 * 129) (hle : wiN w bu fa he laN gl pen ≤ u) {x4 : Int32} : ∀ (d g n : Nat), g + d = 3 → d < n → sumN (fun g => w g * leN bu fa he laN gl pen g) g ≤ u → f_X12_worth_81 313 n (nI l) (nI pen) x4 (nI (u - sumN (fun g => w g * leN bu fa he laN gl pen g) g)) (nI g) S = some (nI ((if x4 = 1 then sw w else u - wiN w bu fa he laN gl pen) / Nat.gcd (u - wiN w bu fa he laN gl pen) (sw w)), S)
  | _, _, 0, _, hn, _ => absurd hn (Nat.not_lt_zero _)
  | 0, g, n + 1, hg3, _, _ => by
    have hs := hM.le
    rw [f_X12_worth_81, if_pos (show (3 : Int32) ≤ nI g from nI_le (a := 3) (by omega) (by omega)), show g = 3 by omega, i_313 hM.1.1, h5, wt_l hs, nI_l (by omega)]
    unfold f_X12_worth_137
    rw [terms_v S (a := u - wiN w bu fa he laN gl pen) (b := sw w) (by omega) (by omega) h0, terms_v S (a := u - wiN w bu fa he laN gl pen) (b := sw w) (by omega) (by omega) h0, b1_s, b1_s, lN_i, lN_i, if_neg n10, if_pos rfl]
    by_cases q : x4 = 1
    · rw [if_pos q, if_pos q]
    · rw [if_neg q, if_neg q]
  | d + 1, g, n + 1, hg3, hn, hp => by
    have hW := hM.1.1
    have hf : ∀ k, k < 31 → f_X12_costOf 313 (nI l) (nI k) (nI pen) (nI (2 ^ g)) S = some (nI (coN w bu fa he laN gl pen (2 ^ g) k)) ∧ coN w bu fa he laN gl pen (2 ^ g) k < 2 ^ 31 := fun k hk => ⟨costM hM hL hg hgl hla hk (Nat.lt_of_le_of_lt (Nat.pow_le_pow_right (by decide) (show g ≤ 3 by omega)) (by decide)), by
      rw [co1 w laN gl pen (by omega)]
      have := Nat.mul_le_mul (cN_le bu fa he (gl := gl) (g := g) hla hk hpen) (hM.2 g (by omega)).2
      show cN bu fa he laN gl pen k g * w g < 2 ^ 31
      omega⟩
    have hb := bestM_l hW hf 30 1 fu 0 (by omega) (by unfold fu; omega) (by decide)
    have hbl := best_lt (coN w bu fa he laN gl pen (2 ^ g)) (N := 31) 30 1 0 (by decide) (by decide)
    have e : coN w bu fa he laN gl pen (2 ^ g) (bestN (coN w bu fa he laN gl pen (2 ^ g)) 30 1 0) = w g * leN bu fa he laN gl pen g := by
      refine (best_min (coN w bu fa he laN gl pen (2 ^ g)) 30 1 0).trans ?_
      rw [co1 w laN gl pen (by omega)]
      show minN (fun j => cN bu fa he laN gl pen j g * w g) 30 1 (cN bu fa he laN gl pen 0 g * w g) = _
      rw [min_mul, Nat.mul_comm]
    have hsum : sumN (fun g => w g * leN bu fa he laN gl pen g) (g + 1) = sumN (fun g => w g * leN bu fa he laN gl pen g) g + w g * leN bu fa he laN gl pen g := rfl
    have hle2 : sumN (fun g => w g * leN bu fa he laN gl pen g) (g + 1) ≤ wiN w bu fa he laN gl pen := by
      rcases (show g = 0 ∨ g = 1 ∨ g = 2 by omega) with rfl | rfl | rfl
      · show 0 + w 0 * leN bu fa he laN gl pen 0 ≤ 0 + w 0 * leN bu fa he laN gl pen 0 + w 1 * leN bu fa he laN gl pen 1 + w 2 * leN bu fa he laN gl pen 2
        omega
      · show 0 + w 0 * leN bu fa he laN gl pen 0 + w 1 * leN bu fa he laN gl pen 1 ≤ 0 + w 0 * leN bu fa he laN gl pen 0 + w 1 * leN bu fa he laN gl pen 1 + w 2 * leN bu fa he laN gl pen 2
        omega
      · exact Nat.le_refl _
    rw [f_X12_worth_81, if_neg (show ¬ (3 : Int32) ≤ nI g from nI_ge (b := 3) (by omega) (by omega)), shl_k g (by omega), k_313 hW, show f_X12_bestLace 313 (nI l) (nI pen) (nI (2 ^ g)) S = _ from hb, b1_s, k_313 hW, (hf _ hbl).1, b1_s, e, nI_1, nI_sub (by omega), show u - sumN (fun g => w g * leN bu fa he laN gl pen g) g - w g * leN bu fa he laN gl pen g = u - sumN (fun g => w g * leN bu fa he laN gl pen g) (g + 1) by omega]
    exact worthM_81 hM hL hg hgl hla hpen h5 h0 hu hle d (g + 1) n (by omega) (by omega) (by omega)
end WO
