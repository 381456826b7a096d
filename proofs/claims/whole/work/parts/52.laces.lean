/-! laced anew: the lace at a minute; the reference -/
/-- the lace at each minute, chosen one after another -/
def ptN (ft : Nat → Nat → Bool) (n la : Nat) : Nat → Nat
  | 0 => la
  | k + 1 => (laN ft n k (ptN ft n la k)).getD 0
theorem pt_ok {ft : Nat → Nat → Bool} {n la : Nat} (hla : la < 31) (h : nR ft n 0 la < FARN) : ∀ k, k ≤ n → nR ft n k (ptN ft n la k) < FARN ∧ ptN ft n la k < 31
  | 0, _ => ⟨h, hla⟩
  | k + 1, hk => by
    obtain ⟨h1, h2⟩ := pt_ok hla h k (by omega)
    obtain ⟨j, e, h3, -, h4, -⟩ := la_some (ft := ft) (show k < n by omega) h1
    show nR ft n (k + 1) ((laN ft n k (ptN ft n la k)).getD 0) < FARN ∧ (laN ft n k (ptN ft n la k)).getD 0 < 31
    rw [e]
    exact ⟨h4, h3⟩
theorem pick_lt {f : Nat → Nat} {j : Nat} (h : pickN f 31 0 none = some j) : f j < FARN ∧ j < 31 ∧ f j = minN f 31 0 FARN := by
  have hp := pick_first f 31 0 none
  rw [h, show vF f none = FARN from rfl] at hp
  by_cases q : minN f 31 0 FARN < FARN
  · rw [if_pos q] at hp
    obtain ⟨h1, h2, h3⟩ := firstEq_lt 31 0 j hp.symm
    exact ⟨by rw [h3]; exact q, by omega, h3⟩
  · rw [if_neg q] at hp
    exact nomatch hp
section LD
variable {S S' : GS} {o b k l co fo n : Nat} {c : Nat} {bu fa he sl : Int32} {la : Nat} {mk pr : Nat → Int32} {x4 : Int32} {ft : Nat → Nat → Bool}
theorem next_l (hn16 : n ≤ 16) (hW : Wr S) (hT : Tab S n la ft 0) {i had : Nat} (hi : i < n) (hh : had < 31) (hm : nR ft n i had < FARN) : ∀ (d x nn : Nat), x + d = 31 → d < nn → f_X3_leastNextLace_2 247 S nn (nI i) (nI had) (nI x) = some (match firstEq (byN (ft i) (nR ft n (i + 1)) had) (nR ft n i had) d x with
    | none => nI had
    | some j => nI j)
  | _, _, 0, _, hn => absurd hn (Nat.not_lt_zero _)
  | 0, x, nn + 1, hx, _ => by
    rw [f_X3_leastNextLace_2, if_pos (show (30 : Int32) < nI x from nI_lt (a := 30) (by omega) (by omega))]
    rfl
  | d + 1, x, nn + 1, hx, hn => by
    obtain ⟨t1, t2, t3⟩ := hT
    have ih := next_l hn16 hW ⟨t1, t2, t3⟩ hi hh hm d (x + 1) nn (by omega) (by omega)
    obtain ⟨r1, r2, r3⟩ := rowL_k i (by omega)
    obtain ⟨q1, q2, q3⟩ := rowL_k (i + 1) (by omega)
    have hb : nR ft n (i + 1) x ≤ 1000000 := nd_le ft n _ x
    have hm2 : nR ft n i had < 1000000 := hm
    have hd : dN x had ≤ 30 := by unfold dN; omega
    have e : firstEq (byN (ft i) (nR ft n (i + 1)) had) (nR ft n i had) (d + 1) x = if byN (ft i) (nR ft n (i + 1)) had x = nR ft n i had then some x else firstEq (byN (ft i) (nR ft n (i + 1)) had) (nR ft n i had) d (x + 1) := rfl
    rw [e, f_X3_leastNextLace_2, if_neg (show ¬ (30 : Int32) < nI x from nI_nlt (a := 30) (by omega) (by omega)), isLace_q (S' := S), show f_X12_in (nI had) 0 30 S = some 1 from in_y (a := 0) (b := 30) (by omega) (by omega) (by omega), b1_s, if_neg n10, r_247_1 hW, show nI i * 31 + nI x = nI (31 * i + x) by rw [show 31 * i + x = i * 31 + x by omega, ← nI_add, ← nI_mul]; rfl, y_266 hW (by omega), t3 i (Nat.zero_le _) hi x (by omega), r_247_0 hW, show nI i + 1 = nI (i + 1) from nI_1 i, y248 hW (by omega), yI_n (g249 hW (by omega)) (by rw [q3]; omega) (by omega), t2 (i + 1) (Nat.zero_le _) hi x (by omega), r_247_0 hW, y248 hW (by omega), yI_n (g249 hW (by omega)) (by rw [r3]; exact hh) (by omega), t2 i (Nat.zero_le _) (by omega) had hh, dist_k x (by omega) had hh, nI_add]
    unfold f_X3_leastNextLace_59 byN
    rw [nI_1]
    cases hf : ft i x
    · rw [if_pos (show bi false = 0 from rfl), if_neg Bool.false_ne_true, if_neg (by omega)]
      exact ih
    · rw [if_neg (show ¬ bi true = 0 by decide), if_pos rfl]
      by_cases q : nR ft n (i + 1) x + dN x had = nR ft n i had
      · rw [if_pos q, if_pos (by rw [nI_eq (by omega) (by omega)]; omega)]
      · rw [if_neg q, if_neg (by rw [nI_eq (by omega) (by omega)]; omega)]
        exact ih
theorem nextC (hn16 : n ≤ 16) (hW : Wr S) (hT : Tab S n la ft 0) {i had : Nat} (hi : i < n) (hh : had < 31) (hm : nR ft n i had < FARN) : f_X3_leastNextLace 247 (nI i) (nI had) S = some (nI ((laN ft n i had).getD 0)) := by
  obtain ⟨j, e1, e2, e3, -⟩ := la_some hi hm
  have h := next_l hn16 hW hT hi hh hm 31 0 fu (by omega) (by unfold fu; omega)
  rw [e3] at h
  rw [e1]
  exact h
theorem at7 (hn16 : n ≤ 16) (hla : la < 31) (hW : Wr S) (hT : Tab S n la ft 0) (hm : nR ft n 0 la < FARN) {w : Nat} (hw : w < n) : ∀ (d i nn : Nat), i + d = w + 1 → d < nn → f_X3_laceAt_7 247 S nn (nI w) (nI (ptN ft n la i)) (nI i) = some (nI (ptN ft n la (w + 1)))
  | _, _, 0, _, hn => absurd hn (Nat.not_lt_zero _)
  | 0, i, nn + 1, hi, _ => by
    rw [f_X3_laceAt_7, if_pos (nI_lt (by omega) (by omega)), show i = w + 1 by omega]
  | d + 1, i, nn + 1, hi, hn => by
    obtain ⟨h1, h2⟩ := pt_ok hla hm i (by omega)
    rw [f_X3_laceAt_7, if_neg (nI_nlt (by omega) (by omega)), if_neg (show ¬ (16 : Int32) ≤ nI i from nI_ge (b := 16) (by omega) (by omega)), k_247 hW, nextC hn16 hW hT (by omega) h2 h1, b1_s, nI_1]
    exact at7 hn16 hla hW hT hm hw d (i + 1) nn (by omega) (by omega)
theorem laceAtC (hn16 : n ≤ 16) (hla : la < 31) (hW : Wr S) (hT : Tab S n la ft 0) (hm : nR ft n 0 la < FARN) {w : Nat} (hw : w < n) : f_X3_laceAt 247 (nI w) S = some (nI (ptN ft n la (w + 1))) := by
  unfold f_X3_laceAt
  rw [i_247 hW, hT.1]
  exact at7 hn16 hla hW hT hm hw (w + 1) 0 fu (by omega) (by unfold fu; omega)
/-! the reference -/
def Lcm (S : GS) (c kf l n : Nat) (bu fa he sl : Int32) (la : Nat) (mk pr : Nat → Int32) : Prop := Mc S c ∧ Lm S c l bu fa he (nI la) ∧ kf < 2 ∧ S.1 313 45 = nI kf ∧ S.1 321 (17 * kf) = nI n ∧ (∀ k, k < n → S.1 321 (17 * kf + 1 + k) = mk k ∧ f_X12_properAt 313 (mk k) S = some (pr k)) ∧ S.1 319 (69 * c + 3) = sl
theorem canM {kf : Nat} (h : Lcm S c kf l n bu fa he sl la mk pr) {i lace : Nat} (hi : i < n) : f_X12_canHave 313 (nI l) (nI lace) (mk i) x4 S = some (bi (fiN bu fa he sl x4 mk pr i lace)) := by
  obtain ⟨h1, h2, h3, h4, h5, h6, h7⟩ := h
  unfold f_X12_canHave f_X12_canHave_33 fiN
  rw [k_313 h1.1, h2.stands h1, b1_s, k_313 h1.1, (h6 i hi).2, b1_s, m_size, b1_s, k_313 h1.1, h1.of 3 3 rfl (by decide), b1_s, h7]
  cases sd bu fa he (nI lace) (mk i)
  · rw [if_pos (show bi false = 0 from rfl), Bool.false_and]
    rfl
  · rw [if_neg (show ¬ bi true = 0 by decide), Bool.true_and]
    by_cases q : x4 = 0
    · rw [if_pos q, decide_eq_true q, Bool.true_or]
      rfl
    · rw [if_neg q, decide_eq_false q, Bool.false_or]
      by_cases z : sl < jabs (nI lace - pr i)
      · rw [if_pos z, decide_eq_true z]
        rfl
      · rw [if_neg z, decide_eq_false z]
        rfl
theorem ix31 (i x : Nat) : (31 : Int32) * nI i + nI x = nI (31 * i + x) := by
  rw [← nI_add, ← nI_mul]
  rfl
theorem by11 {kf : Nat} (h : Lcm S c kf l n bu fa he sl la mk pr) (hn16 : n ≤ 16) {i had : Nat} (hi : i < n) (hh : had < 31) {F : Nat → Nat} (hF : ∀ j, F j ≤ 1000000) (hT : ∀ j, j < 31 → S.1 333 (31 * (i + 1) + j) = nI (F j)) : ∀ (d x nn : Nat) (bb : Option Nat), x + d = 31 → d < nn → vF (byN (fiN bu fa he sl x4 mk pr i) F had) bb ≤ 1000000 → f_X12_laceBy_11 313 S nn (nI l) (nI i) (nI had) x4 (deepV bb) (nI (vF (byN (fiN bu fa he sl x4 mk pr i) F had) bb)) (nI x) = some (deepV (pickN (byN (fiN bu fa he sl x4 mk pr i) F had) d x bb))
  | _, _, 0, _, _, hn, _ => absurd hn (Nat.not_lt_zero _)
  | 0, x, nn + 1, bb, hx, _, _ => by
    rw [f_X12_laceBy_11, if_pos (show (31 : Int32) ≤ nI x from nI_le (a := 31) (by omega) (by omega))]
    rfl
  | d + 1, x, nn + 1, bb, hx, hn, hb => by
    obtain ⟨h1, h2, h3, h4, h5, h6, h7⟩ := id h
    have hW := h1.1
    have hd : dN x had ≤ 30 := by unfold dN; omega
    have hFx := hF x
    have hby : byN (fiN bu fa he sl x4 mk pr i) F had x ≤ 1000030 := by
      show (if fiN bu fa he sl x4 mk pr i x = true then F x + dN x had else 1000000) ≤ 1000030
      split <;> omega
    have e63 : f_X12_laceBy_63 (f_X12_laceBy_11 313 S nn) 313 S (nI l) (nI i) (nI had) x4 (deepV bb) (nI (vF (byN (fiN bu fa he sl x4 mk pr i) F had) bb)) (nI x) (nI (byN (fiN bu fa he sl x4 mk pr i) F had x)) = some (deepV (pickN (byN (fiN bu fa he sl x4 mk pr i) F had) (d + 1) x bb)) := by
      unfold f_X12_laceBy_63 f_X12_laceBy_79
      rw [m_lesser, b1_s, b1_s, jmin_n (by omega) (by omega), nI_1]
      show _ = some (deepV (pickN _ d (x + 1) (if byN (fiN bu fa he sl x4 mk pr i) F had x < vF (byN (fiN bu fa he sl x4 mk pr i) F had) bb then some x else bb)))
      by_cases q : byN (fiN bu fa he sl x4 mk pr i) F had x < vF (byN (fiN bu fa he sl x4 mk pr i) F had) bb
      · rw [if_pos q, if_pos q, if_neg (nI_ge q (by omega))]
        exact by11 h hn16 hi hh hF hT d (x + 1) nn (some x) (by omega) (by omega) (by show byN (fiN bu fa he sl x4 mk pr i) F had x ≤ 1000000; omega)
      · rw [if_neg q, if_neg q, if_pos (nI_le (by omega) (by omega))]
        exact by11 h hn16 hi hh hF hT d (x + 1) nn bb (by omega) (by omega) hb
    rw [f_X12_laceBy_11, if_neg (show ¬ (31 : Int32) ≤ nI x from nI_ge (b := 31) (by omega) (by omega)), k_313 hW, markOf_v hW h3 h4 (by omega), b1_s, (h6 i hi).1, k_313 hW, canM h hi, b1_s, r_313_46 hW, show nI i + 1 = nI (i + 1) from nI_1 i, ix31, y_333 hW (by omega), hT x (by omega), m_size, dist_k x (by omega) had hh, b1_s, nI_add]
    cases hf : fiN bu fa he sl x4 mk pr i x
    · rw [show byN (fiN bu fa he sl x4 mk pr i) F had x = 1000000 from if_neg (by rw [hf]; exact Bool.false_ne_true)] at e63
      rw [if_pos (show bi false = 0 from rfl)]
      exact e63
    · rw [show byN (fiN bu fa he sl x4 mk pr i) F had x = F x + dN x had from if_pos hf] at e63
      rw [if_neg (show ¬ bi true = 0 by decide)]
      exact e63
theorem byM {kf : Nat} (h : Lcm S c kf l n bu fa he sl la mk pr) (hn16 : n ≤ 16) {i had : Nat} (hi : i < n) (hh : had < 31) (hT : ∀ j, j < 31 → S.1 333 (31 * (i + 1) + j) = nI (nR (fiN bu fa he sl x4 mk pr) n (i + 1) j)) : f_X12_laceBy 313 (nI l) (nI i) (nI had) x4 S = some (deepV (laN (fiN bu fa he sl x4 mk pr) n i had)) :=
  by11 h hn16 hi hh (F := nR (fiN bu fa he sl x4 mk pr) n (i + 1)) (fun j => nd_le _ n _ j) hT 31 0 fu none (by omega) (by unfold fu; omega) (Nat.le_refl _)
theorem need47 {kf : Nat} {K : Int32 → Int32 → Int32 → GS → Option GS} (hn16 : n ≤ 16) {i : Nat} (hi : i < n) : ∀ (d x nn : Nat) (S : GS), (∀ S', Of 333 S S' → Lcm S' c kf l n bu fa he sl la mk pr) → (∀ j, j < 31 → S.1 333 (31 * (i + 1) + j) = nI (nR (fiN bu fa he sl x4 mk pr) n (i + 1) j)) → (∀ j, j < x → S.1 333 (31 * i + j) = nI (nR (fiN bu fa he sl x4 mk pr) n i j)) → x + d = 31 → d < nn → ∃ S', f_X12_findNeed_47 K 313 nn (nI l) x4 (nI i) (nI x) S = K (nI l) x4 (nI i + (-1)) S' ∧ Of 333 S S' ∧ (∀ y, y < 31 * i ∨ 31 * i + 31 ≤ y → S'.1 333 y = S.1 333 y) ∧ ∀ j, j < 31 → S'.1 333 (31 * i + j) = nI (nR (fiN bu fa he sl x4 mk pr) n i j)
  | _, _, 0, _, _, _, _, _, hn => absurd hn (Nat.not_lt_zero _)
  | 0, x, nn + 1, S, hH, h1, h2, hx, _ => by
    refine ⟨S, ?_, Of.rf _ _, fun y _ => rfl, fun j hj => h2 j (by omega)⟩
    rw [f_X12_findNeed_47, if_pos (show (31 : Int32) ≤ nI x from nI_le (a := 31) (by omega) (by omega))]
  | d + 1, x, nn + 1, S, hH, h1, h2, hx, hn => by
    have hL := hH S (Of.rf _ _)
    have hW := hL.1.1
    generalize hS1 : sI S 333 (31 * i + x) (nI (nR (fiN bu fa he sl x4 mk pr) n i x)) = S1
    have o1 : Of 333 S S1 := by rw [← hS1]; exact of_I
    obtain ⟨S', k1, k2, k3, k4⟩ := need47 (K := K) hn16 hi d (x + 1) nn S1 (fun S' hO => hH S' (o1.tr hO)) (fun j hj => by rw [← hS1, sI_at, if_neg (by omega)]; exact h1 j hj) (fun j hj => by
      rw [← hS1, sI_at]
      by_cases q : j = x
      · rw [q, if_pos rfl]
      · rw [if_neg (by omega)]
        exact h2 j (by omega)) (by omega) (by omega)
    refine ⟨S', ?_, o1.tr k2, fun y hy => by rw [k3 y hy, ← hS1, sI_at, if_neg (by omega)], k4⟩
    have hmin : vF (byN (fiN bu fa he sl x4 mk pr i) (nR (fiN bu fa he sl x4 mk pr) n (i + 1)) x) (laN (fiN bu fa he sl x4 mk pr) n i x) = nR (fiN bu fa he sl x4 mk pr) n i x := by
      rw [nR_s _ hi]
      exact pick_min _ 31 0 none
    rw [f_X12_findNeed_47, if_neg (show ¬ (31 : Int32) ≤ nI x from nI_ge (b := 31) (by omega) (by omega)), k_313 hW, byM hL hn16 hi (by omega) h1, b1_s, r_313_46 hW, r_313_46 hW, ix31, show nI i + 1 = nI (i + 1) from nI_1 i]
    unfold f_X12_findNeed_114
    rw [q_333 hW (by omega), nI_1]
    cases hl : laN (fiN bu fa he sl x4 mk pr) n i x with
    | none =>
      rw [hl, show vF (byN (fiN bu fa he sl x4 mk pr i) (nR (fiN bu fa he sl x4 mk pr) n (i + 1)) x) none = FARN from rfl] at hmin
      rw [← hmin] at hS1
      rw [if_pos (show deepV none = -1 from rfl), FAR_n, hS1, k1]
    | some j =>
      obtain ⟨p1, p2, p3⟩ := pick_lt hl
      rw [hl] at hmin
      have hmin : byN (fiN bu fa he sl x4 mk pr i) (nR (fiN bu fa he sl x4 mk pr) n (i + 1)) x j = _ := hmin
      have hfit : fiN bu fa he sl x4 mk pr i j = true := Classical.byContradiction fun z => by
        have : byN (fiN bu fa he sl x4 mk pr i) (nR (fiN bu fa he sl x4 mk pr) n (i + 1)) x j = FARN := if_neg z
        omega
      rw [show byN (fiN bu fa he sl x4 mk pr i) (nR (fiN bu fa he sl x4 mk pr) n (i + 1)) x j = nR (fiN bu fa he sl x4 mk pr) n (i + 1) j + dN j x from if_pos hfit] at hmin
      rw [if_neg (show ¬ deepV (some j) = -1 from nI_neg1 j (by omega)), show (31 : Int32) * nI (i + 1) + deepV (some j) = nI (31 * (i + 1) + j) from ix31 (i + 1) j, y_333 hW (by omega), h1 j p2, show deepV (some j) - nI x = nI j - nI x from rfl, m_size, dist_k j p2 x (by omega), b1_s, nI_add, hmin, q_333 hW (by omega), hS1, k1]
theorem need39 {kf : Nat} (hn16 : n ≤ 16) : ∀ (x nn : Nat) (S : GS), (∀ S', Of 333 S S' → Lcm S' c kf l n bu fa he sl la mk pr) → (∀ k, x ≤ k → k ≤ n → ∀ j, j < 31 → S.1 333 (31 * k + j) = nI (nR (fiN bu fa he sl x4 mk pr) n k j)) → x ≤ n → x < nn → ∃ S', f_X12_findNeed_39 313 nn (nI l) x4 (nI x - 1) S = some S' ∧ Of 333 S S' ∧ ∀ k, k ≤ n → ∀ j, j < 31 → S'.1 333 (31 * k + j) = nI (nR (fiN bu fa he sl x4 mk pr) n k j)
  | _, 0, _, _, _, _, hn => absurd hn (Nat.not_lt_zero _)
  | 0, nn + 1, S, hH, h1, hx, _ => by
    refine ⟨S, ?_, Of.rf _ _, fun k hk => h1 k (Nat.zero_le k) hk⟩
    rw [f_X12_findNeed_39, if_pos (by decide)]
  | x + 1, nn + 1, S, hH, h1, hx, hn => by
    obtain ⟨S1, g1, g2, g3, g4⟩ := need47 (K := f_X12_findNeed_39 313 nn) (i := x) hn16 (by omega) 31 0 fu S hH (h1 (x + 1) (Nat.le_refl _) hx) (fun j hj => absurd hj (Nat.not_lt_zero _)) (by omega) (by unfold fu; omega)
    obtain ⟨S', k1, k2, k3⟩ := need39 hn16 x nn S1 (fun S' hO => hH S' (g2.tr hO)) (fun k hk hk2 => by
      by_cases q : k = x
      · rw [q]
        exact g4
      · intro j hj
        rw [g3 _ (by omega)]
        exact h1 k (by omega) hk2 j hj) (by omega) (by omega)
    refine ⟨S', ?_, g2.tr k2, k3⟩
    rw [nI_pred, f_X12_findNeed_39, if_neg (nI_pos (by omega)), show f_X12_findNeed_47 (f_X12_findNeed_39 313 nn) 313 fu (nI l) x4 (nI x) 0 S = _ from g1, show nI x + (-1) = nI x - 1 from (Int32.sub_eq_add_neg _ _).symm, k1]
theorem need8 {kf : Nat} (hn16 : n ≤ 16) : ∀ (d x nn : Nat) (S : GS), (∀ S', Of 333 S S' → Lcm S' c kf l n bu fa he sl la mk pr) → (∀ j, j < x → S.1 333 (31 * n + j) = 0) → x + d = 31 → d < nn → ∃ S', f_X12_findNeed_8 313 nn (nI l) x4 (nI n) (nI x) S = some S' ∧ Of 333 S S' ∧ ∀ k, k ≤ n → ∀ j, j < 31 → S'.1 333 (31 * k + j) = nI (nR (fiN bu fa he sl x4 mk pr) n k j)
  | _, _, 0, _, _, _, _, hn => absurd hn (Nat.not_lt_zero _)
  | 0, x, nn + 1, S, hH, h1, hx, _ => by
    obtain ⟨S', k1, k2, k3⟩ := need39 (x4 := x4) hn16 n fu S hH (fun k hk hk2 j hj => by
      have e : k = n := by omega
      subst e
      rw [h1 j (by omega), show nR (fiN bu fa he sl x4 mk pr) k k = ndN (fiN bu fa he sl x4 mk pr) k 0 by unfold nR; rw [Nat.sub_self]]
      rfl) (Nat.le_refl n) (by unfold fu; omega)
    refine ⟨S', ?_, k2, k3⟩
    rw [f_X12_findNeed_8, if_pos (show (31 : Int32) ≤ nI x from nI_le (a := 31) (by omega) (by omega)), k1]
  | d + 1, x, nn + 1, S, hH, h1, hx, hn => by
    have hW := (hH S (Of.rf _ _)).1.1
    obtain ⟨S', k1, k2, k3⟩ := need8 hn16 d (x + 1) nn (sI S 333 (31 * n + x) 0) (fun S' hO => hH S' (of_I.tr hO)) (fun j hj => by
      rw [sI_at]
      by_cases q : j = x
      · rw [q, if_pos rfl]
      · rw [if_neg (by omega)]
        exact h1 j (by omega)) (by omega) (by omega)
    refine ⟨S', ?_, of_I.tr k2, k3⟩
    rw [f_X12_findNeed_8, if_neg (show ¬ (31 : Int32) ≤ nI x from nI_ge (b := 31) (by omega) (by omega)), r_313_46 hW, ix31, q_333 hW (by omega), nI_1, k1]
theorem knotsM {kf : Nat} (hn16 : n ≤ 16) (hla : la < 31) (hH : ∀ S', Of 333 S S' → Lcm S' c kf l n bu fa he sl la mk pr) : ∃ S', f_X12_knotsOf 313 (nI l) x4 S = some (nI (nR (fiN bu fa he sl x4 mk pr) n 0 la), S') ∧ Of 333 S S' ∧ ∀ k, k ≤ n → ∀ j, j < 31 → S'.1 333 (31 * k + j) = nI (nR (fiN bu fa he sl x4 mk pr) n k j) := by
  obtain ⟨h1, h2, h3, h4, h5, h6, h7⟩ := hH S (Of.rf _ _)
  obtain ⟨S', k1, k2, k3⟩ := need8 (x4 := x4) hn16 31 0 fu S hH (fun j hj => absurd hj (Nat.not_lt_zero _)) (by omega) (by unfold fu; omega)
  have hL' := hH S' k2
  refine ⟨S', ?_, k2, k3⟩
  unfold f_X12_knotsOf f_X12_findNeed
  have e0 := k3 0 (Nat.zero_le n) la hla
  rw [Nat.mul_zero, Nat.zero_add] at e0
  rw [k_313 h1.1, k_313 h1.1, marks_v h1.1 h3 h4, h5, b1_s, show f_X12_findNeed_8 313 fu (nI l) x4 (nI n) 0 S = _ from k1, b1_s, r_313_46 hL'.1.1, k_313 hL'.1.1, hL'.2.1.lace hL'.1, b1_s, y_333 hL'.1.1 (by omega), e0]
theorem laced83 {kf : Nat} (h : Lcm S c kf l n bu fa he sl la mk pr) (hn16 : n ≤ 16) (hla : la < 31) (hT : ∀ k, k ≤ n → ∀ j, j < 31 → S.1 333 (31 * k + j) = nI (nR (fiN bu fa he sl x4 mk pr) n k j)) (hm : nR (fiN bu fa he sl x4 mk pr) n 0 la < FARN) {w : Nat} (hw : w < n) {x6 : Int32} : ∀ (d i nn : Nat), i + d = w + 1 → d < nn → f_X12_laced_83 313 nn (nI l) x4 (nI (w + 10)) x6 (nI (ptN (fiN bu fa he sl x4 mk pr) n la i)) (nI i) S = some (nI (ptN (fiN bu fa he sl x4 mk pr) n la (w + 1)), S)
  | _, _, 0, _, hn => absurd hn (Nat.not_lt_zero _)
  | 0, i, nn + 1, hi, _ => by
    rw [f_X12_laced_83, nI_litsub 10 10 rfl (by omega), Nat.add_sub_cancel, if_pos (nI_lt (by omega) (by omega)), if_neg (nI_ne0 (by omega) (by omega)), show i = w + 1 by omega]
  | d + 1, i, nn + 1, hi, hn => by
    obtain ⟨h1, h2⟩ := pt_ok hla hm i (by omega)
    obtain ⟨j, e, h3, -⟩ := la_some (ft := fiN bu fa he sl x4 mk pr) (show i < n by omega) h1
    have ep : ptN (fiN bu fa he sl x4 mk pr) n la (i + 1) = j := by
      show (laN (fiN bu fa he sl x4 mk pr) n i (ptN (fiN bu fa he sl x4 mk pr) n la i)).getD 0 = j
      rw [e]
      rfl
    have ih := laced83 h hn16 hla hT hm hw (x6 := x6) d (i + 1) nn (by omega) (by omega)
    rw [ep] at ih
    rw [f_X12_laced_83, nI_litsub 10 10 rfl (by omega), Nat.add_sub_cancel, if_neg (nI_nlt (by omega) (by omega)), k_313 h.1.1, byM h hn16 (by omega) h2 (hT (i + 1) (by omega)), b1_s, e, nI_1]
    exact ih
end LD
