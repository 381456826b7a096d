/-! laced anew: the class -/
theorem rowL_k : ∀ i, i < 17 → gRf 248 i = some (249 + i) ∧ kd (249 + i) = 14 ∧ ln (249 + i) = 31 := by decide +kernel
theorem FAR_n : (1000000 : Int32) = nI FARN := rfl
section LC
variable {S S' : GS} {o b k l co fo n : Nat} {c : Int32} {bu fa he sl : Int32} {la : Nat} {mk pr : Nat → Int32} {x4 : Int32}
theorem y248 {α : Type} (hW : Wr S) {i : Nat} (hi : i < 17) {g : Option Nat → Option α} : yR (some 248) 21 (nI i) S g = g (some (249 + i)) := by
  rw [yR_w (o := 248) (c := 21) hW (by decide) rfl (n := 17) rfl hi (by omega) (by decide), (rowL_k i hi).1]
theorem g249 (hW : Wr S) {i : Nat} (hi : i < 17) : gk S (249 + i) = 14 := gk_n hW (by omega) (rowL_k i hi).2.1
def Nj (S : GS) (a : Nat) (F : Nat → Nat) : Prop := ∀ j, j < 31 → S.1 a j = nI (F j)
theorem jmin_n {a b : Nat} (ha : a < 2 ^ 31) (hb : b < 2 ^ 31) : jmin (nI a) (nI b) = nI (if b < a then b else a) := by
  unfold jmin
  by_cases q : b < a
  · rw [if_pos q, if_pos (nI_lt q ha)]
  · rw [if_neg q, if_neg (nI_nlt (by omega) hb)]
theorem spread48 {i : Nat} (hi : i < 17) {F : Nat → Nat} (hb : ∀ j, F j ≤ FARN) : ∀ (x n : Nat) (S : GS), Wr S → x ≤ 30 → (∀ j, j < x → S.1 (249 + i) j = nI (F j)) → (∀ j, x ≤ j → j ≤ 30 → S.1 (249 + i) j = nI (bkN F (30 - j))) → x < n → (∀ d, bkN F d ≤ FARN) → ∃ S', f_X3_spreadKnots_48 247 n (nI i) (nI x + (-1)) S = some S' ∧ Of (249 + i) S S' ∧ Nj S' (249 + i) (fun l => bkN F (30 - l))
  | _, 0, _, _, _, _, _, hn, _ => absurd hn (Nat.not_lt_zero _)
  | 0, n + 1, S, hW, hx, h1, h2, _, _ => by
    refine ⟨S, ?_, Of.rf _ _, fun j hj => h2 j (Nat.zero_le j) (by omega)⟩
    rw [f_X3_spreadKnots_48, if_pos (by decide)]
  | x + 1, n + 1, S, hW, hx, h1, h2, hn, hk => by
    obtain ⟨r1, r2, r3⟩ := rowL_k i hi
    have hF : F x ≤ 1000000 := hb x
    have hK : bkN F (30 - (x + 1)) ≤ 1000000 := hk (30 - (x + 1))
    have e : bkN F (30 - x) = if bkN F (30 - (x + 1)) + 1 < F x then bkN F (30 - (x + 1)) + 1 else F x := by
      rw [show 30 - x = (30 - (x + 1)) + 1 by omega]
      show (if bkN F (30 - (x + 1)) + 1 < F (29 - (30 - (x + 1))) then bkN F (30 - (x + 1)) + 1 else F (29 - (30 - (x + 1)))) = _
      rw [show 29 - (30 - (x + 1)) = x by omega]
    generalize hS1 : sI S (249 + i) x (nI (bkN F (30 - x))) = S1
    have o1 : Of (249 + i) S S1 := by rw [← hS1]; exact of_I
    obtain ⟨S', k1, k2, k3⟩ := spread48 hi hb x n S1 (o1.wr hW) (by omega) (fun j hj => by rw [← hS1, sI_at, if_neg (by omega)]; exact h1 j (by omega)) (fun j hj hj2 => by
      rw [← hS1, sI_at]
      by_cases q : j = x
      · rw [if_pos q, q]
      · rw [if_neg q]
        exact h2 j (by omega) hj2) (by omega) hk
    refine ⟨S', ?_, o1.tr k2, k3⟩
    rw [nI_dec, f_X3_spreadKnots_48, if_neg (nI_pos (by omega)), r_247_0 hW, y248 hW hi, r_247_0 hW, y248 hW hi, yI_n (g249 hW hi) (by rw [r3]; omega) (by omega), h1 x (by omega), r_247_0 hW, y248 hW hi, nI_1, yI_n (g249 hW hi) (by rw [r3]; omega) (by omega), h2 (x + 1) (Nat.le_refl _) (by omega), nI_1, jmin_n (by omega) (by omega), ← e, qI_n (g249 hW hi) (by rw [r3]; omega) (by omega), hS1, k1]
theorem fw_far {b : Nat → Nat} (hb : ∀ j, b j ≤ FARN) (l : Nat) : fwN b l ≤ FARN := Nat.le_trans (fw_le b l) (hb l)
theorem bk_far {F : Nat → Nat} (hF : ∀ j, F j ≤ FARN) : ∀ d, bkN F d ≤ FARN
  | 0 => hF 30
  | d + 1 => by
    have := hF (29 - d)
    show (if bkN F d + 1 < F (29 - d) then bkN F d + 1 else F (29 - d)) ≤ FARN
    split <;> omega
theorem spread2 {i : Nat} (hi : i < 17) {b : Nat → Nat} (hb : ∀ j, b j ≤ FARN) : ∀ (d x n : Nat) (S : GS), Wr S → (∀ j, j < x → S.1 (249 + i) j = nI (fwN b j)) → (∀ j, x ≤ j → j < 31 → S.1 (249 + i) j = nI (b j)) → 1 ≤ x → x + d = 31 → d < n → ∃ S', f_X3_spreadKnots_2 247 n (nI i) (nI x) S = some S' ∧ Of (249 + i) S S' ∧ Nj S' (249 + i) (spN b)
  | _, _, 0, _, _, _, _, _, _, hn => absurd hn (Nat.not_lt_zero _)
  | 0, x, n + 1, S, hW, h1, h2, h0, hx, _ => by
    have ex : x = 31 := by omega
    subst ex
    obtain ⟨S', k1, k2, k3⟩ := spread48 hi (F := fwN b) (fw_far hb) 30 fu S hW (Nat.le_refl _) (fun j hj => h1 j (by omega)) (fun j hj hj2 => by
      rw [show j = 30 by omega]
      exact h1 30 (by omega)) (by unfold fu; omega) (bk_far (fw_far hb))
    refine ⟨S', ?_, k2, k3⟩
    rw [f_X3_spreadKnots_2, if_pos (show (30 : Int32) < nI 31 by decide)]
    exact k1
  | d + 1, x, n + 1, S, hW, h1, h2, h0, hx, hn => by
    obtain ⟨r1, r2, r3⟩ := rowL_k i hi
    have hF : fwN b (x - 1) ≤ 1000000 := fw_far hb (x - 1)
    have hB : b x ≤ 1000000 := hb x
    have e : fwN b x = if fwN b (x - 1) + 1 < b x then fwN b (x - 1) + 1 else b x := by
      have : x = (x - 1) + 1 := by omega
      rw [this]
      rfl
    generalize hS1 : sI S (249 + i) x (nI (fwN b x)) = S1
    have o1 : Of (249 + i) S S1 := by rw [← hS1]; exact of_I
    obtain ⟨S', k1, k2, k3⟩ := spread2 hi hb d (x + 1) n S1 (o1.wr hW) (fun j hj => by
      rw [← hS1, sI_at]
      by_cases q : j = x
      · rw [if_pos q, q]
      · rw [if_neg q]
        exact h1 j (by omega)) (fun j hj hj2 => by rw [← hS1, sI_at, if_neg (by omega)]; exact h2 j (by omega) hj2) (by omega) (by omega) (by omega)
    refine ⟨S', ?_, o1.tr k2, k3⟩
    rw [f_X3_spreadKnots_2, if_neg (show ¬ (30 : Int32) < nI x from nI_nlt (a := 30) (by omega) (by omega)), r_247_0 hW, y248 hW hi, r_247_0 hW, y248 hW hi, yI_n (g249 hW hi) (by rw [r3]; omega) (by omega), h2 x (Nat.le_refl _) (by omega), r_247_0 hW, y248 hW hi, show nI x - 1 = nI (x - 1) from nI_sub (b := 1) h0, yI_n (g249 hW hi) (by rw [r3]; omega) (by omega), h1 (x - 1) (by omega), nI_1, jmin_n (by omega) (by omega), ← e, qI_n (g249 hW hi) (by rw [r3]; omega) (by omega), hS1, nI_1, k1]
theorem spreadC {i : Nat} (hi : i < 17) {b : Nat → Nat} (hb : ∀ j, b j ≤ FARN) (hW : Wr S) (h : Nj S (249 + i) b) : ∃ S', f_X3_spreadKnots 247 (nI i) S = some S' ∧ Of (249 + i) S S' ∧ Nj S' (249 + i) (spN b) :=
  spread2 hi hb 30 1 fu S hW (fun j hj => by rw [show j = 0 by omega]; exact h 0 (by decide)) (fun j hj hj2 => h j hj2) (Nat.le_refl 1) (by omega) (by unfold fu; omega)
/-- what the class reads of court, lady and forecast -/
def Lcc (S : GS) (co fo l n : Nat) (bu fa he sl : Int32) (la : Nat) (mk pr : Nat → Int32) : Prop := Cw S co ∧ Lw S co l bu fa he (nI la) ∧ Rw S fo 16 1 ∧ nr S fo = n ∧ (∀ k, k < n → S.1 (fo + 1) (1 * k + 0) = mk k ∧ f_X0_properAt co (mk k) S = some (pr k)) ∧ S.1 co 4 = sl
/-- whether a lace will do at a minute -/
def fiN (bu fa he sl x4 : Int32) (mk pr : Nat → Int32) (k lace : Nat) : Bool := sd bu fa he (nI lace) (mk k) && (decide (x4 = 0) || !decide (sl < jabs (nI lace - pr k)))
theorem few75 {K : Option Nat → Option Nat → Int32 → Int32 → Int32 → GS → Option (Int32 × GS)} {i : Nat} (hi : i < n) (hn16 : n ≤ 16) {F : Nat → Nat} (hFb : ∀ j, F j ≤ FARN) : ∀ (d m nn : Nat) (S : GS), Wr S → (∀ S', OfA 247 268 S S' → Lcc S' co fo l n bu fa he sl la mk pr) → Nj S (249 + (i + 1)) F → (∀ j, j < m → S.1 (249 + i) j = nI (baseN (fiN bu fa he sl x4 mk pr i) F j) ∧ S.1 266 (31 * i + j) = bi (fiN bu fa he sl x4 mk pr i j)) → m + d = 31 → d < nn → ∃ S', f_X3_fewest_75 K 247 nn (some co) (some fo) (nI l) x4 (nI i) (mk i - he) (pr i) (nI m) S = K (some co) (some fo) (nI l) x4 (nI i + (-1)) S' ∧ OfA 247 268 S S' ∧ S'.1 247 = S.1 247 ∧ S'.1 267 = S.1 267 ∧ (∀ a, 249 ≤ a → a < 266 → a ≠ 249 + i → S'.1 a = S.1 a) ∧ (∀ x, x < 31 * i ∨ 31 * i + 31 ≤ x → S'.1 266 x = S.1 266 x) ∧ Nj S' (249 + i) (stepN (fiN bu fa he sl x4 mk pr i) F) ∧ ∀ j, j < 31 → S'.1 266 (31 * i + j) = bi (fiN bu fa he sl x4 mk pr i j)
  | _, _, 0, _, _, _, _, _, _, hn => absurd hn (Nat.not_lt_zero _)
  | 0, m, nn + 1, S, hW, hH, h1, h2, hm, _ => by
    have hbb : ∀ j, baseN (fiN bu fa he sl x4 mk pr i) F j ≤ FARN := fun j => by
      unfold baseN
      split
      · exact hFb j
      · exact Nat.le_refl _
    obtain ⟨S', k1, k2, k3⟩ := spreadC (i := i) (by omega) hbb hW (fun j hj => (h2 j (by omega)).1)
    refine ⟨S', ?_, k2.ra (by omega) (by omega), k2.2 247 (by omega), k2.2 267 (by omega), fun a _ _ h => k2.2 a h, fun x _ => by rw [k2.2 266 (by omega)], fun j hj => by rw [k3 j hj, sp_step hFb (by omega)], fun j hj => by rw [k2.2 266 (by omega)]; exact (h2 j (by omega)).2⟩
    rw [f_X3_fewest_75, if_pos (show (30 : Int32) < nI m from nI_lt (a := 30) (by omega) (by omega)), k_247 hW, k1, b1_s]
  | d + 1, m, nn + 1, S, hW, hH, h1, h2, hm, hn => by
    obtain ⟨c1', c2', c3', c4', c5', c6'⟩ := hH S (OfA.rf _ _ _)
    obtain ⟨r1, r2, r3⟩ := rowL_k i (by omega)
    obtain ⟨q1, q2, q3⟩ := rowL_k (i + 1) (by omega)
    generalize hS1 : sI S 266 (31 * i + m) (bi (fiN bu fa he sl x4 mk pr i m)) = S1
    have o1 : Of 266 S S1 := by rw [← hS1]; exact of_I
    have hW1 := o1.wr hW
    generalize hS2 : sI S1 (249 + i) m (nI (baseN (fiN bu fa he sl x4 mk pr i) F m)) = S2
    have o2 : Of (249 + i) S1 S2 := by rw [← hS2]; exact of_I
    have hW2 := o2.wr hW1
    have o12 : OfA 247 268 S S2 := (o1.ra (by decide) (by decide)).tr (o2.ra (by omega) (by omega))
    obtain ⟨S', k1, k2, k3, k4, k5, k6, k7, k8⟩ := few75 hi hn16 hFb (K := K) d (m + 1) nn S2 hW2 (fun S' hO => hH S' (o12.tr hO)) (by
      intro j hj
      rw [o2.2 _ (by omega), o1.2 _ (by omega)]
      exact h1 j hj) (fun j hj => by
      rw [o2.2 266 (by omega), ← hS1, sI_at, ← hS2, sI_at, o1.2 (249 + i) (by omega)]
      by_cases q : j = m
      · rw [q, if_pos rfl, if_pos rfl]
        exact ⟨rfl, rfl⟩
      · rw [if_neg q, if_neg (by omega)]
        exact h2 j (by omega)) (by omega) (by omega)
    refine ⟨S', ?_, o12.tr k2, ?_, ?_, fun a h3 h4 h5 => ?_, fun x hx => ?_, k7, k8⟩
    · have e115 (y : Bool) (hy : y = fiN bu fa he sl x4 mk pr i m) : f_X3_fewest_115 K (f_X3_fewest_75 K 247 nn) 247 (some co) (some fo) (nI l) x4 (nI i) (mk i - he) (pr i) (nI m) (bi y) S = K (some co) (some fo) (nI l) x4 (nI i + (-1)) S' := by
        have ez : bi y &&& 1 = bi y := by cases y <;> rfl
        unfold f_X3_fewest_115 f_X3_fewest_163
        rw [r_247_1 hW, show nI i * 31 + nI m = nI (31 * i + m) by rw [show 31 * i + m = i * 31 + m by omega, ← nI_add, ← nI_mul]; rfl, q_266 hW (by omega), ez, hy, hS1, r_247_0 hW1, y248 hW1 (by omega), r_247_0 hW1, show nI i + 1 = nI (i + 1) from nI_1 i, y248 hW1 (by omega), yI_n (g249 hW1 (by omega)) (by rw [q3]; omega) (by omega), o1.2 _ (by omega), h1 m (by omega), qI_n (g249 hW1 (by omega)) (by rw [r3]; omega) (by omega), qI_n (g249 hW1 (by omega)) (by rw [r3]; omega) (by omega), nI_1]
        unfold baseN at hS2
        cases hf : fiN bu fa he sl x4 mk pr i m
        · rw [hf, if_neg Bool.false_ne_true] at hS2
          rw [if_pos (show bi false = 0 from rfl), FAR_n, hS2, k1]
        · rw [hf, if_pos rfl] at hS2
          rw [if_neg (show ¬ bi true = 0 by decide), hS2, k1]
      have hst : f_X0_stands co (nI l) (nI m) (mk i - he) S = some (bi (sd bu fa he (nI m) (mk i))) := c2'.stands c1' (nI m) (mk i - he)
      rw [f_X3_fewest_75, if_neg (show ¬ (30 : Int32) < nI m from nI_nlt (a := 30) (by omega) (by omega)), c1_s c1'.1, hst, b1_s]
      unfold f_X3_fewest_114 f_X3_fewest_110
      cases hs : sd bu fa he (nI m) (mk i)
      · rw [if_pos (show bi false = 0 from rfl)]
        refine e115 false ?_
        unfold fiN
        rw [hs]
        rfl
      · rw [if_neg (show ¬ bi true = 0 by decide)]
        by_cases z : x4 = 0
        · rw [if_pos z]
          refine e115 true ?_
          unfold fiN
          rw [hs, decide_eq_true z]
          rfl
        · rw [if_neg z, c1_s c1'.1]
          unfold f_X0_isNear
          rw [xI_s c1'.1, c6']
          by_cases y : sl < jabs (nI m - pr i)
          · rw [if_pos y, b1_s, if_pos rfl]
            refine e115 false ?_
            unfold fiN
            rw [hs, decide_eq_false z, decide_eq_true y]
            rfl
          · rw [if_neg y, b1_s, if_neg n10]
            refine e115 true ?_
            unfold fiN
            rw [hs, decide_eq_false z, decide_eq_false y]
            rfl
    · exact k3.trans ((o2.2 247 (by omega)).trans (o1.2 247 (by decide)))
    · rw [k4, o2.2 267 (by omega), o1.2 267 (by omega)]
    · rw [k5 a h3 h4 h5, o2.2 a h5, o1.2 a (by omega)]
    · rw [k6 x hx, o2.2 266 (by omega), ← hS1, sI_at, if_neg (by omega)]
/-- the class's table of laces -/
def Tab (S : GS) (n : Nat) (la : Nat) (ft : Nat → Nat → Bool) (i : Nat) : Prop := S.1 247 3 = nI la ∧ (∀ k, i ≤ k → k ≤ n → Nj S (249 + k) (nR ft n k)) ∧ ∀ k, i ≤ k → k < n → ∀ j, j < 31 → S.1 266 (31 * k + j) = bi (ft k j)
theorem few41 (hn16 : n ≤ 16) (hla : la < 31) : ∀ (x nn : Nat) (S : GS), Wr S → (∀ S', OfA 247 268 S S' → Lcc S' co fo l n bu fa he sl la mk pr) → Tab S n la (fiN bu fa he sl x4 mk pr) x → x ≤ n → x < nn → ∃ S', f_X3_fewest_41 247 nn (some co) (some fo) (nI l) x4 (nI x + (-1)) S = some (if nR (fiN bu fa he sl x4 mk pr) n 0 la < FARN then nI (nR (fiN bu fa he sl x4 mk pr) n 0 la) else -1, S') ∧ OfA 247 268 S S' ∧ S'.1 267 = S.1 267 ∧ Tab S' n la (fiN bu fa he sl x4 mk pr) 0
  | _, 0, _, _, _, _, _, hn => absurd hn (Nat.not_lt_zero _)
  | 0, nn + 1, S, hW, hH, hT, hx, _ => by
    obtain ⟨t1, t2, t3⟩ := hT
    have hnd : nR (fiN bu fa he sl x4 mk pr) n 0 la ≤ 1000000 := nd_le (fiN bu fa he sl x4 mk pr) n (n - 0) la
    refine ⟨S, ?_, OfA.rf _ _ _, rfl, t1, t2, t3⟩
    have e0 : S.1 (249 + 0) la = nI (nR (fiN bu fa he sl x4 mk pr) n 0 la) := t2 0 (Nat.le_refl 0) (Nat.zero_le n) la hla
    obtain ⟨r1, r2, r3⟩ := rowL_k 0 (by decide)
    rw [f_X3_fewest_41, if_pos (by decide), i_247 hW, t1, isLace_q (S' := S), show f_X12_in (nI la) 0 30 S = some 1 from in_y (a := 0) (b := 30) (by omega) (by omega) (by omega), b1_s, if_neg n10, r_247_0 hW, show yR (some 248) 21 0 S _ = _ from y248 (i := 0) hW (by decide), i_247 hW, t1, yI_n (g249 hW (i := 0) (by decide)) (by rw [r3]; exact hla) (by omega), e0, r_247_0 hW, show yR (some 248) 21 0 S _ = _ from y248 (i := 0) hW (by decide), i_247 hW, t1, yI_n (g249 hW (i := 0) (by decide)) (by rw [r3]; exact hla) (by omega), e0, FAR_n]
    by_cases q : nR (fiN bu fa he sl x4 mk pr) n 0 la < FARN
    · rw [if_neg (nI_ge q (by decide)), if_pos q]
    · rw [if_pos (nI_le (Nat.not_lt.mp q) (by omega)), if_neg q]
  | x + 1, nn + 1, S, hW, hH, hT, hx, hn => by
    obtain ⟨t1, t2, t3⟩ := hT
    obtain ⟨c1', c2', c3', c4', c5', c6'⟩ := hH S (OfA.rf _ _ _)
    obtain ⟨m1, m2⟩ := c5' x (by omega)
    obtain ⟨S1, g1, g2, g3, g4, g5, g6, g7, g8⟩ := few75 (K := f_X3_fewest_41 247 nn) (i := x) (x4 := x4) (by omega) hn16 (F := nR (fiN bu fa he sl x4 mk pr) n (x + 1)) (fun j => nd_le _ _ _ j) 31 0 fu S hW hH (t2 (x + 1) (Nat.le_refl _) hx) (fun j hj => absurd hj (Nat.not_lt_zero _)) (by omega) (by unfold fu; omega)
    rw [← nR_s (fiN bu fa he sl x4 mk pr) (show x < n by omega)] at g7
    obtain ⟨S', k1, k2, k3, k4⟩ := few41 hn16 hla x nn S1 (g2.wr hW) (fun S' hO => hH S' (g2.tr hO)) ⟨by rw [g3]; exact t1, fun k h1 h2 => by
      by_cases q : k = x
      · rw [q]
        exact g7
      · intro j hj
        rw [g5 _ (by omega) (by omega) (by omega)]
        exact t2 k (by omega) h2 j hj, fun k h1 h2 j hj => by
      by_cases q : k = x
      · rw [q]
        exact g8 j hj
      · rw [g6 _ (by omega)]
        exact t3 k (by omega) h2 j hj⟩ (by omega) (by omega)
    refine ⟨S', ?_, g2.tr k2, k3.trans g4, k4⟩
    rw [nI_dec, f_X3_fewest_41, if_neg (nI_pos (by omega)), c1_s c3'.1, c3'.cellL 0 0 rfl (by omega) (by decide), b1_s, m1, c1_s c1'.1, c2'.press c1', b1_s, c1_s c1'.1, m2, b1_s, show f_X3_fewest_75 (f_X3_fewest_41 247 nn) 247 fu (some co) (some fo) (nI l) x4 (nI x) (mk x - he) (pr x) 0 S = _ from g1, k1]
theorem fewC (hn16 : n ≤ 16) (hla : la < 31) (hW : Wr S) (hH : ∀ S', OfA 247 268 S S' → Lcc S' co fo l n bu fa he sl la mk pr) : ∃ S', f_X3_fewest 247 (some co) (some fo) (nI l) x4 S = some (if nR (fiN bu fa he sl x4 mk pr) n 0 la < FARN then nI (nR (fiN bu fa he sl x4 mk pr) n 0 la) else -1, S') ∧ OfA 247 268 S S' ∧ S'.1 267 = S.1 267 ∧ Tab S' n la (fiN bu fa he sl x4 mk pr) 0 := by
  obtain ⟨c1', c2', c3', c4', c5', c6'⟩ := hH S (OfA.rf _ _ _)
  generalize hS1 : sI S 247 3 (nI la) = S1
  have q1 : Of 247 S S1 := by rw [← hS1]; exact of_I
  have o1 : OfA 247 268 S S1 := q1.ra (by decide) (by decide)
  have hW1 := o1.wr hW
  obtain ⟨d1, d2, d3, d4, d5, d6⟩ := hH S1 o1
  obtain ⟨r1, r2, r3⟩ := rowL_k n (by omega)
  obtain ⟨S2, g1, g2, g3⟩ := fill_v (S := S1) (a := 249 + n) 0 (N := 31) r3 (by decide) (g249 hW1 (by omega))
  have o2 : OfA 247 268 S S2 := o1.tr (g2.ra (by omega) (by omega))
  have ej : jmin 16 (nI n) = nI n := by
    unfold jmin
    by_cases q : n < 16
    · rw [if_pos (show nI n < (16 : Int32) from nI_lt (b := 16) q (by decide))]
    · rw [if_neg (show ¬ nI n < (16 : Int32) from nI_nlt (b := 16) (by omega) (by omega)), show n = 16 by omega]
      rfl
  obtain ⟨S', k1, k2, k3, k4⟩ := few41 (x4 := x4) hn16 hla n fu S2 (g2.wr hW1) (fun S' hO => hH S' (o2.tr hO)) ⟨by rw [g2.2 247 (by omega), ← hS1, sI_at, if_pos rfl], fun k h1 h2 => by
    have e : k = n := by omega
    subst e
    intro j hj
    rw [g3 j hj, show nR (fiN bu fa he sl x4 mk pr) k k = ndN (fiN bu fa he sl x4 mk pr) k 0 by unfold nR; rw [Nat.sub_self]]
    rfl, fun k h1 h2 => by omega⟩ (Nat.le_refl n) (by unfold fu; omega)
  refine ⟨S', ?_, o2.tr k2, ?_, k4⟩
  · unfold f_X3_fewest
    rw [xR_s c1'.1, c1'.2.2.1, c1_s c1'.2.2.2.2.2.2.2.2.1.1, c2'.lace c1', b1_s, p_247 hW, hS1, xI_s d3.1, d3.2.2.2.2.2.2.1, d4, ej, r_247_0 hW1, y248 hW1 (by omega), g1, b1_s, show nI n - 1 = nI n + (-1) from Int32.sub_eq_add_neg _ _, k1]
  · rw [k3, g2.2 267 (by omega), q1.2 267 (by decide)]
end LC
