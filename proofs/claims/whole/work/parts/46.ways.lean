/-! ways: the class's tables to their ends -/
section WZ
variable {S S' : GS} {o b k l co : Nat} {c : Int32}
theorem p3_le {i : Nat} (h : i ≤ 17) : 3 ^ i ≤ 129140163 := Nat.le_trans (Nat.pow_le_pow_right (by decide) h) (by decide)
theorem aN_b {ft : Nat → Nat → Bool} {gl i : Nat} (hi : i ≤ 16) {j : Nat} (hj : j < 41) : aN ft gl i j < 2 ^ 31 := by
  have h1 := aN_le ft gl i j hj
  have h2 := p3_le (i := i) (by omega)
  omega
theorem nearA_b {ft : Nat → Nat → Bool} {gl i : Nat} (hi : i ≤ 16) {j : Nat} (hj : j < 41) : nearN (aN ft gl i) j < 2 ^ 31 := by
  have h1 := near_le (f := aN ft gl i) (B := 3 ^ i) hj (fun j hj => aN_le ft gl i j hj)
  have h2 := p3_le (i := i) (by omega)
  omega
theorem come34 {k : Nat} {ft : Nat → Nat → Bool} {gl L : Nat} (hL : L ≤ 16) : ∀ (d i n : Nat) (S : GS), Wr S → k < 2 → S.1 271 2 = nI L → (∀ S', OfA 272 308 S S' → ∀ i m, i ≤ 16 → m < 41 → f_X8_seenAgree (18 + 21 * k) (some co) (nI i) (nI m) S' = some (bi (ft i m))) → (∀ j, j ≤ i → Ni S (273 + j) (aN ft gl j)) → i + d = L → d < n → ∃ S', f_X10_come_34 271 n (some co) (some (18 + 21 * k)) (nI (i + 1)) S = some S' ∧ OfA 272 308 S S' ∧ ∀ j, j ≤ L → Ni S' (273 + j) (aN ft gl j)
  | _, _, 0, _, _, _, _, _, _, _, hn => absurd hn (Nat.not_lt_zero _)
  | 0, i, n + 1, S, hW, hk, hl, hft, hA, hi, _ => by
    refine ⟨S, ?_, OfA.rf _ _ _, fun j hj => hA j (by omega)⟩
    rw [f_X10_come_34, i_271 hW, hl, if_pos (nI_lt (by omega) (by omega))]
  | d + 1, i, n + 1, S, hW, hk, hl, hft, hA, hi, hn => by
    obtain ⟨S1, g1, g2, g3⟩ := come51 (k := k) (co := co) (i := i) (by omega) (A := aN ft gl i) (fun j hj => nearA_b (by omega) hj) (ft := ft) (K := f_X10_come_34 271 n) 41 0 fu S hW hk (fun S' hO m hm => hft S' (hO.ra (by omega) (by omega)) (i + 1) m (by omega) hm) (hA i (Nat.le_refl i)) (fun j hj => absurd hj (Nat.not_lt_zero _)) (by omega) (by unfold fu; omega)
    have o1 : OfA 272 308 S S1 := g2.ra (by omega) (by omega)
    obtain ⟨S', k1, k2, k3⟩ := come34 hL d (i + 1) n S1 (o1.wr hW) hk (by rw [o1.2 271 (by omega)]; exact hl) (fun S' hO => hft S' (o1.tr hO)) (fun j hj => by
      by_cases q : j = i + 1
      · rw [q]
        exact g3
      · intro m hm
        rw [g2.2 _ (by omega)]
        exact hA j (by omega) m hm) (by omega) (by omega)
    refine ⟨S', ?_, o1.tr k2, k3⟩
    rw [f_X10_come_34, i_271 hW, hl, if_neg (nI_nlt (by omega) (by omega)), if_neg (show ¬ (16 : Int32) < nI (i + 1) from nI_nlt (a := 16) (by omega) (by omega)), show f_X10_come_51 (f_X10_come_34 271 n) 271 fu (some co) (some (18 + 21 * k)) (nI (i + 1)) 0 S = _ from g1, k1]
theorem comeC {k : Nat} {ft : Nat → Nat → Bool} {gl L : Nat} (hL : L ≤ 16) (hgl : gl ≤ 40) (hW : Wr S) (hk : k < 2) (hl : S.1 271 2 = nI L) (hc : gk S co = 0) (hc2 : co < 230) (hg : S.1 co 6 = nI gl) (hft : ∀ S', OfA 272 308 S S' → ∀ i m, i ≤ 16 → m < 41 → f_X8_seenAgree (18 + 21 * k) (some co) (nI i) (nI m) S' = some (bi (ft i m))) : ∃ S', f_X10_come 271 (some co) (some (18 + 21 * k)) S = some S' ∧ OfA 272 308 S S' ∧ ∀ j, j ≤ L → Ni S' (273 + j) (aN ft gl j) := by
  obtain ⟨S1, g1, g2, g3⟩ := fill_v (S := S) (a := 273) 0 (N := 41) rfl (by decide) (g273 hW (i := 0) (by decide))
  have hW1 := g2.wr hW
  have o1 : OfA 272 308 S S1 := g2.ra (by decide) (by decide)
  have e1 : S1.1 co 6 = nI gl := by rw [o1.2 co (by omega)]; exact hg
  have c1' : gk S1 co = 0 := by rw [of_gk g2]; exact hc
  generalize hS2 : sI S1 273 gl 1 = S2
  have o2 : Of 273 S1 S2 := by rw [← hS2]; exact of_I
  have o12 : OfA 272 308 S S2 := o1.tr (o2.ra (by decide) (by decide))
  obtain ⟨S', k1, k2, k3⟩ := come34 (k := k) (co := co) (ft := ft) (gl := gl) hL L 0 fu S2 (o2.wr hW1) hk (by rw [o12.2 271 (by omega)]; exact hl) (fun S' hO => hft S' (o12.tr hO)) (fun j hj => by
    have : j = 0 := by omega
    subst this
    intro m hm
    show S2.1 273 m = nI (st0 gl m)
    rw [← hS2, sI_at, g3 m hm]
    unfold st0
    split <;> rfl) (by omega) (by unfold fu; omega)
  refine ⟨S', ?_, o12.tr k2, k3⟩
  unfold f_X10_come f_X10_come_32
  rw [r_271_0 hW, show yR (some 272) 21 0 S _ = _ from y272 (i := 0) hW (by decide), g1, b1_s, xI_s c1', e1, isMark_q (S' := S1), show f_X12_in (nI gl) 0 40 S1 = some 1 from in_y (a := 0) (b := 40) (by omega) hgl (by omega), b1_s, if_neg n10, r_271_0 hW1, show yR (some 272) 21 0 S1 _ = _ from y272 (i := 0) hW1 (by decide), xI_s c1', e1, qI_n (o := 273 + 0) (g273 hW1 (i := 0) (by decide)) (by show gl < 41; omega) (by omega), show sI S1 (273 + 0) gl 1 = S2 from hS2]
  exact k1
theorem goN_b {A : Nat → Nat → Nat} {L d : Nat} (hd : d ≤ 16) {j : Nat} (hj : j < 41) : goN A L d j < 2 ^ 31 := by
  have h1 := goN_le A L d j hj
  have h2 := p3_le (i := d) (by omega)
  omega
/-- the row of going at a minute -/
abbrev gR (A : Nat → Nat → Nat) (L i : Nat) : Nat → Nat := goN A L (L - i)
theorem gR_L (A : Nat → Nat → Nat) (L m : Nat) : gR A L L m = if A L m = 0 then 0 else 1 := by
  show goN A L (L - L) m = _
  rw [Nat.sub_self]
  rfl
theorem gR_s (A : Nat → Nat → Nat) {L i : Nat} (h : i < L) (m : Nat) : gR A L i m = if A i m = 0 then 0 else nearN (gR A L (i + 1)) m := by
  show goN A L (L - i) m = _
  rw [show L - i = (L - (i + 1)) + 1 by omega]
  show (if A (L - ((L - (i + 1)) + 1)) m = 0 then 0 else nearN (goN A L (L - (i + 1))) m) = _
  rw [show L - ((L - (i + 1)) + 1) = i by omega]
theorem go24 {K : Int32 → GS → Option GS} {A : Nat → Nat → Nat} {L i : Nat} (hL : L ≤ 16) (hi : i ≤ L) (hA : ∀ j, j < 41 → A i j < 2 ^ 31) : ∀ (d m n : Nat) (S : GS), Wr S → S.1 271 2 = nI L → Ni S (273 + i) (A i) → (i < L → Ni S (291 + (i + 1)) (gR A L (i + 1))) → (∀ j, j < m → S.1 (291 + i) j = nI (gR A L i j)) → m + d = 41 → d < n → ∃ S', f_X10_goOn_11 K 271 n (nI i) (nI m) S = K (nI i + (-1)) S' ∧ Of (291 + i) S S' ∧ Ni S' (291 + i) (gR A L i)
  | _, _, 0, _, _, _, _, _, _, _, hn => absurd hn (Nat.not_lt_zero _)
  | 0, m, n + 1, S, hW, hl, h1, h2, h3, hm, _ => by
    refine ⟨S, ?_, Of.rf _ _, fun j hj => h3 j (by omega)⟩
    rw [f_X10_goOn_11, if_pos (show (40 : Int32) < nI m from nI_lt (a := 40) (by omega) (by omega))]
  | d + 1, m, n + 1, S, hW, hl, h1, h2, h3, hm, hn => by
    generalize hS1 : sI S (291 + i) m (nI (gR A L i m)) = S1
    have o1 : Of (291 + i) S S1 := by rw [← hS1]; exact of_I
    have hW1 := o1.wr hW
    obtain ⟨S', k1, k2, k3⟩ := go24 hL hi hA (K := K) d (m + 1) n S1 hW1 (by rw [o1.2 271 (by omega)]; exact hl) (by intro j hj; rw [o1.2 _ (by omega)]; exact h1 j hj) (by intro h j hj; rw [o1.2 _ (by omega)]; exact h2 h j hj) (fun j hj => by
      rw [← hS1, sI_at]
      by_cases q : j = m
      · rw [if_pos q, q]
      · rw [if_neg q]
        exact h3 j (by omega)) (by omega) (by omega)
    refine ⟨S', ?_, o1.tr k2, k3⟩
    obtain ⟨⟨r1, r2, r3⟩, q1, q2, q3⟩ := row_k i (by omega)
    have e54 (y : Nat) (hy : gR A L i m = if A i m = 0 then 0 else y) : f_X10_goOn_41 K (f_X10_goOn_11 K 271 n) 271 (nI i) (nI m) (nI y) S = K (nI i + (-1)) S' := by
      unfold f_X10_goOn_41 f_X10_goOn_65
      rw [r_271_1 hW, y290 hW (by omega), r_271_0 hW, y272 hW (by omega), yI_n (g273 hW (by omega)) (by rw [r3]; omega) (by omega), h1 m (by omega), qI_n (g291 hW (by omega)) (by rw [q3]; omega) (by omega), qI_n (g291 hW (by omega)) (by rw [q3]; omega) (by omega), nI_1]
      by_cases q : A i m = 0
      · rw [if_pos q] at hy
        rw [q, if_pos nI_0, ← k1, ← hS1, hy]
        rfl
      · rw [if_neg q] at hy
        rw [if_neg (by rw [← nI_0, nI_eq (hA m (by omega)) (by decide)]; exact q), ← k1, ← hS1, hy]
    rw [f_X10_goOn_11, if_neg (show ¬ (40 : Int32) < nI m from nI_nlt (a := 40) (by omega) (by omega)), i_271 hW, hl]
    by_cases q : i = L
    · rw [if_pos (by rw [q])]
      exact e54 1 (by rw [q]; exact gR_L A L m)
    · obtain ⟨-, t1, t2, t3⟩ := row_k (i + 1) (by omega)
      rw [if_neg (by rw [nI_eq (by omega) (by omega)]; exact q), r_271_1 hW, nI_1, y290 hW (by omega), nearC (g291 hW (by omega)) t3 (h2 (by omega)) (by omega), b1_s]
      exact e54 _ (gR_s A (by omega) m)
theorem go18 {A : Nat → Nat → Nat} {L : Nat} (hL : L ≤ 16) (hA : ∀ i, i ≤ L → ∀ j, j < 41 → A i j < 2 ^ 31) : ∀ (k n : Nat) (S : GS), Wr S → S.1 271 2 = nI L → (∀ i, i ≤ L → Ni S (273 + i) (A i)) → (∀ i, k ≤ i → i ≤ L → Ni S (291 + i) (gR A L i)) → k ≤ L + 1 → k < n → ∃ S', f_X10_goOn_5 271 n (nI k + (-1)) S = some S' ∧ OfA 291 308 S S' ∧ ∀ i, i ≤ L → Ni S' (291 + i) (gR A L i)
  | _, 0, _, _, _, _, _, _, hn => absurd hn (Nat.not_lt_zero _)
  | 0, n + 1, S, hW, hl, h1, h2, hk, _ => by
    refine ⟨S, ?_, OfA.rf _ _ _, fun i hi => h2 i (Nat.zero_le i) hi⟩
    rw [f_X10_goOn_5, if_pos (by decide)]
  | k + 1, n + 1, S, hW, hl, h1, h2, hk, hn => by
    obtain ⟨S1, g1, g2, g3⟩ := go24 hL (i := k) (by omega) (hA k (by omega)) (K := f_X10_goOn_5 271 n) 41 0 fu S hW hl (h1 k (by omega)) (fun h => h2 (k + 1) (Nat.le_refl _) h) (fun j hj => absurd hj (Nat.not_lt_zero _)) (by omega) (by unfold fu; omega)
    have o1 : OfA 291 308 S S1 := g2.ra (by omega) (by omega)
    obtain ⟨S', k1, k2, k3⟩ := go18 hL hA k n S1 (o1.wr hW) (by rw [o1.2 271 (by omega)]; exact hl) (by intro i hi j hj; rw [o1.2 _ (by omega)]; exact h1 i hi j hj) (fun i hi hi2 => by
      by_cases q : i = k
      · rw [q]
        exact g3
      · intro j hj
        rw [g2.2 _ (by omega)]
        exact h2 i (by omega) hi2 j hj) (by omega) (by omega)
    refine ⟨S', ?_, o1.tr k2, k3⟩
    rw [nI_dec, f_X10_goOn_5, if_neg (nI_pos (by omega)), show f_X10_goOn_11 (f_X10_goOn_5 271 n) 271 fu (nI k) 0 S = _ from g1, k1]
theorem goC {A : Nat → Nat → Nat} {L : Nat} (hL : L ≤ 16) (hA : ∀ i, i ≤ L → ∀ j, j < 41 → A i j < 2 ^ 31) (hW : Wr S) (hl : S.1 271 2 = nI L) (h1 : ∀ i, i ≤ L → Ni S (273 + i) (A i)) : ∃ S', f_X10_goOn 271 S = some S' ∧ OfA 291 308 S S' ∧ ∀ i, i ≤ L → Ni S' (291 + i) (gR A L i) := by
  obtain ⟨S', k1, k2, k3⟩ := go18 hL hA (L + 1) fu S hW hl h1 (fun i hi hi2 => by omega) (Nat.le_refl _) (by unfold fu; omega)
  refine ⟨S', ?_, k2, k3⟩
  rw [nI_dec] at k1
  unfold f_X10_goOn
  rw [i_271 hW, hl, k1]
theorem sum38 {F : Nat → Nat} {L : Nat} (hL : L ≤ 16) (hW : Wr S) (hl : S.1 271 2 = nI L) (hF : Ni S (273 + L) F) : ∀ (d m n : Nat), m + d = 41 → d < n → f_X10_waysOf_38 271 n (nI (sumN F m)) (nI m) S = some (nI (sumN F 41), S)
  | _, _, 0, _, hn => absurd hn (Nat.not_lt_zero _)
  | 0, m, n + 1, hm, _ => by
    rw [f_X10_waysOf_38, if_pos (show (40 : Int32) < nI m from nI_lt (a := 40) (by omega) (by omega)), show m = 41 by omega]
  | d + 1, m, n + 1, hm, hn => by
    obtain ⟨⟨r1, r2, r3⟩, -⟩ := row_k L (by omega)
    rw [f_X10_waysOf_38, if_neg (show ¬ (40 : Int32) < nI m from nI_nlt (a := 40) (by omega) (by omega)), r_271_0 hW, i_271 hW, hl, y272 hW (by omega), yI_n (g273 hW (by omega)) (by rw [r3]; omega) (by omega), hF m (by omega), nI_add, nI_1]
    exact sum38 hL hW hl hF d (m + 1) n (by omega) (by omega)
/-- what the class's watch comes to, all seen being there -/
theorem waysC {ft : Nat → Nat → Bool} {gl L : Nat} (hL : L ≤ 16) (hgl : gl ≤ 40) (hW : Wr S) (hk : k < 2) (hc : gk S co = 0) (hc2 : co < 230) (hg : S.1 co 6 = nI gl) (hin : f_X8_seenAreIn (18 + 21 * k) (some co) S = some 1) (hla : f_X8_lastMinute (18 + 21 * k) S = some (nI L)) (hft : ∀ S', OfA 271 308 S S' → ∀ i m, i ≤ 16 → m < 41 → f_X8_seenAgree (18 + 21 * k) (some co) (nI i) (nI m) S' = some (bi (ft i m))) : ∃ S', f_X10_waysOf 271 (some co) (some (18 + 21 * k)) S = some (nI (sumN (aN ft gl L) 41), S') ∧ OfA 271 308 S S' ∧ S'.1 271 2 = nI L ∧ ∀ i, i ≤ L → Ni S' (291 + i) (gR (aN ft gl) L i) := by
  have ej : jmin 16 (nI L) = nI L := by
    unfold jmin
    by_cases q : L < 16
    · rw [if_pos (show nI L < (16 : Int32) from nI_lt (b := 16) q (by decide))]
    · rw [if_neg (show ¬ nI L < (16 : Int32) from nI_nlt (b := 16) (by omega) (by omega)), show L = 16 by omega]
      rfl
  generalize hS1 : sI S 271 2 (nI L) = S1
  have q1 : Of 271 S S1 := by rw [← hS1]; exact of_I
  have o1 : OfA 271 308 S S1 := q1.ra (by decide) (by decide)
  have hW1 := o1.wr hW
  have hl1 : S1.1 271 2 = nI L := by rw [← hS1, sI_at, if_pos rfl]
  have hw : ∀ {U V : GS}, OfA 272 308 U V → OfA 271 308 U V := fun h => ⟨h.1, fun o q => h.2 o (by omega)⟩
  have hw2 : ∀ {U V : GS}, OfA 291 308 U V → OfA 271 308 U V := fun h => ⟨h.1, fun o q => h.2 o (by omega)⟩
  obtain ⟨S2, g1, g2, g3⟩ := comeC (S := S1) (k := k) (co := co) (ft := ft) hL hgl hW1 hk hl1 (by rw [of_gk q1]; exact hc) hc2 (by rw [q1.2 co (by omega)]; exact hg) (fun S' hO => hft S' (o1.tr (hw hO)))
  have hW2 := g2.wr hW1
  have hl2 : S2.1 271 2 = nI L := by rw [g2.2 271 (by omega)]; exact hl1
  obtain ⟨S3, r1, r2, r3⟩ := goC (A := aN ft gl) hL (fun i hi j hj => aN_b (by omega) hj) hW2 hl2 g3
  have hW3 := r2.wr hW2
  have hl3 : S3.1 271 2 = nI L := by rw [r2.2 271 (by omega)]; exact hl2
  refine ⟨S3, ?_, o1.tr ((hw g2).tr (hw2 r2)), hl3, r3⟩
  unfold f_X10_waysOf
  rw [c1_s (sight_k hW hk).1, hin, b1_s, if_neg n10, c1_s (sight_k hW hk).1, hla, b1_s, ej, p_271 hW, hS1, k_271 hW1, g1, b1_s, k_271 hW2, r1, b1_s]
  exact sum38 (F := aN ft gl L) hL hW3 hl3 (by intro j hj; rw [r2.2 _ (by omega)]; exact g3 L (Nat.le_refl L) j hj) 41 0 fu (by omega) (by unfold fu; omega)
abbrev nzP (F : Nat → Nat) : Nat → Bool := fun m => decide (F m ≠ 0)
theorem least14 {F : Nat → Nat} {i : Nat} (hi : i ≤ 16) (hW : Wr S) (hF : Ni S (291 + i) F) (hb : ∀ j, j < 41 → F j < 2 ^ 31) : ∀ (d m n : Nat), m + d = 41 → d < n → f_X10_leastMark_14 271 S n (nI i) (nI m) = some (firstS (nzP F) d m)
  | _, _, 0, _, hn => absurd hn (Nat.not_lt_zero _)
  | 0, m, n + 1, hm, _ => by
    rw [f_X10_leastMark_14, if_pos (show (40 : Int32) < nI m from nI_lt (a := 40) (by omega) (by omega))]
    rfl
  | d + 1, m, n + 1, hm, hn => by
    obtain ⟨-, t1, t2, t3⟩ := row_k i (by omega)
    rw [f_X10_leastMark_14, if_neg (show ¬ (40 : Int32) < nI m from nI_nlt (a := 40) (by omega) (by omega)), r_271_1 hW, y290 hW (by omega), yI_n (g291 hW (by omega)) (by rw [t3]; omega) (by omega), hF m (by omega), nI_1, least14 hi hW hF hb d (m + 1) n (by omega) (by omega)]
    show _ = some (if decide (F m ≠ 0) = true then nI m else firstS _ d (m + 1))
    by_cases q : F m = 0
    · rw [q, if_pos nI_0, if_neg (by rw [decide_eq_true_eq]; exact fun z => z rfl)]
    · rw [if_neg (by rw [← nI_0, nI_eq (hb m (by omega)) (by decide)]; exact q), if_pos (decide_eq_true q)]
theorem most15 {F : Nat → Nat} {i : Nat} (hi : i ≤ 16) (hW : Wr S) (hF : Ni S (291 + i) F) (hb : ∀ j, j < 41 → F j < 2 ^ 31) : ∀ (m n : Nat), m ≤ 41 → m < n → f_X10_mostMark_15 271 S n (nI i) (nI m + (-1)) = some (downS (nzP F) m)
  | _, 0, _, hn => absurd hn (Nat.not_lt_zero _)
  | 0, n + 1, hm, _ => by
    rw [f_X10_mostMark_15, if_pos (by decide)]
    rfl
  | m + 1, n + 1, hm, hn => by
    obtain ⟨-, t1, t2, t3⟩ := row_k i (by omega)
    rw [nI_dec, f_X10_mostMark_15, if_neg (nI_pos (by omega)), r_271_1 hW, y290 hW (by omega), yI_n (g291 hW (by omega)) (by rw [t3]; omega) (by omega), hF m (by omega), most15 hi hW hF hb m n (by omega) (by omega)]
    show _ = some (if decide (F m ≠ 0) = true then nI m else downS _ m)
    by_cases q : F m = 0
    · rw [q, if_pos nI_0, if_neg (by rw [decide_eq_true_eq]; exact fun z => z rfl)]
    · rw [if_neg (by rw [← nI_0, nI_eq (hb m (by omega)) (by decide)]; exact q), if_pos (decide_eq_true q)]
theorem leastMarkC {F : Nat → Nat} {i L : Nat} (hi : i ≤ L) (hL : L ≤ 16) (hW : Wr S) (hl : S.1 271 2 = nI L) (hF : Ni S (291 + i) F) (hb : ∀ j, j < 41 → F j < 2 ^ 31) : f_X10_leastMark 271 (nI i) S = some (firstS (nzP F) 41 0) ∧ f_X10_mostMark 271 (nI i) S = some (lastS (nzP F) 41 0 (-1)) := by
  constructor
  · unfold f_X10_leastMark
    rw [if_neg (nI_pos (by omega)), i_271 hW, hl, if_neg (nI_nlt hi (by omega))]
    exact least14 (by omega) hW hF hb 41 0 fu (by omega) (by unfold fu; omega)
  · unfold f_X10_mostMark
    rw [if_neg (nI_pos (by omega)), i_271 hW, hl, if_neg (nI_nlt hi (by omega)), ← down_last]
    exact most15 (by omega) hW hF hb 41 fu (by omega) (by unfold fu; omega)
end WZ
