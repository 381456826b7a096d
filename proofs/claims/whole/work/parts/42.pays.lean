/-! pays: the reference -/
theorem xnot_k : ∀ a, a < 256 → ∀ l, l < 8 → a.testBit l = true → nI a &&& (jshl 1 (nI l) ^^^ (-1)) = nI (a ^^^ 2 ^ l) := by decide +kernel
def alP (q : Nat → Bool) : Nat → Bool
  | 0 => true
  | n + 1 => alP q n && q n
theorem alP_y (q : Nat → Bool) : ∀ n, (∀ j, j < n → q j = true) → alP q n = true
  | 0, _ => rfl
  | n + 1, h => by
    show (alP q n && q n) = true
    rw [alP_y q n (fun j z => h j (by omega)), h n (by omega)]
    rfl
theorem alP_of (q : Nat → Bool) : ∀ n, alP q n = true → ∀ j, j < n → q j = true
  | 0, _, j, hj => absurd hj (Nat.not_lt_zero _)
  | n + 1, h, j, hj => by
    have h : (alP q n && q n) = true := h
    rw [Bool.and_eq_true] at h
    by_cases z : j = n
    · rw [z]; exact h.2
    · exact alP_of q n h.1 j (by omega)
theorem nz_le (v : Nat → Int32) : ∀ l, nzN v l ≤ l
  | 0 => Nat.le_refl _
  | l + 1 => by
    have := nz_le v l
    show nzN v l + (if v l = 0 then 1 else 0) ≤ l + 1
    split <;> omega
section PZ
variable {S S' : GS} {o b k l : Nat} {c : Int32} {v : Nat → Int32}
abbrev oq (v : Nat → Int32) (a : Nat) : Nat → Bool := fun j => (a.testBit j == decide (v j ≠ 0))
theorem oq_al {a : Nat} (ha : a < 256) : alP (oq v a) 8 = decide (a = owN v) := by
  cases hq : alP (oq v a) 8
  · refine (decide_eq_false fun e => ?_).symm
    have := alP_y (oq v a) 8 fun j hj => by
      show (a.testBit j == decide (v j ≠ 0)) = true
      have := owN_b v hj
      rw [← e] at this
      have this : a.testBit j = owP v j := this
      rw [this]
      exact beq_self_eq_true _
    rw [this] at hq
    exact absurd hq (by decide)
  · refine (decide_eq_true (bt_eq ha (owN_lt v) fun j hj => ?_)).symm
    rw [owN_b v hj]
    exact eq_of_beq (alP_of _ 8 hq j hj)
theorem owing_l (hW : Wr S) {a : Nat} (ha : a < 256) (hv : ∀ l, l < 8 → S.1 339 l = v l) : ∀ (d l n : Nat), l + d = 8 → d < n → f_X12_isOwing_4 313 S n (nI a) (bi (alP (oq v a) l)) (nI l) = some (bi (alP (oq v a) 8))
  | _, _, 0, _, hn => absurd hn (Nat.not_lt_zero _)
  | 0, l, n + 1, hl, _ => by
    rw [f_X12_isOwing_4, if_pos (show (8 : Int32) ≤ nI l from nI_le (a := 8) (by omega) (by omega)), show l = 8 by omega, bi_tz]
  | d + 1, l, n + 1, hl, hn => by
    have ih := owing_l hW ha hv d (l + 1) n (by omega) (by omega)
    have e : alP (oq v a) (l + 1) = (alP (oq v a) l && (a.testBit l == decide (v l ≠ 0))) := rfl
    rw [e] at ih
    rw [f_X12_isOwing_4, if_neg (show ¬ (8 : Int32) ≤ nI l from nI_ge (b := 8) (by omega) (by omega))]
    unfold f_X12_isOwing_33 f_X12_isOwing_40 f_X12_isOwing_41
    rw [nI_1]
    cases hx : alP (oq v a) l
    · rw [hx, Bool.false_and] at ih
      rw [if_pos (show bi false = 0 from rfl)]
      exact ih
    · rw [hx, Bool.true_and] at ih
      rw [if_neg (show ¬ bi true = 0 by decide), m_has, b1_s, has_k a (by omega) l (by omega), r_313_56 hW, y_339 hW (by omega), hv l (by omega)]
      by_cases q : v l = 0
      · rw [decide_eq_false (fun z : v l ≠ 0 => z q)] at ih
        rw [if_pos q]
        cases ht : a.testBit l
        · rw [ht] at ih
          rw [if_pos (show bi false = 0 from rfl)]
          exact ih
        · rw [ht] at ih
          rw [if_neg (show ¬ bi true = 0 by decide)]
          exact ih
      · rw [decide_eq_true (show v l ≠ 0 from q)] at ih
        rw [if_neg q]
        cases ht : a.testBit l
        · rw [ht] at ih
          rw [if_neg (show ¬ bi false = 1 by decide)]
          exact ih
        · rw [ht] at ih
          rw [if_pos (show bi true = 1 from rfl)]
          exact ih
theorem owing_v (hW : Wr S) {a : Nat} (ha : a < 256) (hv : ∀ l, l < 8 → S.1 339 l = v l) : f_X12_isOwing 313 (nI a) S = some (bi (decide (a = owN v))) := by
  rw [← oq_al ha]
  exact owing_l hW ha hv 8 0 fu (by omega) (by unfold fu; omega)
def PyM (S : GS) (v : Nat → Int32) (a : Nat) : Prop := (∀ b, b < a → S.1 341 b = nI (gG (z2 v) b)) ∧ ∀ l, l < 8 → S.1 339 l = v l
theorem pay202 (hW : Wr S) (hP : PyM S v 256) {x1 : Int32} : ∀ (d a n : Nat), a + d = 256 → d < n → f_X12_payments_202 313 n x1 (nI (if owN v < a then gG (z2 v) (owN v) else 0)) (nI a) S = some (x1 - nI (gG (z2 v) (owN v)), S)
  | _, _, 0, _, hn => absurd hn (Nat.not_lt_zero _)
  | 0, a, n + 1, ha, _ => by
    have := owN_lt v
    rw [f_X12_payments_202, if_pos (show (256 : Int32) ≤ nI a from nI_le (a := 256) (by omega) (by omega)), if_pos (by omega)]
  | d + 1, a, n + 1, ha, hn => by
    have ih := pay202 hW hP (x1 := x1) d (a + 1) n (by omega) (by omega)
    rw [f_X12_payments_202, if_neg (show ¬ (256 : Int32) ≤ nI a from nI_ge (b := 256) (by omega) (by omega)), k_313 hW, owing_v hW (by omega) hP.2, b1_s]
    unfold f_X12_payments_231
    rw [nI_1]
    by_cases q : a = owN v
    · have hg := gG_le (z2 v) (z2_le v) (owN v)
      rw [if_pos (by omega)] at ih
      rw [decide_eq_true q, if_neg (show ¬ bi true = 0 by decide), r_313_58 hW, y_341 hW (by omega), hP.1 a (by omega), m_greater, b1_s, if_neg (by omega), q, jmax_n (by omega) (by omega)]
      rw [q] at ih
      by_cases z : 0 < gG (z2 v) (owN v)
      · rw [if_pos z, ih]
      · rw [if_neg z, show 0 = gG (z2 v) (owN v) by omega, ih]
    · rw [decide_eq_false q, if_pos (show bi false = 0 from rfl)]
      by_cases z : owN v < a
      · rw [if_pos z]
        rw [if_pos (show owN v < a + 1 by omega)] at ih
        exact ih
      · rw [if_neg z]
        rw [if_neg (show ¬ owN v < a + 1 by omega)] at ih
        exact ih
theorem pay79 {K : Int32 → Int32 → GS → Option (Int32 × GS)} {x1 : Int32} {a : Nat} (ha : a < 256) (h0 : 0 < a) : ∀ (d l n : Nat) (S : GS), Wr S → PyM S v a → S.1 340 a = fS (bt a) v l → S.1 341 a = nI (mx (bt a) (fun l => gG (z2 v) (a ^^^ 2 ^ l)) l) → l + d = 8 → d < n → ∃ S', f_X12_payments_79 K 313 n x1 (nI a) (bi (soP v a l)) (nI l) S = K x1 (nI (a + 1)) S' ∧ Of2 340 341 S S' ∧ PyM S' v (a + 1)
  | _, _, 0, _, _, _, _, _, _, hn => absurd hn (Nat.not_lt_zero _)
  | 0, l, n + 1, S, hW, hP, h1, h2, hl, _ => by
    have el : l = 8 := by omega
    subst el
    have hs : S.1 340 a = ss v a := h1
    have hgs := gG_s (z2 v) ha h0
    generalize hS1 : sI S 341 a (nI (gG (z2 v) a)) = S1
    have o1 : Of 341 S S1 := by rw [← hS1]; exact of_I
    refine ⟨S1, ?_, o1.o2, fun b hb => ?_, fun i hi => by rw [o1.2 339 (by decide)]; exact hP.2 i hi⟩
    · rw [f_X12_payments_79, if_pos (show (8 : Int32) ≤ nI 8 by decide), r_313_58 hW, y_341 hW ha, h2, r_313_57 hW, y_340 hW ha, hs]
      unfold f_X12_payments_189 f_X12_payments_190
      rw [q_341 hW ha, q_341 hW ha, nI_1, nI_1, Int32.add_zero]
      by_cases q : ss v a = 0
      · rw [if_pos q]
        cases z : soP v a 8
        · rw [show z2 v a = 1 from if_pos ⟨q, z⟩] at hgs
          rw [if_pos (show bi false = 0 from rfl), ← hgs, hS1]
        · rw [show z2 v a = 0 from if_neg (fun y => by rw [z] at y; exact absurd y.2 (by decide)), Nat.add_zero] at hgs
          rw [if_neg (show ¬ bi true = 0 by decide), ← hgs, hS1]
      · rw [show z2 v a = 0 from if_neg (fun y => q y.1), Nat.add_zero] at hgs
        rw [if_neg q, ← hgs, hS1]
    · rw [← hS1, sI_at]
      by_cases z : b = a
      · rw [if_pos z, z]
      · rw [if_neg z]
        exact hP.1 b (by omega)
  | d + 1, l, n + 1, S, hW, hP, h1, h2, hl, hn => by
    have hk := has_k a (by omega) l (by omega)
    have ef : fS (bt a) v (l + 1) = fS (bt a) v l + (if bt a l = true then v l else 0) := rfl
    have em : mx (bt a) (fun l => gG (z2 v) (a ^^^ 2 ^ l)) (l + 1) = if bt a l = true then (if mx (bt a) (fun l => gG (z2 v) (a ^^^ 2 ^ l)) l < gG (z2 v) (a ^^^ 2 ^ l) then gG (z2 v) (a ^^^ 2 ^ l) else mx (bt a) (fun l => gG (z2 v) (a ^^^ 2 ^ l)) l) else mx (bt a) (fun l => gG (z2 v) (a ^^^ 2 ^ l)) l := rfl
    have es : soP v a (l + 1) = if bt a l = true then (soP v a l || decide (v l = 0)) else soP v a l := rfl
    have hm := mx_le (p := bt a) (f := fun l => gG (z2 v) (a ^^^ 2 ^ l)) (B := 256) l (fun j _ _ => gG_le _ (z2_le v) _)
    rw [f_X12_payments_79, if_neg (show ¬ (8 : Int32) ≤ nI l from nI_ge (b := 8) (by omega) (by omega)), m_has, b1_s, hk]
    unfold f_X12_payments_125
    by_cases q : bt a l = true
    · have q' : a.testBit l = true := q
      have hx := x_k a ha l (by omega) q'
      have hg := gG_le (z2 v) (z2_le v) (a ^^^ 2 ^ l)
      rw [if_pos q] at ef em es
      generalize hS1 : sI S 340 a (fS (bt a) v l + v l) = S1
      have o1 : Of 340 S S1 := by rw [← hS1]; exact of_I
      have hW1 := o1.wr hW
      generalize hS2 : sI S1 341 a (nI (mx (bt a) (fun l => gG (z2 v) (a ^^^ 2 ^ l)) (l + 1))) = S2
      have o2 : Of 341 S1 S2 := by rw [← hS2]; exact of_I
      have hW2 := o2.wr hW1
      obtain ⟨S', k1, k2, k3⟩ := pay79 ha h0 (K := K) (x1 := x1) d (l + 1) n S2 hW2 ⟨fun b hb => by
        rw [← hS2, sI_at, if_neg (by omega), o1.2 341 (by decide)]
        exact hP.1 b hb, fun i hi => by
        rw [o2.2 339 (by decide), o1.2 339 (by decide)]
        exact hP.2 i hi⟩ (by rw [o2.2 340 (by decide), ← hS1, sI_at, if_pos rfl, ef]) (by rw [← hS2, sI_at, if_pos rfl]) (by omega) (by omega)
      refine ⟨S', ?_, (o1.o1.tr o2.o2).tr k2, k3⟩
      have eg : f_X12_greater (nI (mx (bt a) (fun l => gG (z2 v) (a ^^^ 2 ^ l)) l)) (nI (gG (z2 v) (a ^^^ 2 ^ l))) S1 = some (nI (mx (bt a) (fun l => gG (z2 v) (a ^^^ 2 ^ l)) (l + 1))) := by rw [m_greater, jmax_n (by omega) (by omega), em]
      have e130 (y0 : Int32) : f_X12_payments_130 K (f_X12_payments_79 K 313 n) 313 x1 (nI a) (nI l) y0 S1 = f_X12_payments_79 K 313 n x1 (nI a) y0 (nI (l + 1)) S2 := by
        unfold f_X12_payments_130 f_X12_payments_159
        rw [r_313_58 hW1, r_313_58 hW1, y_341 hW1 ha, o1.2 341 (by decide), h2, r_313_58 hW1, xnot_k a ha l (by omega) q', y_341 hW1 (by omega), o1.2 341 (by decide), hP.1 _ hx, eg, b1_s, q_341 hW1 ha, hS2, nI_1]
      rw [q', if_neg (show ¬ bi true = 0 by decide), r_313_57 hW, y_340 hW ha, h1, r_313_56 hW, y_339 hW (by omega), hP.2 l (by omega), q_340 hW ha, hS1, r_313_56 hW1, y_339 hW1 (by omega), o1.2 339 (by decide), hP.2 l (by omega), e130, e130]
      rw [es] at k1
      cases z : soP v a l
      · rw [z, Bool.false_or] at k1
        rw [if_pos (show bi false = 0 from rfl)]
        by_cases y : v l = 0
        · rw [decide_eq_true y] at k1
          rw [if_pos y]
          exact k1
        · rw [decide_eq_false y] at k1
          rw [if_neg y]
          exact k1
      · rw [z, Bool.true_or] at k1
        rw [if_neg (show ¬ bi true = 0 by decide)]
        exact k1
    · have q' : a.testBit l = false := Bool.eq_false_iff.mpr q
      rw [if_neg q] at ef em es
      obtain ⟨S', k1, k2, k3⟩ := pay79 ha h0 (K := K) (x1 := x1) d (l + 1) n S hW hP (by rw [ef, Int32.add_zero]; exact h1) (by rw [em]; exact h2) (by omega) (by omega)
      refine ⟨S', ?_, k2, k3⟩
      rw [es] at k1
      unfold f_X12_payments_159
      rw [q', if_pos (show bi false = 0 from rfl), nI_1, k1]
theorem pay53 {x1 : Int32} : ∀ (d a n : Nat) (S : GS), Wr S → PyM S v a → 0 < a → a + d = 256 → d < n → ∃ S', f_X12_payments_53 313 n x1 (nI a) S = some (x1 - nI (gG (z2 v) (owN v)), S') ∧ Of2 340 341 S S'
  | _, _, 0, _, _, _, _, _, hn => absurd hn (Nat.not_lt_zero _)
  | 0, a, n + 1, S, hW, hP, h0, ha, _ => by
    have ea : a = 256 := by omega
    subst ea
    refine ⟨S, ?_, Of2.rf _ _ _⟩
    rw [f_X12_payments_53, if_pos (show (256 : Int32) ≤ nI 256 by decide)]
    have := pay202 hW hP (x1 := x1) 256 0 fu (by omega) (by unfold fu; omega)
    rw [if_neg (Nat.not_lt_zero _)] at this
    exact this
  | d + 1, a, n + 1, S, hW, hP, h0, ha, hn => by
    generalize hS1 : sI S 340 a 0 = S1
    have o1 : Of 340 S S1 := by rw [← hS1]; exact of_I
    have hW1 := o1.wr hW
    generalize hS2 : sI S1 341 a 0 = S2
    have o2 : Of 341 S1 S2 := by rw [← hS2]; exact of_I
    have hW2 := o2.wr hW1
    obtain ⟨S3, r1, r2, r3⟩ := pay79 (v := v) (a := a) (by omega) h0 (K := f_X12_payments_53 313 n) (x1 := x1) 8 0 fu S2 hW2 ⟨fun b hb => by
        rw [← hS2, sI_at, if_neg (by omega), o1.2 341 (by decide)]
        exact hP.1 b hb, fun i hi => by
        rw [o2.2 339 (by decide), o1.2 339 (by decide)]
        exact hP.2 i hi⟩ (by rw [o2.2 340 (by decide), ← hS1, sI_at, if_pos rfl]; rfl) (by rw [← hS2, sI_at, if_pos rfl]; rfl) (by omega) (by unfold fu; omega)
    obtain ⟨S', k1, k2⟩ := pay53 d (a + 1) n S3 (r2.wr hW2) r3 (by omega) (by omega) (by omega)
    refine ⟨S', ?_, ((o1.o1.tr o2.o2).tr r2).tr k2⟩
    rw [f_X12_payments_53, if_neg (show ¬ (256 : Int32) ≤ nI a from nI_ge (b := 256) (by omega) (by omega)), r_313_57 hW, q_340 hW (by omega), hS1, r_313_58 hW1, q_341 hW1 (by omega), hS2, show f_X12_payments_79 (f_X12_payments_53 313 n) 313 fu x1 (nI a) 0 0 S2 = _ from r1, k1]
theorem pay22 : ∀ (d l n : Nat), Wr S → PyM S v 1 → l + d = 8 → d < n → ∃ S', f_X12_payments_22 313 n (nI (l - nzN v l)) (nI l) S = some (nI (8 - nzN v 8) - nI (gG (z2 v) (owN v)), S') ∧ Of2 340 341 S S'
  | _, _, 0, _, _, _, hn => absurd hn (Nat.not_lt_zero _)
  | 0, l, n + 1, hW, hP, hl, _ => by
    obtain ⟨S', k1, k2⟩ := pay53 (x1 := nI (8 - nzN v 8)) 255 1 fu S hW hP (by omega) (by omega) (by unfold fu; omega)
    refine ⟨S', ?_, k2⟩
    rw [f_X12_payments_22, if_pos (show (8 : Int32) ≤ nI l from nI_le (a := 8) (by omega) (by omega)), show l = 8 by omega]
    exact k1
  | d + 1, l, n + 1, hW, hP, hl, hn => by
    have h1 := nz_le v l
    obtain ⟨S', k1, k2⟩ := pay22 d (l + 1) n hW hP (by omega) (by omega)
    refine ⟨S', ?_, k2⟩
    have e : nzN v (l + 1) = nzN v l + (if v l = 0 then 1 else 0) := rfl
    rw [e] at k1
    rw [f_X12_payments_22, if_neg (show ¬ (8 : Int32) ≤ nI l from nI_ge (b := 8) (by omega) (by omega)), r_313_56 hW, y_339 hW (by omega), hP.2 l (by omega)]
    unfold f_X12_payments_43
    rw [nI_1, nI_1, Int32.add_zero]
    by_cases q : v l = 0
    · rw [if_pos q, show l + 1 - (nzN v l + 1) = l - nzN v l by omega] at k1
      rw [if_pos q, k1]
    · rw [if_neg q, Nat.add_zero (nzN v l), show l + 1 - nzN v l = l - nzN v l + 1 by omega] at k1
      rw [if_neg q, k1]
end PZ
