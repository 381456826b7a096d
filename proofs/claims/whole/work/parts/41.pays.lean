/-! pays: the class -/
/-- the lowest bit's place -/
def lowN (a : Nat) : Nat := ((List.range 8).find? (fun i => a.testBit i)).getD 0
theorem low_k : ∀ a, a < 256 → 0 < a → nI a &&& -(nI a) = nI (2 ^ lowN a) ∧ lowN a < 8 ∧ a.testBit (lowN a) = true ∧ nI a ^^^ nI (2 ^ lowN a) = nI (a ^^^ 2 ^ lowN a) := by decide +kernel
theorem xand_k : ∀ a, a < 256 → ∀ l, l < 8 → (nI a ^^^ jshl 1 (nI l)) &&& 255 = nI (a ^^^ 2 ^ l) := by decide +kernel
section PY
variable {S S' : GS} {o b k l : Nat} {c : Int32} {v : Nat → Int32}
theorem jmax_n {a b : Nat} (ha : a < 2 ^ 31) (hb : b < 2 ^ 31) : jmax (nI a) (nI b) = nI (if a < b then b else a) := by
  unfold jmax
  by_cases q : a < b
  · rw [if_pos q, if_pos (nI_lt q hb)]
  · rw [if_neg q, if_neg (nI_nlt (by omega) ha)]
theorem most_l (hW : Wr S) {a : Nat} (ha : a < 256) {G : Nat → Nat} (hG : ∀ l, l < 8 → a.testBit l = true → S.1 310 (a ^^^ 2 ^ l) = nI (G (a ^^^ 2 ^ l))) (hb : ∀ a, G a ≤ 256) : ∀ (d l n : Nat), l + d = 8 → d < n → f_X1_mostGroupsWithoutOne_4 308 S n (nI a) (nI (mx (bt a) (fun l => G (a ^^^ 2 ^ l)) l)) (nI l) = some (nI (mx (bt a) (fun l => G (a ^^^ 2 ^ l)) 8))
  | _, _, 0, _, hn => absurd hn (Nat.not_lt_zero _)
  | 0, l, n + 1, hl, _ => by
    rw [f_X1_mostGroupsWithoutOne_4, if_pos (show (8 : Int32) ≤ nI l from nI_le (a := 8) (by omega) (by omega)), show l = 8 by omega]
  | d + 1, l, n + 1, hl, hn => by
    have ih := most_l hW ha hG hb d (l + 1) n (by omega) (by omega)
    have hk := has_k a (by omega) l (by omega)
    have hm := mx_le (p := bt a) (f := fun l => G (a ^^^ 2 ^ l)) (B := 256) l (fun j _ _ => hb _)
    have e : mx (bt a) (fun l => G (a ^^^ 2 ^ l)) (l + 1) = if bt a l = true then (if mx (bt a) (fun l => G (a ^^^ 2 ^ l)) l < G (a ^^^ 2 ^ l) then G (a ^^^ 2 ^ l) else mx (bt a) (fun l => G (a ^^^ 2 ^ l)) l) else mx (bt a) (fun l => G (a ^^^ 2 ^ l)) l := rfl
    rw [f_X1_mostGroupsWithoutOne_4, if_neg (show ¬ (8 : Int32) ≤ nI l from nI_ge (b := 8) (by omega) (by omega))]
    unfold f_X1_mostGroupsWithoutOne_38
    rw [nI_1]
    by_cases q : bt a l = true
    · have q' : a.testBit l = true := q
      rw [q'] at hk
      have := hb (a ^^^ 2 ^ l)
      rw [e, if_pos q] at ih
      rw [if_pos (of_decide_eq_true hk), r_308_1 hW, xand_k a ha l (by omega), y_310 hW (x_lt ha (by omega)), hG l (by omega) q', jmax_n (by omega) (by omega)]
      exact ih
    · have q' : a.testBit l = false := Bool.eq_false_iff.mpr q
      rw [q'] at hk
      rw [e, if_neg q] at ih
      rw [if_neg (of_decide_eq_false hk)]
      exact ih
/-- two objects' numbers alone are written -/
def Of2 (a b : Nat) (S S' : GS) : Prop := S'.2 = S.2 ∧ ∀ o, o ≠ a → o ≠ b → S'.1 o = S.1 o
theorem Of.o1 {a b : Nat} (h : Of a S S') : Of2 a b S S' := ⟨h.1, fun o h1 _ => h.2 o h1⟩
theorem Of.o2 {a b : Nat} (h : Of a S S') : Of2 b a S S' := ⟨h.1, fun o _ h1 => h.2 o h1⟩
theorem Of2.rf (a b : Nat) (S : GS) : Of2 a b S S := ⟨rfl, fun _ _ _ => rfl⟩
theorem Of2.tr {a b : Nat} {S S1 S2 : GS} (h : Of2 a b S S1) (h2 : Of2 a b S1 S2) : Of2 a b S S2 := ⟨h2.1.trans h.1, fun o p q => (h2.2 o p q).trans (h.2 o p q)⟩
theorem Of2.wr {a b : Nat} (h : Of2 a b S S') (hW : Wr S) : Wr S' := by
  unfold Wr
  rw [h.1]
  exact hW
/-- the class's table of sets, up to one -/
def PyC (S : GS) (v : Nat → Int32) (a : Nat) : Prop := (∀ b, b < a → S.1 309 b = ss v b ∧ S.1 310 b = nI (gG (z1 v) b)) ∧ ∀ i, i < 8 → S.1 309 (2 ^ i) = v i
theorem gG_le (z : Nat → Nat) (hz : ∀ a, z a ≤ 1) (a : Nat) : gG z a ≤ 256 := gzN_le hz 256 a
theorem payC_36 : ∀ (d a n : Nat) (S : GS), Wr S → PyC S v a → 0 < a → a + d = 256 → d < n → ∃ S', f_X1_fewestPayments_36 308 n (nI a) S = some (8 - nI (gG (z1 v) 255), S') ∧ Of2 309 310 S S' ∧ S'.1 309 0 = ss v 0
  | _, _, 0, _, _, _, _, _, hn => absurd hn (Nat.not_lt_zero _)
  | 0, a, n + 1, S, hW, hP, h0, ha, _ => by
    refine ⟨S, ?_, Of2.rf _ _ _, (hP.1 0 (by omega)).1⟩
    rw [f_X1_fewestPayments_36, if_pos (show (255 : Int32) < nI a from nI_lt (a := 255) (by omega) (by omega)), r_308_1 hW, show yI (some 310) 14 255 S _ = _ from y_310 (k := 255) hW (by decide), (hP.1 255 (by omega)).2]
  | d + 1, a, n + 1, S, hW, hP, h0, ha, hn => by
    obtain ⟨e1, e2, e3, e4⟩ := low_k a (by omega) h0
    have hx := x_k a (by omega) (lowN a) e2 e3
    have hlt : 2 ^ lowN a < 256 := Nat.pow_lt_pow_right (a := 2) (by decide) e2 (n := 8)
    have hs : ss v (a ^^^ 2 ^ lowN a) + v (lowN a) = ss v a := (ss_put e3 e2).symm
    generalize hS1 : sI S 309 a (ss v a) = S1
    have o1 : Of 309 S S1 := by rw [← hS1]; exact of_I
    have hW1 := o1.wr hW
    have hmost := most_l hW1 (show a < 256 by omega) (G := gG (z1 v)) (fun l hl hb => by
      rw [o1.2 310 (by decide)]
      exact (hP.1 _ (x_k a (by omega) l hl hb)).2) (gG_le _ (z1_le v)) 8 0 fu (by omega) (by unfold fu; omega)
    have h309 : S1.1 309 a = ss v a := by rw [← hS1, sI_at, if_pos rfl]
    generalize hS2 : sI S1 310 a (nI (gG (z1 v) a)) = S2
    have o2 : Of 310 S1 S2 := by rw [← hS2]; exact of_I
    have hW2 := o2.wr hW1
    have hP2 : PyC S2 v (a + 1) := ⟨fun b hb => by
      rw [o2.2 309 (by decide)]
      by_cases q : b = a
      · subst q
        refine ⟨h309, ?_⟩
        rw [← hS2, sI_at, if_pos rfl]
      · obtain ⟨p1, p2⟩ := hP.1 b (by omega)
        refine ⟨?_, ?_⟩
        · rw [← hS1, sI_at, if_neg q]
          exact p1
        · rw [← hS2, sI_at, if_neg q, o1.2 310 (by decide)]
          exact p2, fun i hi => by
      rw [o2.2 309 (by decide), ← hS1, sI_at]
      by_cases q : 2 ^ i = a
      · rw [if_pos q, ← q, ss_1 v hi]
      · rw [if_neg q]
        exact hP.2 i hi⟩
    obtain ⟨S', k1, k2, k3⟩ := payC_36 d (a + 1) n S2 hW2 hP2 (by omega) (by omega) (by omega)
    refine ⟨S', ?_, (o1.o1.tr o2.o2).tr k2, k3⟩
    have hgs := gG_s (z1 v) (show a < 256 by omega) h0
    rw [f_X1_fewestPayments_36, if_neg (show ¬ (255 : Int32) < nI a from nI_nlt (a := 255) (by omega) (by omega)), r_308_0 hW, r_308_0 hW, e1, e4, y_309 hW (by omega), (hP.1 _ hx).1, r_308_0 hW, y_309 hW hlt, hP.2 _ e2, hs, q_309 hW (by omega), hS1, r_308_1 hW1, k_308 hW1, show f_X1_mostGroupsWithoutOne 308 (nI a) S1 = _ from hmost, b1_s, r_308_0 hW1, y_309 hW1 (by omega), h309]
    unfold f_X1_fewestPayments_93
    rw [q_310 hW1 (by omega), q_310 hW1 (by omega), nI_1]
    by_cases q : ss v a = 0
    · rw [show z1 v a = 1 from if_pos q] at hgs
      rw [if_pos q, show nI (mx (bt a) (fun l => gG (z1 v) (a ^^^ 2 ^ l)) 8) + 1 = nI (gG (z1 v) a) by rw [hgs, nI_1], hS2, k1]
    · rw [show z1 v a = 0 from if_neg q, Nat.add_zero] at hgs
      rw [if_neg q, Int32.add_zero, ← hgs, hS2, k1]
theorem payC_2 {co : Nat} {r : Int32} (hr : 8 - nI (gG (z1 v) 255) = r) (hv : ∀ S', Of 309 S S' → ∀ l, l < 8 → f_X1_netOf (some co) (nI l) S' = some (v l)) : ∀ (d l n : Nat) (S1 : GS), Wr S1 → Of 309 S S1 → S1.1 309 0 = 0 → (∀ i, i < l → S1.1 309 (2 ^ i) = v i) → l + d = 8 → d < n → ∃ S', f_X1_fewestPayments_2 308 n (some co) (nI l) S1 = some (r, S') ∧ Of2 309 310 S S' ∧ S'.1 309 0 = 0
  | _, _, 0, _, _, _, _, _, _, hn => absurd hn (Nat.not_lt_zero _)
  | 0, l, n + 1, S1, hW, hO, h0, hS, hl, _ => by
    generalize hS2 : sI S1 310 0 0 = S2
    have o2 : Of 310 S1 S2 := by rw [← hS2]; exact of_I
    obtain ⟨S', k1, k2, k3⟩ := payC_36 (v := v) 255 1 fu S2 (o2.wr hW) ⟨fun b hb => by
      have : b = 0 := by omega
      subst this
      refine ⟨?_, ?_⟩
      · rw [o2.2 309 (by decide), h0, ss_0]
      · rw [← hS2, sI_at, if_pos rfl, gG_0]
        rfl, fun i hi => by
      rw [o2.2 309 (by decide)]
      exact hS i (by omega)⟩ (by omega) (by omega) (by unfold fu; omega)
    rw [hr] at k1
    refine ⟨S', ?_, (hO.o1.tr o2.o2).tr k2, by rw [k3, ss_0]⟩
    rw [f_X1_fewestPayments_2, if_pos (show (8 : Int32) ≤ nI l from nI_le (a := 8) (by omega) (by omega)), r_308_1 hW, show qI (some 310) 0 0 S1 _ = _ from q_310 (k := 0) hW (by decide), hS2]
    exact k1
  | d + 1, l, n + 1, S1, hW, hO, h0, hS, hl, hn => by
    have hlt : 2 ^ l < 256 := Nat.pow_lt_pow_right (a := 2) (by decide) (show l < 8 by omega)
    have hp := Nat.two_pow_pos l
    generalize hS2 : sI S1 309 (2 ^ l) (v l) = S2
    have o2 : Of 309 S1 S2 := by rw [← hS2]; exact of_I
    obtain ⟨S', k1, k2, k3⟩ := payC_2 hr hv d (l + 1) n S2 (o2.wr hW) (hO.tr o2) (by rw [← hS2, sI_at, if_neg (by omega)]; exact h0) (fun i hi => by
      rw [← hS2, sI_at]
      by_cases q : i = l
      · rw [q, if_pos rfl]
      · rw [if_neg (by have := Nat.pow_lt_pow_right (a := 2) (by decide) (show i < l by omega); omega)]
        exact hS i (by omega)) (by omega) (by omega)
    refine ⟨S', ?_, k2, k3⟩
    rw [f_X1_fewestPayments_2, if_neg (show ¬ (8 : Int32) ≤ nI l from nI_ge (b := 8) (by omega) (by omega)), r_308_0 hW, hv S1 hO l (by omega), b1_s, shl_k l (by omega), q_309 hW hlt, hS2, nI_1, k1]
end PY
