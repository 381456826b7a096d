/-! loops over a row of truths, as both sides tell them -/
def firstS (p : Nat → Bool) : Nat → Nat → Int32
  | 0, _ => -1
  | d + 1, k => if p k = true then nI k else firstS p d (k + 1)
def calmS (p : Nat → Bool) : Nat → Nat → Int32 → Int32 → Int32
  | 0, _, b, _ => b
  | d + 1, k, b, r => calmS p d (k + 1) (jmax b (if p k = true then r + 1 else 0)) (if p k = true then r + 1 else 0)
def countS (p : Nat → Bool) : Nat → Nat → Int32 → Int32
  | 0, _, c => c
  | d + 1, k, c => countS p d (k + 1) (if p k = true then c + 1 else c)
def bitsS (p : Nat → Bool) : Nat → Nat → Int32 → Int32
  | 0, _, c => c
  | d + 1, k, c => bitsS p d (k + 1) (if p k = true then c ||| jshl 1 (nI k) else c)
def lastS (p : Nat → Bool) : Nat → Nat → Int32 → Int32
  | 0, _, c => c
  | d + 1, k, c => lastS p d (k + 1) (if p k = true then nI k else c)
def downS (p : Nat → Bool) : Nat → Int32
  | 0 => -1
  | k + 1 => if p k = true then nI k else downS p k
def bestS (f : Nat → Int32) : Nat → Nat → Nat → Nat
  | 0, _, b => b
  | d + 1, k, b => bestS f d (k + 1) (if f k ≤ f b then b else k)
/-- the latest step whose mark is not above a mark, by the greatest such mark -/
def propN (mk : Nat → Int32) (mark : Int32) (k : Nat) : Option Nat → Option Nat
  | none => if mark < mk k then none else some k
  | some j => if mark < mk k then some j else if mk k ≤ mk j then some j else some k
def propS (mk : Nat → Int32) (mark : Int32) : Nat → Nat → Option Nat → Option Nat
  | 0, _, b => b
  | d + 1, k, b => propS mk mark d (k + 1) (propN mk mark k b)
def nearV (mk : Nat → Int32) : Option Nat → Int32
  | none => -1
  | some j => mk j
def propV (lc : Nat → Int32) (b : Option Nat) : Int32 := match b with
  | none => 0
  | some j => lc j
theorem lastS_snoc (p : Nat → Bool) : ∀ (d k : Nat) (c : Int32), lastS p (d + 1) k c = if p (k + d) = true then nI (k + d) else lastS p d k c
  | 0, k, c => rfl
  | d + 1, k, c => by
    show lastS p (d + 1) (k + 1) (if p k = true then nI k else c) = _
    rw [lastS_snoc p d (k + 1), show k + 1 + d = k + (d + 1) by omega]
    rfl
theorem down_last (p : Nat → Bool) : ∀ n : Nat, downS p n = lastS p n 0 (-1)
  | 0 => rfl
  | n + 1 => by
    rw [lastS_snoc, Nat.zero_add, ← down_last p n]
    rfl
theorem nI_neg1 (k : Nat) (hk : k < 2 ^ 31) : nI k ≠ -1 := by
  intro h
  have := nI_pos hk
  rw [h] at this
  exact this (by decide)
theorem lt_lit {k : Nat} (A : Nat) (h : A < k) (hk : k < 2 ^ 31) : nI A < nI k := nI_lt h hk
/-- her BURST, FAINT, the height of her room, her lace: what she comes to -/
def fate (bu fa lace p : Int32) : Int32 := if lace + p ≤ bu then (if lace + 30 - p ≤ fa then 0 else 1) else 2
def bi (b : Bool) : Int32 := if b = true then 1 else 0
theorem bi_t {b : Bool} : (bi b = 0) = (b = false) := by cases b <;> simp [bi]
theorem bi_tz {α : Type} {b : Bool} {k : Option α} : tz (bi b) k = k := by cases b <;> rfl
/-- whether she stands under a pressure; whether she does at a mark -/
def su (bu fa lace p : Int32) : Bool := fate bu fa lace p == 0
def sd (bu fa h lace mark : Int32) : Bool := su bu fa lace (mark - h)
theorem su_t {bu fa lace p : Int32} : (fate bu fa lace p = 0) = (su bu fa lace p = true) := by simp [su]
theorem ite_bi {α : Type} {b : Bool} {x y : α} : (if b = true then x else y) = (if bi b = 0 then y else x) := by cases b <;> rfl
theorem su_bi (bu fa lace p : Int32) : (if fate bu fa lace p = 0 then some (1 : Int32) else some 0) = some (bi (su bu fa lace p)) := by
  by_cases q : fate bu fa lace p = 0
  · simp [su, bi, q]
  · simp [su, bi, q]
/-- a court's object -/
def Cw (S : GS) (o : Nat) : Prop := gk S o = 0 ∧ S.2.2.1 o 0 = some (o + 1) ∧ S.2.2.1 o 1 = some (o + 3) ∧ S.2.2.1 o 2 = some (o + 5) ∧ S.2.2.1 o 3 = some (o + 7) ∧ gk S (o + 7) = 14 ∧ ln (o + 7) = 3 ∧ Rw S (o + 1) 4 2 ∧ Rw S (o + 3) 8 5 ∧ Rw S (o + 5) 6 2
/-- a lady of a court -/
def Lw (S : GS) (o l : Nat) (bu fa h la : Int32) : Prop := l < nr S (o + 3) ∧ S.1 (o + 4) (5 * l + 3) = bu ∧ S.1 (o + 4) (5 * l + 2) = fa ∧ S.1 (o + 4) (5 * l + 1) = la ∧ ∃ r, r < nr S (o + 1) ∧ S.1 (o + 4) (5 * l) = nI r ∧ S.1 (o + 2) (2 * r + 1) = h
theorem Rw.cellL {S : GS} {o m w : Nat} (h : Rw S o m w) {k : Nat} (c : Int32) (i : Nat) (hc : c = nI i) (hk : k < nr S o) (hi : i < w) : f_X7_cell o (nI k) c S = some (S.1 (o + 1) (w * k + i)) := by
  rw [hc]
  exact h.cell hk hi
section CT
variable {S : GS} {o l : Nat} {bu fa h la : Int32}
theorem Cw.fateA (hC : Cw S o) (hl : l < nr S (o + 3)) (lace p : Int32) : f_X0_fate o (nI l) lace p S = some (fate (S.1 (o + 4) (5 * l + 3)) (S.1 (o + 4) (5 * l + 2)) lace p) := by
  obtain ⟨c0, c1, c2, c3, c4, c5, c6, c7, c8, c9⟩ := hC
  unfold f_X0_fate fate
  rw [xR_s c0, c2, c1_s c8.1, c8.cellL 3 3 rfl hl (by decide), b1_s, xR_s c0, c2, c1_s c8.1, c8.cellL 2 2 rfl hl (by decide), b1_s]
  split
  · split <;> rfl
  · rfl
theorem Lw.fate (hC : Cw S o) (hL : Lw S o l bu fa h la) (lace p : Int32) : f_X0_fate o (nI l) lace p S = some (fate bu fa lace p) := by
  obtain ⟨a1, a2, a3, a4, a5⟩ := hL
  rw [hC.fateA a1, a2, a3]
theorem Lw.stands (hC : Cw S o) (hL : Lw S o l bu fa h la) (lace p : Int32) : f_X0_stands o (nI l) lace p S = some (bi (su bu fa lace p)) := by
  unfold f_X0_stands
  rw [c1_s hC.1, hL.fate hC, b1_s]
  exact su_bi bu fa lace p
theorem Lw.lace (hC : Cw S o) (hL : Lw S o l bu fa h la) : f_X7_cell (o + 3) (nI l) 1 S = some la := by
  rw [hC.2.2.2.2.2.2.2.2.1.cellL 1 1 rfl hL.1 (by decide), hL.2.2.2.1]
theorem Lw.press (hC : Cw S o) (hL : Lw S o l bu fa h la) (mark : Int32) : f_X0_pressureOf o (nI l) mark S = some (mark - h) := by
  obtain ⟨c0, c1, c2, c3, c4, c5, c6, c7, c8, c9⟩ := hC
  obtain ⟨a1, a2, a3, a4, r, a5, a6, a7⟩ := hL
  unfold f_X0_pressureOf
  rw [xR_s c0, c1, xR_s c0, c2, c1_s c8.1, c8.cellL 0 0 rfl a1 (by decide), b1_s, show S.1 (o + 3 + 1) (5 * l + 0) = nI r from a6, c1_s c7.1, c7.cellL 1 1 rfl a5 (by decide), b1_s, a7]
theorem Lw.standsAt (hC : Cw S o) (hL : Lw S o l bu fa h la) (lace mark : Int32) : f_X0_standsAt o (nI l) lace mark S = some (bi (sd bu fa h lace mark)) := by
  unfold f_X0_standsAt
  rw [c1_s hC.1, hL.press hC, b1_s, c1_s hC.1, hL.fate hC, b1_s]
  exact su_bi bu fa lace (mark - h)
theorem freeLaces_l (c0 : gk S o = 0) {x1 x2 : Int32} {p : Nat → Bool} (hS : ∀ k, k < 31 → f_X0_standsAt o x1 (nI k) x2 S = some (bi (p k))) : ∀ (d k n : Nat) (c : Int32), k + d = 31 → d < n → f_X0_freeLaces_5 o S n x1 x2 c (nI k) = some (countS p d k c)
  | _, _, 0, _, _, hn => absurd hn (Nat.not_lt_zero _)
  | 0, k, n + 1, c, hk, _ => by
    rw [f_X0_freeLaces_5, if_pos (show (30 : Int32) < nI k from lt_lit 30 (by omega) (by omega))]
    rfl
  | d + 1, k, n + 1, c, hk, hn => by
    rw [f_X0_freeLaces_5, if_neg (show ¬ (30 : Int32) < nI k from nI_nlt (a := 30) (by omega) (by omega)), c1_s c0, hS k (by omega), b1_s]
    unfold f_X0_freeLaces_26
    rw [nI_1, freeLaces_l c0 hS d (k + 1) n c (by omega) (by omega), freeLaces_l c0 hS d (k + 1) n (c + 1) (by omega) (by omega)]
    show _ = some (countS p d (k + 1) (if p k = true then c + 1 else c))
    cases p k <;> rfl
theorem leastFree_l (c0 : gk S o = 0) {x1 x2 : Int32} {p : Nat → Bool} (hS : ∀ k, k < 31 → f_X0_standsAt o x1 (nI k) x2 S = some (bi (p k))) : ∀ (d k n : Nat), k + d = 31 → d < n → f_X0_leastFree_2 o S n x1 x2 (nI k) = some (firstS p d k)
  | _, _, 0, _, hn => absurd hn (Nat.not_lt_zero _)
  | 0, k, n + 1, hk, _ => by
    rw [f_X0_leastFree_2, if_pos (show (30 : Int32) < nI k from lt_lit 30 (by omega) (by omega))]
    rfl
  | d + 1, k, n + 1, hk, hn => by
    rw [f_X0_leastFree_2, if_neg (show ¬ (30 : Int32) < nI k from nI_nlt (a := 30) (by omega) (by omega)), c1_s c0, hS k (by omega), b1_s, nI_1, leastFree_l c0 hS d (k + 1) n (by omega) (by omega)]
    show _ = some (if p k = true then nI k else firstS p d (k + 1))
    cases p k <;> rfl
theorem nI_dec (k : Nat) : nI (k + 1) + (-1) = nI k := by
  rw [← nI_pred k]
  exact (Int32.sub_eq_add_neg _ _).symm
theorem mostFree_l (c0 : gk S o = 0) {x1 x2 : Int32} {p : Nat → Bool} (hS : ∀ k, k < 31 → f_X0_standsAt o x1 (nI k) x2 S = some (bi (p k))) : ∀ (k n : Nat), k ≤ 31 → k < n → f_X0_mostFree_3 o S n x1 x2 (nI k + (-1)) = some (downS p k)
  | _, 0, _, hn => absurd hn (Nat.not_lt_zero _)
  | 0, n + 1, hk, _ => by
    rw [f_X0_mostFree_3, if_pos (by decide)]
    rfl
  | k + 1, n + 1, hk, hn => by
    rw [nI_dec, f_X0_mostFree_3, if_neg (nI_pos (by omega)), c1_s c0, hS k (by omega), b1_s, mostFree_l c0 hS k n (by omega) (by omega)]
    show _ = some (if p k = true then nI k else downS p k)
    cases p k <;> rfl
theorem highest_l (c0 : gk S o = 0) {x1 x2 x3 : Int32} {p : Nat → Bool} (hS : ∀ k, k < 41 → f_X0_stands o x1 x3 (x2 - nI k) S = some (bi (p k))) : ∀ (k n : Nat), k ≤ 41 → k < n → f_X0_highestStand_14 o S n x1 x2 x3 (nI k + (-1)) = some (downS p k)
  | _, 0, _, hn => absurd hn (Nat.not_lt_zero _)
  | 0, n + 1, hk, _ => by
    rw [f_X0_highestStand_14, if_pos (by decide)]
    rfl
  | k + 1, n + 1, hk, hn => by
    rw [nI_dec, f_X0_highestStand_14, if_neg (nI_pos (by omega)), c1_s c0, hS k (by omega), b1_s, highest_l c0 hS k n (by omega) (by omega)]
    show _ = some (if p k = true then nI k else downS p k)
    cases p k <;> rfl
theorem roomsTo_l (hC : Cw S o) {x1 x2 x3 : Int32} {p : Nat → Bool} (hS : ∀ k, k < nr S (o + 1) → f_X0_stands o x1 x3 (x2 - S.1 (o + 2) (2 * k + 1)) S = some (bi (p k))) : ∀ (d k n : Nat) (b : Int32), k + d = nr S (o + 1) → d < n → f_X0_roomsToStand_16 o S n x1 x2 x3 b (nI k) = some (bitsS p d k b)
  | _, _, 0, _, _, hn => absurd hn (Nat.not_lt_zero _)
  | 0, k, n + 1, b, hk, _ => by
    obtain ⟨c0, c1, c2, c3, c4, c5, c6, c7, c8, c9⟩ := hC
    rw [f_X0_roomsToStand_16, xR_s c0, c1, xI_s c7.1, c7.2.2.2.2.2.2.1, if_pos (by rw [← hk]; exact nI_le (by omega) (by have := c7.2.2.2.2.2.2.2.1; omega))]
    rfl
  | d + 1, k, n + 1, b, hk, hn => by
    have ih := roomsTo_l hC hS d (k + 1) n
    obtain ⟨c0, c1, c2, c3, c4, c5, c6, c7, c8, c9⟩ := hC
    have hm := c7.2.2.2.2.2.2.2.1
    rw [f_X0_roomsToStand_16, xR_s c0, c1, xI_s c7.1, c7.2.2.2.2.2.2.1, if_neg (by rw [← hk]; exact nI_ge (by omega) (by omega)), xR_s c0, c1, c1_s c7.1, c7.cellL 1 1 rfl (by omega) (by decide), b1_s, c1_s c0, hS k (by omega), b1_s]
    unfold f_X0_roomsToStand_58
    rw [nI_1, ih b (by omega) (by omega), ih (b ||| jshl 1 (nI k)) (by omega) (by omega)]
    show _ = some (bitsS p d (k + 1) (if p k = true then b ||| jshl 1 (nI k) else b))
    cases p k <;> rfl
theorem calmRow_l (c0 : gk S o = 0) {x1 x2 : Int32} {p : Nat → Bool} (hS : ∀ k, k < 41 → f_X0_standsAt o x1 x2 (nI k) S = some (bi (p k))) : ∀ (d k n : Nat) (b r : Int32), k + d = 41 → d < n → f_X0_calmRow_8 o S n x1 x2 b r (nI k) = some (calmS p d k b r)
  | _, _, 0, _, _, _, hn => absurd hn (Nat.not_lt_zero _)
  | 0, k, n + 1, b, r, hk, _ => by
    rw [f_X0_calmRow_8, if_pos (show (40 : Int32) < nI k from lt_lit 40 (by omega) (by omega))]
    rfl
  | d + 1, k, n + 1, b, r, hk, hn => by
    rw [f_X0_calmRow_8, if_neg (show ¬ (40 : Int32) < nI k from nI_nlt (a := 40) (by omega) (by omega)), c1_s c0, hS k (by omega), b1_s]
    unfold f_X0_calmRow_34
    rw [nI_1, calmRow_l c0 hS d (k + 1) n _ _ (by omega) (by omega), calmRow_l c0 hS d (k + 1) n _ _ (by omega) (by omega)]
    show _ = some (calmS p d (k + 1) (jmax b (if p k = true then r + 1 else 0)) (if p k = true then r + 1 else 0))
    cases p k <;> rfl
theorem calmest_l (c0 : gk S o = 0) {x1 : Int32} {f : Nat → Int32} (hS : ∀ k, k < 31 → f_X0_calmRow o x1 (nI k) S = some (f k)) : ∀ (d k n b : Nat), k + d = 31 → d < n → b < 31 → f_X0_calmestLace_12 o S n x1 (nI b) (f b) (nI k) = some (nI (bestS f d k b))
  | _, _, 0, _, _, hn, _ => absurd hn (Nat.not_lt_zero _)
  | 0, k, n + 1, b, hk, _, _ => by
    rw [f_X0_calmestLace_12, if_pos (show (30 : Int32) < nI k from lt_lit 30 (by omega) (by omega))]
    rfl
  | d + 1, k, n + 1, b, hk, hn, hb => by
    rw [f_X0_calmestLace_12, if_neg (show ¬ (30 : Int32) < nI k from nI_nlt (a := 30) (by omega) (by omega)), c1_s c0, hS k (by omega), b1_s]
    unfold f_X0_calmestLace_40
    rw [nI_1, calmest_l c0 hS d (k + 1) n b (by omega) (by omega) hb, calmest_l c0 hS d (k + 1) n k (by omega) (by omega) (by omega)]
    show _ = some (nI (bestS f d (k + 1) (if f k ≤ f b then b else k)))
    split <;> rfl
theorem proper_l (hC : Cw S o) {mark : Int32} (h0 : ∀ k, k < nr S (o + 5) → ¬ S.1 (o + 6) (2 * k) < 0) : ∀ (d k n : Nat) (b : Option Nat), k + d = nr S (o + 5) → d < n → (∀ j, b = some j → j < nr S (o + 5)) → f_X0_properAt_7 o S n mark (nearV (fun j => S.1 (o + 6) (2 * j)) b) (propV (fun j => S.1 (o + 6) (2 * j + 1)) b) (nI k) = some (propV (fun j => S.1 (o + 6) (2 * j + 1)) (propS (fun j => S.1 (o + 6) (2 * j)) mark d k b))
  | _, _, 0, _, _, hn, _ => absurd hn (Nat.not_lt_zero _)
  | 0, k, n + 1, b, hk, _, _ => by
    obtain ⟨c0, c1, c2, c3, c4, c5, c6, c7, c8, c9⟩ := hC
    rw [f_X0_properAt_7, xR_s c0, c3, xI_s c9.1, c9.2.2.2.2.2.2.1, if_pos (by rw [← hk]; exact nI_le (by omega) (by have := c9.2.2.2.2.2.2.2.1; omega))]
    rfl
  | d + 1, k, n + 1, b, hk, hn, hb => by
    have ih := proper_l hC h0 (mark := mark) d (k + 1) n
    obtain ⟨c0, c1, c2, c3, c4, c5, c6, c7, c8, c9⟩ := hC
    have hm := c9.2.2.2.2.2.2.2.1
    rw [f_X0_properAt_7, xR_s c0, c3, xI_s c9.1, c9.2.2.2.2.2.2.1, if_neg (by rw [← hk]; exact nI_ge (by omega) (by omega)), xR_s c0, c3, c1_s c9.1, c9.cellL 0 0 rfl (by omega) (by decide), b1_s, Nat.add_zero]
    unfold f_X0_properAt_57
    rw [nI_1, xR_s c0, c3, c1_s c9.1, c9.cellL 1 1 rfl (by omega) (by decide), b1_s]
    show _ = some (propV _ (propS (fun j => S.1 (o + 6) (2 * j)) mark d (k + 1) (propN (fun j => S.1 (o + 6) (2 * j)) mark k b)))
    rw [Nat.add_zero]
    cases b with
    | none =>
      show (if mark < S.1 (o + 6) (2 * k) then _ else _) = some (propV _ (propS _ mark d (k + 1) (if mark < S.1 (o + 6) (2 * k) then none else some k)))
      by_cases q : mark < S.1 (o + 6) (2 * k)
      · rw [if_pos q, if_pos q]
        exact ih none (by omega) (by omega) hb
      · have h9 : ¬ S.1 (o + 6) (2 * k) ≤ nearV (fun j => S.1 (o + 6) (2 * j)) none := by
          intro z
          have z : S.1 (o + 6) (2 * k) ≤ -1 := z
          have := h0 k (by omega)
          rw [Int32.le_iff_toInt_le] at z
          rw [Int32.lt_iff_toInt_lt] at this
          have e1 : (-1 : Int32).toInt = -1 := by decide
          have e0 : (0 : Int32).toInt = 0 := by decide
          omega
        rw [if_neg q, if_neg q, if_neg (show ¬ S.1 (o + 6) (2 * k + 0) ≤ nearV (fun j => S.1 (o + 6) (2 * j)) none from h9)]
        exact ih (some k) (by omega) (by omega) (fun j hj => by cases hj; omega)
    | some j =>
      show (if mark < S.1 (o + 6) (2 * k) then _ else if S.1 (o + 6) (2 * k) ≤ S.1 (o + 6) (2 * j) then _ else _) = some (propV _ (propS _ mark d (k + 1) (if mark < S.1 (o + 6) (2 * k) then some j else if S.1 (o + 6) (2 * k) ≤ S.1 (o + 6) (2 * j) then some j else some k)))
      by_cases q : mark < S.1 (o + 6) (2 * k)
      · rw [if_pos q, if_pos q]
        exact ih (some j) (by omega) (by omega) hb
      · by_cases z : S.1 (o + 6) (2 * k) ≤ S.1 (o + 6) (2 * j)
        · rw [if_neg q, if_neg q, if_pos z, if_pos z]
          exact ih (some j) (by omega) (by omega) hb
        · rw [if_neg q, if_neg q, if_neg z, if_neg z]
          exact ih (some k) (by omega) (by omega) (fun j hj => by cases hj; omega)
theorem Cw.proper (hC : Cw S o) (h0 : ∀ k, k < nr S (o + 5) → ¬ S.1 (o + 6) (2 * k) < 0) (mark : Int32) : f_X0_properAt o mark S = some (propV (fun j => S.1 (o + 6) (2 * j + 1)) (propS (fun j => S.1 (o + 6) (2 * j)) mark (nr S (o + 5)) 0 none)) := by
  have hm := hC.2.2.2.2.2.2.2.2.2.2.2.2.2.2.2.2.1
  have := proper_l hC h0 (mark := mark) (nr S (o + 5)) 0 fu none (by omega) (by unfold fu; omega) (fun j h => nomatch h)
  exact this
theorem Lw.free (hC : Cw S o) (hL : Lw S o l bu fa h la) (mark : Int32) : f_X0_freeLaces o (nI l) mark S = some (countS (fun k => sd bu fa h (nI k) mark) 31 0 0) :=
  freeLaces_l hC.1 (p := fun k => sd bu fa h (nI k) mark) (fun k _ => hL.standsAt hC (nI k) mark) 31 0 fu 0 (by omega) (by unfold fu; omega)
theorem Lw.leastF (hC : Cw S o) (hL : Lw S o l bu fa h la) (mark : Int32) : f_X0_leastFree o (nI l) mark S = some (firstS (fun k => sd bu fa h (nI k) mark) 31 0) :=
  leastFree_l hC.1 (p := fun k => sd bu fa h (nI k) mark) (fun k _ => hL.standsAt hC (nI k) mark) 31 0 fu (by omega) (by unfold fu; omega)
theorem Lw.mostF (hC : Cw S o) (hL : Lw S o l bu fa h la) (mark : Int32) : f_X0_mostFree o (nI l) mark S = some (lastS (fun k => sd bu fa h (nI k) mark) 31 0 (-1)) := by
  rw [← down_last]
  exact mostFree_l hC.1 (p := fun k => sd bu fa h (nI k) mark) (fun k _ => hL.standsAt hC (nI k) mark) 31 fu (by omega) (by unfold fu; omega)
theorem Lw.highest (hC : Cw S o) (hL : Lw S o l bu fa h la) (mark : Int32) : f_X0_highestStand o (nI l) mark S = some (lastS (fun k => su bu fa la (mark - nI k)) 41 0 (-1)) := by
  unfold f_X0_highestStand
  rw [xR_s hC.1, hC.2.2.1, c1_s hC.2.2.2.2.2.2.2.2.1.1, hL.lace hC, b1_s, ← down_last]
  exact highest_l hC.1 (p := fun k => su bu fa la (mark - nI k)) (fun k _ => hL.stands hC la (mark - nI k)) 41 fu (by omega) (by unfold fu; omega)
theorem Lw.roomsTo (hC : Cw S o) (hL : Lw S o l bu fa h la) (mark : Int32) : f_X0_roomsToStand o (nI l) mark S = some (bitsS (fun r => su bu fa la (mark - S.1 (o + 2) (2 * r + 1))) (nr S (o + 1)) 0 0) := by
  have hm := hC.2.2.2.2.2.2.2.1.2.2.2.2.2.2.2.1
  unfold f_X0_roomsToStand
  rw [xR_s hC.1, hC.2.2.1, c1_s hC.2.2.2.2.2.2.2.2.1.1, hL.lace hC, b1_s]
  exact roomsTo_l hC (p := fun r => su bu fa la (mark - S.1 (o + 2) (2 * r + 1))) (fun k _ => hL.stands hC la _) (nr S (o + 1)) 0 fu 0 (by omega) (by unfold fu; omega)
theorem Lw.calmR (hC : Cw S o) (hL : Lw S o l bu fa h la) (lace : Int32) : f_X0_calmRow o (nI l) lace S = some (calmS (fun k => sd bu fa h lace (nI k)) 41 0 0 0) :=
  calmRow_l hC.1 (p := fun k => sd bu fa h lace (nI k)) (fun k _ => hL.standsAt hC lace (nI k)) 41 0 fu 0 0 (by omega) (by unfold fu; omega)
theorem Lw.calmest (hC : Cw S o) (hL : Lw S o l bu fa h la) : f_X0_calmestLace o (nI l) S = some (nI (bestS (fun j => calmS (fun k => sd bu fa h (nI j) (nI k)) 41 0 0 0) 30 1 0)) := by
  unfold f_X0_calmestLace
  rw [c1_s hC.1, show f_X0_calmRow o (nI l) 0 S = _ from hL.calmR hC (nI 0), b1_s]
  exact calmest_l hC.1 (f := fun j => calmS (fun k => sd bu fa h (nI j) (nI k)) 41 0 0 0) (fun k _ => hL.calmR hC (nI k)) 30 1 fu 0 (by omega) (by unfold fu; omega) (by omega)
end CT
