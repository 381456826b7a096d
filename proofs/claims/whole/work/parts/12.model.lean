/-! the reference's readings: what it is asked, ladies, courts -/
section MD
variable {S : GS} {c l : Nat} {bu fa h la : Int32}
theorem m_in {x a b : Int32} : f_X12_in x a b S = some (if x < a then 0 else if b < x then 0 else 1) := by
  unfold f_X12_in
  split
  · rfl
  · split <;> rfl
/-- a number among the first n -/
theorem m_in0 {k n : Nat} (hk : k < 2 ^ 31) (hn : n < 2 ^ 31) : f_X12_in (nI k) 0 (nI n - 1) S = some (bi (decide (k < n))) := by
  rw [m_in, if_neg (nI_pos hk)]
  cases n with
  | zero =>
    rw [if_pos]
    · rfl
    · show nI 0 - 1 < nI k
      rw [Int32.lt_iff_toInt_lt, nI_toInt hk, show (nI 0 - 1).toInt = -1 by decide]
      omega
  | succ n =>
    rw [nI_pred]
    by_cases q : k < n + 1
    · rw [if_neg (nI_nlt (by omega) (by omega)), decide_eq_true q]; rfl
    · rw [if_pos (nI_lt (by omega) hk), decide_eq_false q]; rfl
theorem m_inN {x b : Int32} (h : x < 0) : f_X12_in x 0 b S = some 0 := by rw [m_in, if_pos h]
theorem m_has {x : Int32} {k : Int32} : f_X12_has x k S = some (bi (decide (jshr x k &&& 1 = 1))) := by
  unfold f_X12_has bi
  by_cases q : jshr x k &&& 1 = 1 <;> simp [q]
theorem m_greater {a b : Int32} : f_X12_greater a b S = some (jmax a b) := by
  unfold f_X12_greater jmax
  by_cases q : a ≤ b
  · rw [if_pos q]
    by_cases z : a < b
    · rw [if_pos z]
    · rw [if_neg z, Int32.le_antisymm q (Int32.not_lt.mp z)]
  · rw [if_neg q, if_neg (fun z => q (Int32.le_of_lt z))]
theorem m_lesser {a b : Int32} : f_X12_lesser a b S = some (jmin a b) := by
  unfold f_X12_lesser jmin
  by_cases q : b ≤ a
  · rw [if_pos q]
    by_cases z : b < a
    · rw [if_pos z]
    · rw [if_neg z, Int32.le_antisymm q (Int32.not_lt.mp z)]
  · rw [if_neg q, if_neg (fun z => q (Int32.le_of_lt z))]
theorem m_size {a : Int32} : f_X12_size a S = some (jabs a) := by
  unfold f_X12_size jabs
  by_cases q : 0 ≤ a
  · rw [if_pos q, if_pos q]
  · rw [if_neg q, if_neg q, Int32.zero_sub]
/-- the reference's court, as it has it in hand -/
def Mc (S : GS) (c : Nat) : Prop := Wr S ∧ c < 2 ∧ S.1 313 25 = nI c ∧ S.1 313 26 = S.1 319 (69 * c) ∧ S.1 313 27 = S.1 319 (69 * c + 1)
theorem Mc.of (hM : Mc S c) (x : Int32) (k : Nat) (hx : x = nI k) (hk : k < 69) : f_X12_ofCourt 313 x S = some (S.1 319 (69 * c + k)) := by
  subst hx
  obtain ⟨hW, hc, h1, -⟩ := hM
  unfold f_X12_ofCourt
  rw [r_313_6 hW, i_313 hW, h1, show (69 : Int32) * nI c + nI k = nI (69 * c + k) by rw [← nI_add, ← nI_mul]; rfl, y_319 hW (by omega)]
theorem Mc.lady (hM : Mc S c) (hl : l < 8) (x : Int32) (i : Nat) (hx : x = nI i) (hi : i < 5) : f_X12_ofLady 313 (nI l) x S = some (S.1 319 (69 * c + (29 + 5 * l + i))) := by
  subst hx
  unfold f_X12_ofLady
  rw [k_313 hM.1, hM.of _ (29 + 5 * l + i) (by rw [← nI_add, ← nI_add, ← nI_mul]; rfl) (by omega), b1_s]
theorem Mc.height (hM : Mc S c) {r : Nat} (hr : r < 4) : f_X12_heightOf 313 (nI r) S = some (S.1 319 (69 * c + (9 + 2 * r + 1))) := by
  unfold f_X12_heightOf
  rw [k_313 hM.1, hM.of _ (9 + 2 * r + 1) (by rw [← nI_add, ← nI_add, ← nI_mul]; rfl) (by omega), b1_s]
/-- a lady of the reference's court in hand -/
def Lm (S : GS) (c l : Nat) (bu fa h la : Int32) : Prop := l < 8 ∧ S.1 319 (69 * c + (29 + 5 * l + 3)) = bu ∧ S.1 319 (69 * c + (29 + 5 * l + 2)) = fa ∧ S.1 319 (69 * c + (29 + 5 * l + 1)) = la ∧ ∃ r, r < 4 ∧ S.1 319 (69 * c + (29 + 5 * l + 0)) = nI r ∧ S.1 319 (69 * c + (9 + 2 * r + 1)) = h
theorem Lm.does (hM : Mc S c) (hL : Lm S c l bu fa h la) (lace p : Int32) : f_X12_does 313 (nI l) lace p S = some (fate bu fa lace p) := by
  obtain ⟨a1, a2, a3, a4, a5⟩ := hL
  unfold f_X12_does fate
  rw [k_313 hM.1, hM.lady a1 3 3 rfl (by decide), b1_s, k_313 hM.1, hM.lady a1 2 2 rfl (by decide), b1_s, a2, a3]
  split
  · split <;> rfl
  · rfl
theorem Lm.lace (hM : Mc S c) (hL : Lm S c l bu fa h la) : f_X12_ofLady 313 (nI l) 1 S = some la := by
  rw [hM.lady hL.1 1 1 rfl (by decide), hL.2.2.2.1]
theorem Lm.stands (hM : Mc S c) (hL : Lm S c l bu fa h la) (lace mark : Int32) : f_X12_stands 313 (nI l) lace mark S = some (bi (sd bu fa h lace mark)) := by
  obtain ⟨a1, a2, a3, a4, r, a5, a6, a7⟩ := id hL
  unfold f_X12_stands
  rw [k_313 hM.1, hM.lady a1 0 0 rfl (by decide), b1_s, a6, k_313 hM.1, hM.height a5, b1_s, a7, k_313 hM.1, hL.does hM, b1_s]
  exact su_bi bu fa lace (mark - h)
theorem calmOf_l (hW : Wr S) {x1 x2 : Int32} {p : Nat → Bool} (hS : ∀ k, k < 41 → f_X12_stands 313 x1 x2 (nI k) S = some (bi (p k))) : ∀ (d k n : Nat) (b r : Int32), k + d = 41 → d < n → f_X12_calmOf_8 313 S n x1 x2 b r (nI k) = some (calmS p d k b r)
  | _, _, 0, _, _, _, hn => absurd hn (Nat.not_lt_zero _)
  | 0, k, n + 1, b, r, hk, _ => by
    rw [f_X12_calmOf_8, if_pos (show (40 : Int32) < nI k from lt_lit 40 (by omega) (by omega))]
    rfl
  | d + 1, k, n + 1, b, r, hk, hn => by
    rw [f_X12_calmOf_8, if_neg (show ¬ (40 : Int32) < nI k from nI_nlt (a := 40) (by omega) (by omega)), k_313 hW, hS k (by omega), b1_s]
    unfold f_X12_calmOf_34
    rw [m_greater, m_greater, b1_s, b1_s, nI_1, calmOf_l hW hS d (k + 1) n _ _ (by omega) (by omega), calmOf_l hW hS d (k + 1) n _ _ (by omega) (by omega)]
    show _ = some (calmS p d (k + 1) (jmax b (if p k = true then r + 1 else 0)) (if p k = true then r + 1 else 0))
    cases p k <;> rfl
theorem Lm.calmR (hM : Mc S c) (hL : Lm S c l bu fa h la) (lace : Int32) : f_X12_calmOf 313 (nI l) lace S = some (calmS (fun k => sd bu fa h lace (nI k)) 41 0 0 0) :=
  calmOf_l hM.1 (p := fun k => sd bu fa h lace (nI k)) (fun k _ => hL.stands hM lace (nI k)) 41 0 fu 0 0 (by omega) (by unfold fu; omega)
theorem calm_l (hW : Wr S) {x1 : Int32} {f : Nat → Int32} (hS : ∀ k, k < 31 → f_X12_calmOf 313 x1 (nI k) S = some (f k)) : ∀ (d k n b : Nat), k + d = 31 → d < n → b < 31 → f_X12_calm_51 313 n x1 (nI b) (nI k) S = some (nI (bestS f d k b), S)
  | _, _, 0, _, _, hn, _ => absurd hn (Nat.not_lt_zero _)
  | 0, k, n + 1, b, hk, _, _ => by
    rw [f_X12_calm_51, if_pos (show (31 : Int32) ≤ nI k from nI_le (a := 31) (by omega) (by omega))]
    rfl
  | d + 1, k, n + 1, b, hk, hn, hb => by
    rw [f_X12_calm_51, if_neg (show ¬ (31 : Int32) ≤ nI k from nI_ge (b := 31) (by omega) (by omega)), k_313 hW, hS k (by omega), b1_s, k_313 hW, hS b (by omega), b1_s]
    unfold f_X12_calm_82
    rw [nI_1, calm_l hW hS d (k + 1) n b (by omega) (by omega) hb, calm_l hW hS d (k + 1) n k (by omega) (by omega) (by omega)]
    show _ = some (nI (bestS f d (k + 1) (if f k ≤ f b then b else k)), S)
    split <;> rfl
theorem propM_l (hM : Mc S c) {mark : Int32} {ns : Nat} (hs : ns ≤ 6) (h2 : S.1 319 (69 * c + 2) = nI ns) : ∀ (d k n : Nat) (b : Option Nat), k + d = ns → d < n → (∀ j, b = some j → j < ns) → f_X12_properAt_4 313 S n mark (match b with
    | none => -1
    | some j => nI j) (nI k) = some (propV (fun j => S.1 319 (69 * c + (17 + 2 * j + 1))) (propS (fun j => S.1 319 (69 * c + (17 + 2 * j))) mark d k b))
  | _, _, 0, _, _, hn, _ => absurd hn (Nat.not_lt_zero _)
  | 0, k, n + 1, none, hk, _, _ => by
    rw [f_X12_properAt_4, k_313 hM.1, hM.of 2 2 rfl (by decide), b1_s, h2, if_pos (nI_le (by omega) (by omega)), if_pos rfl]
    rfl
  | 0, k, n + 1, some j, hk, _, hb => by
    have hj := hb j rfl
    show f_X12_properAt_4 313 S (n + 1) mark (nI j) (nI k) = _
    rw [f_X12_properAt_4, k_313 hM.1, hM.of 2 2 rfl (by decide), b1_s, h2, if_pos (nI_le (by omega) (by omega)), if_neg (nI_neg1 j (by omega)), k_313 hM.1, hM.of _ (17 + 2 * j + 1) (by rw [← nI_add, ← nI_add, ← nI_mul]; rfl) (by omega), b1_s]
    rfl
  | d + 1, k, n + 1, none, hk, hn, hb => by
    have ih := propM_l hM hs h2 (mark := mark) d (k + 1) n
    show f_X12_properAt_4 313 S (n + 1) mark (-1) (nI k) = some (propV _ (propS _ mark d (k + 1) (if mark < S.1 319 (69 * c + (17 + 2 * k)) then none else some k)))
    rw [f_X12_properAt_4, k_313 hM.1, hM.of 2 2 rfl (by decide), b1_s, h2, if_neg (nI_ge (by omega) (by omega)), k_313 hM.1, hM.of _ (17 + 2 * k) (by rw [← nI_add, ← nI_mul]; rfl) (by omega), b1_s, if_pos (rfl : (-1 : Int32) = -1)]
    unfold f_X12_properAt_55 f_X12_properAt_51 f_X12_properAt_56
    rw [nI_1]
    by_cases q : mark < S.1 319 (69 * c + (17 + 2 * k))
    · rw [if_pos q, if_pos q]
      exact ih none (by omega) (by omega) hb
    · rw [if_neg q, if_neg q]
      exact ih (some k) (by omega) (by omega) (fun j hj => by cases hj; omega)
  | d + 1, k, n + 1, some j, hk, hn, hb => by
    have ih := propM_l hM hs h2 (mark := mark) d (k + 1) n
    have hj := hb j rfl
    show f_X12_properAt_4 313 S (n + 1) mark (nI j) (nI k) = some (propV _ (propS _ mark d (k + 1) (if mark < S.1 319 (69 * c + (17 + 2 * k)) then some j else if S.1 319 (69 * c + (17 + 2 * k)) ≤ S.1 319 (69 * c + (17 + 2 * j)) then some j else some k)))
    rw [f_X12_properAt_4, k_313 hM.1, hM.of 2 2 rfl (by decide), b1_s, h2, if_neg (nI_ge (by omega) (by omega)), k_313 hM.1, hM.of _ (17 + 2 * k) (by rw [← nI_add, ← nI_mul]; rfl) (by omega), b1_s, if_neg (nI_neg1 j (by omega)), k_313 hM.1, hM.of _ (17 + 2 * j) (by rw [← nI_add, ← nI_mul]; rfl) (by omega), b1_s]
    unfold f_X12_properAt_55 f_X12_properAt_51 f_X12_properAt_56
    rw [nI_1]
    by_cases q : mark < S.1 319 (69 * c + (17 + 2 * k))
    · rw [if_pos q, if_pos q]
      exact ih (some j) (by omega) (by omega) hb
    · by_cases z : S.1 319 (69 * c + (17 + 2 * k)) ≤ S.1 319 (69 * c + (17 + 2 * j))
      · rw [if_neg q, if_neg q, if_pos z, if_pos z]
        exact ih (some j) (by omega) (by omega) hb
      · rw [if_neg q, if_neg q, if_neg z, if_neg z]
        exact ih (some k) (by omega) (by omega) (fun j hj => by cases hj; omega)
theorem Mc.proper (hM : Mc S c) {ns : Nat} (hs : ns ≤ 6) (h2 : S.1 319 (69 * c + 2) = nI ns) (mark : Int32) : f_X12_properAt 313 mark S = some (propV (fun j => S.1 319 (69 * c + (17 + 2 * j + 1))) (propS (fun j => S.1 319 (69 * c + (17 + 2 * j))) mark ns 0 none)) :=
  propM_l hM hs h2 (mark := mark) ns 0 fu none (by omega) (by unfold fu; omega) (fun j h => nomatch h)
end MD
