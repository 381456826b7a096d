/-! odds: weights of marks, as naturals -/
def afN (m g : Nat) : Nat := min 40 (m + g - 1)
theorem af_k : ∀ m, m < 41 → ∀ g, g < 3 → jmax 0 (jmin 40 (nI m + nI g - 1)) = nI (afN m g) := by decide +kernel
theorem afN_lt (m g : Nat) : afN m g < 41 := by
  unfold afN
  omega
def addN (G : Nat → Nat) (i v : Nat) : Nat → Nat := fun j => if j = i then G j + v else G j
def sumN (F : Nat → Nat) : Nat → Nat
  | 0 => 0
  | n + 1 => sumN F n + F n
theorem sumN_c {F G : Nat → Nat} : ∀ n, (∀ j, j < n → F j = G j) → sumN F n = sumN G n
  | 0, _ => rfl
  | n + 1, h => by
    show sumN F n + F n = sumN G n + G n
    rw [sumN_c n (fun j q => h j (by omega)), h n (by omega)]
theorem sumN_add {G : Nat → Nat} {i v : Nat} : ∀ n, i < n → sumN (addN G i v) n = sumN G n + v
  | 0, h => absurd h (Nat.not_lt_zero _)
  | n + 1, h => by
    show sumN (addN G i v) n + (if n = i then G n + v else G n) = sumN G n + G n + v
    by_cases q : n = i
    · rw [if_pos q, sumN_c (G := G) n (fun j z => by show (if j = i then _ else _) = _; rw [if_neg (by omega)])]
      omega
    · rw [if_neg q, sumN_add n (by omega)]
      omega
theorem sumN_le {F : Nat → Nat} {i : Nat} : ∀ n, i < n → F i ≤ sumN F n
  | 0, h => absurd h (Nat.not_lt_zero _)
  | n + 1, h => by
    show F i ≤ sumN F n + F n
    by_cases q : i = n
    · rw [q]; omega
    · have := sumN_le (F := F) n (show i < n by omega)
      omega
theorem sumN_0 : ∀ n, sumN (fun _ => 0) n = 0
  | 0 => rfl
  | n + 1 => by show sumN (fun _ => 0) n + 0 = 0; rw [sumN_0 n]
def guN (w F : Nat → Nat) (m : Nat) : Nat → Nat → (Nat → Nat) → Nat → Nat
  | 0, _, G => G
  | d + 1, g, G => guN w F m d (g + 1) (addN G (afN m g) (F m * w g))
def blN (w F : Nat → Nat) : Nat → Nat → (Nat → Nat) → Nat → Nat
  | 0, _, G => G
  | d + 1, m, G => blN w F d (m + 1) (guN w F m 3 0 G)
def blow (w F : Nat → Nat) : Nat → Nat := blN w F 41 0 (fun _ => 0)
theorem gu_zero {w F : Nat → Nat} {m : Nat} (h : lN (F m) = 0) : ∀ (d g : Nat) (G : Nat → Nat) (j : Nat), lN (guN w F m d g G j) = lN (G j)
  | 0, g, G, j => rfl
  | d + 1, g, G, j => by
    show lN (guN w F m d (g + 1) (addN G (afN m g) (F m * w g)) j) = _
    rw [gu_zero h d (g + 1)]
    unfold addN
    split
    · rw [← lN_add, ← lN_mul, h, Int64.zero_mul, Int64.add_zero]
    · rfl
theorem gu_sum (w F : Nat → Nat) (m : Nat) (G : Nat → Nat) : sumN (guN w F m 3 0 G) 41 = sumN G 41 + F m * (w 0 + w 1 + w 2) := by
  show sumN (addN (addN (addN G (afN m 0) (F m * w 0)) (afN m 1) (F m * w 1)) (afN m 2) (F m * w 2)) 41 = _
  rw [sumN_add 41 (afN_lt _ _), sumN_add 41 (afN_lt _ _), sumN_add 41 (afN_lt _ _), Nat.mul_add, Nat.mul_add]
  omega
theorem bl_sum (w F : Nat → Nat) : ∀ (d m : Nat) (G : Nat → Nat), sumN (blN w F d m G) 41 + sumN F m * (w 0 + w 1 + w 2) = sumN G 41 + sumN F (m + d) * (w 0 + w 1 + w 2)
  | 0, m, G => rfl
  | d + 1, m, G => by
    have ih := bl_sum w F d (m + 1) (guN w F m 3 0 G)
    rw [gu_sum, show sumN F (m + 1) = sumN F m + F m from rfl, Nat.add_mul, show m + 1 + d = m + (d + 1) by omega] at ih
    show sumN (blN w F d (m + 1) (guN w F m 3 0 G)) 41 + _ = _
    omega
theorem blow_sum (w F : Nat → Nat) : sumN (blow w F) 41 = sumN F 41 * (w 0 + w 1 + w 2) := by
  have := bl_sum w F 41 0 (fun _ => 0)
  rw [sumN_0, show sumN F 0 = 0 from rfl, Nat.zero_mul, Nat.add_zero, Nat.zero_add, Nat.zero_add] at this
  exact this
/-- marks struck out -/
def stN (p : Nat → Bool) (F : Nat → Nat) : Nat → Nat := fun m => if p m = true then 0 else F m
def cutN (p : Nat → Bool) (F : Nat → Nat) : Nat → Nat := fun m => if p m = true then F m else 0
theorem st_sum (p : Nat → Bool) (F : Nat → Nat) : ∀ n, sumN (stN p F) n + sumN (cutN p F) n = sumN F n
  | 0 => rfl
  | n + 1 => by
    have := st_sum p F n
    show sumN (stN p F) n + (if p n = true then 0 else F n) + (sumN (cutN p F) n + (if p n = true then F n else 0)) = sumN F n + F n
    split <;> omega
theorem st_no (F : Nat → Nat) : stN (fun _ => false) F = F := by
  funext m
  exact if_neg Bool.false_ne_true
def itN (w : Nat → Nat) (p : Nat → Bool) : Nat → (Nat → Nat) → Nat → Nat
  | 0, R => R
  | d + 1, R => itN w p d (stN p (blow w R))
theorem it_le (w : Nat → Nat) (p : Nat → Bool) : ∀ (d : Nat) (R : Nat → Nat), sumN (itN w p d R) 41 ≤ sumN R 41 * (w 0 + w 1 + w 2) ^ d
  | 0, R => by show sumN R 41 ≤ _; rw [Nat.pow_zero, Nat.mul_one]; exact Nat.le_refl _
  | d + 1, R => by
    have h1 := it_le w p d (stN p (blow w R))
    have h2 := st_sum p (blow w R) 41
    rw [blow_sum] at h2
    have h3 : sumN (stN p (blow w R)) 41 ≤ sumN R 41 * (w 0 + w 1 + w 2) := by omega
    have h4 := Nat.mul_le_mul_right ((w 0 + w 1 + w 2) ^ d) h3
    show sumN (itN w p d (stN p (blow w R))) 41 ≤ _
    rw [Nat.pow_succ, Nat.mul_comm ((w 0 + w 1 + w 2) ^ d), ← Nat.mul_assoc]
    exact Nat.le_trans h1 h4
/-! common divisors -/
theorem gcd_step (a b : Nat) : Nat.gcd b (a % b) = Nat.gcd a b := by
  rw [Nat.gcd_comm a b, Nat.gcd_rec b a, Nat.gcd_comm]
theorem half {a b t : Nat} (hb : b < 2 ^ (t + 1)) (hr : 0 < a % b) (h0 : 0 < b) : b % (a % b) < 2 ^ t := by
  have h1 : a % b < b := Nat.mod_lt _ h0
  have h2 : b % (a % b) < a % b := Nat.mod_lt _ hr
  have h3 : (a % b) * (b / (a % b)) + b % (a % b) = b := Nat.div_add_mod b (a % b)
  have h4 : 1 ≤ b / (a % b) := (Nat.le_div_iff_mul_le hr).mpr (by omega)
  have h5 := Nat.mul_le_mul_left (a % b) h4
  rw [Nat.pow_succ] at hb
  omega
theorem lz {a : Nat} (h : a < 2 ^ 63) : (lg_cmp (lN a) 0 = 0) = (a = 0) := by
  rw [show (0 : Int64) = lN 0 from rfl]
  exact propext ((lg_cmp_eq _ _).trans (pk_lEQ h (by decide)))
theorem lz2 {a : Nat} (h : a < 2 ^ 63) : (lN a = 0) = (a = 0) := propext (pk_lEQ h (by decide : 0 < 2 ^ 63))
theorem jlrem_v {a b : Nat} (ha : a < 2 ^ 62) (h0 : 0 < b) (hb : b < 2 ^ 62) : jlrem (lN a) (lN b) = lN (a % b) := pk_lRem (by omega) h0 (by omega)
theorem gcdC (S : GS) : ∀ (t a b k n : Nat), a < 2 ^ 62 → b < 2 ^ t → t ≤ 43 → k + 2 * t ≤ 100 → 2 * t + 1 < n → f_X4_commonDivisor_9 S n (lN a) (lN b) (nI k) = some (lN (Nat.gcd a b))
  | _, _, _, _, 0, _, _, _, _, hn => absurd hn (Nat.not_lt_zero _)
  | t, a, b, k, n + 1, ha, hb, ht, hk, hn => by
    have hb62 : b < 2 ^ 62 := Nat.lt_of_lt_of_le hb (Nat.pow_le_pow_right (by decide) (by omega))
    rw [f_X4_commonDivisor_9]
    by_cases q0 : b = 0
    · subst q0
      rw [Nat.gcd_zero_right]
      split
      · rfl
      · rw [if_pos ((lz (by decide)).mpr rfl)]
    · match t, n, hb, ht, hk, hn with
      | 0, _, hb, _, _, _ => exact absurd hb (by omega)
      | t + 1, 0, _, _, _, hn => exact absurd hn (by omega)
      | t + 1, n + 1, hb, ht, hk, hn =>
        have hr := Nat.mod_lt a (show 0 < b by omega)
        rw [if_neg (show ¬ (100 : Int32) ≤ nI k from nI_ge (b := 100) (by omega) (by omega)), if_neg (by rw [lz (by omega)]; exact q0), dzl, if_neg (by rw [lz2 (by omega)]; exact q0), jlrem_v ha (by omega) hb62, nI_1, f_X4_commonDivisor_9, if_neg (show ¬ (100 : Int32) ≤ nI (k + 1) from nI_ge (b := 100) (by omega) (by omega))]
        by_cases q1 : a % b = 0
        · rw [if_pos (by rw [lz (by omega)]; exact q1), ← gcd_step a b, q1, Nat.gcd_zero_right]
        · rw [if_neg (by rw [lz (by omega)]; exact q1), dzl, if_neg (by rw [lz2 (by omega)]; exact q1), jlrem_v hb62 (by omega) (by omega), nI_1, gcdC S t (a % b) (b % (a % b)) (k + 1 + 1) n (by omega) (half hb (by omega) (by omega)) (by omega) (by omega) (by omega), gcd_step, gcd_step]
theorem gcdM (S : GS) : ∀ (t a b n : Nat), a < 2 ^ 62 → b < 2 ^ t → t ≤ 43 → 2 * t + 1 < n → f_X12_common_6 S n (lN a) (lN b) = some (lN (Nat.gcd a b))
  | _, _, _, 0, _, _, _, hn => absurd hn (Nat.not_lt_zero _)
  | t, a, b, n + 1, ha, hb, ht, hn => by
    have hb62 : b < 2 ^ 62 := Nat.lt_of_lt_of_le hb (Nat.pow_le_pow_right (by decide) (by omega))
    rw [f_X12_common_6]
    by_cases q0 : b = 0
    · subst q0
      rw [Nat.gcd_zero_right, if_pos ((lz (by decide)).mpr rfl)]
    · match t, n, hb, ht, hn with
      | 0, _, hb, _, _ => exact absurd hb (by omega)
      | t + 1, 0, _, _, hn => exact absurd hn (by omega)
      | t + 1, n + 1, hb, ht, hn =>
        have hr := Nat.mod_lt a (show 0 < b by omega)
        rw [if_neg (by rw [lz (by omega)]; exact q0), dzl, if_neg (by rw [lz2 (by omega)]; exact q0), jlrem_v ha (by omega) hb62, f_X12_common_6]
        by_cases q1 : a % b = 0
        · rw [if_pos (by rw [lz (by omega)]; exact q1), ← gcd_step a b, q1, Nat.gcd_zero_right]
        · rw [if_neg (by rw [lz (by omega)]; exact q1), dzl, if_neg (by rw [lz2 (by omega)]; exact q1), jlrem_v hb62 (by omega) (by omega), gcdM S t (a % b) (b % (a % b)) n (by omega) (half hb (by omega) (by omega)) (by omega) (by omega), gcd_step, gcd_step]
theorem terms_v (S : GS) {a b : Nat} (ha : a < 2 ^ 43) (hb : b < 2 ^ 43) (h0 : 0 < b) (x : Int32) : f_X12_terms (lN a) (lN b) x S = some (lN ((if x = 0 then a else b) / Nat.gcd a b)) := by
  have hg : 0 < Nat.gcd a b := Nat.gcd_pos_of_pos_right _ h0
  have hg2 : Nat.gcd a b ≤ b := Nat.gcd_le_right _ h0
  have e : f_X12_common (lN a) (lN b) S = some (lN (Nat.gcd a b)) := gcdM S 43 a b fu (by omega) hb (by omega) (by unfold fu; omega)
  have e2 : ∀ y, y < 2 ^ 63 → f_X12_terms_10 S (lN a) (lN b) (lN y) = some (lN (y / Nat.gcd a b)) := fun y hy => by
    unfold f_X12_terms_10 dzl
    rw [e, b1_s, if_neg (by rw [lz2 (by omega)]; omega), pk_lDiv hy hg (by omega)]
  unfold f_X12_terms
  by_cases q : x = 0
  · rw [if_pos q, if_pos q, e2 a (by omega)]
  · rw [if_neg q, if_neg q, e2 b (by omega)]
theorem lgt {a : Nat} (h : a < 2 ^ 63) : (lg_cmp (lN a) 0 ≤ 0) = (a = 0) := by
  rw [show (0 : Int64) = lN 0 from rfl]
  refine propext ((lg_cmp_le _ _).trans ((pk_lLE h (by decide)).trans ?_))
  omega
/-! numbers and longs may be written: what of the state stays -/
def OfL (S S' : GS) : Prop := S'.1 = S.1 ∧ S'.2.2 = S.2.2
theorem OfL.rf (S : GS) : OfL S S := ⟨rfl, rfl⟩
theorem OfL.tr {S S1 S2 : GS} (h : OfL S S1) (h2 : OfL S1 S2) : OfL S S2 := ⟨h2.1.trans h.1, h2.2.trans h.2⟩
theorem OfJ.l {a : Nat} {S S' : GS} (h : OfJ a S S') : OfL S S' := ⟨h.1, h.2.1⟩
theorem OfL.wr {S S' : GS} (h : OfL S S') (hW : Wr S) : Wr S' := by
  unfold Wr
  rw [h.2]
  exact hW
theorem OfL.sm {S S' : GS} (h : OfL S S') : Sm S S' := ⟨by rw [h.2], fun o i _ => by rw [h.2], fun o _ => by rw [h.1]⟩
theorem ofL_J {S : GS} {a i : Nat} {v : Int64} : OfL S (sJ S a i v) := ⟨rfl, rfl⟩
theorem OfL.gkE {S S' : GS} (h : OfL S S') (o : Nat) : gk S' o = gk S o := by
  unfold gk
  rw [h.2]
theorem OfL.rw {S S' : GS} {o m w : Nat} (h : OfL S S') (hR : Rw S o m w) : Rw S' o m w := by
  unfold Rw nr
  rw [h.gkE, h.gkE, h.1, h.2]
  exact hR
theorem OfL.cw {S S' : GS} {o : Nat} (h : OfL S S') (hC : Cw S o) : Cw S' o := by
  obtain ⟨c0, c1, c2, c3, c4, c5, c6, c7, c8, c9⟩ := hC
  refine ⟨?_, ?_, ?_, ?_, ?_, ?_, c6, h.rw c7, h.rw c8, h.rw c9⟩
  · rw [h.gkE]; exact c0
  · rw [h.2]; exact c1
  · rw [h.2]; exact c2
  · rw [h.2]; exact c3
  · rw [h.2]; exact c4
  · rw [h.gkE]; exact c5
theorem OfL.lw {S S' : GS} {o l : Nat} {bu fa he la : Int32} (h : OfL S S') (hL : Lw S o l bu fa he la) : Lw S' o l bu fa he la := by
  unfold Lw nr
  rw [h.1]
  exact hL
theorem OfL.mc {S S' : GS} {c : Nat} (h : OfL S S') (hM : Mc S c) : Mc S' c := ⟨h.wr hM.1, by rw [h.1]; exact hM.2⟩
theorem OfL.lm {S S' : GS} {c l : Nat} {bu fa he la : Int32} (h : OfL S S') (hL : Lm S c l bu fa he la) : Lm S' c l bu fa he la := by
  unfold Lm
  rw [h.1]
  exact hL
