/-! ways: rows of marks, as naturals -/
def nearN (f : Nat → Nat) (m : Nat) : Nat := if m = 0 then f 0 + f 1 else if m = 40 then f 39 + f 40 else f (m - 1) + f m + f (m + 1)
theorem near_c {f g : Nat → Nat} {m : Nat} (hm : m < 41) (h : ∀ j, j < 41 → f j = g j) : nearN f m = nearN g m := by
  unfold nearN
  rw [h 0 (by decide), h 1 (by decide), h 39 (by decide), h 40 (by decide)]
  by_cases q : m = 0
  · rw [if_pos q, if_pos q]
  · by_cases z : m = 40
    · rw [if_neg q, if_neg q, if_pos z, if_pos z]
    · rw [if_neg q, if_neg q, if_neg z, if_neg z, h (m - 1) (by omega), h m hm, h (m + 1) (by omega)]
theorem near_le {f : Nat → Nat} {B m : Nat} (hm : m < 41) (h : ∀ j, j < 41 → f j ≤ B) : nearN f m ≤ 3 * B := by
  have h0 := h 0 (by decide)
  have h1 := h 1 (by decide)
  have h39 := h 39 (by decide)
  have h40 := h 40 (by decide)
  unfold nearN
  by_cases q : m = 0
  · rw [if_pos q]; omega
  · by_cases z : m = 40
    · rw [if_neg q, if_pos z]; omega
    · have a := h (m - 1) (by omega)
      have b := h m hm
      have c := h (m + 1) (by omega)
      rw [if_neg q, if_neg z]
      omega
theorem near_ex {f : Nat → Nat} {m : Nat} (hm : m < 41) : nearN f m ≠ 0 ↔ ∃ j, j < 41 ∧ j ≤ m + 1 ∧ m ≤ j + 1 ∧ f j ≠ 0 := by
  unfold nearN
  constructor
  · intro h
    by_cases q : m = 0
    · rw [if_pos q] at h
      by_cases a : f 0 = 0
      · exact ⟨1, by decide, by omega, by omega, by omega⟩
      · exact ⟨0, by decide, by omega, by omega, a⟩
    · by_cases z : m = 40
      · rw [if_neg q, if_pos z] at h
        by_cases a : f 39 = 0
        · exact ⟨40, by decide, by omega, by omega, by omega⟩
        · exact ⟨39, by decide, by omega, by omega, a⟩
      · rw [if_neg q, if_neg z] at h
        by_cases a : f (m - 1) = 0
        · by_cases b : f m = 0
          · exact ⟨m + 1, by omega, by omega, by omega, by omega⟩
          · exact ⟨m, by omega, by omega, by omega, b⟩
        · exact ⟨m - 1, by omega, by omega, by omega, a⟩
  · rintro ⟨j, h1, h2, h3, h4⟩
    by_cases q : m = 0
    · rw [if_pos q]
      rcases (show j = 0 ∨ j = 1 by omega) with rfl | rfl <;> omega
    · by_cases z : m = 40
      · rw [if_neg q, if_pos z]
        rcases (show j = 39 ∨ j = 40 by omega) with rfl | rfl <;> omega
      · rw [if_neg q, if_neg z]
        rcases (show j = m - 1 ∨ j = m ∨ j = m + 1 by omega) with rfl | rfl | rfl <;> omega
theorem near_sum (f g : Nat → Nat) : ∀ n, n ≤ 40 → sumN (fun m => f m * nearN g m) n = sumN (fun m => f m * g m) n + sumN (fun m => f m * g (m + 1)) n + sumN (fun m => f (m + 1) * g m) (n - 1)
  | 0, _ => rfl
  | n + 1, hn => by
    have ih := near_sum f g n (by omega)
    show sumN (fun m => f m * nearN g m) n + f n * nearN g n = sumN (fun m => f m * g m) n + f n * g n + (sumN (fun m => f m * g (m + 1)) n + f n * g (n + 1)) + sumN (fun m => f (m + 1) * g m) n
    unfold nearN at *
    by_cases q : n = 0
    · subst q
      rw [if_pos rfl, Nat.mul_add]
      show 0 + (f 0 * g 0 + f 0 * g 1) = 0 + f 0 * g 0 + (0 + f 0 * g 1) + 0
      omega
    · rw [if_neg q, if_neg (by omega), Nat.mul_add, Nat.mul_add]
      have e : sumN (fun m => f (m + 1) * g m) n = sumN (fun m => f (m + 1) * g m) (n - 1) + f n * g (n - 1) := by
        have h1 : n = (n - 1) + 1 := by omega
        have h2 : sumN (fun m => f (m + 1) * g m) ((n - 1) + 1) = sumN (fun m => f (m + 1) * g m) (n - 1) + f (n - 1 + 1) * g (n - 1) := rfl
        rw [← h1] at h2
        exact h2
      omega
theorem near_all (f g : Nat → Nat) : sumN (fun m => f m * nearN g m) 41 = sumN (fun m => f m * g m) 41 + sumN (fun m => f m * g (m + 1)) 40 + sumN (fun m => f (m + 1) * g m) 40 := by
  have h := near_sum f g 40 (Nat.le_refl _)
  show sumN (fun m => f m * nearN g m) 40 + f 40 * nearN g 40 = sumN (fun m => f m * g m) 40 + f 40 * g 40 + sumN (fun m => f m * g (m + 1)) 40 + (sumN (fun m => f (m + 1) * g m) 39 + f 40 * g 39)
  rw [h, show nearN g 40 = g 39 + g 40 from rfl, Nat.mul_add]
  show _ + sumN (fun m => f (m + 1) * g m) 39 + _ = _
  omega
theorem sumN_f {F G : Nat → Nat} (n : Nat) (h : ∀ j, F j = G j) : sumN F n = sumN G n := sumN_c n fun j _ => h j
theorem near_sym (f g : Nat → Nat) : sumN (fun m => f m * nearN g m) 41 = sumN (fun m => nearN f m * g m) 41 := by
  rw [sumN_f (G := fun m => g m * nearN f m) 41 (fun j => Nat.mul_comm (nearN f j) (g j)), near_all, near_all, sumN_f (G := fun m => f m * g m) 41 (fun j => Nat.mul_comm (g j) (f j)), sumN_f (G := fun m => f (m + 1) * g m) 40 (fun j => Nat.mul_comm (g j) (f (j + 1))), sumN_f (F := fun m => g (m + 1) * f m) (G := fun m => f m * g (m + 1)) 40 (fun j => Nat.mul_comm (g (j + 1)) (f j))]
  omega
/-- ways to a mark at a minute, by who was seen; ways on from one; and on through such as can be come to -/
def aN (ft : Nat → Nat → Bool) (gl : Nat) : Nat → Nat → Nat
  | 0 => st0 gl
  | i + 1 => fun m => if ft (i + 1) m = true then nearN (aN ft gl i) m else 0
def onN (ft : Nat → Nat → Bool) (L : Nat) : Nat → Nat → Nat
  | 0 => fun _ => 1
  | d + 1 => nearN (fun m => if ft (L - d) m = true then onN ft L d m else 0)
def goN (A : Nat → Nat → Nat) (L : Nat) : Nat → Nat → Nat
  | 0 => fun m => if A L m = 0 then 0 else 1
  | d + 1 => fun m => if A (L - (d + 1)) m = 0 then 0 else nearN (goN A L d) m
theorem aN_le (ft : Nat → Nat → Bool) (gl : Nat) : ∀ i m, m < 41 → aN ft gl i m ≤ 3 ^ i
  | 0, m, _ => by
    show st0 gl m ≤ 3 ^ 0
    unfold st0
    split <;> decide
  | i + 1, m, hm => by
    have := near_le (f := aN ft gl i) (B := 3 ^ i) hm (fun j hj => aN_le ft gl i j hj)
    show (if ft (i + 1) m = true then nearN (aN ft gl i) m else 0) ≤ 3 ^ (i + 1)
    rw [Nat.pow_succ]
    split <;> omega
theorem onN_le (ft : Nat → Nat → Bool) (L : Nat) : ∀ d m, m < 41 → onN ft L d m ≤ 3 ^ d
  | 0, m, _ => Nat.le_refl 1
  | d + 1, m, hm => by
    have := near_le (f := fun m => if ft (L - d) m = true then onN ft L d m else 0) (B := 3 ^ d) hm (fun j hj => by
      have := onN_le ft L d j hj
      show (if ft (L - d) j = true then onN ft L d j else 0) ≤ 3 ^ d
      split <;> omega)
    show nearN _ m ≤ 3 ^ (d + 1)
    rw [Nat.pow_succ]
    omega
theorem goN_le (A : Nat → Nat → Nat) (L : Nat) : ∀ d m, m < 41 → goN A L d m ≤ 3 ^ d
  | 0, m, _ => by
    show (if A L m = 0 then 0 else 1) ≤ 3 ^ 0
    split <;> decide
  | d + 1, m, hm => by
    have := near_le (f := goN A L d) (B := 3 ^ d) hm (fun j hj => goN_le A L d j hj)
    show (if A (L - (d + 1)) m = 0 then 0 else nearN (goN A L d) m) ≤ 3 ^ (d + 1)
    rw [Nat.pow_succ]
    split <;> omega
theorem ways_d (ft : Nat → Nat → Bool) (gl L : Nat) : ∀ d, d ≤ L → sumN (fun m => aN ft gl (L - d) m * onN ft L d m) 41 = sumN (aN ft gl L) 41
  | 0, _ => sumN_f 41 (fun j => Nat.mul_one _)
  | d + 1, hd => by
    rw [← ways_d ft gl L d (by omega)]
    show sumN (fun m => aN ft gl (L - (d + 1)) m * nearN (fun m => if ft (L - d) m = true then onN ft L d m else 0) m) 41 = _
    rw [near_sym]
    refine sumN_f 41 fun m => ?_
    rw [show L - d = (L - (d + 1)) + 1 by omega]
    show _ = (if ft (L - (d + 1) + 1) m = true then nearN (aN ft gl (L - (d + 1))) m else 0) * _
    by_cases q : ft (L - (d + 1) + 1) m = true
    · rw [if_pos q, if_pos q]
    · rw [if_neg q, if_neg q, Nat.mul_zero, Nat.zero_mul]
theorem ways_0 (ft : Nat → Nat → Bool) {gl L : Nat} (hgl : gl < 41) : sumN (aN ft gl L) 41 = onN ft L L gl := by
  rw [← ways_d ft gl L L (Nat.le_refl L), Nat.sub_self]
  have e : (fun m => aN ft gl 0 m * onN ft L L m) = addN (fun _ => 0) gl (onN ft L L gl) := by
    funext m
    show st0 gl m * _ = _
    unfold st0 addN
    by_cases q : m = gl
    · rw [if_pos q, if_pos q, q, Nat.one_mul, Nat.zero_add]
    · rw [if_neg q, if_neg q, Nat.zero_mul]
  rw [e, sumN_add 41 hgl, sumN_0, Nat.zero_add]
theorem go_ne (ft : Nat → Nat → Bool) (gl L : Nat) : ∀ d, d ≤ L → ∀ m, m < 41 → (goN (aN ft gl) L d m ≠ 0 ↔ aN ft gl (L - d) m ≠ 0 ∧ onN ft L d m ≠ 0)
  | 0, _, m, hm => by
    show (if aN ft gl L m = 0 then 0 else 1) ≠ 0 ↔ aN ft gl L m ≠ 0 ∧ 1 ≠ 0
    by_cases q : aN ft gl L m = 0
    · rw [if_pos q]
      exact ⟨fun z => absurd rfl z, fun z => absurd q z.1⟩
    · rw [if_neg q]
      exact ⟨fun z => ⟨q, z⟩, fun z => z.2⟩
  | d + 1, hd, m, hm => by
    have ih := go_ne ft gl L d (by omega)
    have eL : L - d = (L - (d + 1)) + 1 := by omega
    show (if aN ft gl (L - (d + 1)) m = 0 then 0 else nearN (goN (aN ft gl) L d) m) ≠ 0 ↔ aN ft gl (L - (d + 1)) m ≠ 0 ∧ nearN (fun m => if ft (L - d) m = true then onN ft L d m else 0) m ≠ 0
    by_cases q : aN ft gl (L - (d + 1)) m = 0
    · rw [if_pos q]
      exact ⟨fun z => absurd rfl z, fun z => absurd q z.1⟩
    · rw [if_neg q, near_ex hm, near_ex hm]
      have hx : ∀ j, j < 41 → j ≤ m + 1 → m ≤ j + 1 → (goN (aN ft gl) L d j ≠ 0 ↔ (if ft (L - d) j = true then onN ft L d j else 0) ≠ 0) := fun j h1 h2 h3 => by
        rw [ih j h1, eL]
        have e : aN ft gl (L - (d + 1) + 1) j = if ft (L - (d + 1) + 1) j = true then nearN (aN ft gl (L - (d + 1))) j else 0 := rfl
        rw [e]
        by_cases z : ft (L - (d + 1) + 1) j = true
        · rw [if_pos z, if_pos z]
          have : nearN (aN ft gl (L - (d + 1))) j ≠ 0 := (near_ex h1).mpr ⟨m, hm, by omega, by omega, q⟩
          exact ⟨fun y => y.2, fun y => ⟨this, y⟩⟩
        · rw [if_neg z, if_neg z]
          exact ⟨fun y => absurd rfl y.1, fun y => absurd rfl y⟩
      constructor
      · rintro ⟨j, h1, h2, h3, h4⟩
        exact ⟨q, j, h1, h2, h3, (hx j h1 h2 h3).mp h4⟩
      · rintro ⟨-, j, h1, h2, h3, h4⟩
        exact ⟨j, h1, h2, h3, (hx j h1 h2 h3).mpr h4⟩
