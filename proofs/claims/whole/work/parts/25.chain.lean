/-! pays: the chain -/
def sumS (f : Nat → Int32) : Nat → Nat → Int32 → Int32
  | 0, _, s => s
  | d + 1, k, s => sumS f d (k + 1) (s + f k)
theorem sumS_nat {f : Nat → Int32} {M : Nat} : ∀ (d k m : Nat), (∀ j, k ≤ j → j < k + d → ∃ i, i ≤ M ∧ f j = nI i) → ∃ m', m' ≤ m + M * d ∧ sumS f d k (nI m) = nI m'
  | 0, k, m, _ => ⟨m, by omega, rfl⟩
  | d + 1, k, m, h => by
    obtain ⟨i, hi, e⟩ := h k (by omega) (by omega)
    obtain ⟨m', h1, h2⟩ := sumS_nat (f := f) (M := M) d (k + 1) (m + i) (fun j a b => h j (by omega) (by omega))
    refine ⟨m', by rw [Nat.mul_succ]; omega, ?_⟩
    show sumS f d (k + 1) (nI m + f k) = _
    rw [e, nI_add, h2]
def mostV (f : Nat → Int32) : Option Nat → Int32
  | none => 0
  | some j => f j
def deepV : Option Nat → Int32
  | none => -1
  | some j => nI j
def deepS (f : Nat → Int32) : Nat → Nat → Option Nat → Option Nat
  | 0, _, b => b
  | d + 1, k, b => deepS f d (k + 1) (if f k ≤ mostV f b then b else some k)
theorem deep_best (f : Nat → Int32) : ∀ (d k b : Nat) (c : Option Nat), ((c = some b ∧ ¬ f b ≤ 0) ∨ (c = none ∧ f b ≤ 0)) → (deepS f d k c = some (bestS f d k b) ∧ ¬ f (bestS f d k b) ≤ 0) ∨ (deepS f d k c = none ∧ f (bestS f d k b) ≤ 0)
  | 0, k, b, c, h => h
  | d + 1, k, b, c, h => by
    refine deep_best f d (k + 1) (if f k ≤ f b then b else k) (if f k ≤ mostV f c then c else some k) ?_
    rcases h with ⟨rfl, hb⟩ | ⟨rfl, hb⟩
    · show ((if f k ≤ f b then some b else some k) = _ ∧ _) ∨ _
      by_cases q : f k ≤ f b
      · rw [if_pos q, if_pos q]
        exact Or.inl ⟨rfl, hb⟩
      · rw [if_neg q, if_neg q]
        exact Or.inl ⟨rfl, fun z => hb (Int32.le_trans (Int32.le_of_lt (Int32.not_le.mp q)) z)⟩
    · show ((if f k ≤ 0 then none else some k) = _ ∧ _) ∨ ((if f k ≤ 0 then none else some k) = none ∧ _)
      by_cases z : f k ≤ 0
      · rw [if_pos z]
        right
        refine ⟨rfl, ?_⟩
        split
        · exact hb
        · exact z
      · have q : ¬ f k ≤ f b := fun y => z (Int32.le_trans y hb)
        rw [if_neg z, if_neg q]
        exact Or.inl ⟨rfl, z⟩
def chI (D C : Nat → Int32) : Nat → Nat → Int32 → Int32
  | 0, _, s => s
  | d + 1, k, s => chI D C d (k + 1) (if jshr s (D k) &&& 1 = 1 then s ||| jshl 1 (C k) else s)
def chO (g : Int32 → Int32) : Nat → Int32 → Int32
  | 0, s => s
  | d + 1, s => chO g d (g s)
section CH
variable {S S' : GS} {o b k l : Nat} {c : Int32}
def owS (S : GS) (k l np : Nat) : Int32 := sumS (fun j => if pD S k 0 j = nI l then pD S k 2 j else 0) np 0 0
theorem deep18 (h : LF S o 3 30 323 (91 * k) (91 * k + 1) vPawn) {K : Option Nat → Int32 → Int32 → Int32 → Option Int32} {x1 x2 x3 : Int32} : ∀ (d j n : Nat) (s : Int32), j + d = nr S o → d < n → f_X1_deepestInDebt_18 K S n (some o) x1 x2 x3 s (nI j) = if sumS (fun j => if pD S k 0 j = x3 then pD S k 2 j else 0) d j s ≤ x2 then K (some o) x1 x2 (x3 + 1) else K (some o) x3 (sumS (fun j => if pD S k 0 j = x3 then pD S k 2 j else 0) d j s) (x3 + 1)
  | _, _, 0, _, _, hn => absurd hn (Nat.not_lt_zero _)
  | 0, j, n + 1, s, hj, _ => by
    have := h.1.n40
    rw [f_X1_deepestInDebt_18, xI_s h.1.1, h.1.2.2.2.2.2.2.1, if_pos (nI_le (by omega) (by omega))]
    rfl
  | d + 1, j, n + 1, s, hj, hn => by
    have := h.1.n40
    have hj2 : j < nr S o := by omega
    have e0 : S.1 (o + 1) (3 * j + 0) = pD S k 0 j := h.2.2.1 j hj2 0 (by decide)
    have e2 : S.1 (o + 1) (3 * j + 2) = pD S k 2 j := h.2.2.1 j hj2 2 (by decide)
    rw [f_X1_deepestInDebt_18, xI_s h.1.1, h.1.2.2.2.2.2.2.1, if_neg (nI_ge (by omega) (by omega)), c1_s h.1.1, h.1.cellL 0 0 rfl hj2 (by decide), b1_s, e0, c1_s h.1.1, h.1.cellL 2 2 rfl hj2 (by decide), b1_s, e2]
    unfold f_X1_deepestInDebt_51
    rw [nI_1, deep18 h d (j + 1) n _ (by omega) (by omega), deep18 h d (j + 1) n _ (by omega) (by omega)]
    show _ = if sumS _ d (j + 1) (s + (if pD S k 0 j = x3 then pD S k 2 j else 0)) ≤ x2 then _ else K (some o) x3 (sumS _ d (j + 1) (s + (if pD S k 0 j = x3 then pD S k 2 j else 0))) (x3 + 1)
    by_cases q : pD S k 0 j = x3
    · simp only [if_pos q]
    · simp only [if_neg q]
theorem deep6 (h : LF S o 3 30 323 (91 * k) (91 * k + 1) vPawn) : ∀ (d l n : Nat) (b : Option Nat), l + d = 8 → d < n → f_X1_deepestInDebt_6 S n (some o) (deepV b) (mostV (fun l => owS S k l (nr S o)) b) (nI l) = some (deepV (deepS (fun l => owS S k l (nr S o)) d l b))
  | _, _, 0, _, _, hn => absurd hn (Nat.not_lt_zero _)
  | 0, l, n + 1, b, hj, _ => by
    rw [f_X1_deepestInDebt_6, if_pos (show (8 : Int32) ≤ nI l from nI_le (a := 8) (by omega) (by omega))]
    rfl
  | d + 1, l, n + 1, b, hj, hn => by
    have := h.1.n40
    have ih := deep6 h d (l + 1) n
    rw [f_X1_deepestInDebt_6, if_neg (show ¬ (8 : Int32) ≤ nI l from nI_ge (b := 8) (by omega) (by omega)), show f_X1_deepestInDebt_18 (f_X1_deepestInDebt_6 S n) S fu (some o) (deepV b) (mostV (fun l => owS S k l (nr S o)) b) (nI l) 0 0 = _ from deep18 h (nr S o) 0 fu 0 (by omega) (by unfold fu; omega), nI_1]
    show (if owS S k l (nr S o) ≤ _ then _ else f_X1_deepestInDebt_6 S n (some o) (nI l) (owS S k l (nr S o)) (nI (l + 1))) = some (deepV (deepS _ d (l + 1) (if owS S k l (nr S o) ≤ mostV (fun l => owS S k l (nr S o)) b then b else some l)))
    by_cases q : owS S k l (nr S o) ≤ mostV (fun l => owS S k l (nr S o)) b
    · rw [if_pos q, if_pos q]
      exact ih b (by omega) (by omega)
    · rw [if_neg q, if_neg q]
      exact ih (some l) (by omega) (by omega)
theorem chainC_i (h : LF S o 3 30 323 (91 * k) (91 * k + 1) vPawn) {K : Option Nat → Int32 → Int32 → Option Int32} {x3 : Int32} : ∀ (d j n : Nat) (s : Int32), j + d = nr S o → d < n → f_X1_chainOf_29 K S n (some o) s x3 (nI j) = K (some o) (chI (pD S k 0) (pD S k 1) d j s) (x3 + 1)
  | _, _, 0, _, _, hn => absurd hn (Nat.not_lt_zero _)
  | 0, j, n + 1, s, hj, _ => by
    have := h.1.n40
    rw [f_X1_chainOf_29, xI_s h.1.1, h.1.2.2.2.2.2.2.1, if_pos (nI_le (by omega) (by omega))]
    rfl
  | d + 1, j, n + 1, s, hj, hn => by
    have := h.1.n40
    have hj2 : j < nr S o := by omega
    have e0 : S.1 (o + 1) (3 * j + 0) = pD S k 0 j := h.2.2.1 j hj2 0 (by decide)
    have e1 : S.1 (o + 1) (3 * j + 1) = pD S k 1 j := h.2.2.1 j hj2 1 (by decide)
    rw [f_X1_chainOf_29, xI_s h.1.1, h.1.2.2.2.2.2.2.1, if_neg (nI_ge (by omega) (by omega)), c1_s h.1.1, h.1.cellL 0 0 rfl hj2 (by decide), b1_s, e0, c1_s h.1.1, h.1.cellL 1 1 rfl hj2 (by decide), b1_s, e1]
    unfold f_X1_chainOf_65
    rw [nI_1, chainC_i h d (j + 1) n _ (by omega) (by omega), chainC_i h d (j + 1) n _ (by omega) (by omega)]
    show _ = K (some o) (chI _ _ d (j + 1) (if jshr s (pD S k 0 j) &&& 1 = 1 then s ||| jshl 1 (pD S k 1 j) else s)) (x3 + 1)
    split <;> rfl
theorem chainC_o (h : LF S o 3 30 323 (91 * k) (91 * k + 1) vPawn) : ∀ (d l n : Nat) (s : Int32), l + d = 8 → d < n → f_X1_chainOf_20 S n (some o) s (nI l) = some (chO (chI (pD S k 0) (pD S k 1) (nr S o) 0) d s)
  | _, _, 0, _, _, hn => absurd hn (Nat.not_lt_zero _)
  | 0, l, n + 1, s, hj, _ => by
    rw [f_X1_chainOf_20, if_pos (show (8 : Int32) ≤ nI l from nI_le (a := 8) (by omega) (by omega))]
    rfl
  | d + 1, l, n + 1, s, hj, hn => by
    have := h.1.n40
    rw [f_X1_chainOf_20, if_neg (show ¬ (8 : Int32) ≤ nI l from nI_ge (b := 8) (by omega) (by omega)), show f_X1_chainOf_29 (f_X1_chainOf_20 S n) S fu (some o) s (nI l) 0 = _ from chainC_i h (nr S o) 0 fu s (by omega) (by unfold fu; omega), nI_1, chainC_o h d (l + 1) n _ (by omega) (by omega)]
    rfl
theorem chainC (h : LF S o 3 30 323 (91 * k) (91 * k + 1) vPawn) : f_X1_chainOf (some o) S = some (chO (chI (pD S k 0) (pD S k 1) (nr S o) 0) 8 (match deepS (fun l => owS S k l (nr S o)) 8 0 none with
    | none => 0
    | some j => jshl 1 (nI j))) := by
  have hd : ∀ j, deepS (fun l => owS S k l (nr S o)) 8 0 none = some j → nI j ≠ -1 := by
    intro j hj
    have g : ∀ (f : Nat → Int32) (d k : Nat) (b : Option Nat), k + d < 100 → (∀ j, b = some j → j < 100) → ∀ j, deepS f d k b = some j → j < 100 := by
      intro f d
      induction d with
      | zero => intro k b _ hb j hj; exact hb j hj
      | succ d ih =>
        intro k b hk hb j hj
        refine ih (k + 1) _ (by omega) ?_ j hj
        intro i hi
        split at hi
        · exact hb i hi
        · cases hi; omega
    have := g _ 8 0 none (by omega) (fun j h => nomatch h) j hj
    exact nI_neg1 j (by omega)
  unfold f_X1_chainOf f_X1_chainOf_17 f_X1_deepestInDebt
  rw [show f_X1_deepestInDebt_6 S fu (some o) (-1) 0 0 = _ from deep6 h 8 0 fu none (by omega) (by unfold fu; omega), b1_s]
  generalize deepS (fun l => owS S k l (nr S o)) 8 0 none = r at hd
  cases r with
  | none =>
    rw [if_pos (show deepV none = -1 from rfl)]
    exact chainC_o h 8 0 fu 0 (by omega) (by unfold fu; omega)
  | some j =>
    rw [if_neg (show ¬ deepV (some j) = -1 from hd j rfl)]
    exact chainC_o h 8 0 fu _ (by omega) (by unfold fu; omega)
end CH
