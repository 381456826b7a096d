/-! what the constructors make: the reference; the start -/
def mkA {α : Type} : List (Nat × Nat × Nat) → (GS → Option α) → GS → Option α
  | [], g, S => g S
  | e :: l, g, S => na e.1 (nI e.2.1) S fun v S1 => pR (some 313) 12 e.2.2 v S1 fun S2 => mkA l g S2
def rAr : List (Nat × Nat × Nat) → Nat → List (Nat × Nat × Option Nat) → List (Nat × Nat × Option Nat)
  | [], _, R => R
  | e :: l, n, R => rAr l (n + 1) ((313, e.2.2, some n) :: R)
def chA : List (Nat × Nat × Nat) → Nat → Bool
  | [], _ => true
  | e :: l, n => Nat.blt n 343 && (Nat.beq (kd n) e.1 && (Nat.beq (ln n) e.2.1 && (Nat.blt e.2.1 10000 && chA l (n + 1))))
def lAr : List (Nat × Nat × Nat) := [(13, 2400, 1), (14, 4, 2), (14, 4, 3), (14, 4, 4), (14, 24, 5), (14, 552, 6), (14, 968, 7), (14, 136, 8), (14, 976, 9), (14, 728, 10), (14, 168, 11), (14, 122, 21), (14, 5, 22), (14, 4, 39), (14, 8, 40), (14, 8, 41), (14, 8, 42), (14, 8, 43), (14, 8, 44), (14, 527, 46), (14, 8, 47), (15, 41, 48), (15, 41, 49), (15, 697, 53), (15, 697, 54), (14, 8, 56), (14, 256, 57), (14, 256, 58), (16, 3, 61)]
def RWz : List (Nat × Nat × Option Nat) := rAr lAr 314 RZ
def IZ : List (Nat × Nat × Int32) := (317, 0, -1) :: IK
section MS
variable {α : Type} {I : List (Nat × Nat × Int32)} {J : List (Nat × Nat × Int64)} {R : List (Nat × Nat × Option Nat)} {n o c : Nat}
theorem mkA_d {g : GS → Option α} : ∀ (l : List (Nat × Nat × Nat)) (n : Nat) (R : List (Nat × Nat × Option Nat)), Bd I J R n → 313 < n → chA l n = true → mkA l g (dec I J R n) = g (dec I J (rAr l n R) (n + l.length)) ∧ Bd I J (rAr l n R) (n + l.length)
  | [], n, R, h, _, _ => ⟨rfl, h⟩
  | e :: l, n, R, h, hn, hc => by
    have hc : (Nat.blt n 343 && (Nat.beq (kd n) e.1 && (Nat.beq (ln n) e.2.1 && (Nat.blt e.2.1 10000 && chA l (n + 1))))) = true := hc
    rw [Bool.and_eq_true, Bool.and_eq_true, Bool.and_eq_true, Bool.and_eq_true, Nat.blt_eq, Nat.beq_eq, Nat.beq_eq, Nat.blt_eq] at hc
    obtain ⟨c1', c2', c3', c4', c5'⟩ := hc
    have h1 : Bd I J ((313, e.2.2, some n) :: R) (n + 1) := h.s.r (by omega)
    obtain ⟨g1, g2⟩ := mkA_d (g := g) l (n + 1) ((313, e.2.2, some n) :: R) h1 (by omega) c5'
    have en : n + (e :: l).length = n + 1 + l.length := by
      rw [List.length_cons]
      omega
    rw [en]
    refine ⟨?_, g2⟩
    rw [mkA, na_d h c1' c2' c3' (by omega), pR_d (o := 313) (c := 12) (by omega) rfl]
    exact g1
theorem mk12 (h : Bd IK JK RZ 313) : f_X12_init 313 (dec IK JK RZ 314) = some (dec IZ JK RWz 343) := by
  have hr : f_X12_init 313 (dec IK JK RZ 314) = mkA lAr (fun S87 => xR (some 313) 12 4 S87 fun v88 => qI v88 0 (-1) S87 fun S89 => some S89) (dec IK JK RZ 314) := rfl
  obtain ⟨g1, g2⟩ := mkA_d (g := fun S87 => xR (some 313) 12 4 S87 fun v88 => qI v88 0 (-1) S87 fun S89 => some S89) lAr 314 RZ h.s (by decide) (by decide +kernel)
  rw [hr, g1]
  have e4 : lkR (rAr lAr 314 RZ) 313 4 = some 317 := by decide +kernel
  rw [show 314 + lAr.length = 343 from rfl, xR_d (o := 313) (c := 12) (by decide) rfl e4, show qI (some 317) 0 (-1) (dec IK JK (rAr lAr 314 RZ) 343) _ = _ from qI_n (k := 0) (gk_d (by decide) rfl) (by decide) (by decide)]
  rfl
theorem lkR_or : ∀ (R : List (Nat × Nat × Option Nat)), (R.all fun e => gRf e.1 e.2.1 == e.2.2) = true → ∀ o i, lkR R o i = gRf o i ∨ (lkR R o i = none ∧ (R.any fun e => Nat.beq e.1 o && Nat.beq e.2.1 i) = false)
  | [], _, o, i => Or.inr ⟨rfl, rfl⟩
  | (a, b, v) :: R, h, o, i => by
    rw [List.all_cons, Bool.and_eq_true] at h
    have h1 : gRf a b = v := by simpa using h.1
    show (if o = a ∧ i = b then v else lkR R o i) = gRf o i ∨ ((if o = a ∧ i = b then v else lkR R o i) = none ∧ _)
    by_cases q : o = a ∧ i = b
    · rw [if_pos q, q.1, q.2, h1]
      exact Or.inl rfl
    · rw [if_neg q]
      rcases lkR_or R h.2 o i with z | ⟨z1, z2⟩
      · exact Or.inl z
      · refine Or.inr ⟨z1, ?_⟩
        rw [List.any_cons, z2, Bool.or_false, Bool.and_eq_false_iff, Bool.eq_false_iff, Bool.eq_false_iff]
        by_cases w : a = o
        · exact Or.inr (fun y => q ⟨w.symm, (Nat.eq_of_beq_eq_true y).symm⟩)
        · exact Or.inl (fun y => w (Nat.eq_of_beq_eq_true y))
theorem rf_ok : (RWz.all fun e => gRf e.1 e.2.1 == e.2.2) = true := by decide +kernel
theorem rf_all : ((List.range 343).all fun o => (List.range (gRfL.getD o []).length).all fun i => gRf o i == none || RWz.any fun e => Nat.beq e.1 o && Nat.beq e.2.1 i) = true := by decide +kernel
theorem getD_out {β : Type} {l : List β} {i : Nat} {d : β} (h : l.length ≤ i) : l.getD i d = d := by
  rw [List.getD_eq_getElem?_getD, List.getElem?_eq_none h]
  rfl
theorem wr_Z : Wr (dec IZ JK RWz 343) := by
  refine ⟨rfl, fun o i _ => ?_⟩
  show lkR RWz o i = gRf o i
  rcases lkR_or RWz rf_ok o i with z | ⟨z1, z2⟩
  · exact z
  · rw [z1]
    by_cases ho : o < 343
    · by_cases hi : i < (gRfL.getD o []).length
      · have := List.all_eq_true.mp rf_all o (List.mem_range.mpr ho)
        have := List.all_eq_true.mp this i (List.mem_range.mpr hi)
        rw [z2, Bool.or_false] at this
        exact (by simpa using this : gRf o i = none).symm
      · unfold gRf
        rw [getD_out (by omega)]
    · have hl : gRfL.length = 343 := by decide +kernel
      unfold gRf
      generalize gRfL = G at hl
      rw [getD_out (l := G) (by omega)]
      rfl
theorem lkI_no : ∀ (I : List (Nat × Nat × Int32)) (o i : Nat), (I.all fun e => !(Nat.beq e.1 o)) = true → lkI I o i = 0
  | [], _, _, _ => rfl
  | (a, b, v) :: I, o, i, h => by
    rw [List.all_cons, Bool.and_eq_true] at h
    show (if o = a ∧ i = b then v else lkI I o i) = 0
    rw [if_neg, lkI_no I o i h.2]
    rintro ⟨rfl, -⟩
    have := h.1
    rw [show Nat.beq o o = true from Nat.beq_refl o] at this
    exact absurd this (by decide)
end MS
