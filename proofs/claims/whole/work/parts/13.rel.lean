/-! what ties the two: four copies of all that is told (the one in use, three images) -/
def In (x : Int32) (a b : Nat) : Prop := ∃ k, a ≤ k ∧ k ≤ b ∧ x = nI k
def tO (j : Nat) : Nat := if j = 0 then 1 else 2 + 51 * j
/-- a row list, and where the reference keeps it: how many, and from where on -/
def RwL (S : GS) (o w m a p q : Nat) (V : (Nat → Int32) → Prop) : Prop := S.1 o 0 = nI m ∧ S.1 o 1 = nI w ∧ ∃ n, n ≤ m ∧ S.1 o 3 = nI n ∧ S.1 a p = nI n ∧ (∀ k, k < n → ∀ i, i < w → S.1 (o + 1) (w * k + i) = S.1 a (q + (w * k + i))) ∧ ∀ k, k < n → V (fun i => S.1 a (q + (w * k + i)))
def vRoom (f : Nat → Int32) : Prop := In (f 0) 1 9 ∧ In (f 1) 0 9
def vLady (nr : Int32) (f : Nat → Int32) : Prop := (∃ r, f 0 = nI r ∧ r < nr.toNatClampNeg) ∧ In (f 1) 0 30 ∧ In (f 2) 0 60 ∧ In (f 3) 0 90 ∧ In (f 4) 0 40
def vStep (f : Nat → Int32) : Prop := In (f 0) 0 40 ∧ In (f 1) 0 30
def vDeed (f : Nat → Int32) : Prop := (f 0 = 0 ∧ In (f 1) 0 40) ∨ ((f 0 = 1 ∨ f 0 = 2) ∧ In (f 1) 0 3) ∨ (f 0 = 3 ∧ In (f 1) 0 7) ∨ ((f 0 = 4 ∨ f 0 = 5) ∧ In (f 1) 0 7 ∧ In (f 2) 1 9) ∨ (f 0 = 6 ∧ In (f 1) 0 7 ∧ In (f 2) 0 3) ∨ f 0 = 7 ∨ f 0 = 8
def vMark (f : Nat → Int32) : Prop := In (f 0) 0 40
def vSeen (f : Nat → Int32) : Prop := In (f 0) 0 7 ∧ In (f 1) 1 16 ∧ In (f 2) 0 1
def vShot (f : Nat → Int32) : Prop := In (f 0) 0 7 ∧ In (f 1) 0 60 ∧ In (f 2) 0 1
def vPawn (f : Nat → Int32) : Prop := In (f 0) 0 7 ∧ In (f 1) 0 7 ∧ In (f 2) 1 99
def vMaid (f : Nat → Int32) : Prop := In (f 0) 0 30 ∧ In (f 1) 0 30
/-- a court, and where the reference keeps it -/
def RwC (S : GS) (o b : Nat) : Prop := RwL S (o + 1) 2 4 319 b (b + 9) vRoom ∧ RwL S (o + 3) 5 8 319 (b + 1) (b + 29) (vLady (S.1 319 b)) ∧ RwL S (o + 5) 2 6 319 (b + 2) (b + 17) vStep ∧ S.1 o 4 = S.1 319 (b + 3) ∧ S.1 o 5 = S.1 319 (b + 4) ∧ S.1 o 6 = S.1 319 (b + 5) ∧ S.1 (o + 7) 0 = S.1 319 (b + 6) ∧ S.1 (o + 7) 1 = S.1 319 (b + 7) ∧ S.1 (o + 7) 2 = S.1 319 (b + 8)
def vCourt (S : GS) (b : Nat) : Prop := In (S.1 319 (b + 3)) 0 9 ∧ In (S.1 319 (b + 4)) 1 9 ∧ In (S.1 319 (b + 5)) 0 40 ∧ In (S.1 319 (b + 6)) 0 9 ∧ In (S.1 319 (b + 7)) 0 9 ∧ In (S.1 319 (b + 8)) 0 9 ∧ S.1 319 (b + 6) + S.1 319 (b + 7) + S.1 319 (b + 8) ≠ 0
/-- what is told in one place (0, 1) of a copy -/
def RwK (S : GS) (t j k : Nat) : Prop := RwC S (t + (9 + 21 * k)) (138 * j + 69 * k) ∧ ((∃ n, S.1 318 (6 * j) = nI n ∧ n ≤ 2 ∧ k < n) → vCourt S (138 * j + 69 * k)) ∧
  RwL S (t + (18 + 21 * k)) 3 20 322 (244 * j + 122 * k) (244 * j + 122 * k + 2) vSeen ∧ RwL S (t + (20 + 21 * k)) 3 20 322 (244 * j + 122 * k + 1) (244 * j + 122 * k + 62) vShot ∧
  RwL S (t + (22 + 21 * k)) 3 40 320 (242 * j + 121 * k) (242 * j + 121 * k + 1) vDeed ∧ RwL S (t + (24 + 21 * k)) 1 16 321 (34 * j + 17 * k) (34 * j + 17 * k + 1) vMark ∧
  RwL S (t + (26 + 21 * k)) 3 30 323 (182 * j + 91 * k) (182 * j + 91 * k + 1) vPawn ∧ RwL S (t + (28 + 21 * k)) 2 10 324 (42 * j + 21 * k) (42 * j + 21 * k + 1) vMaid
def RwT (S : GS) (t j : Nat) : Prop := (∀ i, i < 600 → S.1 (t + 1) i = S.1 314 (600 * j + i)) ∧ (∃ n, n ≤ 600 ∧ S.1 t 8 = nI n ∧ S.1 315 j = nI n) ∧ S.1 t 9 = S.1 316 j ∧ ((j ≠ 0 ∧ S.1 206 (j - 1) = 0) ∨ S.1 t 10 = S.1 317 j) ∧ (∀ s, s < 6 → ∃ n, n ≤ 2 ∧ S.1 (t + 2) s = nI n ∧ S.1 318 (6 * j + s) = nI n) ∧ RwK S t j 0 ∧ RwK S t j 1
/-- a row list of the reader's: it holds what it may -/
def RwR (S : GS) (o w m : Nat) : Prop := S.1 o 0 = nI m ∧ S.1 o 1 = nI w ∧ ∃ n, n ≤ m ∧ S.1 o 3 = nI n
def RwD (S : GS) : Prop := RwR S 210 2 4 ∧ RwR S 212 5 8 ∧ RwR S 214 2 6 ∧ RwR S 218 3 20 ∧ RwR S 220 3 20 ∧ RwR S 222 3 40 ∧ RwR S 224 1 16 ∧ RwR S 226 3 30 ∧ RwR S 228 2 10
/-- a byte -/
def By (v : Int32) : Prop := v.toInt8.toInt32 = v
theorem by_t (y : Int32) : By y.toInt8.toInt32 := by
  unfold By
  rw [Int8.toInt8_toInt32]
def Inv (S : GS) : Prop := Wr S ∧ (∀ j, j < 4 → RwT S (tO j) j) ∧ ((∀ k, k < 3 → S.1 206 k = S.1 342 k ∧ In (S.1 206 k) 0 1) ∧ S.1 309 0 = 0 ∧ ∀ i, By (S.1 314 i)) ∧ RwD S
section RE
variable {S S' : GS} {o w m a p q b t j k : Nat} {V : (Nat → Int32) → Prop}
theorem RwL.sm (h : RwL S o w m a p q V) (h1 : S'.1 o = S.1 o) (h2 : S'.1 (o + 1) = S.1 (o + 1)) (h3 : S'.1 a = S.1 a) : RwL S' o w m a p q V := by
  unfold RwL
  rw [h1, h2, h3]
  exact h
theorem RwC.sm (h : RwC S o b) (h1 : ∀ i, i < 8 → S'.1 (o + i) = S.1 (o + i)) (h3 : S'.1 319 = S.1 319) : RwC S' o b := by
  obtain ⟨c1, c2, c3, c4, c5, c6, c7, c8, c9⟩ := h
  have e0 : S'.1 o = S.1 o := h1 0 (by omega)
  have e7 := h1 7 (by omega)
  refine ⟨c1.sm (h1 1 (by omega)) (h1 2 (by omega)) h3, ?_, c3.sm (h1 5 (by omega)) (h1 6 (by omega)) h3, ?_⟩
  · have := c2.sm (h1 3 (by omega)) (h1 4 (by omega)) h3
    rw [h3]
    exact this
  · rw [e0, e7, h3]
    exact ⟨c4, c5, c6, c7, c8, c9⟩
theorem RwK.sm (h : RwK S t j k) (hk : k < 2) (h1 : ∀ i, i < 51 → S'.1 (t + i) = S.1 (t + i)) (h3 : ∀ a, 314 ≤ a → a < 325 → S'.1 a = S.1 a) : RwK S' t j k := by
  obtain ⟨c1, c2, c3, c4, c5, c6, c7, c8⟩ := h
  have f (i : Nat) (hi : i < 51) : S'.1 (t + i) = S.1 (t + i) := h1 i hi
  have g (x i : Nat) (hx : x + i < 51) : S'.1 (t + x + i) = S.1 (t + x + i) := by
    rw [Nat.add_assoc]
    exact h1 _ hx
  refine ⟨c1.sm (fun i hi => g _ i (by omega)) (h3 319 (by omega) (by omega)), ?_, c3.sm (f _ (by omega)) (g _ 1 (by omega)) (h3 322 (by omega) (by omega)), c4.sm (f _ (by omega)) (g _ 1 (by omega)) (h3 322 (by omega) (by omega)), c5.sm (f _ (by omega)) (g _ 1 (by omega)) (h3 320 (by omega) (by omega)), c6.sm (f _ (by omega)) (g _ 1 (by omega)) (h3 321 (by omega) (by omega)), c7.sm (f _ (by omega)) (g _ 1 (by omega)) (h3 323 (by omega) (by omega)), c8.sm (f _ (by omega)) (g _ 1 (by omega)) (h3 324 (by omega) (by omega))⟩
  unfold vCourt
  rw [h3 318 (by omega) (by omega), h3 319 (by omega) (by omega)]
  exact c2
theorem RwT.sm (h : RwT S t j) (h1 : ∀ i, i < 51 → S'.1 (t + i) = S.1 (t + i)) (h3 : ∀ a, 314 ≤ a → a < 325 → S'.1 a = S.1 a) (h6 : S'.1 206 = S.1 206) : RwT S' t j := by
  obtain ⟨c1, c2, c3, c4, c5, c6, c7⟩ := h
  have e0 : S'.1 t = S.1 t := h1 0 (by omega)
  refine ⟨?_, ?_, ?_, ?_, ?_, c6.sm (by omega) h1 h3, c7.sm (by omega) h1 h3⟩
  · rw [h1 1 (by omega), h3 314 (by omega) (by omega)]
    exact c1
  · rw [e0, h3 315 (by omega) (by omega)]
    exact c2
  · rw [e0, h3 316 (by omega) (by omega)]
    exact c3
  · rw [e0, h3 317 (by omega) (by omega), h6]
    exact c4
  · rw [h1 2 (by omega), h3 318 (by omega) (by omega)]
    exact c5
theorem tO_le (hj : j < 4) : tO j + 51 ≤ 206 := by
  unfold tO
  split <;> omega
theorem pm_lo (h : o < 230) : Pm o = true := by
  unfold Pm
  rw [Nat.blt_eq.mpr h]
  rfl
theorem pm_ar (h : 314 ≤ o) (h2 : o < 325) : Pm o = true := by
  unfold Pm
  rw [Nat.ble_eq.mpr h, Nat.blt_eq.mpr h2, Bool.and_self, Bool.or_true]
  rfl
theorem RwR.sm (h : RwR S o w m) (h1 : S'.1 o = S.1 o) : RwR S' o w m := by
  unfold RwR
  rw [h1]
  exact h
theorem Inv.sm (h : Inv S) (hS : Sm S S') : Inv S' := by
  obtain ⟨c1, c2, c3, c4⟩ := h
  refine ⟨hS.wr c1, fun j hj => (c2 j hj).sm (fun i hi => hS.2.2 _ (pm_lo (by have := tO_le hj; omega))) (fun a h1 h2 => hS.2.2 _ (pm_ar h1 h2)) (hS.2.2 206 (by decide)), ?_, ?_⟩
  · rw [hS.2.2 206 (by decide), hS.2.2 342 (by decide), hS.2.2 309 (by decide), hS.2.2 314 (by decide)]
    exact c3
  · obtain ⟨d1, d2, d3, d4, d5, d6, d7, d8, d9⟩ := c4
    exact ⟨d1.sm (hS.2.2 _ (by decide)), d2.sm (hS.2.2 _ (by decide)), d3.sm (hS.2.2 _ (by decide)), d4.sm (hS.2.2 _ (by decide)), d5.sm (hS.2.2 _ (by decide)), d6.sm (hS.2.2 _ (by decide)), d7.sm (hS.2.2 _ (by decide)), d8.sm (hS.2.2 _ (by decide)), d9.sm (hS.2.2 _ (by decide))⟩
/-- a row list is one -/
theorem RwL.rw (hW : Wr S) (h : RwL S o w m a p q V) (ho : o + 1 < 230) (h1 : kd o = 7) (h2 : kd (o + 1) = 14) (h3 : ln (o + 1) = m * w) (h4 : gRf o 2 = some (o + 1)) (hm : m ≤ 40) (hw : w ≤ 5) : Rw S o m w ∧ S.1 a p = nI (nr S o) ∧ (∀ k, k < nr S o → ∀ i, i < w → S.1 (o + 1) (w * k + i) = S.1 a (q + (w * k + i))) ∧ ∀ k, k < nr S o → V (fun i => S.1 a (q + (w * k + i))) := by
  obtain ⟨c1, c2, n, c3, c4, c5, c6, c7⟩ := h
  have e : nr S o = n := by
    unfold nr
    rw [c4, nI_clamp (by omega)]
  rw [e]
  refine ⟨⟨gk_n hW (by omega) h1, gk_n hW (by omega) h2, h3, rf_n hW (by omega) h4, c1, c2, by rw [e]; exact c4, by rw [e]; exact c3, hm, hw⟩, c5, c6, c7⟩
end RE
