/-! the ball: the reference's sets, what it holds, readings -/
theorem setN_eq {p q : Nat → Bool} : ∀ (d k a : Nat), (∀ j, k ≤ j → j < k + d → p j = q j) → setN p d k a = setN q d k a
  | 0, _, _, _ => rfl
  | d + 1, k, a, h => by
    show setN p d (k + 1) (if p k = true then a + 2 ^ k else a) = setN q d (k + 1) (if q k = true then a + 2 ^ k else a)
    rw [h k (by omega) (by omega), setN_eq d (k + 1) _ (fun j h1 h2 => h j (by omega) (by omega))]
theorem setN_z {p : Nat → Bool} : ∀ (d k a : Nat), (∀ j, k ≤ j → j < k + d → p j = false) → setN p d k a = a
  | 0, _, _, _ => rfl
  | d + 1, k, a, h => by
    show setN p d (k + 1) (if p k = true then a + 2 ^ k else a) = a
    rw [h k (by omega) (by omega), if_neg Bool.false_ne_true, setN_z d (k + 1) a (fun j h1 h2 => h j (by omega) (by omega))]
theorem setN_ad {p : Nat → Bool} : ∀ (c d k a : Nat), setN p (c + d) k a = setN p d (k + c) (setN p c k a)
  | 0, d, k, a => by rw [Nat.zero_add]; rfl
  | c + 1, d, k, a => by
    rw [show c + 1 + d = (c + d) + 1 by omega]
    show setN p (c + d) (k + 1) _ = setN p d (k + (c + 1)) (setN p c (k + 1) _)
    rw [setN_ad c d (k + 1) _, show k + 1 + c = k + (c + 1) by omega]
theorem setQ_48 {n : Nat} {p : Nat → Bool} (hn : n ≤ 4) : setQ 4 n p = setQ 8 n p := by
  unfold setQ
  rw [show (8 : Nat) = 4 + 4 from rfl, setN_ad, setN_z 4 (0 + 4) _ (fun j h1 h2 => by rw [decide_eq_false (by omega)]; rfl)]
/-- a number is a set -/
def Bs (x : Int32) (n : Nat) (p : Nat → Bool) : Prop := x = setQ 8 n p
theorem orS_k : ∀ l, l < 8 → ∀ a, a < 256 → nI a ||| jshl 1 (nI l) = nI (setN (fun j => a.testBit j || Nat.beq j l) 8 0 0) := by decide +kernel
theorem clS_k : ∀ l, l < 8 → ∀ a, a < 256 → nI a &&& (jshl 1 (nI l) ^^^ (-1)) = nI (setN (fun j => a.testBit j && !(Nat.beq j l)) 8 0 0) := by decide +kernel
theorem flS_k : ∀ l, l < 8 → ∀ a, a < 256 → nI a ^^^ jshl 1 (nI l) = nI (setN (fun j => if Nat.beq j l then !(a.testBit j) else a.testBit j) 8 0 0) := by decide +kernel
section BH
variable {x : Int32} {n l : Nat} {p q : Nat → Bool} {S : GS}
theorem Bs.a (h : Bs x n p) : ∃ a, x = nI a ∧ a < 256 ∧ ∀ j, j < 8 → a.testBit j = (decide (j < n) && p j) := ⟨_, h, setN_lt _ 8 0 0 (by decide), fun j hj => by rw [setN_bit _ 8 0 0 j (by decide), if_pos ⟨by omega, by omega⟩]⟩
theorem Bs.c (h : Bs x n p) (e : ∀ j, j < n → q j = p j) : Bs x n q := by
  unfold Bs setQ at h ⊢
  rw [h]
  refine congrArg nI (setN_eq 8 0 0 fun j _ _ => ?_)
  by_cases z : j < n
  · rw [e j z]
  · rw [decide_eq_false z]
    rfl
theorem Bs.has (h : Bs x n p) (hl : l < n) (hn : n ≤ 8) : f_X12_has x (nI l) S = some (bi (p l)) := by
  obtain ⟨a, rfl, ha, hb⟩ := h.a
  rw [m_has, has_k a (by omega) l (by omega), hb l (by omega), decide_eq_true hl, Bool.true_and]
theorem Bs.or (h : Bs x n p) (hl : l < n) (hn : n ≤ 8) (e : ∀ j, j < n → q j = if j = l then true else p j) : Bs (x ||| jshl 1 (nI l)) n q := by
  obtain ⟨a, rfl, ha, hb⟩ := h.a
  unfold Bs setQ
  rw [orS_k l (by omega) a ha]
  refine congrArg nI (setN_eq 8 0 0 fun j _ hj => ?_)
  rw [hb j (by omega)]
  by_cases z : j < n
  · rw [decide_eq_true z, Bool.true_and, Bool.true_and, e j z]
    by_cases y : j = l
    · rw [if_pos y, show Nat.beq j l = true from Nat.beq_eq.mpr y, Bool.or_true]
    · rw [if_neg y, show Nat.beq j l = false from Bool.eq_false_iff.mpr fun w => y (Nat.beq_eq.mp w), Bool.or_false]
  · rw [decide_eq_false z, Bool.false_and, Bool.false_and, Bool.false_or]
    exact Bool.eq_false_iff.mpr fun w => z (by rw [Nat.beq_eq.mp w]; exact hl)
theorem Bs.cl (h : Bs x n p) (hl : l < n) (hn : n ≤ 8) (e : ∀ j, j < n → q j = if j = l then false else p j) : Bs (x &&& (jshl 1 (nI l) ^^^ (-1))) n q := by
  obtain ⟨a, rfl, ha, hb⟩ := h.a
  unfold Bs setQ
  rw [clS_k l (by omega) a ha]
  refine congrArg nI (setN_eq 8 0 0 fun j _ hj => ?_)
  rw [hb j (by omega)]
  by_cases z : j < n
  · rw [decide_eq_true z, Bool.true_and, Bool.true_and, e j z]
    by_cases y : j = l
    · rw [if_pos y, show Nat.beq j l = true from Nat.beq_eq.mpr y, Bool.not_true, Bool.and_false]
    · rw [if_neg y, show Nat.beq j l = false from Bool.eq_false_iff.mpr fun w => y (Nat.beq_eq.mp w), Bool.not_false, Bool.and_true]
  · rw [decide_eq_false z, Bool.false_and, Bool.false_and, Bool.false_and]
theorem Bs.fl (h : Bs x n p) (hl : l < n) (hn : n ≤ 8) (e : ∀ j, j < n → q j = if j = l then !(p j) else p j) : Bs (x ^^^ jshl 1 (nI l)) n q := by
  obtain ⟨a, rfl, ha, hb⟩ := h.a
  unfold Bs setQ
  rw [flS_k l (by omega) a ha]
  refine congrArg nI (setN_eq 8 0 0 fun j _ hj => ?_)
  rw [hb j (by omega)]
  by_cases z : j < n
  · rw [decide_eq_true z, Bool.true_and, Bool.true_and, e j z]
    by_cases y : j = l
    · rw [if_pos y, show Nat.beq j l = true from Nat.beq_eq.mpr y]
      rfl
    · rw [if_neg y, show Nat.beq j l = false from Bool.eq_false_iff.mpr fun w => y (Nat.beq_eq.mp w)]
      rfl
  · rw [decide_eq_false z, Bool.false_and, Bool.false_and, show Nat.beq j l = false from Bool.eq_false_iff.mpr fun w => z (by rw [Nat.beq_eq.mp w]; exact hl)]
    rfl
theorem all_k : ∀ n, n ≤ 8 → jshl 1 (nI n) - 1 = setQ 8 n (fun _ => true) := by decide +kernel
theorem none_k : ∀ n, n ≤ 8 → (0 : Int32) = setQ 8 n (fun _ => false) := by decide +kernel
end BH
/-- the reference's scratch of a ball alone is written -/
def OfM (S S' : GS) : Prop := S'.2 = S.2 ∧ (∀ o, o ≠ 313 → o < 327 ∨ 332 < o → S'.1 o = S.1 o) ∧ ∀ i, i < 29 ∨ 38 < i → S'.1 313 i = S.1 313 i
section BI
variable {S S' : GS} {c nl nro : Nat} {D : DSt} {B : BSt}
theorem OfM.rf (S : GS) : OfM S S := ⟨rfl, fun _ _ _ => rfl, fun _ _ => rfl⟩
theorem OfM.tr {S S1 S2 : GS} (h : OfM S S1) (h2 : OfM S1 S2) : OfM S S2 := ⟨h2.1.trans h.1, fun o q r => (h2.2.1 o q r).trans (h.2.1 o q r), fun i q => (h2.2.2 i q).trans (h.2.2 i q)⟩
theorem om_p {i : Nat} {v : Int32} (h1 : 29 ≤ i) (h2 : i ≤ 38) : OfM S (sI S 313 i v) := ⟨rfl, fun o q _ => sI_o q, fun j hj => by rw [sI_at, if_neg (by omega)]⟩
theorem om_a {a i : Nat} {v : Int32} (h1 : 327 ≤ a) (h2 : a ≤ 332) : OfM S (sI S a i v) := ⟨rfl, fun o _ q => sI_o (by omega), fun j _ => by rw [sI_o (by omega)]⟩
theorem OfM.wr (h : OfM S S') (hW : Wr S) : Wr S' := by
  unfold Wr at hW ⊢
  rw [h.1]
  exact hW
theorem OfM.sm (h : OfM S S') : Sm S S' := ⟨by rw [h.1], fun o i _ => by rw [h.1], fun o q => h.2.1 o (fun e => by rw [e] at q; exact absurd q (by decide)) (by
  refine Classical.byContradiction fun z => ?_
  unfold Pm at q
  simp only [Bool.or_eq_true, Bool.and_eq_true, Nat.blt_eq, Nat.ble_eq, Nat.beq_eq] at q
  omega)⟩
/-- the court the reference has in hand, and what it holds -/
def HxM (S : GS) (c nl nro : Nat) (D : DSt) : Prop := Mc S c ∧ S.1 319 (69 * c) = nI nro ∧ S.1 319 (69 * c + 1) = nI nl ∧ (∀ r, r < nro → S.1 319 (69 * c + (9 + 2 * r + 1)) = D.1 r ∧ S.1 319 (69 * c + (9 + 2 * r)) = D.2.1 r) ∧ (∀ l, l < nl → S.1 319 (69 * c + (29 + 5 * l + 3)) = D.2.2.1 l ∧ S.1 319 (69 * c + (29 + 5 * l + 2)) = D.2.2.2.1 l ∧ S.1 319 (69 * c + (29 + 5 * l + 4)) = D.2.2.2.2.1 l) ∧ S.1 319 (69 * c + 4) = nI D.2.2.2.2.2 ∧ nl ≤ 8 ∧ nro ≤ 4
theorem OfM.hx (hO : OfM S S') (h : HxM S c nl nro D) : HxM S' c nl nro D := by
  obtain ⟨⟨m1, m2, m3, m4, m5⟩, h2⟩ := h
  have e : S'.1 319 = S.1 319 := hO.2.1 319 (by decide) (by decide)
  unfold HxM Mc
  rw [e, hO.2.2 25 (by decide), hO.2.2 26 (by decide), hO.2.2 27 (by decide)]
  exact ⟨⟨hO.wr m1, m2, m3, m4, m5⟩, h2⟩
theorem HxM.i26 (h : HxM S c nl nro D) {g : Int32 → Option Int32} : S.1 313 26 = nI nro := h.1.2.2.2.1.trans h.2.1
theorem HxM.n26 (h : HxM S c nl nro D) : S.1 313 26 = nI nro := h.1.2.2.2.1.trans h.2.1
theorem HxM.n27 (h : HxM S c nl nro D) : S.1 313 27 = nI nl := h.1.2.2.2.2.trans h.2.2.1
theorem HxM.room (h : HxM S c nl nro D) (x : Int32) : f_X12_isRoom 313 x S = some (bi (inQ x nro)) := by
  have n4 := h.2.2.2.2.2.2.2
  unfold inQ
  by_cases q : x < 0
  · rw [decide_eq_false (fun z => z.1 q)]
    unfold f_X12_isRoom
    rw [i_313 h.1.1, m_inN q, b1_s]
    rfl
  · obtain ⟨k, hk, rfl⟩ := nI_of q
    rw [isRoom h.1 n4 h.2.1 hk, nI_clamp hk]
    exact congrArg (fun b => some (bi b)) (decide_eq_decide.mpr ⟨fun z => ⟨q, z⟩, fun z => z.2⟩)
theorem HxM.lady (h : HxM S c nl nro D) (x : Int32) : f_X12_isLady 313 x S = some (bi (inQ x nl)) := by
  have n8 := h.2.2.2.2.2.2.1
  unfold inQ
  by_cases q : x < 0
  · rw [decide_eq_false (fun z => z.1 q), isLadyN h.1 q]
    rfl
  · obtain ⟨k, hk, rfl⟩ := nI_of q
    rw [isLady h.1 n8 h.2.2.1 hk, nI_clamp hk]
    exact congrArg (fun b => some (bi b)) (decide_eq_decide.mpr ⟨fun z => ⟨q, z⟩, fun z => z.2⟩)
def FiM (S : GS) (B : BSt) : Prop := S.1 313 29 = B.1.1 ∧ S.1 313 30 = B.1.2.1 ∧ S.1 313 34 = B.1.2.2.1 ∧ S.1 313 35 = B.1.2.2.2.1 ∧ S.1 313 36 = B.1.2.2.2.2.1 ∧ S.1 313 37 = B.1.2.2.2.2.2
def SeM (S : GS) (nl : Nat) (A : Nat → BLs) : Prop := Bs (S.1 313 31) nl (fun l => upL (A l)) ∧ Bs (S.1 313 32) nl (fun l => dnL (A l)) ∧ Bs (S.1 313 33) nl (fun l => buL (A l))
def OpM (S : GS) (nro : Nat) (R : Nat → Int32 × Bool) : Prop := Bs (S.1 313 38) nro (fun r => !(R r).2)
def RoM (S : GS) (r : Nat) (R : Int32 × Bool) : Prop := R.2 = true → S.1 327 r = R.1
def LaM (S : GS) (l : Nat) (L : BLs) : Prop := S.1 328 l = nI L.1 ∧ S.1 329 l = L.2.1 ∧ (L.2.2.1 ≠ 0 → S.1 330 l = nI L.2.2.1) ∧ S.1 331 l = L.2.2.2.2.1 ∧ S.1 332 l = L.2.2.2.2.2
def HM (S : GS) (nl nro : Nat) (B : BSt) : Prop := FiM S B ∧ SeM S nl B.2.2 ∧ OpM S nro B.2.1 ∧ (∀ r, r < nro → RoM S r (B.2.1 r)) ∧ ∀ l, l < nl → LaM S l (B.2.2 l)
theorem LaM.o {a i l : Nat} {v : Int32} {L : BLs} (h : LaM S l L) (ha : a < 328 ∨ 332 < a ∨ l ≠ i) : LaM (sI S a i v) l L := by
  have e : ∀ k, 328 ≤ k → k ≤ 332 → (sI S a i v).1 k l = S.1 k l := fun k h1 h2 => by
    by_cases q : k = a
    · subst q
      rw [sI_at, if_neg (by omega)]
    · rw [sI_o q]
  unfold LaM
  rw [e 328 (by decide) (by decide), e 329 (by decide) (by decide), e 330 (by decide) (by decide), e 331 (by decide) (by decide), e 332 (by decide) (by decide)]
  exact h
theorem RoM.o {a i r : Nat} {v : Int32} {R : Int32 × Bool} (h : RoM S r R) (ha : a ≠ 327 ∨ r ≠ i) : RoM (sI S a i v) r R := by
  unfold RoM
  by_cases q : 327 = a
  · subst q
    rw [sI_at, if_neg (by omega)]
    exact h
  · rw [sI_o q]
    exact h
theorem FiM.o {a i : Nat} {v : Int32} (h : FiM S B) (ha : a ≠ 313) : FiM (sI S a i v) B := by
  unfold FiM
  rw [sI_o (Ne.symm ha)]
  exact h
theorem SeM.o {a i : Nat} {v : Int32} {A : Nat → BLs} (h : SeM S nl A) (ha : a ≠ 313 ∨ i < 31 ∨ 33 < i) : SeM (sI S a i v) nl A := by
  have e : ∀ k, 31 ≤ k → k ≤ 33 → (sI S a i v).1 313 k = S.1 313 k := fun k h1 h2 => by
    by_cases q : 313 = a
    · subst q
      rw [sI_at, if_neg (by omega)]
    · rw [sI_o q]
  unfold SeM
  rw [e 31 (by decide) (by decide), e 32 (by decide) (by decide), e 33 (by decide) (by decide)]
  exact h
theorem OpM.o {a i : Nat} {v : Int32} {R : Nat → Int32 × Bool} (h : OpM S nro R) (ha : a ≠ 313 ∨ i ≠ 38) : OpM (sI S a i v) nro R := by
  unfold OpM
  by_cases q : 313 = a
  · subst q
    rw [sI_at, if_neg (by omega)]
    exact h
  · rw [sI_o q]
    exact h
theorem airM (h : HxM S c nl nro D) (hf : S.1 313 29 = B.1.1) (ho : OpM S nro B.2.1) {r : Nat} (hr : r < nro) (hR : RoM S r (B.2.1 r)) : f_X12_pressureOf 313 (nI r) S = some (prB D B.1.1 B.2.1 r) := by
  have n4 := h.2.2.2.2.2.2.2
  unfold f_X12_pressureOf f_X12_airOf prB
  rw [k_313 h.1.1, i_313 h.1.1, ho.has hr (by omega), b1_s]
  cases q : (B.2.1 r).2
  · rw [if_neg (show ¬ bi (!false) = 0 by decide), i_313 h.1.1, hf, b1_s, k_313 h.1.1, h.1.height (by omega), b1_s, (h.2.2.2.1 r hr).1, if_neg Bool.false_ne_true]
  · rw [if_pos (show bi (!true) = 0 from rfl), r_313_39 h.1.1, y_327 h.1.1 (by omega), hR q, b1_s, k_313 h.1.1, h.1.height (by omega), b1_s, (h.2.2.2.1 r hr).1, if_pos rfl]
end BI
