/-! images: one copy of all that is told over another -/
def inL (L : List (Nat × Nat × Nat)) (x q : Nat) : Bool := L.any (fun e => Nat.beq e.1 x && (Nat.ble e.2.1 q && Nat.blt q (e.2.1 + e.2.2)))
theorem inL_mem {L : List (Nat × Nat × Nat)} {x q lo n : Nat} (h : (x, lo, n) ∈ L) (h1 : lo ≤ q) (h2 : q < lo + n) : inL L x q = true := by
  unfold inL
  rw [List.any_eq_true]
  exact ⟨_, h, by simp [Nat.beq_eq, Nat.ble_eq, Nat.blt_eq, h1, h2]⟩
theorem inL_cons {L : List (Nat × Nat × Nat)} {x q y lo n : Nat} : inL ((y, lo, n) :: L) x q = ((Nat.beq y x && (Nat.ble lo q && Nat.blt q (lo + n))) || inL L x q) := rfl
/-- what was copied, as intervals of slots by place -/
def CpR (t t' : Nat) (L : List (Nat × Nat × Nat)) (S S' : GS) : Prop := S'.2 = S.2 ∧ ∀ o q, S'.1 o q = if t' ≤ o ∧ o < t' + 51 ∧ inL L (o - t') q = true then S.1 (t + (o - t')) q else S.1 o q
def Dj (t t' : Nat) : Prop := (t + 51 ≤ t' ∨ t' + 51 ≤ t) ∧ t + 51 ≤ 230 ∧ t' + 51 ≤ 230
def rSh (t x N : Nat) : Prop := x + 1 < 51 ∧ kd (t + x) = 7 ∧ kd (t + (x + 1)) = 14 ∧ ln (t + (x + 1)) = N ∧ gRf (t + x) 2 = some (t + (x + 1))
def cSh (t c : Nat) : Prop := c + 7 < 51 ∧ kd (t + c) = 0 ∧ gRf (t + c) 0 = some (t + (c + 1)) ∧ gRf (t + c) 1 = some (t + (c + 3)) ∧ gRf (t + c) 2 = some (t + (c + 5)) ∧ gRf (t + c) 3 = some (t + (c + 7)) ∧ kd (t + (c + 7)) = 14 ∧ ln (t + (c + 7)) = 3 ∧ rSh t (c + 1) 8 ∧ rSh t (c + 3) 40 ∧ rSh t (c + 5) 12
def gSh (t c : Nat) : Prop := c + 4 < 51 ∧ kd (t + c) = 8 ∧ gRf (t + c) 0 = some (t + (c + 1)) ∧ gRf (t + c) 1 = some (t + (c + 3)) ∧ rSh t (c + 1) 60 ∧ rSh t (c + 3) 60
section CP
variable {t t' : Nat} {L : List (Nat × Nat × Nat)} {S S' : GS}
theorem CpR.rf (S : GS) : CpR t t' [] S S := ⟨rfl, fun o q => by rw [if_neg (fun z => Bool.false_ne_true z.2.2)]⟩
theorem CpR.wr (h : CpR t t' L S S') (hW : Wr S) : Wr S' := by
  unfold Wr at hW ⊢
  rw [h.1]
  exact hW
theorem CpR.src (h : CpR t t' L S S') (hd : Dj t t') {x q : Nat} (hx : x < 51) : S'.1 (t + x) q = S.1 (t + x) q := by
  have := hd.1
  rw [h.2, if_neg (by omega)]
theorem CpR.sI (h : CpR t t' L S S') (hd : Dj t t') {x i : Nat} (hx : x < 51) : CpR t t' ((x, i, 1) :: L) S (sI S' (t' + x) i (S'.1 (t + x) i)) := by
  refine ⟨h.1, fun o q => ?_⟩
  rw [h.src hd hx, inL_cons]
  show (if o = t' + x ∧ q = i then S.1 (t + x) i else S'.1 o q) = _
  by_cases z : o = t' + x ∧ q = i
  · obtain ⟨z1, z2⟩ := z
    subst z1 z2
    rw [if_pos ⟨rfl, rfl⟩, if_pos ⟨by omega, by omega, by
      rw [show t' + x - t' = x by omega, Bool.or_eq_true, Bool.and_eq_true, Bool.and_eq_true, Nat.beq_eq, Nat.ble_eq, Nat.blt_eq]
      exact Or.inl ⟨rfl, Nat.le_refl _, Nat.lt_succ_self _⟩⟩, show t' + x - t' = x by omega]
  · rw [if_neg z, h.2]
    have e : t' ≤ o ∧ o < t' + 51 → (Nat.beq x (o - t') && (Nat.ble i q && Nat.blt q (i + 1))) = false := fun y => by
      rw [Bool.eq_false_iff]
      intro w
      rw [Bool.and_eq_true, Bool.and_eq_true, Nat.beq_eq, Nat.ble_eq, Nat.blt_eq] at w
      exact z ⟨by omega, by omega⟩
    by_cases y : t' ≤ o ∧ o < t' + 51
    · rw [e y, Bool.false_or]
    · rw [if_neg (fun w => y ⟨w.1, w.2.1⟩), if_neg (fun w => y ⟨w.1, w.2.1⟩)]
theorem CpR.sC (h : CpR t t' L S S') (hd : Dj t t') {x n : Nat} (hx : x < 51) : CpR t t' ((x, 0, n) :: L) S (sCI S' (t + x) (t' + x) 0 0 n) := by
  refine ⟨h.1, fun o q => ?_⟩
  rw [inL_cons]
  show (if o = t' + x then (if 0 ≤ q ∧ q < 0 + n then S'.1 (t + x) (0 + (q - 0)) else S'.1 o q) else S'.1 o q) = _
  by_cases z : o = t' + x ∧ q < n
  · obtain ⟨z1, z2⟩ := z
    subst z1
    rw [if_pos rfl, if_pos ⟨by omega, by omega⟩, show 0 + (q - 0) = q by omega, h.src hd hx, if_pos ⟨by omega, by omega, by
      rw [show t' + x - t' = x by omega, Bool.or_eq_true, Bool.and_eq_true, Bool.and_eq_true, Nat.beq_eq, Nat.ble_eq, Nat.blt_eq]
      exact Or.inl ⟨rfl, by omega, by omega⟩⟩, show t' + x - t' = x by omega]
  · have e0 : (if o = t' + x then (if 0 ≤ q ∧ q < 0 + n then S'.1 (t + x) (0 + (q - 0)) else S'.1 o q) else S'.1 o q) = S'.1 o q := by
      by_cases y : o = t' + x
      · rw [if_pos y, if_neg (fun w => z ⟨y, by omega⟩)]
      · rw [if_neg y]
    rw [e0, h.2]
    have e : t' ≤ o ∧ o < t' + 51 → (Nat.beq x (o - t') && (Nat.ble 0 q && Nat.blt q (0 + n))) = false := fun y => by
      rw [Bool.eq_false_iff]
      intro w
      rw [Bool.and_eq_true, Bool.and_eq_true, Nat.beq_eq, Nat.ble_eq, Nat.blt_eq] at w
      exact z ⟨by omega, by omega⟩
    by_cases y : t' ≤ o ∧ o < t' + 51
    · rw [e y, Bool.false_or]
    · rw [if_neg (fun w => y ⟨w.1, w.2.1⟩), if_neg (fun w => y ⟨w.1, w.2.1⟩)]
theorem acI_v {α : Type} {c a b n : Nat} {g : GS → Option α} (h1 : gk S a = c) (h2 : gk S b = c) (h3 : n ≤ ln a) (h4 : n ≤ ln b) (h5 : a ≠ b) (hn : n < 2 ^ 31) : acI c (some a) 0 (some b) 0 (nI n) S g = g (sCI S a b 0 0 n) := by
  unfold acI
  rw [rn_s h1, rn_s h2, nI_clamp hn, show (0 : Int32).toNatClampNeg = 0 from rfl, if_neg]
  rintro (z | z | z | z | z | z)
  · exact absurd z (by decide)
  · exact absurd z (by decide)
  · exact nI_pos hn z
  · omega
  · omega
  · exact h5 z
theorem cpRow (hW : Wr S) (h : CpR t t' L S S') (hd : Dj t t') {x N : Nat} (s1 : rSh t x N) (s2 : rSh t' x N) (hN : N < 1000) : ∃ S2, f_X7_copyFrom (t' + x) (some (t + x)) S' = some S2 ∧ CpR t t' ((x, 3, 1) :: (x + 1, 0, N) :: L) S S2 := by
  obtain ⟨a0, a1, a2, a3, a4⟩ := s1
  obtain ⟨b0, b1', b2', b3', b4'⟩ := s2
  obtain ⟨d1, d2, d3⟩ := id hd
  have hW' := h.wr hW
  have h1 := h.sC hd (x := x + 1) (n := N) (by omega)
  have hW1 := h1.wr hW
  refine ⟨_, ?_, h1.sI hd (x := x) (i := 3) (by omega)⟩
  unfold f_X7_copyFrom
  have ra : ∀ {α : Type} {g : Option Nat → Option α}, xR (some (t + x)) 7 2 S' g = g (some (t + (x + 1))) := fun {α g} => xR_w hW' (by omega) a1 (by omega) a4
  have rb : ∀ {α : Type} {g : Option Nat → Option α}, xR (some (t' + x)) 7 2 S' g = g (some (t' + (x + 1))) := fun {α g} => xR_w hW' (by omega) b1' (by omega) b4'
  rw [ra, xl_w hW' (by omega) a2 a3, rb, xl_w hW' (by omega) b2' b3', if_pos rfl, ra, rb, rb, xl_w hW' (by omega) b2' b3', acI_v (gk_n hW' (by omega) a2) (gk_n hW' (by omega) b2') (by omega) (by omega) (by omega) (by omega), xI_w hW1 (by omega) a1, pI_w hW1 (by omega) b1']
theorem cpCourt (hW : Wr S) (h : CpR t t' L S S') (hd : Dj t t') {c : Nat} (s1 : cSh t c) (s2 : cSh t' c) : ∃ S2, f_X0_copyFrom (t' + c) (some (t + c)) S' = some S2 ∧ CpR t t' ((c, 6, 1) :: (c, 5, 1) :: (c, 4, 1) :: (c + 7, 0, 3) :: (c + 5, 3, 1) :: (c + 5 + 1, 0, 12) :: (c + 3, 3, 1) :: (c + 3 + 1, 0, 40) :: (c + 1, 3, 1) :: (c + 1 + 1, 0, 8) :: L) S S2 := by
  obtain ⟨a0, a1, a2, a3, a4, a5, a6, a7, a8, a9, a10⟩ := s1
  obtain ⟨b0, b1', b2', b3', b4', b5', b6', b7', b8', b9', b10'⟩ := s2
  obtain ⟨d1, d2, d3⟩ := id hd
  have hW0 := h.wr hW
  obtain ⟨S1, g1, h1⟩ := cpRow hW h hd a8 b8' (by omega)
  have hW1 := h1.wr hW
  obtain ⟨S2, g2, h2⟩ := cpRow hW h1 hd a9 b9' (by omega)
  have hW2 := h2.wr hW
  obtain ⟨S3, g3, h3⟩ := cpRow hW h2 hd a10 b10' (by omega)
  have hW3 := h3.wr hW
  have h4 := h3.sC hd (x := c + 7) (n := 3) (by omega)
  have hW4 := h4.wr hW
  have h5 := h4.sI hd (x := c) (i := 4) (by omega)
  have hW5 := h5.wr hW
  have h6 := h5.sI hd (x := c) (i := 5) (by omega)
  have hW6 := h6.wr hW
  have h7 := h6.sI hd (x := c) (i := 6) (by omega)
  refine ⟨_, ?_, h7⟩
  unfold f_X0_copyFrom
  rw [xR_w hW0 (by omega) b1' (by omega) b2', xR_w hW0 (by omega) a1 (by omega) a2, c1_w hW0 (by omega) b8'.2.1, g1, b1_s, xR_w hW1 (by omega) b1' (by omega) b3', xR_w hW1 (by omega) a1 (by omega) a3, c1_w hW1 (by omega) b9'.2.1, g2, b1_s, xR_w hW2 (by omega) b1' (by omega) b4', xR_w hW2 (by omega) a1 (by omega) a4, c1_w hW2 (by omega) b10'.2.1, g3, b1_s, xR_w hW3 (by omega) a1 (by omega) a5, xR_w hW3 (by omega) b1' (by omega) b5', xR_w hW3 (by omega) b1' (by omega) b5', xl_w hW3 (by omega) b6' b7', acI_v (gk_n hW3 (by omega) a6) (gk_n hW3 (by omega) b6') (by omega) (by omega) (by omega) (by omega), xI_w hW4 (by omega) a1, pI_w hW4 (by omega) b1', xI_w hW5 (by omega) a1, pI_w hW5 (by omega) b1', xI_w hW6 (by omega) a1, pI_w hW6 (by omega) b1']
theorem cpSight (hW : Wr S) (h : CpR t t' L S S') (hd : Dj t t') {c : Nat} (s1 : gSh t c) (s2 : gSh t' c) : ∃ S2, f_X8_copyFrom (t' + c) (some (t + c)) S' = some S2 ∧ CpR t t' ((c + 3, 3, 1) :: (c + 3 + 1, 0, 60) :: (c + 1, 3, 1) :: (c + 1 + 1, 0, 60) :: L) S S2 := by
  obtain ⟨a0, a1, a2, a3, a4, a5⟩ := s1
  obtain ⟨b0, b1', b2', b3', b4', b5'⟩ := s2
  obtain ⟨d1, d2, d3⟩ := id hd
  have hW0 := h.wr hW
  obtain ⟨S1, g1, h1⟩ := cpRow hW h hd a4 b4' (by omega)
  have hW1 := h1.wr hW
  obtain ⟨S2, g2, h2⟩ := cpRow hW h1 hd a5 b5' (by omega)
  refine ⟨S2, ?_, h2⟩
  unfold f_X8_copyFrom
  rw [xR_w hW0 (by omega) b1' (by omega) b2', xR_w hW0 (by omega) a1 (by omega) a2, c1_w hW0 (by omega) b4'.2.1, g1, b1_s, xR_w hW1 (by omega) b1' (by omega) b3', xR_w hW1 (by omega) a1 (by omega) a3, c1_w hW1 (by omega) b5'.2.1, g2, b1_s]
end CP
