/-! what the constructors make: all that is told, the reader, the hall, the others -/
section MC
variable {I : List (Nat × Nat × Int32)} {J : List (Nat × Nat × Int64)} {R : List (Nat × Nat × Option Nat)} {n o t k : Nat}
def rA (t : Nat) (R : List (Nat × Nat × Option Nat)) : List (Nat × Nat × Option Nat) := (t, 7, some (t + 8)) :: (t, 6, some (t + 7)) :: (t, 5, some (t + 6)) :: (t, 4, some (t + 5)) :: (t, 3, some (t + 4)) :: (t, 2, some (t + 3)) :: (t, 1, some (t + 2)) :: (t, 0, some (t + 1)) :: R
theorem PT_A : PT t (rA t R) := by
  unfold PT rA
  simp [lkR]
def i9 (t : Nat) (I : List (Nat × Nat × Int32)) : List (Nat × Nat × Int32) := iK (t + 30) (iK (t + 9) ((t, 10, -1) :: I))
def r9 (t : Nat) (R : List (Nat × Nat × Option Nat)) : List (Nat × Nat × Option Nat) := rK t 1 (t + 30) (rK t 0 (t + 9) (rA t R))
def q9 (t : Nat) : Prop := qT t ∧ kd (t + 1) = 13 ∧ ln (t + 1) = 600 ∧ kd (t + 2) = 14 ∧ ln (t + 2) = 6 ∧ qK (t + 9) ∧ qK (t + 30)
theorem mk9 (h : Bd I J R (t + 1)) (ht : t + 51 < 343) (q : q9 t) : f_X9_init t (dec I J R (t + 1)) = some (dec (i9 t I) J (r9 t R) (t + 51)) ∧ Bd (i9 t I) J (r9 t R) (t + 51) := by
  obtain ⟨qt, y1, y2, y3, y4, qa, qb⟩ := q
  obtain ⟨k9, x3, x4, x5, x6, x7, x8, l3, l4, l5, l6, l7, l8⟩ := id qt
  have a1 : Bd I J ((t, 0, some (t + 1)) :: R) (t + 2) := h.s.r (by omega)
  have a2 : Bd I J ((t, 1, some (t + 2)) :: (t, 0, some (t + 1)) :: R) (t + 3) := a1.s.r (by omega)
  have a3 : Bd I J ((t, 2, some (t + 3)) :: (t, 1, some (t + 2)) :: (t, 0, some (t + 1)) :: R) (t + 4) := a2.s.r (by omega)
  have a4 : Bd I J ((t, 3, some (t + 4)) :: (t, 2, some (t + 3)) :: (t, 1, some (t + 2)) :: (t, 0, some (t + 1)) :: R) (t + 5) := a3.s.r (by omega)
  have a5 : Bd I J ((t, 4, some (t + 5)) :: (t, 3, some (t + 4)) :: (t, 2, some (t + 3)) :: (t, 1, some (t + 2)) :: (t, 0, some (t + 1)) :: R) (t + 6) := a4.s.r (by omega)
  have a6 : Bd I J ((t, 5, some (t + 6)) :: (t, 4, some (t + 5)) :: (t, 3, some (t + 4)) :: (t, 2, some (t + 3)) :: (t, 1, some (t + 2)) :: (t, 0, some (t + 1)) :: R) (t + 7) := a5.s.r (by omega)
  have a7 : Bd I J ((t, 6, some (t + 7)) :: (t, 5, some (t + 6)) :: (t, 4, some (t + 5)) :: (t, 3, some (t + 4)) :: (t, 2, some (t + 3)) :: (t, 1, some (t + 2)) :: (t, 0, some (t + 1)) :: R) (t + 8) := a6.s.r (by omega)
  have a8 : Bd I J (rA t R) (t + 9) := a7.s.r (by omega)
  have a9 : Bd ((t, 10, -1) :: I) J (rA t R) (t + 9) := a8.i (by omega)
  obtain ⟨g1, h1, p1⟩ := mkR (k := 0) (m := t + 9) (G := fun S55 => roundF t 1 S55 fun S85 => some S85) a9 PT_A (by omega) (by omega) (by decide) qt qa
  obtain ⟨g2, h2, p2⟩ := mkR (k := 1) (m := t + 30) (G := fun S85 => some S85) h1 p1 (by omega) (by omega) (by decide) qt qb
  refine ⟨?_, h2⟩
  rw [X9_r, show na 13 600 _ _ = _ from na_d (N := 600) h (by omega) y1 y2 (by decide), pR_d (by omega) k9, show na 14 6 _ _ = _ from na_d (N := 6) (n := t + 2) a1 (by omega) y3 y4 (by decide), pR_d (by omega) k9, show na 17 2 _ _ = _ from na_d (N := 2) (n := t + 3) a2 (by omega) x3 l3 (by decide), pR_d (by omega) k9, show na 19 2 _ _ = _ from na_d (N := 2) (n := t + 4) a3 (by omega) x4 l4 (by decide), pR_d (by omega) k9]
  rw [show na 18 2 _ _ = _ from na_d (N := 2) (n := t + 5) a4 (by omega) x5 l5 (by decide), pR_d (by omega) k9, show na 18 2 _ _ = _ from na_d (N := 2) (n := t + 6) a5 (by omega) x6 l6 (by decide), pR_d (by omega) k9, show na 18 2 _ _ = _ from na_d (N := 2) (n := t + 7) a6 (by omega) x7 l7 (by decide), pR_d (by omega) k9, show na 18 2 _ _ = _ from na_d (N := 2) (n := t + 8) a7 (by omega) x8 l8 (by decide), pR_d (by omega) k9, pI_d (by omega) k9]
  refine Eq.trans g1 ?_
  exact g2
theorem q9_0 : q9 1 ∧ q9 53 ∧ q9 104 ∧ q9 155 := by
  unfold q9 qT qK q0 q8 q7
  repeat' apply And.intro
  all_goals rfl
/-- the reader -/
def i5 (o : Nat) (I : List (Nat × Nat × Int32)) : List (Nat × Nat × Int32) := i7 (o + 21) 10 2 (i7 (o + 19) 30 3 (i7 (o + 17) 16 1 (i7 (o + 15) 40 3 (i8 (o + 10) (i0 (o + 2) I)))))
def r5 (o : Nat) (R : List (Nat × Nat × Option Nat)) : List (Nat × Nat × Option Nat) := (o, 6, some (o + 21)) :: r7 (o + 21) ((o, 5, some (o + 19)) :: r7 (o + 19) ((o, 4, some (o + 17)) :: r7 (o + 17) ((o, 3, some (o + 15)) :: r7 (o + 15) ((o, 2, some (o + 10)) :: r8 (o + 10) ((o, 1, some (o + 2)) :: r0L (o + 2) ((o, 0, some (o + 1)) :: R))))))
def q5 (o : Nat) : Prop := kd o = 5 ∧ kd (o + 1) = 13 ∧ ln (o + 1) = 600 ∧ qK (o + 2)
theorem mk5 (h : Bd I J R (o + 1)) (ho : o + 23 < 343) (q : q5 o) : f_X5_init o (dec I J R (o + 1)) = some (dec (i5 o I) J (r5 o R) (o + 23)) ∧ Bd (i5 o I) J (r5 o R) (o + 23) := by
  obtain ⟨k5, y1, y2, c0, c1', c2', c3, c4, c5⟩ := q
  have h0 : Bd I J ((o, 0, some (o + 1)) :: R) (o + 2) := h.s.r (by omega)
  obtain ⟨g1, h1⟩ := mk0 (o := o + 2) h0.s (by omega) c0
  have h1' : Bd (i0 (o + 2) I) J ((o, 1, some (o + 2)) :: r0L (o + 2) ((o, 0, some (o + 1)) :: R)) (o + 10) := h1.r (by omega)
  generalize hR1 : (o, 1, some (o + 2)) :: r0L (o + 2) ((o, 0, some (o + 1)) :: R) = R1 at h1'
  generalize hI1 : i0 (o + 2) I = I1 at g1 h1'
  obtain ⟨g2, h2⟩ := mk8 (o := o + 10) h1'.s (by omega) c1'
  have h2' : Bd (i8 (o + 10) I1) J ((o, 2, some (o + 10)) :: r8 (o + 10) R1) (o + 15) := h2.r (by omega)
  generalize hR2 : (o, 2, some (o + 10)) :: r8 (o + 10) R1 = R2 at h2'
  generalize hI2 : i8 (o + 10) I1 = I2 at g2 h2'
  obtain ⟨g3, h3⟩ := mk7 (o := o + 15) (m := 40) (w := 3) h2'.s (by omega) c2'.1 c2'.2.1 c2'.2.2 (by decide)
  have h3' : Bd (i7 (o + 15) 40 3 I2) J ((o, 3, some (o + 15)) :: r7 (o + 15) R2) (o + 17) := h3.r (by omega)
  generalize hR3 : (o, 3, some (o + 15)) :: r7 (o + 15) R2 = R3 at h3'
  generalize hI3 : i7 (o + 15) 40 3 I2 = I3 at g3 h3'
  obtain ⟨g4, h4⟩ := mk7 (o := o + 17) (m := 16) (w := 1) h3'.s (by omega) c3.1 c3.2.1 c3.2.2 (by decide)
  have h4' : Bd (i7 (o + 17) 16 1 I3) J ((o, 4, some (o + 17)) :: r7 (o + 17) R3) (o + 19) := h4.r (by omega)
  generalize hR4 : (o, 4, some (o + 17)) :: r7 (o + 17) R3 = R4 at h4'
  generalize hI4 : i7 (o + 17) 16 1 I3 = I4 at g4 h4'
  obtain ⟨g5, h5⟩ := mk7 (o := o + 19) (m := 30) (w := 3) h4'.s (by omega) c4.1 c4.2.1 c4.2.2 (by decide)
  have h5' : Bd (i7 (o + 19) 30 3 I4) J ((o, 5, some (o + 19)) :: r7 (o + 19) R4) (o + 21) := h5.r (by omega)
  generalize hR5 : (o, 5, some (o + 19)) :: r7 (o + 19) R4 = R5 at h5'
  generalize hI5 : i7 (o + 19) 30 3 I4 = I5 at g5 h5'
  obtain ⟨g6, h6⟩ := mk7 (o := o + 21) (m := 10) (w := 2) h5'.s (by omega) c5.1 c5.2.1 c5.2.2 (by decide)
  have h6' : Bd (i7 (o + 21) 10 2 I5) J ((o, 6, some (o + 21)) :: r7 (o + 21) R5) (o + 23) := h6.r (by omega)
  have eR : r5 o R = (o, 6, some (o + 21)) :: r7 (o + 21) R5 := by
    unfold r5
    rw [hR1, hR2, hR3, hR4, hR5]
  have eI : i5 o I = i7 (o + 21) 10 2 I5 := by
    unfold i5
    rw [hI1, hI2, hI3, hI4, hI5]
  rw [eR, eI]
  refine ⟨?_, h6'⟩
  unfold f_X5_init
  rw [show na 13 600 _ _ = _ from na_d (N := 600) h (by omega) y1 y2 (by decide), pR_d (by omega) k5]
  rw [nw_d (n := o + 2) h0 (by omega) c0.1, c1_d (by omega) c0.1, show f_X0_init (o + 2) _ = _ from g1, b1_s, pR_d (by omega) k5, hR1]
  rw [nw_d h1' (by omega) c1'.1, c1_d (by omega) c1'.1, show f_X8_init (o + 10) _ = _ from g2, b1_s, pR_d (by omega) k5, hR2]
  rw [nw_d h2' (by omega) c2'.1, c1_d (by omega) c2'.1, show f_X7_init (o + 15) 40 3 _ = _ from g3, b1_s, pR_d (by omega) k5, hR3]
  rw [nw_d h3' (by omega) c3.1, c1_d (by omega) c3.1, show f_X7_init (o + 17) 16 1 _ = _ from g4, b1_s, pR_d (by omega) k5, hR4]
  rw [nw_d h4' (by omega) c4.1, c1_d (by omega) c4.1, show f_X7_init (o + 19) 30 3 _ = _ from g5, b1_s, pR_d (by omega) k5, hR5]
  rw [nw_d h5' (by omega) c5.1, c1_d (by omega) c5.1, show f_X7_init (o + 21) 10 2 _ = _ from g6, b1_s, pR_d (by omega) k5]
theorem q5_0 : q5 207 := by
  unfold q5 qK q0 q8 q7
  repeat' apply And.intro
  all_goals rfl
end MC
