/-! images: the class's copy as a whole -/
def tSk (t k : Nat) : Prop := gRf (t + 3) k = some (t + (9 + 21 * k)) ∧ gRf (t + 4) k = some (t + (17 + 21 * k)) ∧ gRf (t + 5) k = some (t + (22 + 21 * k)) ∧ gRf (t + 6) k = some (t + (24 + 21 * k)) ∧ gRf (t + 7) k = some (t + (26 + 21 * k)) ∧ gRf (t + 8) k = some (t + (28 + 21 * k)) ∧ cSh t (9 + 21 * k) ∧ gSh t (17 + 21 * k) ∧ rSh t (22 + 21 * k) 120 ∧ rSh t (24 + 21 * k) 16 ∧ rSh t (26 + 21 * k) 90 ∧ rSh t (28 + 21 * k) 20
def tSh (t : Nat) : Prop := kd t = 9 ∧ kd (t + 1) = 13 ∧ kd (t + 2) = 14 ∧ ln (t + 1) = 600 ∧ ln (t + 2) = 6 ∧ gRf t 0 = some (t + 1) ∧ gRf t 1 = some (t + 2) ∧ gRf t 2 = some (t + 3) ∧ gRf t 3 = some (t + 4) ∧ gRf t 4 = some (t + 5) ∧ gRf t 5 = some (t + 6) ∧ gRf t 6 = some (t + 7) ∧ gRf t 7 = some (t + 8) ∧ kd (t + 3) = 17 ∧ kd (t + 4) = 19 ∧ kd (t + 5) = 18 ∧ kd (t + 6) = 18 ∧ kd (t + 7) = 18 ∧ kd (t + 8) = 18 ∧ ln (t + 3) = 2 ∧ ln (t + 4) = 2 ∧ ln (t + 5) = 2 ∧ ln (t + 6) = 2 ∧ ln (t + 7) = 2 ∧ ln (t + 8) = 2 ∧ tSk t 0 ∧ tSk t 1
theorem tSh_0 : tSh 1 := by
  unfold tSh tSk cSh gSh rSh
  repeat' apply And.intro
  all_goals first | rfl | decide
theorem tSh_1 : tSh 53 := by
  unfold tSh tSk cSh gSh rSh
  repeat' apply And.intro
  all_goals first | rfl | decide
theorem tSh_2 : tSh 104 := by
  unfold tSh tSk cSh gSh rSh
  repeat' apply And.intro
  all_goals first | rfl | decide
theorem tSh_3 : tSh 155 := by
  unfold tSh tSk cSh gSh rSh
  repeat' apply And.intro
  all_goals first | rfl | decide
theorem tSh_j {j : Nat} (hj : j < 4) : tSh (tO j) := by
  rcases (show j = 0 ∨ j = 1 ∨ j = 2 ∨ j = 3 by omega) with rfl | rfl | rfl | rfl
  · exact tSh_0
  · exact tSh_1
  · exact tSh_2
  · exact tSh_3
/-- what a round of the copy adds -/
def cpL (k : Nat) (L : List (Nat × Nat × Nat)) : List (Nat × Nat × Nat) := (28 + 21 * k, 3, 1) :: (28 + 21 * k + 1, 0, 20) :: (26 + 21 * k, 3, 1) :: (26 + 21 * k + 1, 0, 90) :: (24 + 21 * k, 3, 1) :: (24 + 21 * k + 1, 0, 16) :: (22 + 21 * k, 3, 1) :: (22 + 21 * k + 1, 0, 120) :: (17 + 21 * k + 3, 3, 1) :: (17 + 21 * k + 3 + 1, 0, 60) :: (17 + 21 * k + 1, 3, 1) :: (17 + 21 * k + 1 + 1, 0, 60) :: (9 + 21 * k, 6, 1) :: (9 + 21 * k, 5, 1) :: (9 + 21 * k, 4, 1) :: (9 + 21 * k + 7, 0, 3) :: (9 + 21 * k + 5, 3, 1) :: (9 + 21 * k + 5 + 1, 0, 12) :: (9 + 21 * k + 3, 3, 1) :: (9 + 21 * k + 3 + 1, 0, 40) :: (9 + 21 * k + 1, 3, 1) :: (9 + 21 * k + 1 + 1, 0, 8) :: L
def cpF : List (Nat × Nat × Nat) := (0, 10, 1) :: (0, 9, 1) :: (0, 8, 1) :: cpL 1 (cpL 0 [(2, 0, 6), (1, 0, 600)])
section CQ
variable {t t' : Nat} {L : List (Nat × Nat × Nat)} {S S' : GS}
theorem cpRound (hW : Wr S) (h : CpR t t' L S S') (hd : Dj t t') {k : Nat} (hk : k < 2) (s1 : tSh t) (s2 : tSh t') (n : Nat) : ∃ S2, f_X9_copyFrom_33 t' (n + 1) (some t) (nI k) S' = f_X9_copyFrom_33 t' n (some t) (nI (k + 1)) S2 ∧ CpR t t' (cpL k L) S S2 := by
  obtain ⟨a0, a1, a2, a3, a4, r0, r1, r2, r3, r4, r5, r6, r7, k3, k4, k5, k6, k7, k8, l3, l4, l5, l6, l7, l8, z0, z1⟩ := s1
  obtain ⟨b0, b1', b2', b3', b4', q0, q1, q2, q3, q4, q5, q6, q7, m3, m4, m5, m6, m7, m8, n3, n4, n5, n6, n7, n8, y0, y1⟩ := s2
  obtain ⟨d1, d2, d3⟩ := id hd
  obtain ⟨e1, e2, e3, e4, e5, e6, e7, e8, e9, e10, e11, e12⟩ := two (P := tSk t) z0 z1 hk
  obtain ⟨f1, f2, f3, f4, f5, f6, f7, f8, f9, f10, f11, f12⟩ := two (P := tSk t') y0 y1 hk
  have hW0 := h.wr hW
  obtain ⟨S1, g1, h1⟩ := cpCourt hW h hd e7 f7
  have hW1 := h1.wr hW
  obtain ⟨S2, g2, h2⟩ := cpSight hW h1 hd e8 f8
  have hW2 := h2.wr hW
  obtain ⟨S3, g3, h3⟩ := cpRow hW h2 hd e9 f9 (by omega)
  have hW3 := h3.wr hW
  obtain ⟨S4, g4, h4⟩ := cpRow hW h3 hd e10 f10 (by omega)
  have hW4 := h4.wr hW
  obtain ⟨S5, g5, h5⟩ := cpRow hW h4 hd e11 f11 (by omega)
  have hW5 := h5.wr hW
  obtain ⟨S6, g6, h6⟩ := cpRow hW h5 hd e12 f12 (by omega)
  refine ⟨S6, ?_, h6⟩
  have yy : ∀ {α : Type} {T : GS} {o c : Nat} {r : Option Nat} {g : Option Nat → Option α}, Wr T → o < 230 → kd o = c → ln o = 2 → gRf o k = r → yR (some o) c (nI k) T g = g r := fun {α T o c r g} w1 w2 w3 w4 w5 => by
    rw [yR_w w1 (by omega) w3 w4 hk (by omega) (by omega), w5]
  rw [f_X9_copyFrom_33, if_neg (show ¬ (2 : Int32) ≤ nI k from nI_ge (b := 2) hk (by decide)), xR_w hW0 (by omega) b0 (by omega) q2, yy hW0 (by omega) m3 n3 f1, xR_w hW0 (by omega) a0 (by omega) r2, yy hW0 (by omega) k3 l3 e1, c1_w hW0 (by omega) f7.2.1, g1, b1_s]
  rw [xR_w hW1 (by omega) b0 (by omega) q3, yy hW1 (by omega) m4 n4 f2, xR_w hW1 (by omega) a0 (by omega) r3, yy hW1 (by omega) k4 l4 e2, c1_w hW1 (by omega) f8.2.1, g2, b1_s]
  rw [xR_w hW2 (by omega) b0 (by omega) q4, yy hW2 (by omega) m5 n5 f3, xR_w hW2 (by omega) a0 (by omega) r4, yy hW2 (by omega) k5 l5 e3, c1_w hW2 (by omega) f9.2.1, g3, b1_s]
  rw [xR_w hW3 (by omega) b0 (by omega) q5, yy hW3 (by omega) m6 n6 f4, xR_w hW3 (by omega) a0 (by omega) r5, yy hW3 (by omega) k6 l6 e4, c1_w hW3 (by omega) f10.2.1, g4, b1_s]
  rw [xR_w hW4 (by omega) b0 (by omega) q6, yy hW4 (by omega) m7 n7 f5, xR_w hW4 (by omega) a0 (by omega) r6, yy hW4 (by omega) k7 l7 e5, c1_w hW4 (by omega) f11.2.1, g5, b1_s]
  rw [xR_w hW5 (by omega) b0 (by omega) q7, yy hW5 (by omega) m8 n8 f6, xR_w hW5 (by omega) a0 (by omega) r7, yy hW5 (by omega) k8 l8 e6, c1_w hW5 (by omega) f12.2.1, g6, b1_s, nI_1]
theorem cpTold (hW : Wr S) (hd : Dj t t') (s1 : tSh t) (s2 : tSh t') : ∃ S2, f_X9_copyFrom t' (some t) S = some S2 ∧ CpR t t' cpF S S2 := by
  obtain ⟨a0, a1, a2, a3, a4, r0, r1, -⟩ := id s1
  obtain ⟨b0, b1', b2', b3', b4', q0, q1, -⟩ := id s2
  obtain ⟨d1, d2, d3⟩ := id hd
  have h0 : CpR t t' [] S S := CpR.rf S
  have h1 := h0.sC hd (x := 1) (n := 600) (by omega)
  have hW1 := h1.wr hW
  have h2 := h1.sC hd (x := 2) (n := 6) (by omega)
  have hW2 := h2.wr hW
  obtain ⟨m, hm⟩ : ∃ m, fu = m + 1 + 1 + 1 := ⟨4093, rfl⟩
  obtain ⟨S3, g3, h3⟩ := cpRound hW h2 hd (k := 0) (by decide) s1 s2 (m + 1 + 1)
  obtain ⟨S4, g4, h4⟩ := cpRound hW h3 hd (k := 1) (by decide) s1 s2 (m + 1)
  have hW4 := h4.wr hW
  have h5 : CpR t t' _ S (sI S4 t' 8 (S4.1 t 8)) := h4.sI hd (x := 0) (i := 8) (by omega)
  generalize hS5 : sI S4 t' 8 (S4.1 t 8) = S5 at h5
  have hW5 := h5.wr hW
  have h6 : CpR t t' _ S (sI S5 t' 9 (S5.1 t 9)) := h5.sI hd (x := 0) (i := 9) (by omega)
  generalize hS6 : sI S5 t' 9 (S5.1 t 9) = S6 at h6
  have hW6 := h6.wr hW
  have h7 : CpR t t' _ S (sI S6 t' 10 (S6.1 t 10)) := h6.sI hd (x := 0) (i := 10) (by omega)
  refine ⟨_, ?_, h7⟩
  unfold f_X9_copyFrom
  rw [xR_w hW (by omega) a0 (by omega) r0, xR_w hW (by omega) b0 (by omega) q0, show acI 13 (some (t + 1)) 0 (some (t' + 1)) 0 600 S _ = _ from acI_v (n := 600) (gk_n hW (by omega) a1) (gk_n hW (by omega) b1') (by omega) (by omega) (by omega) (by omega), xR_w hW1 (by omega) a0 (by omega) r1, xR_w hW1 (by omega) b0 (by omega) q1, show acI 14 (some (t + 2)) 0 (some (t' + 2)) 0 6 _ _ = _ from acI_v (n := 6) (gk_n hW1 (by omega) a2) (gk_n hW1 (by omega) b2') (by omega) (by omega) (by omega) (by omega), hm]
  rw [show f_X9_copyFrom_33 t' (m + 1 + 1 + 1) (some t) 0 _ = _ from g3, show f_X9_copyFrom_33 t' (m + 1 + 1) (some t) (nI (0 + 1)) S3 = _ from g4, f_X9_copyFrom_33, if_pos (show (2 : Int32) ≤ nI (1 + 1) by decide)]
  rw [xI_w hW4 (by omega) a0, pI_w hW4 (by omega) b0, hS5, xI_w hW5 (by omega) a0, pI_w hW5 (by omega) b0, hS6, xI_w hW6 (by omega) a0, pI_w hW6 (by omega) b0]
end CQ
