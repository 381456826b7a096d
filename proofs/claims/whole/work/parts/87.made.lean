/-! what the constructors make: a copy of all that is told -/
def roundF {α : Type} (o : Nat) (x : Int32) (S25 : GS) (G : GS → Option α) : Option α := (xR (some o) 9 2 S25 fun v26 => (nw 0 S25 fun v27 S28 => (c1 v27 0 S28 (fun o' => f_X0_init o' S28) fun S29 => (qR v26 17 x v27 0 S29 fun S30 => (xR (some o) 9 3 S30 fun v31 => (nw 8 S30 fun v32 S33 => (c1 v32 8 S33 (fun o' => f_X8_init o' S33) fun S34 => (qR v31 19 x v32 8 S34 fun S35 => (xR (some o) 9 4 S35 fun v36 => (nw 7 S35 fun v37 S38 => (c1 v37 7 S38 (fun o' => f_X7_init o' 40 3 S38) fun S39 => (qR v36 18 x v37 7 S39 fun S40 => (xR (some o) 9 5 S40 fun v41 => (nw 7 S40 fun v42 S43 => (c1 v42 7 S43 (fun o' => f_X7_init o' 16 1 S43) fun S44 => (qR v41 18 x v42 7 S44 fun S45 => (xR (some o) 9 6 S45 fun v46 => (nw 7 S45 fun v47 S48 => (c1 v47 7 S48 (fun o' => f_X7_init o' 30 3 S48) fun S49 => (qR v46 18 x v47 7 S49 fun S50 => (xR (some o) 9 7 S50 fun v51 => (nw 7 S50 fun v52 S53 => (c1 v52 7 S53 (fun o' => f_X7_init o' 10 2 S53) fun S54 => (qR v51 18 x v52 7 S54 fun S55 => G S55))))))))))))))))))))))))
section MB
variable {α : Type} {I : List (Nat × Nat × Int32)} {J : List (Nat × Nat × Int64)} {R : List (Nat × Nat × Option Nat)} {n o t k : Nat}
theorem X9_r (S : GS) : f_X9_init o S = (na 13 600 S fun v1 S2 => (pR (some o) 9 0 v1 S2 fun S3 => (na 14 6 S3 fun v4 S5 => (pR (some o) 9 1 v4 S5 fun S6 => (na 17 2 S6 fun v7 S8 => (pR (some o) 9 2 v7 S8 fun S9 => (na 19 2 S9 fun v10 S11 => (pR (some o) 9 3 v10 S11 fun S12 => (na 18 2 S12 fun v13 S14 => (pR (some o) 9 4 v13 S14 fun S15 => (na 18 2 S15 fun v16 S17 => (pR (some o) 9 5 v16 S17 fun S18 => (na 18 2 S18 fun v19 S20 => (pR (some o) 9 6 v19 S20 fun S21 => (na 18 2 S21 fun v22 S23 => (pR (some o) 9 7 v22 S23 fun S24 => (pI (some o) 9 10 (-1) S24 fun S25 => roundF o 0 S25 fun S55 => roundF o 1 S55 fun S85 => some S85))))))))))))))))) := rfl
theorem lkR_c {a b i : Nat} {v : Option Nat} (h : o ≠ a) : lkR ((a, b, v) :: R) o i = lkR R o i := if_neg (fun z => h z.1)
def PT (t : Nat) (R : List (Nat × Nat × Option Nat)) : Prop := lkR R t 2 = some (t + 3) ∧ lkR R t 3 = some (t + 4) ∧ lkR R t 4 = some (t + 5) ∧ lkR R t 5 = some (t + 6) ∧ lkR R t 6 = some (t + 7) ∧ lkR R t 7 = some (t + 8)
theorem PT.cn {a b : Nat} {v : Option Nat} (h : PT t R) (ha : t < a) : PT t ((a, b, v) :: R) := by
  have e : ∀ i, lkR ((a, b, v) :: R) t i = lkR R t i := fun i => lkR_c (by omega)
  unfold PT
  rw [e, e, e, e, e, e]
  exact h
def qT (t : Nat) : Prop := kd t = 9 ∧ kd (t + 3) = 17 ∧ kd (t + 4) = 19 ∧ kd (t + 5) = 18 ∧ kd (t + 6) = 18 ∧ kd (t + 7) = 18 ∧ kd (t + 8) = 18 ∧ ln (t + 3) = 2 ∧ ln (t + 4) = 2 ∧ ln (t + 5) = 2 ∧ ln (t + 6) = 2 ∧ ln (t + 7) = 2 ∧ ln (t + 8) = 2
def qK (m : Nat) : Prop := q0 m ∧ q8 (m + 8) ∧ q7 (m + 13) 120 ∧ q7 (m + 15) 16 ∧ q7 (m + 17) 90 ∧ q7 (m + 19) 20
def iK (m : Nat) (I : List (Nat × Nat × Int32)) : List (Nat × Nat × Int32) := i7 (m + 19) 10 2 (i7 (m + 17) 30 3 (i7 (m + 15) 16 1 (i7 (m + 13) 40 3 (i8 (m + 8) (i0 m I)))))
def rK (t k m : Nat) (R : List (Nat × Nat × Option Nat)) : List (Nat × Nat × Option Nat) := (t + 8, k, some (m + 19)) :: r7 (m + 19) ((t + 7, k, some (m + 17)) :: r7 (m + 17) ((t + 6, k, some (m + 15)) :: r7 (m + 15) ((t + 5, k, some (m + 13)) :: r7 (m + 13) ((t + 4, k, some (m + 8)) :: r8 (m + 8) ((t + 3, k, some m) :: r0L m R)))))
theorem mkR {m : Nat} {G : GS → Option α} (h : Bd I J R m) (hP : PT t R) (hm : m + 21 < 343) (ht : t + 8 < m) (hk : k < 2) (q : qT t) (qk : qK m) : roundF t (nI k) (dec I J R m) G = G (dec (iK m I) J (rK t k m R) (m + 21)) ∧ Bd (iK m I) J (rK t k m R) (m + 21) ∧ PT t (rK t k m R) := by
  obtain ⟨k9, x3, x4, x5, x6, x7, x8, l3, l4, l5, l6, l7, l8⟩ := q
  obtain ⟨c0, c1', c2', c3, c4, c5⟩ := qk
  obtain ⟨g1, h1⟩ := mk0 (o := m) h.s (by omega) c0
  have P1 : PT t ((t + 3, k, some m) :: r0L m R) := ((((((((hP.cn (by omega)).cn (by omega)).cn (by omega)).cn (by omega)).cn (by omega)).cn (by omega)).cn (by omega)).cn (by omega))
  have h1' : Bd (i0 m I) J ((t + 3, k, some m) :: r0L m R) (m + 8) := h1.r (by omega)
  generalize hR1 : (t + 3, k, some m) :: r0L m R = R1 at P1 h1'
  generalize hI1 : i0 m I = I1 at g1 h1'
  obtain ⟨g2, h2⟩ := mk8 (o := m + 8) h1'.s (by omega) c1'
  have P2 : PT t ((t + 4, k, some (m + 8)) :: r8 (m + 8) R1) := ((((P1.cn (by omega)).cn (by omega)).cn (by omega)).cn (by omega)).cn (by omega)
  have h2' : Bd (i8 (m + 8) I1) J ((t + 4, k, some (m + 8)) :: r8 (m + 8) R1) (m + 13) := h2.r (by omega)
  generalize hR2 : (t + 4, k, some (m + 8)) :: r8 (m + 8) R1 = R2 at P2 h2'
  generalize hI2 : i8 (m + 8) I1 = I2 at g2 h2'
  obtain ⟨g3, h3⟩ := mk7 (o := m + 13) (m := 40) (w := 3) h2'.s (by omega) c2'.1 c2'.2.1 c2'.2.2 (by decide)
  have P3 : PT t ((t + 5, k, some (m + 13)) :: r7 (m + 13) R2) := (P2.cn (by omega)).cn (by omega)
  have h3' : Bd (i7 (m + 13) 40 3 I2) J ((t + 5, k, some (m + 13)) :: r7 (m + 13) R2) (m + 15) := h3.r (by omega)
  generalize hR3 : (t + 5, k, some (m + 13)) :: r7 (m + 13) R2 = R3 at P3 h3'
  generalize hI3 : i7 (m + 13) 40 3 I2 = I3 at g3 h3'
  obtain ⟨g4, h4⟩ := mk7 (o := m + 15) (m := 16) (w := 1) h3'.s (by omega) c3.1 c3.2.1 c3.2.2 (by decide)
  have P4 : PT t ((t + 6, k, some (m + 15)) :: r7 (m + 15) R3) := (P3.cn (by omega)).cn (by omega)
  have h4' : Bd (i7 (m + 15) 16 1 I3) J ((t + 6, k, some (m + 15)) :: r7 (m + 15) R3) (m + 17) := h4.r (by omega)
  generalize hR4 : (t + 6, k, some (m + 15)) :: r7 (m + 15) R3 = R4 at P4 h4'
  generalize hI4 : i7 (m + 15) 16 1 I3 = I4 at g4 h4'
  obtain ⟨g5, h5⟩ := mk7 (o := m + 17) (m := 30) (w := 3) h4'.s (by omega) c4.1 c4.2.1 c4.2.2 (by decide)
  have P5 : PT t ((t + 7, k, some (m + 17)) :: r7 (m + 17) R4) := (P4.cn (by omega)).cn (by omega)
  have h5' : Bd (i7 (m + 17) 30 3 I4) J ((t + 7, k, some (m + 17)) :: r7 (m + 17) R4) (m + 19) := h5.r (by omega)
  generalize hR5 : (t + 7, k, some (m + 17)) :: r7 (m + 17) R4 = R5 at P5 h5'
  generalize hI5 : i7 (m + 17) 30 3 I4 = I5 at g5 h5'
  obtain ⟨g6, h6⟩ := mk7 (o := m + 19) (m := 10) (w := 2) h5'.s (by omega) c5.1 c5.2.1 c5.2.2 (by decide)
  have P6 : PT t ((t + 8, k, some (m + 19)) :: r7 (m + 19) R5) := (P5.cn (by omega)).cn (by omega)
  have h6' : Bd (i7 (m + 19) 10 2 I5) J ((t + 8, k, some (m + 19)) :: r7 (m + 19) R5) (m + 21) := h6.r (by omega)
  have eR : rK t k m R = (t + 8, k, some (m + 19)) :: r7 (m + 19) R5 := by
    unfold rK
    rw [hR1, hR2, hR3, hR4, hR5]
  have eI : iK m I = i7 (m + 19) 10 2 I5 := by
    unfold iK
    rw [hI1, hI2, hI3, hI4, hI5]
  rw [eR, eI]
  refine ⟨?_, h6', P6⟩
  unfold roundF
  rw [xR_d (by omega) k9 hP.1, nw_d h (by omega) c0.1, c1_d (by omega) c0.1, show f_X0_init m _ = _ from g1, b1_s, qR_d (by omega) x3 (by rw [l3]; exact hk) (by omega) (by omega) c0.1, hR1]
  rw [xR_d (by omega) k9 P1.2.1, nw_d h1' (by omega) c1'.1, c1_d (by omega) c1'.1, show f_X8_init (m + 8) _ = _ from g2, b1_s, qR_d (by omega) x4 (by rw [l4]; exact hk) (by omega) (by omega) c1'.1, hR2]
  rw [xR_d (by omega) k9 P2.2.2.1, nw_d h2' (by omega) c2'.1, c1_d (by omega) c2'.1, show f_X7_init (m + 13) 40 3 _ = _ from g3, b1_s, qR_d (by omega) x5 (by rw [l5]; exact hk) (by omega) (by omega) c2'.1, hR3]
  rw [xR_d (by omega) k9 P3.2.2.2.1, nw_d h3' (by omega) c3.1, c1_d (by omega) c3.1, show f_X7_init (m + 15) 16 1 _ = _ from g4, b1_s, qR_d (by omega) x6 (by rw [l6]; exact hk) (by omega) (by omega) c3.1, hR4]
  rw [xR_d (by omega) k9 P4.2.2.2.2.1, nw_d h4' (by omega) c4.1, c1_d (by omega) c4.1, show f_X7_init (m + 17) 30 3 _ = _ from g5, b1_s, qR_d (by omega) x7 (by rw [l7]; exact hk) (by omega) (by omega) c4.1, hR5]
  rw [xR_d (by omega) k9 P5.2.2.2.2.2, nw_d h5' (by omega) c5.1, c1_d (by omega) c5.1, show f_X7_init (m + 19) 10 2 _ = _ from g6, b1_s, qR_d (by omega) x8 (by rw [l8]; exact hk) (by omega) (by omega) c5.1]
end MB
