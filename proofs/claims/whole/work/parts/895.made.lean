/-! what the constructors make: GlassLaces as a whole -/
section ME
variable {I : List (Nat × Nat × Int32)} {J : List (Nat × Nat × Int64)} {R : List (Nat × Nat × Option Nat)}
def RA : List (Nat × Nat × Option Nat) := (0, 1, some 52) :: (0, 0, some 1) :: r9 1 []
def RB : List (Nat × Nat × Option Nat) := (52, 0, some 53) :: r9 53 RA
def RC : List (Nat × Nat × Option Nat) := (52, 1, some 104) :: r9 104 RB
def RD : List (Nat × Nat × Option Nat) := (52, 2, some 155) :: r9 155 RC
def RE : List (Nat × Nat × Option Nat) := (0, 3, some 207) :: r5 207 ((0, 2, some 206) :: RD)
def RF : List (Nat × Nat × Option Nat) := (0, 4, some 230) :: r2 RE
def RG : List (Nat × Nat × Option Nat) := (0, 5, some 247) :: r3 RF
def RH : List (Nat × Nat × Option Nat) := (0, 6, some 268) :: r4 RG
def RI : List (Nat × Nat × Option Nat) := (0, 7, some 271) :: r10 RH
def RJ : List (Nat × Nat × Option Nat) := (0, 8, some 308) :: r1 RI
def RZ : List (Nat × Nat × Option Nat) := (0, 9, some 311) :: (311, 0, some 312) :: RJ
def IK : List (Nat × Nat × Int32) := i0 239 (i5 207 (i9 155 (i9 104 (i9 53 (i9 1 [])))))
def JK : List (Nat × Nat × Int64) := [(268, 3, 1)]
theorem lk_a : lkR RA 0 1 = some 52 := rfl
theorem lk_9 {t : Nat} (ht : 0 < t) : lkR (r9 t R) 0 1 = lkR R 0 1 := by
  unfold r9 rK rA r0L r8 r7
  simp only [lkR]
  repeat rw [if_neg (by omega)]
theorem lk_b : lkR RB 0 1 = some 52 := (lkR_c (by decide)).trans ((lk_9 (by decide)).trans lk_a)
theorem lk_c : lkR RC 0 1 = some 52 := (lkR_c (by decide)).trans ((lk_9 (by decide)).trans lk_b)
theorem Bd.nil {n : Nat} : Bd [] [] [] n := ⟨fun e he => absurd he (List.not_mem_nil), fun e he => absurd he (List.not_mem_nil), fun e he => absurd he (List.not_mem_nil)⟩
theorem mk11 : f_X11_init 0 (dec [] [] [] 1) = some (dec IK JK RZ 313) ∧ Bd IK JK RZ 313 := by
  obtain ⟨qa, qb, qc, qd⟩ := q9_0
  obtain ⟨g1, h1⟩ := mk9 (t := 1) (I := []) (J := []) (R := []) Bd.nil (by decide) qa
  have a0 : Bd (i9 1 []) [] ((0, 0, some 1) :: r9 1 []) 52 := h1.r (by decide)
  have a1 : Bd (i9 1 []) [] RA 53 := a0.s.r (by decide)
  have eA : (0, 1, some 52) :: (0, 0, some 1) :: r9 1 [] = RA := rfl
  have la := lk_a
  have lb := lk_b
  have lc := lk_c
  have eB : (52, 0, some 53) :: r9 53 RA = RB := rfl
  have eC : (52, 1, some 104) :: r9 104 RB = RC := rfl
  have eD : (52, 2, some 155) :: r9 155 RC = RD := rfl
  have eE : (0, 3, some 207) :: r5 207 ((0, 2, some 206) :: RD) = RE := rfl
  have eF : (0, 4, some 230) :: r2 RE = RF := rfl
  have eG : (0, 5, some 247) :: r3 RF = RG := rfl
  have eH : (0, 6, some 268) :: r4 RG = RH := rfl
  have eI : (0, 7, some 271) :: r10 RH = RI := rfl
  have eJ : (0, 8, some 308) :: r1 RI = RJ := rfl
  have eK : (0, 9, some 311) :: (311, 0, some 312) :: RJ = RZ := rfl
  have eX : i0 239 (i5 207 (i9 155 (i9 104 (i9 53 (i9 1 []))))) = IK := rfl
  generalize RA = rA' at *
  generalize RB = rB' at *
  generalize RC = rC' at *
  generalize RD = rD' at *
  generalize RE = rE' at *
  generalize RF = rF' at *
  generalize RG = rG' at *
  generalize RH = rH' at *
  generalize RI = rI' at *
  generalize RJ = rJ' at *
  generalize RZ = rK' at *
  obtain ⟨g2, h2⟩ := mk9 (t := 53) a1.s (by decide) qb
  have a2 := h2.r (o := 52) (i := 0) (v := some 53) (by decide)
  rw [eB] at a2
  obtain ⟨g3, h3⟩ := mk9 (t := 104) a2.s (by decide) qc
  have a3 := h3.r (o := 52) (i := 1) (v := some 104) (by decide)
  rw [eC] at a3
  obtain ⟨g4, h4⟩ := mk9 (t := 155) a3.s (by decide) qd
  have a4 := h4.r (o := 52) (i := 2) (v := some 155) (by decide)
  rw [eD] at a4
  have a5 := a4.s.r (o := 0) (i := 2) (v := some 206) (by decide)
  obtain ⟨g6, h6⟩ := mk5 (o := 207) a5.s (by decide) q5_0
  have a6 := h6.r (o := 0) (i := 3) (v := some 207) (by decide)
  rw [eE] at a6
  obtain ⟨g7, h7⟩ := mk2 a6.s
  have a7 := h7.r (o := 0) (i := 4) (v := some 230) (by decide)
  rw [eF, eX] at a7
  rw [eX] at g7
  obtain ⟨g8, h8⟩ := mk3 a7.s
  have a8 := h8.r (o := 0) (i := 5) (v := some 247) (by decide)
  rw [eG] at a8
  obtain ⟨g9, h9⟩ := mk4 a8.s
  have a9 := h9.r (o := 0) (i := 6) (v := some 268) (by decide)
  rw [eH] at a9
  obtain ⟨gA, hA⟩ := mk10 a9.s
  have aA := hA.r (o := 0) (i := 7) (v := some 271) (by decide)
  rw [eI] at aA
  obtain ⟨gB, hB⟩ := mk1 aA.s
  have aB := hB.r (o := 0) (i := 8) (v := some 308) (by decide)
  rw [eJ] at aB
  obtain ⟨gC, hC⟩ := mk6 aB.s
  have aC := hC.r (o := 0) (i := 9) (v := some 311) (by decide)
  rw [eK] at aC
  refine ⟨?_, aC⟩
  unfold f_X11_init
  rw [nw_d (n := 1) (c := 9) Bd.nil (by decide) rfl, c1_d (o := 1) (c := 9) (by decide) rfl, show f_X9_init 1 _ = _ from g1, b1_s, pR_d (o := 0) (c := 11) (by decide) rfl, show na 20 3 _ _ = _ from na_d (N := 3) (n := 52) a0 (by decide) rfl rfl (by decide), pR_d (o := 0) (c := 11) (by decide) rfl, eA]
  rw [xR_d (o := 0) (c := 11) (by decide) rfl la, nw_d (n := 53) (c := 9) a1 (by decide) rfl, c1_d (o := 53) (c := 9) (by decide) rfl, show f_X9_init 53 _ = _ from g2, b1_s, show qR (some 52) 20 0 _ 9 _ _ = _ from qR_d (o := 52) (c := 20) (i := 0) (v := 53) (cw := 9) (by decide) rfl (by decide) (by decide) (by decide) rfl, eB]
  rw [xR_d (o := 0) (c := 11) (by decide) rfl lb, nw_d (n := 104) (c := 9) a2 (by decide) rfl, c1_d (o := 104) (c := 9) (by decide) rfl, show f_X9_init 104 _ = _ from g3, b1_s, show qR (some 52) 20 (0 + 1) _ 9 _ _ = _ from qR_d (o := 52) (c := 20) (i := 1) (v := 104) (cw := 9) (by decide) rfl (by decide) (by decide) (by decide) rfl, eC]
  rw [xR_d (o := 0) (c := 11) (by decide) rfl lc, nw_d (n := 155) (c := 9) a3 (by decide) rfl, c1_d (o := 155) (c := 9) (by decide) rfl, show f_X9_init 155 _ = _ from g4, b1_s, show qR (some 52) 20 (0 + 1 + 1) _ 9 _ _ = _ from qR_d (o := 52) (c := 20) (i := 2) (v := 155) (cw := 9) (by decide) rfl (by decide) (by decide) (by decide) rfl, eD]
  rw [show na 16 3 _ _ = _ from na_d (N := 3) (n := 206) a4 (by decide) rfl rfl (by decide), pR_d (o := 0) (c := 11) (by decide) rfl]
  rw [nw_d (n := 207) (c := 5) a5 (by decide) rfl, c1_d (o := 207) (c := 5) (by decide) rfl, show f_X5_init 207 _ = _ from g6, b1_s, pR_d (o := 0) (c := 11) (by decide) rfl, eE]
  rw [nw_d (n := 230) (c := 2) a6 (by decide) rfl, c1_d (o := 230) (c := 2) (by decide) rfl, show f_X2_init 230 _ = _ from g7, b1_s, pR_d (o := 0) (c := 11) (by decide) rfl, eF]
  rw [nw_d (n := 247) (c := 3) a7 (by decide) rfl, c1_d (o := 247) (c := 3) (by decide) rfl, show f_X3_init 247 _ = _ from g8, b1_s, pR_d (o := 0) (c := 11) (by decide) rfl, eG]
  rw [nw_d (n := 268) (c := 4) a8 (by decide) rfl, c1_d (o := 268) (c := 4) (by decide) rfl, show f_X4_init 268 _ = _ from g9, b1_s, pR_d (o := 0) (c := 11) (by decide) rfl, eH]
  rw [nw_d (n := 271) (c := 10) a9 (by decide) rfl, c1_d (o := 271) (c := 10) (by decide) rfl, show f_X10_init 271 _ = _ from gA, b1_s, pR_d (o := 0) (c := 11) (by decide) rfl, eI]
  rw [nw_d (n := 308) (c := 1) aA (by decide) rfl, c1_d (o := 308) (c := 1) (by decide) rfl, show f_X1_init 308 _ = _ from gB, b1_s, pR_d (o := 0) (c := 11) (by decide) rfl, eJ]
  rw [nw_d (n := 311) (c := 6) aB (by decide) rfl, c1_d (o := 311) (c := 6) (by decide) rfl, show f_X6_init 311 _ = _ from gC, b1_s, pR_d (o := 0) (c := 11) (by decide) rfl, eK]
  rfl
end ME
