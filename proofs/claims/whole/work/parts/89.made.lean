/-! what the constructors make: hall, lacing, odds, watch, debts, rota -/
section MD2
variable {α : Type} {I : List (Nat × Nat × Int32)} {J : List (Nat × Nat × Int64)} {R : List (Nat × Nat × Option Nat)} {n o t k : Nat}
def rM (n : Nat) : Nat → List (Nat × Nat × Option Nat) → List (Nat × Nat × Option Nat)
  | 0, R => R
  | m + 1, R => (n, m, some (n + 1 + m)) :: rM n m R
theorem lkR_M : ∀ (m : Nat) (o i : Nat), lkR (rM n m R) o i = if o = n ∧ i < m then some (n + 1 + i) else lkR R o i
  | 0, o, i => by
    rw [if_neg (by omega)]
    rfl
  | m + 1, o, i => by
    show (if o = n ∧ i = m then some (n + 1 + m) else lkR (rM n m R) o i) = _
    rw [lkR_M m o i]
    by_cases q : o = n ∧ i = m
    · obtain ⟨rfl, rfl⟩ := q
      rw [if_pos ⟨rfl, rfl⟩, if_pos ⟨rfl, by omega⟩]
    · rw [if_neg q]
      by_cases z : o = n ∧ i < m
      · rw [if_pos z, if_pos ⟨z.1, by omega⟩]
      · rw [if_neg z, if_neg (by omega)]
theorem Bd.m : ∀ (m : Nat), Bd I J R n → n < o → Bd I J (rM n m R) o
  | 0, h, ho => ⟨fun e he => Nat.lt_trans (h.1 e he) ho, fun e he => Nat.lt_trans (h.2.1 e he) ho, fun e he => Nat.lt_trans (h.2.2 e he) ho⟩
  | m + 1, h, ho => (Bd.m m h ho).r ho
theorem sM_d (m : Nat) (h : Bd I J R n) : sM (dec I J R n) m = dec I J (rM n m R) (n + 1 + m) := by
  obtain ⟨h1, h2, h3⟩ := h
  unfold sM dec
  show (_, _, _, n + 1 + m) = (lkI I, lkJ J, lkR (rM n m R), n + 1 + m)
  congr 1
  · funext o i
    show (if n ≤ o then 0 else lkI I o i) = _
    split
    · next e => rw [lkI_0 h1 o i e]
    · rfl
  · congr 1
    · funext o i
      show (if n ≤ o then 0 else lkJ J o i) = _
      split
      · next e => rw [lkJ_0 h2 o i e]
      · rfl
    · congr 1
      funext o i
      show (if o = n then (if i < m then some (n + 1 + i) else none) else if n ≤ o then none else lkR R o i) = _
      rw [lkR_M]
      by_cases q : o = n
      · rw [if_pos q]
        by_cases z : i < m
        · rw [if_pos z, if_pos ⟨q, z⟩]
        · rw [if_neg z, if_neg (fun w => z w.2), lkR_0 h3 o i (by omega)]
      · rw [if_neg q, if_neg (show ¬ (o = n ∧ i < m) from fun w => q w.1)]
        by_cases z : n ≤ o
        · rw [if_pos z, lkR_0 h3 o i z]
        · rw [if_neg z]
theorem nm2_d {a b : Nat} {g : Option Nat → GS → Option α} (h : Bd I J R n) (ha : a < 2 ^ 31) (hn : n + 1 + a < 99999) (h1 : kd n = 21) (h2 : ln n = a) (h3 : (List.range a).all (fun i => kd (n + 1 + i) == 14 && ln (n + 1 + i) == (nI b).toNatClampNeg) = true) : nm2 (nI a) (nI b) (dec I J R n) g = g (some n) (dec I J (rM n a R) (n + 1 + a)) := by
  unfold nm2
  rw [nI_clamp ha, if_pos (show (dec I J R n).2.2.2 + 1 + a < 99999 ∧ kd (dec I J R n).2.2.2 = 21 ∧ ln (dec I J R n).2.2.2 = a ∧ (List.range a).all (fun i => kd ((dec I J R n).2.2.2 + 1 + i) == 14 && ln ((dec I J R n).2.2.2 + 1 + i) == (nI b).toNatClampNeg) = true from ⟨hn, h1, h2, h3⟩), sM_d a h]
  rfl
theorem pJ_d {c i : Nat} {v : Int64} {g : GS → Option α} (ho : o < n) (hk : kd o = c) : pJ (some o) c i v (dec I J R n) g = g (dec I ((o, i, v) :: J) R n) := by
  rw [pJ_s (gk_d ho hk)]
  rfl
/-- the hall -/
def r2 (R : List (Nat × Nat × Option Nat)) : List (Nat × Nat × Option Nat) := (230, 8, some 239) :: r0L 239 ((230, 7, some 238) :: (230, 6, some 237) :: (230, 5, some 236) :: (230, 4, some 235) :: (230, 3, some 234) :: (230, 2, some 233) :: (230, 1, some 232) :: (230, 0, some 231) :: R)
theorem q0_239 : q0 239 := by
  unfold q0 q7
  repeat' apply And.intro
  all_goals rfl
theorem mk2 (h : Bd I J R 231) : f_X2_init 230 (dec I J R 231) = some (dec (i0 239 I) J (r2 R) 247) ∧ Bd (i0 239 I) J (r2 R) 247 := by
  have a1 : Bd I J ((230, 0, some 231) :: R) 232 := h.s.r (by decide)
  have a2 : Bd I J ((230, 1, some 232) :: (230, 0, some 231) :: R) 233 := a1.s.r (by decide)
  have a3 : Bd I J ((230, 2, some 233) :: (230, 1, some 232) :: (230, 0, some 231) :: R) 234 := a2.s.r (by decide)
  have a4 : Bd I J ((230, 3, some 234) :: (230, 2, some 233) :: (230, 1, some 232) :: (230, 0, some 231) :: R) 235 := a3.s.r (by decide)
  have a5 : Bd I J ((230, 4, some 235) :: (230, 3, some 234) :: (230, 2, some 233) :: (230, 1, some 232) :: (230, 0, some 231) :: R) 236 := a4.s.r (by decide)
  have a6 : Bd I J ((230, 5, some 236) :: (230, 4, some 235) :: (230, 3, some 234) :: (230, 2, some 233) :: (230, 1, some 232) :: (230, 0, some 231) :: R) 237 := a5.s.r (by decide)
  have a7 : Bd I J ((230, 6, some 237) :: (230, 5, some 236) :: (230, 4, some 235) :: (230, 3, some 234) :: (230, 2, some 233) :: (230, 1, some 232) :: (230, 0, some 231) :: R) 238 := a6.s.r (by decide)
  have a8 : Bd I J ((230, 7, some 238) :: (230, 6, some 237) :: (230, 5, some 236) :: (230, 4, some 235) :: (230, 3, some 234) :: (230, 2, some 233) :: (230, 1, some 232) :: (230, 0, some 231) :: R) 239 := a7.s.r (by decide)
  obtain ⟨g1, h1⟩ := mk0 (o := 239) a8.s (by decide) q0_239
  refine ⟨?_, h1.r (by decide)⟩
  unfold f_X2_init
  rw [show na 14 4 _ _ = _ from na_d (N := 4) h (by decide) rfl rfl (by decide), pR_d (o := 230) (c := 2) (by decide) rfl, show na 16 4 _ _ = _ from na_d (N := 4) a1 (by decide) rfl rfl (by decide), pR_d (o := 230) (c := 2) (by decide) rfl, show na 14 8 _ _ = _ from na_d (N := 8) a2 (by decide) rfl rfl (by decide), pR_d (o := 230) (c := 2) (by decide) rfl, show na 14 8 _ _ = _ from na_d (N := 8) a3 (by decide) rfl rfl (by decide), pR_d (o := 230) (c := 2) (by decide) rfl]
  rw [show na 14 8 _ _ = _ from na_d (N := 8) a4 (by decide) rfl rfl (by decide), pR_d (o := 230) (c := 2) (by decide) rfl, show na 16 8 _ _ = _ from na_d (N := 8) a5 (by decide) rfl rfl (by decide), pR_d (o := 230) (c := 2) (by decide) rfl, show na 14 8 _ _ = _ from na_d (N := 8) a6 (by decide) rfl rfl (by decide), pR_d (o := 230) (c := 2) (by decide) rfl, show na 14 8 _ _ = _ from na_d (N := 8) a7 (by decide) rfl rfl (by decide), pR_d (o := 230) (c := 2) (by decide) rfl]
  rw [nw_d (c := 0) a8 (by decide) rfl, c1_d (o := 239) (c := 0) (by decide) rfl, show f_X0_init 239 _ = _ from g1, b1_s, pR_d (o := 230) (c := 2) (by decide) rfl]
  rfl
def r3 (R : List (Nat × Nat × Option Nat)) : List (Nat × Nat × Option Nat) := (247, 2, some 267) :: (247, 1, some 266) :: (247, 0, some 248) :: rM 248 17 R
theorem mk3 (h : Bd I J R 248) : f_X3_init 247 (dec I J R 248) = some (dec I J (r3 R) 268) ∧ Bd I J (r3 R) 268 := by
  have a1 : Bd I J ((247, 0, some 248) :: rM 248 17 R) 266 := (Bd.m 17 h (by decide)).r (by decide)
  have a2 : Bd I J ((247, 1, some 266) :: (247, 0, some 248) :: rM 248 17 R) 267 := a1.s.r (by decide)
  refine ⟨?_, a2.s.r (by decide)⟩
  unfold f_X3_init
  rw [show nm2 17 31 _ _ = _ from nm2_d (a := 17) (b := 31) h (by decide) (by decide) rfl rfl (by decide +kernel), pR_d (o := 247) (c := 3) (by decide) rfl, show na 16 527 _ _ = _ from na_d (N := 527) a1 (by decide) rfl rfl (by decide), pR_d (o := 247) (c := 3) (by decide) rfl, show na 14 8 _ _ = _ from na_d (N := 8) a2 (by decide) rfl rfl (by decide), pR_d (o := 247) (c := 3) (by decide) rfl]
  rfl
def r4 (R : List (Nat × Nat × Option Nat)) : List (Nat × Nat × Option Nat) := (268, 1, some 270) :: (268, 0, some 269) :: R
theorem mk4 (h : Bd I J R 269) : f_X4_init 268 (dec I J R 269) = some (dec I ((268, 3, 1) :: J) (r4 R) 271) ∧ Bd I ((268, 3, 1) :: J) (r4 R) 271 := by
  have a1 : Bd I J ((268, 0, some 269) :: R) 270 := h.s.r (by decide)
  have a2 : Bd I J (r4 R) 271 := a1.s.r (by decide)
  refine ⟨?_, a2.j (by decide)⟩
  unfold f_X4_init
  rw [show na 15 41 _ _ = _ from na_d (N := 41) h (by decide) rfl rfl (by decide), pR_d (o := 268) (c := 4) (by decide) rfl, show na 15 41 _ _ = _ from na_d (N := 41) a1 (by decide) rfl rfl (by decide), pR_d (o := 268) (c := 4) (by decide) rfl, pJ_d (o := 268) (c := 4) (by decide) rfl]
  rfl
def r10 (R : List (Nat × Nat × Option Nat)) : List (Nat × Nat × Option Nat) := (271, 1, some 290) :: rM 290 17 ((271, 0, some 272) :: rM 272 17 R)
theorem mk10 (h : Bd I J R 272) : f_X10_init 271 (dec I J R 272) = some (dec I J (r10 R) 308) ∧ Bd I J (r10 R) 308 := by
  have a1 : Bd I J ((271, 0, some 272) :: rM 272 17 R) 290 := (Bd.m 17 h (by decide)).r (by decide)
  refine ⟨?_, (Bd.m 17 a1 (by decide)).r (by decide)⟩
  unfold f_X10_init
  rw [show nm2 17 41 _ _ = _ from nm2_d (a := 17) (b := 41) h (by decide) (by decide) rfl rfl (by decide +kernel), pR_d (o := 271) (c := 10) (by decide) rfl, show nm2 17 41 _ _ = _ from nm2_d (a := 17) (b := 41) a1 (by decide) (by decide) rfl rfl (by decide +kernel), pR_d (o := 271) (c := 10) (by decide) rfl]
  rfl
def r1 (R : List (Nat × Nat × Option Nat)) : List (Nat × Nat × Option Nat) := (308, 1, some 310) :: (308, 0, some 309) :: R
theorem mk1 (h : Bd I J R 309) : f_X1_init 308 (dec I J R 309) = some (dec I J (r1 R) 311) ∧ Bd I J (r1 R) 311 := by
  have a1 : Bd I J ((308, 0, some 309) :: R) 310 := h.s.r (by decide)
  refine ⟨?_, a1.s.r (by decide)⟩
  unfold f_X1_init
  rw [show na 14 256 _ _ = _ from na_d (N := 256) h (by decide) rfl rfl (by decide), pR_d (o := 308) (c := 1) (by decide) rfl, show na 14 256 _ _ = _ from na_d (N := 256) a1 (by decide) rfl rfl (by decide), pR_d (o := 308) (c := 1) (by decide) rfl]
  rfl
theorem mk6 (h : Bd I J R 312) : f_X6_init 311 (dec I J R 312) = some (dec I J ((311, 0, some 312) :: R) 313) ∧ Bd I J ((311, 0, some 312) :: R) 313 := by
  refine ⟨?_, h.s.r (by decide)⟩
  unfold f_X6_init
  rw [show na 14 31 _ _ = _ from na_d (N := 31) h (by decide) rfl rfl (by decide), pR_d (o := 311) (c := 6) (by decide) rfl]
end MD2
