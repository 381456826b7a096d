/-! the ball: its state, told once for both -/
/-- a lady: room, lace, rest left, burst, how often she fainted, when she fell last -/
abbrev BLs : Type := Nat × Int32 × Nat × Bool × Int32 × Int32
/-- glass, minutes, knots, tales, toasts, toasted; rooms: air, shut; ladies -/
abbrev BSt : Type := (Int32 × Int32 × Int32 × Int32 × Int32 × Int32) × (Nat → Int32 × Bool) × (Nat → BLs)
def updF {α : Type} (f : Nat → α) (i : Nat) (v : α) : Nat → α := fun j => if j = i then v else f j
theorem updF_at {α : Type} (f : Nat → α) (i : Nat) (v : α) : updF f i v i = v := if_pos rfl
theorem updF_o {α : Type} {f : Nat → α} {i j : Nat} {v : α} (h : j ≠ i) : updF f i v j = f j := if_neg h
def upL (L : BLs) : Bool := !L.2.2.2.1 && decide (L.2.2.1 = 0)
def dnL (L : BLs) : Bool := decide (L.2.2.1 ≠ 0)
def buL (L : BLs) : Bool := L.2.2.2.1
/-- a court's numbers: heights, sizes, BURST, FAINT, GOSSIP, rest -/
abbrev DSt : Type := (Nat → Int32) × (Nat → Int32) × (Nat → Int32) × (Nat → Int32) × (Nat → Int32) × Nat
def prB (D : DSt) (gl : Int32) (R : Nat → Int32 × Bool) (r : Nat) : Int32 := (if (R r).2 = true then (R r).1 else gl) - D.1 r
def lookL (D : DSt) (l : Nat) (mi p : Int32) (L : BLs) : BLs := if upL L = true then (if fate (D.2.2.1 l) (D.2.2.2.1 l) L.2.1 p = 0 then L else if fate (D.2.2.1 l) (D.2.2.2.1 l) L.2.1 p = 2 then (L.1, L.2.1, L.2.2.1, true, L.2.2.2.2.1, mi) else (L.1, L.2.1, D.2.2.2.2.2, L.2.2.2.1, L.2.2.2.2.1 + 1, mi)) else L
def restL (L : BLs) : BLs := (L.1, L.2.1, L.2.2.1 - 1, L.2.2.2)
def cmpI (a b : Int32) : Int32 := if b < a then 1 else if a < b then -1 else 0
def driftR (gl : Int32) (r : Int32 × Bool) : Int32 × Bool := (if r.2 = true then r.1 + cmpI gl r.1 else r.1, r.2)
/-- who tells; how many do in a room; pairs -/
def tlB (D : DSt) (gl : Int32) (R : Nat → Int32 × Bool) (A : Nat → BLs) (l : Nat) : Bool := upL (A l) && !decide (prB D gl R (A l).1 < D.2.2.2.2.1 l)
def trN (p : Nat → Bool) (ro : Nat → Nat) (r : Nat) : Nat → Nat
  | 0 => 0
  | n + 1 => trN p ro r n + (if (p n && decide (ro n = r)) = true then 1 else 0)
def paI (p : Nat → Bool) (ro : Nat → Nat) (a : Nat) : Nat → Nat
  | 0 => 0
  | b + 1 => paI p ro a b + (if (p a && p b && decide (ro a = ro b)) = true then 1 else 0)
def paN (p : Nat → Bool) (ro : Nat → Nat) : Nat → Nat
  | 0 => 0
  | n + 1 => paN p ro n + paI p ro n n
def c2N (t : Nat) : Nat := t * (t - 1) / 2
theorem c2N_s : ∀ t, t < 9 → c2N (t + 1) = c2N t + t := by decide
theorem tr_le (p : Nat → Bool) (ro : Nat → Nat) (r : Nat) : ∀ n, trN p ro r n ≤ n
  | 0 => Nat.le_refl 0
  | n + 1 => by
    have := tr_le p ro r n
    show trN p ro r n + (if (p n && decide (ro n = r)) = true then 1 else 0) ≤ n + 1
    split <;> omega
theorem paI_tr (p : Nat → Bool) (ro : Nat → Nat) (a : Nat) : ∀ b, paI p ro a b = if p a = true then trN p ro (ro a) b else 0
  | 0 => by
    show 0 = if p a = true then 0 else 0
    split <;> rfl
  | b + 1 => by
    show paI p ro a b + (if (p a && p b && decide (ro a = ro b)) = true then 1 else 0) = if p a = true then trN p ro (ro a) b + (if (p b && decide (ro b = ro a)) = true then 1 else 0) else 0
    rw [paI_tr p ro a b]
    by_cases q : p a = true
    · rw [if_pos q, if_pos q, q, Bool.true_and]
      congr 2
      rw [show decide (ro a = ro b) = decide (ro b = ro a) from decide_eq_decide.mpr ⟨Eq.symm, Eq.symm⟩]
    · rw [if_neg q, if_neg q, Bool.eq_false_iff.mpr q, Bool.false_and, Bool.false_and, if_neg Bool.false_ne_true]
/-- four rooms' tellers by two: as many as pairs -/
theorem pairs4 (p : Nat → Bool) (ro : Nat → Nat) : ∀ n, n ≤ 8 → (∀ l, l < n → ro l < 4) → c2N (trN p ro 0 n) + c2N (trN p ro 1 n) + c2N (trN p ro 2 n) + c2N (trN p ro 3 n) = paN p ro n
  | 0, _, _ => by
    show c2N 0 + c2N 0 + c2N 0 + c2N 0 = 0
    decide
  | n + 1, hn, hr => by
    have ih := pairs4 p ro n (by omega) (fun l hl => hr l (by omega))
    have hrn := hr n (by omega)
    have e (r : Nat) : trN p ro r (n + 1) = trN p ro r n + (if (p n && decide (ro n = r)) = true then 1 else 0) := rfl
    have l0 := tr_le p ro 0 n
    have l1 := tr_le p ro 1 n
    have l2 := tr_le p ro 2 n
    have l3 := tr_le p ro 3 n
    show _ = paN p ro n + paI p ro n n
    rw [← ih, paI_tr, e, e, e, e]
    cases hp : p n
    · simp only [Bool.false_and, Bool.false_eq_true, if_false, Nat.add_zero]
    · simp only [Bool.true_and, if_true]
      rcases (show ro n = 0 ∨ ro n = 1 ∨ ro n = 2 ∨ ro n = 3 by omega) with h | h | h | h <;> rw [h]
      · rw [if_pos (by decide), if_neg (by decide), if_neg (by decide), if_neg (by decide), c2N_s _ (by omega)]
        simp only [Nat.add_zero]
        omega
      · rw [if_neg (by decide), if_pos (by decide), if_neg (by decide), if_neg (by decide), c2N_s _ (by omega)]
        simp only [Nat.add_zero]
        omega
      · rw [if_neg (by decide), if_neg (by decide), if_pos (by decide), if_neg (by decide), c2N_s _ (by omega)]
        simp only [Nat.add_zero]
        omega
      · rw [if_neg (by decide), if_neg (by decide), if_neg (by decide), if_pos (by decide), c2N_s _ (by omega)]
        simp only [Nat.add_zero]
        omega
/-- a minute goes by -/
def minB (D : DSt) (nl : Nat) (B : BSt) : BSt :=
  ((B.1.1, B.1.2.1 + 1, B.1.2.2.1, B.1.2.2.2.1 + nI (paN (tlB D B.1.1 (fun r => driftR B.1.1 (B.2.1 r)) (fun l => lookL D l (B.1.2.1 + 1) (prB D B.1.1 (fun r => driftR B.1.1 (B.2.1 r)) (B.2.2 l).1) (restL (B.2.2 l)))) (fun l => (B.2.2 l).1) nl), B.1.2.2.2.2.1, B.1.2.2.2.2.2), fun r => driftR B.1.1 (B.2.1 r), fun l => lookL D l (B.1.2.1 + 1) (prB D B.1.1 (fun r => driftR B.1.1 (B.2.1 r)) (B.2.2 l).1) (restL (B.2.2 l)))
theorem look_ro (D : DSt) (l : Nat) (mi p : Int32) (L : BLs) : (lookL D l mi p L).1 = L.1 := by
  unfold lookL
  split
  · split
    · rfl
    · split <;> rfl
  · rfl
/-- what a state keeps -/
def BI (nl nro rs : Nat) (B : BSt) : Prop := rs ≤ 9 ∧ ∀ l, l < nl → (B.2.2 l).1 < nro ∧ (B.2.2 l).2.2.1 ≤ 9 ∧ ((B.2.2 l).2.2.2.1 = true → (B.2.2 l).2.2.1 = 0)
theorem upL_iff {L : BLs} : upL L = true ↔ L.2.2.2.1 = false ∧ L.2.2.1 = 0 := by
  unfold upL
  rw [Bool.and_eq_true, decide_eq_true_eq, Bool.not_eq_true']
theorem look_ok {D : DSt} {l : Nat} {mi p : Int32} {L : BLs} (hr : D.2.2.2.2.2 ≤ 9) (h1 : L.2.2.1 ≤ 9) (h2 : L.2.2.2.1 = true → L.2.2.1 = 0) : (lookL D l mi p L).2.2.1 ≤ 9 ∧ ((lookL D l mi p L).2.2.2.1 = true → (lookL D l mi p L).2.2.1 = 0) := by
  unfold lookL
  by_cases q : upL L = true
  · obtain ⟨u1, u2⟩ := upL_iff.mp q
    rw [if_pos q]
    by_cases z : fate (D.2.2.1 l) (D.2.2.2.1 l) L.2.1 p = 0
    · rw [if_pos z]
      exact ⟨h1, h2⟩
    · rw [if_neg z]
      by_cases y : fate (D.2.2.1 l) (D.2.2.2.1 l) L.2.1 p = 2
      · rw [if_pos y]
        exact ⟨h1, fun _ => u2⟩
      · rw [if_neg y]
        refine ⟨hr, fun x => ?_⟩
        have x : L.2.2.2.1 = true := x
        rw [u1] at x
        exact absurd x Bool.false_ne_true
  · rw [if_neg q]
    exact ⟨h1, h2⟩
theorem BI.min {nl nro : Nat} {D : DSt} {B : BSt} (h : BI nl nro D.2.2.2.2.2 B) : BI nl nro D.2.2.2.2.2 (minB D nl B) := by
  refine ⟨h.1, fun l hl => ?_⟩
  obtain ⟨h1, h2, h3⟩ := h.2 l hl
  have h4 := look_ok (D := D) (l := l) (mi := B.1.2.1 + 1) (p := prB D B.1.1 (fun r => driftR B.1.1 (B.2.1 r)) (B.2.2 l).1) (L := restL (B.2.2 l)) h.1 (by show (B.2.2 l).2.2.1 - 1 ≤ 9; omega) (fun z => by
    have := h3 z
    show (B.2.2 l).2.2.1 - 1 = 0
    omega)
  refine ⟨?_, h4⟩
  show (lookL D l _ _ (restL (B.2.2 l))).1 < nro
  rw [look_ro]
  exact h1
/-- the deeds: a state and whether it could be -/
def turnB (nro : Nat) (x : Int32) (op : Bool) (B : BSt) : Bool × BSt := if x < 0 ∨ nro ≤ x.toNatClampNeg ∨ (B.2.1 x.toNatClampNeg).2 ≠ op then (false, B) else (true, (B.1, updF B.2.1 x.toNatClampNeg (B.1.1, !op), B.2.2))
def sighB (D : DSt) (nl : Nat) (x : Int32) (B : BSt) : Bool × BSt := if x < 0 ∨ nl ≤ x.toNatClampNeg ∨ upL (B.2.2 x.toNatClampNeg) = false then (false, B) else (true, if (B.2.1 (B.2.2 x.toNatClampNeg).1).2 = true ∧ ¬ 3 < D.2.1 (B.2.2 x.toNatClampNeg).1 then (B.1, updF B.2.1 (B.2.2 x.toNatClampNeg).1 (jmin 40 ((B.2.1 (B.2.2 x.toNatClampNeg).1).1 + 1), true), B.2.2) else B)
def knotB (nl : Nat) (x y : Int32) (B : BSt) : Bool × BSt := if x < 0 ∨ nl ≤ x.toNatClampNeg ∨ (B.2.2 x.toNatClampNeg).2.2.2.1 = true ∨ (B.2.2 x.toNatClampNeg).2.1 + y < 0 ∨ 30 < (B.2.2 x.toNatClampNeg).2.1 + y then (false, B) else (true, ((B.1.1, B.1.2.1, B.1.2.2.1 + jabs y, B.1.2.2.2), B.2.1, updF B.2.2 x.toNatClampNeg ((B.2.2 x.toNatClampNeg).1, (B.2.2 x.toNatClampNeg).2.1 + y, (B.2.2 x.toNatClampNeg).2.2)))
def goB (nl nro : Nat) (x y : Int32) (B : BSt) : Bool × BSt := if x < 0 ∨ nl ≤ x.toNatClampNeg ∨ y < 0 ∨ nro ≤ y.toNatClampNeg ∨ upL (B.2.2 x.toNatClampNeg) = false then (false, B) else (true, (B.1, B.2.1, updF B.2.2 x.toNatClampNeg (y.toNatClampNeg, (B.2.2 x.toNatClampNeg).2)))
def toastB (nl : Nat) (B : BSt) : BSt := ((B.1.1, B.1.2.1, B.1.2.2.1, B.1.2.2.2.1, B.1.2.2.2.2.1 + 1, nI (countN (fun l => upL (B.2.2 l)) nl 0 0)), B.2)
def deedB (D : DSt) (nl nro : Nat) (k x y : Int32) (B : BSt) : Bool × BSt := if k = 0 then (true, ((x, B.1.2), B.2)) else if k = 1 then turnB nro x true B else if k = 2 then turnB nro x false B else if k = 3 then sighB D nl x B else if k = 4 then knotB nl x y B else if k = 5 then knotB nl x (-y) B else if k = 6 then goB nl nro x y B else if k = 7 then (true, toastB nl B) else (true, minB D nl B)
theorem BI.deed {nl nro : Nat} {D : DSt} {B : BSt} (h : BI nl nro D.2.2.2.2.2 B) (k x y : Int32) : BI nl nro D.2.2.2.2.2 (deedB D nl nro k x y B).2 := by
  have hk : ∀ z, BI nl nro D.2.2.2.2.2 (knotB nl x z B).2 := fun z => by
    unfold knotB
    split
    · exact h
    · refine ⟨h.1, fun l hl => ?_⟩
      show (updF B.2.2 _ _ l).1 < nro ∧ (updF B.2.2 _ _ l).2.2.1 ≤ 9 ∧ ((updF B.2.2 _ _ l).2.2.2.1 = true → (updF B.2.2 _ _ l).2.2.1 = 0)
      by_cases q : l = x.toNatClampNeg
      · rw [← q, updF_at]
        exact h.2 l hl
      · rw [updF_o q]
        exact h.2 l hl
  have ht : ∀ b, BI nl nro D.2.2.2.2.2 (turnB nro x b B).2 := fun b => by
    unfold turnB
    split <;> exact h
  unfold deedB
  split
  · exact h
  split
  · exact ht _
  split
  · exact ht _
  split
  · unfold sighB
    split
    · exact h
    · show BI nl nro D.2.2.2.2.2 (if _ then _ else _)
      split <;> exact h
  split
  · exact hk _
  split
  · exact hk _
  split
  · unfold goB
    split
    · exact h
    · next hn =>
      refine ⟨h.1, fun l hl => ?_⟩
      show (updF B.2.2 _ _ l).1 < nro ∧ (updF B.2.2 _ _ l).2.2.1 ≤ 9 ∧ ((updF B.2.2 _ _ l).2.2.2.1 = true → (updF B.2.2 _ _ l).2.2.1 = 0)
      by_cases q : l = x.toNatClampNeg
      · have h2 := (h.2 l hl).2
        rw [q] at h2
        rw [← q, updF_at]
        refine ⟨?_, ?_⟩
        · show y.toNatClampNeg < nro
          omega
        · rw [q]
          exact h2
      · rw [updF_o q]
        exact h.2 l hl
  split
  · exact h
  · exact h.min
/-- a ball's deeds, one after another: how many could be -/
def playB (D : DSt) (nl nro : Nat) (dk dx dy : Nat → Int32) : Nat → Nat → BSt → Nat × BSt
  | 0, k, B => (k, B)
  | d + 1, k, B => if (deedB D nl nro (dk k) (dx k) (dy k) B).1 = true then playB D nl nro dk dx dy d (k + 1) (deedB D nl nro (dk k) (dx k) (dy k) B).2 else (k, (deedB D nl nro (dk k) (dx k) (dy k) B).2)
