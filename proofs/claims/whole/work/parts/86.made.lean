/-! what the constructors make: states as lists of writes -/
def lkI : List (Nat × Nat × Int32) → Nat → Nat → Int32
  | [], _, _ => 0
  | (a, b, v) :: I, o, i => if o = a ∧ i = b then v else lkI I o i
def lkJ : List (Nat × Nat × Int64) → Nat → Nat → Int64
  | [], _, _ => 0
  | (a, b, v) :: I, o, i => if o = a ∧ i = b then v else lkJ I o i
def lkR : List (Nat × Nat × Option Nat) → Nat → Nat → Option Nat
  | [], _, _ => none
  | (a, b, v) :: I, o, i => if o = a ∧ i = b then v else lkR I o i
def dec (I : List (Nat × Nat × Int32)) (J : List (Nat × Nat × Int64)) (R : List (Nat × Nat × Option Nat)) (n : Nat) : GS := (lkI I, lkJ J, lkR R, n)
def Bd (I : List (Nat × Nat × Int32)) (J : List (Nat × Nat × Int64)) (R : List (Nat × Nat × Option Nat)) (n : Nat) : Prop := (∀ e ∈ I, e.1 < n) ∧ (∀ e ∈ J, e.1 < n) ∧ ∀ e ∈ R, e.1 < n
section MA
variable {α : Type} {I : List (Nat × Nat × Int32)} {J : List (Nat × Nat × Int64)} {R : List (Nat × Nat × Option Nat)} {n o c : Nat}
theorem lkI_0 : ∀ {I : List (Nat × Nat × Int32)}, (∀ e ∈ I, e.1 < n) → ∀ o i, n ≤ o → lkI I o i = 0
  | [], _, _, _, _ => rfl
  | (a, b, v) :: I, h, o, i, ho => by
    have := h (a, b, v) (List.mem_cons_self ..)
    show (if o = a ∧ i = b then v else lkI I o i) = 0
    rw [if_neg (fun z => by have : a < n := this; omega)]
    exact lkI_0 (fun e he => h e (List.mem_cons_of_mem _ he)) o i ho
theorem lkJ_0 : ∀ {I : List (Nat × Nat × Int64)}, (∀ e ∈ I, e.1 < n) → ∀ o i, n ≤ o → lkJ I o i = 0
  | [], _, _, _, _ => rfl
  | (a, b, v) :: I, h, o, i, ho => by
    have := h (a, b, v) (List.mem_cons_self ..)
    show (if o = a ∧ i = b then v else lkJ I o i) = 0
    rw [if_neg (fun z => by have : a < n := this; omega)]
    exact lkJ_0 (fun e he => h e (List.mem_cons_of_mem _ he)) o i ho
theorem lkR_0 : ∀ {I : List (Nat × Nat × Option Nat)}, (∀ e ∈ I, e.1 < n) → ∀ o i, n ≤ o → lkR I o i = none
  | [], _, _, _, _ => rfl
  | (a, b, v) :: I, h, o, i, ho => by
    have := h (a, b, v) (List.mem_cons_self ..)
    show (if o = a ∧ i = b then v else lkR I o i) = none
    rw [if_neg (fun z => by have : a < n := this; omega)]
    exact lkR_0 (fun e he => h e (List.mem_cons_of_mem _ he)) o i ho
theorem sN_d (h : Bd I J R n) : sN (dec I J R n) = dec I J R (n + 1) := by
  obtain ⟨h1, h2, h3⟩ := h
  unfold sN dec
  show (_, _, _, n + 1) = (lkI I, lkJ J, lkR R, n + 1)
  congr 1
  · funext o i
    show (if o = n then 0 else lkI I o i) = _
    split
    · next e => rw [lkI_0 h1 o i (by omega)]
    · rfl
  · congr 1
    · funext o i
      show (if o = n then 0 else lkJ J o i) = _
      split
      · next e => rw [lkJ_0 h2 o i (by omega)]
      · rfl
    · congr 1
      funext o i
      show (if o = n then none else lkR R o i) = _
      split
      · next e => rw [lkR_0 h3 o i (by omega)]
      · rfl
theorem Bd.s (h : Bd I J R n) : Bd I J R (n + 1) := ⟨fun e he => Nat.lt_succ_of_lt (h.1 e he), fun e he => Nat.lt_succ_of_lt (h.2.1 e he), fun e he => Nat.lt_succ_of_lt (h.2.2 e he)⟩
theorem Bd.i {i : Nat} {v : Int32} (h : Bd I J R n) (ho : o < n) : Bd ((o, i, v) :: I) J R n := ⟨fun e he => by
  rcases List.mem_cons.mp he with rfl | q
  · exact ho
  · exact h.1 e q, h.2⟩
theorem Bd.r {i : Nat} {v : Option Nat} (h : Bd I J R n) (ho : o < n) : Bd I J ((o, i, v) :: R) n := ⟨h.1, h.2.1, fun e he => by
  rcases List.mem_cons.mp he with rfl | q
  · exact ho
  · exact h.2.2 e q⟩
theorem Bd.j {i : Nat} {v : Int64} (h : Bd I J R n) (ho : o < n) : Bd I ((o, i, v) :: J) R n := ⟨h.1, fun e he => by
  rcases List.mem_cons.mp he with rfl | q
  · exact ho
  · exact h.2.1 e q, h.2.2⟩
theorem nw_d {g : Option Nat → GS → Option α} (h : Bd I J R n) (hn : n < 343) (hk : kd n = c) : nw c (dec I J R n) g = g (some n) (dec I J R (n + 1)) := by
  unfold nw
  rw [if_pos (show (dec I J R n).2.2.2 < 99999 ∧ kd (dec I J R n).2.2.2 = c from ⟨by show n < 99999; omega, hk⟩), sN_d h]
  rfl
theorem na_d {N : Nat} {g : Option Nat → GS → Option α} (h : Bd I J R n) (hn : n < 343) (hk : kd n = c) (hl : ln n = N) (hN : N < 2 ^ 31) : na c (nI N) (dec I J R n) g = g (some n) (dec I J R (n + 1)) := by
  unfold na
  rw [if_pos (show (dec I J R n).2.2.2 < 99999 ∧ kd (dec I J R n).2.2.2 = c ∧ ¬ nI N < 0 ∧ (nI N).toNatClampNeg = ln (dec I J R n).2.2.2 from ⟨by show n < 99999; omega, hk, nI_pos hN, by rw [nI_clamp hN]; exact hl.symm⟩), sN_d h]
  rfl
theorem gk_d (ho : o < n) (hk : kd o = c) : gk (dec I J R n) o = c := by
  unfold gk
  rw [if_pos (show o < (dec I J R n).2.2.2 from ho)]
  exact hk
theorem pR_d {i : Nat} {v : Option Nat} {g : GS → Option α} (ho : o < n) (hk : kd o = c) : pR (some o) c i v (dec I J R n) g = g (dec I J ((o, i, v) :: R) n) := by
  rw [pR_s (gk_d ho hk)]
  rfl
theorem pI_d {i : Nat} {v : Int32} {g : GS → Option α} (ho : o < n) (hk : kd o = c) : pI (some o) c i v (dec I J R n) g = g (dec ((o, i, v) :: I) J R n) := by
  rw [pI_s (gk_d ho hk)]
  rfl
theorem c1_d {β : Type} {f : Nat → Option β} {g : β → Option α} (ho : o < n) (hk : kd o = c) : c1 (some o) c (dec I J R n) f g = b1 (f o) g := c1_s (gk_d ho hk)
theorem xR_d {i : Nat} {g : Option Nat → Option α} (ho : o < n) (hk : kd o = c) {r : Option Nat} (hr : lkR R o i = r) : xR (some o) c i (dec I J R n) g = g r := by
  rw [xR_s (gk_d ho hk)]
  show g (lkR R o i) = _
  rw [hr]
theorem qR_d {i v cw : Nat} {g : GS → Option α} (ho : o < n) (hk : kd o = c) (hi : i < ln o) (hi2 : i < 2 ^ 31) (hv : v < n) (hkv : kd v = cw) : qR (some o) c (nI i) (some v) cw (dec I J R n) g = g (dec I J ((o, i, some v) :: R) n) := by
  unfold qR
  rw [rn_s (gk_d ho hk), ix_n hi hi2, rn_s (gk_d hv hkv)]
  rfl
/-- a row list -/
def i7 (o m w : Nat) (I : List (Nat × Nat × Int32)) : List (Nat × Nat × Int32) := (o, 1, nI w) :: (o, 0, nI m) :: I
def r7 (o : Nat) (R : List (Nat × Nat × Option Nat)) : List (Nat × Nat × Option Nat) := (o, 2, some (o + 1)) :: R
theorem mk7 {m w : Nat} (h : Bd I J R (o + 1)) (ho : o + 1 < 343) (k1 : kd o = 7) (k2 : kd (o + 1) = 14) (hl : ln (o + 1) = m * w) (hm : m * w < 2 ^ 31) : f_X7_init o (nI m) (nI w) (dec I J R (o + 1)) = some (dec (i7 o m w I) J (r7 o R) (o + 2)) ∧ Bd (i7 o m w I) J (r7 o R) (o + 2) := by
  have h1 : Bd ((o, 0, nI m) :: I) J R (o + 1) := h.i (by omega)
  have h2 : Bd ((o, 1, nI w) :: (o, 0, nI m) :: I) J R (o + 1) := h1.i (by omega)
  refine ⟨?_, (h2.s).r (by omega)⟩
  unfold f_X7_init
  rw [pI_d (by omega) k1, pI_d (by omega) k1, nI_mul, na_d h2 (by omega) k2 hl hm, pR_d (by omega) k1]
  rfl
/-- a court -/
def i0 (o : Nat) (I : List (Nat × Nat × Int32)) : List (Nat × Nat × Int32) := i7 (o + 5) 6 2 (i7 (o + 3) 8 5 (i7 (o + 1) 4 2 I))
def r0L (o : Nat) (R : List (Nat × Nat × Option Nat)) : List (Nat × Nat × Option Nat) := (o, 3, some (o + 7)) :: (o, 2, some (o + 5)) :: r7 (o + 5) ((o, 1, some (o + 3)) :: r7 (o + 3) ((o, 0, some (o + 1)) :: r7 (o + 1) R))
def q7 (o N : Nat) : Prop := kd o = 7 ∧ kd (o + 1) = 14 ∧ ln (o + 1) = N
def q0 (o : Nat) : Prop := kd o = 0 ∧ q7 (o + 1) 8 ∧ q7 (o + 3) 40 ∧ q7 (o + 5) 12 ∧ kd (o + 7) = 14 ∧ ln (o + 7) = 3
def q8 (o : Nat) : Prop := kd o = 8 ∧ q7 (o + 1) 60 ∧ q7 (o + 3) 60
theorem mk0 (h : Bd I J R (o + 1)) (ho : o + 8 < 343) (q : q0 o) : f_X0_init o (dec I J R (o + 1)) = some (dec (i0 o I) J (r0L o R) (o + 8)) ∧ Bd (i0 o I) J (r0L o R) (o + 8) := by
  obtain ⟨k0, ⟨a1, a2, a3⟩, ⟨b1', b2', b3'⟩, ⟨d1, d2, d3⟩, e1, e2⟩ := q
  obtain ⟨g1, h1⟩ := mk7 (o := o + 1) (m := 4) (w := 2) h.s (by omega) a1 a2 a3 (by decide)
  have h1' : Bd (i7 (o + 1) 4 2 I) J ((o, 0, some (o + 1)) :: r7 (o + 1) R) (o + 3) := h1.r (by omega)
  obtain ⟨g2, h2⟩ := mk7 (o := o + 3) (m := 8) (w := 5) h1'.s (by omega) b1' b2' b3' (by decide)
  have h2' : Bd (i7 (o + 3) 8 5 (i7 (o + 1) 4 2 I)) J ((o, 1, some (o + 3)) :: r7 (o + 3) ((o, 0, some (o + 1)) :: r7 (o + 1) R)) (o + 5) := h2.r (by omega)
  obtain ⟨g3, h3⟩ := mk7 (o := o + 5) (m := 6) (w := 2) h2'.s (by omega) d1 d2 d3 (by decide)
  have h3' : Bd (i7 (o + 5) 6 2 (i7 (o + 3) 8 5 (i7 (o + 1) 4 2 I))) J ((o, 2, some (o + 5)) :: r7 (o + 5) ((o, 1, some (o + 3)) :: r7 (o + 3) ((o, 0, some (o + 1)) :: r7 (o + 1) R))) (o + 7) := h3.r (by omega)
  refine ⟨?_, (h3'.s).r (by omega)⟩
  unfold f_X0_init
  rw [nw_d h (by omega) a1, c1_d (by omega) a1, show f_X7_init (o + 1) 4 2 _ = _ from g1, b1_s, pR_d (by omega) k0, nw_d h1' (by omega) b1', c1_d (by omega) b1', show f_X7_init (o + 3) 8 5 _ = _ from g2, b1_s, pR_d (by omega) k0, nw_d h2' (by omega) d1, c1_d (by omega) d1, show f_X7_init (o + 5) 6 2 _ = _ from g3, b1_s, pR_d (by omega) k0, show na 14 3 _ _ = _ from na_d (N := 3) (n := o + 5 + 2) h3' (by omega) e1 e2 (by decide), pR_d (by omega) k0]
  rfl
def i8 (o : Nat) (I : List (Nat × Nat × Int32)) : List (Nat × Nat × Int32) := i7 (o + 3) 20 3 (i7 (o + 1) 20 3 I)
def r8 (o : Nat) (R : List (Nat × Nat × Option Nat)) : List (Nat × Nat × Option Nat) := (o, 1, some (o + 3)) :: r7 (o + 3) ((o, 0, some (o + 1)) :: r7 (o + 1) R)
theorem mk8 (h : Bd I J R (o + 1)) (ho : o + 5 < 343) (q : q8 o) : f_X8_init o (dec I J R (o + 1)) = some (dec (i8 o I) J (r8 o R) (o + 5)) ∧ Bd (i8 o I) J (r8 o R) (o + 5) := by
  obtain ⟨k0, ⟨a1, a2, a3⟩, ⟨b1', b2', b3'⟩⟩ := q
  obtain ⟨g1, h1⟩ := mk7 (o := o + 1) (m := 20) (w := 3) h.s (by omega) a1 a2 a3 (by decide)
  have h1' : Bd (i7 (o + 1) 20 3 I) J ((o, 0, some (o + 1)) :: r7 (o + 1) R) (o + 3) := h1.r (by omega)
  obtain ⟨g2, h2⟩ := mk7 (o := o + 3) (m := 20) (w := 3) h1'.s (by omega) b1' b2' b3' (by decide)
  refine ⟨?_, h2.r (by omega)⟩
  unfold f_X8_init
  rw [nw_d h (by omega) a1, c1_d (by omega) a1, show f_X7_init (o + 1) 20 3 _ = _ from g1, b1_s, pR_d (by omega) k0, nw_d h1' (by omega) b1', c1_d (by omega) b1', show f_X7_init (o + 3) 20 3 _ = _ from g2, b1_s, pR_d (by omega) k0]
  rfl
end MA
