/-! ways: who was seen; the class -/
section WY
variable {S S' : GS} {o b k l co : Nat} {c : Int32} {bu fa he la : Int32}
/-- numbers of a range of objects alone are written -/
def OfA (a b : Nat) (S S' : GS) : Prop := S'.2 = S.2 ∧ ∀ o, o < a ∨ b ≤ o → S'.1 o = S.1 o
theorem OfA.rf (a b : Nat) (S : GS) : OfA a b S S := ⟨rfl, fun _ _ => rfl⟩
theorem OfA.tr {a b : Nat} {S S1 S2 : GS} (h : OfA a b S S1) (h2 : OfA a b S1 S2) : OfA a b S S2 := ⟨h2.1.trans h.1, fun o q => (h2.2 o q).trans (h.2 o q)⟩
theorem OfA.wr {a b : Nat} (h : OfA a b S S') (hW : Wr S) : Wr S' := by
  unfold Wr
  rw [h.1]
  exact hW
theorem Of.ra {a b i : Nat} (h : Of i S S') (h1 : a ≤ i) (h2 : i < b) : OfA a b S S' := ⟨h.1, fun o q => h.2 o (by omega)⟩
theorem OfA.sm {a b : Nat} (h : OfA a b S S') (h1 : 230 ≤ a) (h2 : b ≤ 309) : Sm S S' := ⟨by rw [h.1], fun o i _ => by rw [h.1], fun o q => h.2 o (by
  refine Classical.byContradiction fun z => ?_
  have h3 : 230 ≤ o := by omega
  have h4 : o < 309 := by omega
  unfold Pm at q
  simp only [Bool.or_eq_true, Bool.and_eq_true, Nat.blt_eq, Nat.ble_eq, Nat.beq_eq] at q
  omega)⟩
/-- whether a lady stands at a mark, laced as told -/
def stF (S : GS) (b l : Nat) (m : Int32) : Bool := sd (S.1 319 (b + (29 + 5 * l + 3))) (S.1 319 (b + (29 + 5 * l + 2))) (S.1 319 (b + (9 + 2 * (S.1 319 (b + (29 + 5 * l + 0))).toNatClampNeg + 1))) (S.1 319 (b + (29 + 5 * l + 1))) m
theorem Lm.st {c : Nat} (hL : Lm S c l bu fa he la) (m : Int32) : sd bu fa he la m = stF S (69 * c) l m := by
  obtain ⟨h0, h1, h2, h3, r, h4, h5, h6⟩ := hL
  unfold stF
  rw [h1, h2, h3, h5, nI_clamp (by omega), h6]
abbrev laI (S : GS) (b j : Nat) : Nat := (S.1 322 (b + 2 + (3 * j + 0))).toNatClampNeg
abbrev miI (S : GS) (b j : Nat) : Nat := (S.1 322 (b + 2 + (3 * j + 1))).toNatClampNeg
def seP (S : GS) (b c i m j : Nat) : Bool := !decide (miI S b j = i) || (stF S c (laI S b j) (nI m) == decide (S.1 322 (b + 2 + (3 * j + 2)) = 0))
def ftP (S : GS) (b c ns i m : Nat) : Bool := alP (seP S b c i m) ns
theorem alP_n {q : Nat → Bool} {j : Nat} (h : q j = false) : ∀ n, j < n → alP q n = false
  | 0, hj => absurd hj (Nat.not_lt_zero _)
  | n + 1, hj => by
    show (alP q n && q n) = false
    by_cases z : j = n
    · rw [← z, h, Bool.and_false]
    · rw [alP_n h n (by omega), Bool.false_and]
theorem seen_v (h : LF S (19 + 21 * k) 3 20 322 (122 * k) (122 * k + 2) vSeen) {j : Nat} (hj : j < nr S (19 + 21 * k)) : (S.1 322 (122 * k + 2 + (3 * j + 0)) = nI (laI S (122 * k) j) ∧ laI S (122 * k) j ≤ 7) ∧ (S.1 322 (122 * k + 2 + (3 * j + 1)) = nI (miI S (122 * k) j) ∧ 1 ≤ miI S (122 * k) j ∧ miI S (122 * k) j ≤ 16) ∧ (S.1 322 (122 * k + 2 + (3 * j + 2)) = 0 ∨ S.1 322 (122 * k + 2 + (3 * j + 2)) = 1) := by
  obtain ⟨⟨i0, -, h0, e0⟩, ⟨i1, g1, h1, e1⟩, h2⟩ := h.2.2.2 j hj
  have e0 : S.1 322 (122 * k + 2 + (3 * j + 0)) = nI i0 := e0
  have e1 : S.1 322 (122 * k + 2 + (3 * j + 1)) = nI i1 := e1
  unfold laI miI
  rw [e0, e1, nI_clamp (by omega), nI_clamp (by omega)]
  exact ⟨⟨rfl, h0⟩, ⟨rfl, g1, h1⟩, In01 h2⟩
theorem agree_l (hW : Wr S) (hk : k < 2) (hcf : CF S co (69 * b)) (h : LF S (19 + 21 * k) 3 20 322 (122 * k) (122 * k + 2) vSeen) (hin : ∀ j, j < nr S (19 + 21 * k) → laI S (122 * k) j < nr S (co + 3)) {i m : Nat} (hi : i < 2 ^ 31) : ∀ (d j n : Nat), j + d = nr S (19 + 21 * k) → d < n → alP (seP S (122 * k) (69 * b) i m) j = true → f_X8_seenAgree_3 (18 + 21 * k) S n (some co) (nI i) (nI m) (nI j) = some (bi (ftP S (122 * k) (69 * b) (nr S (19 + 21 * k)) i m))
  | _, _, 0, _, hn, _ => absurd hn (Nat.not_lt_zero _)
  | 0, j, n + 1, hj, _, ha => by
    obtain ⟨s1, s2, s3⟩ := sight_k hW hk
    have := h.1.n40
    unfold ftP
    rw [f_X8_seenAgree_3, xR_s s1, s2, xI_s h.1.1, h.1.2.2.2.2.2.2.1, if_pos (nI_le (by omega) (by omega)), ← show j = nr S (19 + 21 * k) by omega, ha]
    rfl
  | d + 1, j, n + 1, hj, hn, ha => by
    obtain ⟨s1, s2, s3⟩ := sight_k hW hk
    have := h.1.n40
    have hj2 : j < nr S (19 + 21 * k) := by omega
    obtain ⟨⟨a1, a2⟩, ⟨a3, a4, a5⟩, a6⟩ := seen_v h hj2
    obtain ⟨bu, fa, he, la, hLw, hLm⟩ := hcf.lady (hin j hj2) rfl
    have ih := agree_l hW hk hcf h hin (i := i) (m := m) hi d (j + 1) n (by omega) (by omega)
    have c0 := h.2.2.1 j hj2 0 (by decide)
    have c1' := h.2.2.1 j hj2 1 (by decide)
    have c2' := h.2.2.1 j hj2 2 (by decide)
    have eal : alP (seP S (122 * k) (69 * b) i m) (j + 1) = (alP (seP S (122 * k) (69 * b) i m) j && seP S (122 * k) (69 * b) i m j) := rfl
    rw [eal, ha, Bool.true_and] at ih
    have hq : seP S (122 * k) (69 * b) i m j = (!decide (miI S (122 * k) j = i) || (sd bu fa he la (nI m) == decide (S.1 322 (122 * k + 2 + (3 * j + 2)) = 0))) := by
      unfold seP
      rw [hLm.st]
    have hfalse : seP S (122 * k) (69 * b) i m j = false → ftP S (122 * k) (69 * b) (nr S (19 + 21 * k)) i m = false := fun z => alP_n z _ hj2
    rw [f_X8_seenAgree_3, xR_s s1, s2, xI_s h.1.1, h.1.2.2.2.2.2.2.1, if_neg (nI_ge (by omega) (by omega)), xR_s s1, s2, c1_s h.1.1, h.1.cellL 1 1 rfl hj2 (by decide), b1_s, c1', a3, xR_s s1, s2, c1_s h.1.1, h.1.cellL 0 0 rfl hj2 (by decide), b1_s, c0, a1, xR_s hcf.1.1, hcf.1.2.2.1, c1_s hcf.rl.1, hLw.lace hcf.1, b1_s, c1_s hcf.1.1, hLw.standsAt hcf.1, b1_s, xR_s s1, s2, c1_s h.1.1, h.1.cellL 2 2 rfl hj2 (by decide), b1_s, c2']
    unfold f_X8_seenAgree_81 f_X8_seenAgree_86
    rw [nI_1]
    by_cases q : miI S (122 * k) j = i
    · rw [decide_eq_true q, Bool.not_true, Bool.false_or] at hq
      rw [if_pos (by rw [q])]
      rcases a6 with a6 | a6
      · rw [a6, decide_eq_true rfl] at hq
        rw [a6, if_neg (by decide)]
        cases hs : sd bu fa he la (nI m)
        · rw [hs] at hq
          rw [if_pos (show bi false = 0 from rfl), hfalse hq]
          rfl
        · rw [hs] at hq
          rw [if_neg (show ¬ bi true = 0 by decide)]
          exact ih hq
      · rw [a6, decide_eq_false (by decide)] at hq
        rw [a6, if_pos rfl]
        cases hs : sd bu fa he la (nI m)
        · rw [hs] at hq
          rw [if_neg (show ¬ bi false = 1 by decide)]
          exact ih hq
        · rw [hs] at hq
          rw [if_pos (show bi true = 1 from rfl), hfalse hq]
          rfl
    · rw [decide_eq_false q, Bool.not_false, Bool.true_or] at hq
      rw [if_neg (by rw [nI_eq (by omega) hi]; exact q)]
      exact ih hq
theorem agreeC (hW : Wr S) (hk : k < 2) (hcf : CF S co (69 * b)) (h : LF S (19 + 21 * k) 3 20 322 (122 * k) (122 * k + 2) vSeen) (hin : ∀ j, j < nr S (19 + 21 * k) → laI S (122 * k) j < nr S (co + 3)) {i m : Nat} (hi : i < 2 ^ 31) : f_X8_seenAgree (18 + 21 * k) (some co) (nI i) (nI m) S = some (bi (ftP S (122 * k) (69 * b) (nr S (19 + 21 * k)) i m)) :=
  agree_l hW hk hcf h hin hi (nr S (19 + 21 * k)) 0 fu (by omega) (by have := h.1.n40; unfold fu; omega) rfl
/-- all seen are there; the last minute -/
theorem areIn_l (hW : Wr S) (hk : k < 2) (hcf : CF S co (69 * b)) (h : LF S (19 + 21 * k) 3 20 322 (122 * k) (122 * k + 2) vSeen) : ∀ (d j n : Nat), j + d = nr S (19 + 21 * k) → d < n → alP (fun j => decide (laI S (122 * k) j < nr S (co + 3))) j = true → f_X8_seenAreIn_2 (18 + 21 * k) S n (some co) (nI j) = some (bi (alP (fun j => decide (laI S (122 * k) j < nr S (co + 3))) (nr S (19 + 21 * k))))
  | _, _, 0, _, hn, _ => absurd hn (Nat.not_lt_zero _)
  | 0, j, n + 1, hj, _, ha => by
    obtain ⟨s1, s2, s3⟩ := sight_k hW hk
    have := h.1.n40
    rw [f_X8_seenAreIn_2, xR_s s1, s2, xI_s h.1.1, h.1.2.2.2.2.2.2.1, if_pos (nI_le (by omega) (by omega)), ← show j = nr S (19 + 21 * k) by omega, ha]
    rfl
  | d + 1, j, n + 1, hj, hn, ha => by
    obtain ⟨s1, s2, s3⟩ := sight_k hW hk
    have := h.1.n40
    have hj2 : j < nr S (19 + 21 * k) := by omega
    obtain ⟨⟨a1, a2⟩, -, -⟩ := seen_v h hj2
    have ih := areIn_l hW hk hcf h d (j + 1) n (by omega) (by omega)
    have eal : alP (fun j => decide (laI S (122 * k) j < nr S (co + 3))) (j + 1) = (alP (fun j => decide (laI S (122 * k) j < nr S (co + 3))) j && decide (laI S (122 * k) j < nr S (co + 3))) := rfl
    rw [eal, ha, Bool.true_and] at ih
    have c0 := h.2.2.1 j hj2 0 (by decide)
    rw [f_X8_seenAreIn_2, xR_s s1, s2, xI_s h.1.1, h.1.2.2.2.2.2.2.1, if_neg (nI_ge (by omega) (by omega)), xR_s hcf.1.1, hcf.1.2.2.1, xR_s s1, s2, c1_s h.1.1, h.1.cellL 0 0 rfl hj2 (by decide), b1_s, c0, a1, c1_s hcf.rl.1, hcf.rl.has (by omega), b1_s, nI_1]
    by_cases q : laI S (122 * k) j < nr S (co + 3)
    · rw [if_pos q, if_neg n10]
      exact ih (decide_eq_true q)
    · rw [if_neg q, if_pos rfl, alP_n (q := fun j => decide (laI S (122 * k) j < nr S (co + 3))) (j := j) (decide_eq_false q) _ hj2]
      rfl
abbrev laM (S : GS) (b n : Nat) : Nat := mx (fun _ => true) (miI S b) n
theorem laM_le (h : LF S (19 + 21 * k) 3 20 322 (122 * k) (122 * k + 2) vSeen) {n : Nat} (hn : n ≤ nr S (19 + 21 * k)) : laM S (122 * k) n ≤ 16 := mx_le n fun j hj _ => (seen_v h (by omega)).2.1.2.2
theorem laM_s (S : GS) (b n : Nat) : laM S b (n + 1) = if laM S b n < miI S b n then miI S b n else laM S b n := if_pos rfl
theorem lastC_l (hW : Wr S) (hk : k < 2) (h : LF S (19 + 21 * k) 3 20 322 (122 * k) (122 * k + 2) vSeen) : ∀ (d j n : Nat), j + d = nr S (19 + 21 * k) → d < n → f_X8_lastMinute_4 (18 + 21 * k) S n (nI (laM S (122 * k) j)) (nI j) = some (nI (laM S (122 * k) (nr S (19 + 21 * k))))
  | _, _, 0, _, hn => absurd hn (Nat.not_lt_zero _)
  | 0, j, n + 1, hj, _ => by
    obtain ⟨s1, s2, s3⟩ := sight_k hW hk
    have := h.1.n40
    rw [f_X8_lastMinute_4, xR_s s1, s2, xI_s h.1.1, h.1.2.2.2.2.2.2.1, if_pos (nI_le (by omega) (by omega)), ← show j = nr S (19 + 21 * k) by omega]
  | d + 1, j, n + 1, hj, hn => by
    obtain ⟨s1, s2, s3⟩ := sight_k hW hk
    have := h.1.n40
    have hj2 : j < nr S (19 + 21 * k) := by omega
    obtain ⟨-, ⟨a3, a4, a5⟩, -⟩ := seen_v h hj2
    have hm := laM_le h (n := j) (by omega)
    have c1' := h.2.2.1 j hj2 1 (by decide)
    rw [f_X8_lastMinute_4, xR_s s1, s2, xI_s h.1.1, h.1.2.2.2.2.2.2.1, if_neg (nI_ge (by omega) (by omega)), xR_s s1, s2, c1_s h.1.1, h.1.cellL 1 1 rfl hj2 (by decide), b1_s, c1', a3, jmax_n (by omega) (by omega), ← laM_s, nI_1, lastC_l hW hk h d (j + 1) n (by omega) (by omega)]
theorem lastC (hW : Wr S) (hk : k < 2) (h : LF S (19 + 21 * k) 3 20 322 (122 * k) (122 * k + 2) vSeen) : f_X8_lastMinute (18 + 21 * k) S = some (nI (laM S (122 * k) (nr S (19 + 21 * k)))) :=
  lastC_l hW hk h (nr S (19 + 21 * k)) 0 fu (by omega) (by have := h.1.n40; unfold fu; omega)
/-! the class's tables -/
theorem row_k : ∀ i, i < 17 → (gRf 272 i = some (273 + i) ∧ kd (273 + i) = 14 ∧ ln (273 + i) = 41) ∧ gRf 290 i = some (291 + i) ∧ kd (291 + i) = 14 ∧ ln (291 + i) = 41 := by decide +kernel
theorem y272 {α : Type} (hW : Wr S) {i : Nat} (hi : i < 17) {g : Option Nat → Option α} : yR (some 272) 21 (nI i) S g = g (some (273 + i)) := by
  rw [yR_w (o := 272) (c := 21) hW (by decide) rfl (n := 17) rfl hi (by omega) (by decide), (row_k i hi).1.1]
theorem y290 {α : Type} (hW : Wr S) {i : Nat} (hi : i < 17) {g : Option Nat → Option α} : yR (some 290) 21 (nI i) S g = g (some (291 + i)) := by
  rw [yR_w (o := 290) (c := 21) hW (by decide) rfl (n := 17) rfl hi (by omega) (by decide), (row_k i hi).2.1]
theorem g273 (hW : Wr S) {i : Nat} (hi : i < 17) : gk S (273 + i) = 14 := gk_n hW (by omega) (row_k i hi).1.2.1
theorem g291 (hW : Wr S) {i : Nat} (hi : i < 17) : gk S (291 + i) = 14 := gk_n hW (by omega) (row_k i hi).2.2.1
/-- a row of numbers -/
def Ni (S : GS) (a : Nat) (F : Nat → Nat) : Prop := ∀ j, j < 41 → S.1 a j = nI (F j)
theorem near_s {a m : Nat} {f : Nat → Nat} (hg : gk S a = 14) (hl : ln a = 41) (hf : Ni S a f) (hm : m < 41) {j n : Nat} (hj : j < 41) (h1 : j ≤ m + 1) (x : Nat) : f_X10_nearTo_6 S (n + 1) (some a) (nI m) (nI x) (nI j) = f_X10_nearTo_6 S n (some a) (nI m) (nI (x + f j)) (nI (j + 1)) := by
  rw [f_X10_nearTo_6, nI_1, if_neg (nI_nlt h1 (by omega)), if_neg (nI_pos (by omega)), xl_s hg, hl, if_neg (nI_ge hj (by decide)), yI_n hg (by rw [hl]; exact hj) (by omega), hf j hj, nI_add]
  unfold f_X10_nearTo_29
  rw [nI_1]
theorem near_e {a m : Nat} {n : Nat} (x : Int32) (hm : m < 41) : f_X10_nearTo_6 S (n + 1) (some a) (nI m) x (nI (m + 2)) = some x := by
  rw [f_X10_nearTo_6, nI_1, if_pos (nI_lt (by omega) (by omega))]
theorem nearC {a m : Nat} {f : Nat → Nat} (hg : gk S a = 14) (hl : ln a = 41) (hf : Ni S a f) (hm : m < 41) : f_X10_nearTo (some a) (nI m) S = some (nI (nearN f m)) := by
  unfold f_X10_nearTo nearN
  show f_X10_nearTo_6 S (4092 + 1 + 1 + 1 + 1) (some a) (nI m) (nI 0) (nI m - 1) = _
  by_cases q : m = 0
  · subst q
    rw [f_X10_nearTo_6, if_neg (by decide), if_pos (by decide)]
    unfold f_X10_nearTo_29
    rw [show (nI 0 - 1 + 1 : Int32) = nI 0 by decide, near_s hg hl hf hm (by decide) (by decide), near_s hg hl hf hm (by decide) (by decide), near_e _ hm, Nat.zero_add, if_pos rfl]
  · rw [if_neg q, show nI m - 1 = nI (m - 1) from nI_sub (b := 1) (by omega), near_s hg hl hf hm (by omega) (by omega), show m - 1 + 1 = m by omega, near_s hg hl hf hm hm (by omega)]
    by_cases z : m = 40
    · subst z
      rw [if_pos rfl, f_X10_nearTo_6, if_neg (by decide), if_neg (by decide), xl_s hg, hl, if_pos (by decide)]
      unfold f_X10_nearTo_29
      rw [nI_1, show 40 + 1 + 1 = 40 + 2 from rfl, near_e _ hm, Nat.zero_add]
    · rw [if_neg z, near_s hg hl hf hm (by omega) (by omega), show m + 1 + 1 = m + 2 from rfl, near_e _ hm, Nat.zero_add]
theorem come51 {k : Nat} {K : Option Nat → Option Nat → Int32 → GS → Option GS} {i : Nat} (hi : i < 16) {A : Nat → Nat} (hA : ∀ j, j < 41 → nearN A j < 2 ^ 31) {ft : Nat → Nat → Bool} : ∀ (d m n : Nat) (S : GS), Wr S → k < 2 → (∀ S', Of (273 + (i + 1)) S S' → ∀ m, m < 41 → f_X8_seenAgree (18 + 21 * k) (some co) (nI (i + 1)) (nI m) S' = some (bi (ft (i + 1) m))) → Ni S (273 + i) A → (∀ j, j < m → S.1 (273 + (i + 1)) j = nI (if ft (i + 1) j = true then nearN A j else 0)) → m + d = 41 → d < n → ∃ S', f_X10_come_51 K 271 n (some co) (some (18 + 21 * k)) (nI (i + 1)) (nI m) S = K (some co) (some (18 + 21 * k)) (nI (i + 2)) S' ∧ Of (273 + (i + 1)) S S' ∧ Ni S' (273 + (i + 1)) (fun j => if ft (i + 1) j = true then nearN A j else 0)
  | _, _, 0, _, _, _, _, _, _, _, hn => absurd hn (Nat.not_lt_zero _)
  | 0, m, n + 1, S, hW, hk, hft, h1, h2, hm, _ => by
    refine ⟨S, ?_, Of.rf _ _, fun j hj => h2 j (by omega)⟩
    rw [f_X10_come_51, if_pos (show (40 : Int32) < nI m from nI_lt (a := 40) (by omega) (by omega)), nI_1]
  | d + 1, m, n + 1, S, hW, hk, hft, h1, h2, hm, hn => by
    generalize hS1 : sI S (273 + (i + 1)) m (nI (if ft (i + 1) m = true then nearN A m else 0)) = S1
    have o1 : Of (273 + (i + 1)) S S1 := by rw [← hS1]; exact of_I
    have hW1 := o1.wr hW
    obtain ⟨S', k1, k2, k3⟩ := come51 hi hA (K := K) d (m + 1) n S1 hW1 hk (fun S' hO => hft S' (o1.tr hO)) (by intro j hj; rw [o1.2 _ (by omega)]; exact h1 j hj) (fun j hj => by
      rw [← hS1, sI_at]
      by_cases q : j = m
      · rw [if_pos q, q]
      · rw [if_neg q]
        exact h2 j (by omega)) (by omega) (by omega)
    refine ⟨S', ?_, o1.tr k2, k3⟩
    obtain ⟨r1, r2, r3⟩ := (row_k i (by omega)).1
    obtain ⟨q1, q2, q3⟩ := (row_k (i + 1) (by omega)).1
    have hput (x : Int32) : qI (some (273 + (i + 1))) (nI m) x S (fun S1 => f_X10_come_51 K 271 n (some co) (some (18 + 21 * k)) (nI (i + 1)) (nI m + 1) S1) = f_X10_come_51 K 271 n (some co) (some (18 + 21 * k)) (nI (i + 1)) (nI (m + 1)) (sI S (273 + (i + 1)) m x) := by
      rw [qI_n (g273 hW (by omega)) (by rw [q3]; omega) (by omega), nI_1]
    have hb := hA m (by omega)
    have e94 (x5 y0 : Int32) : f_X10_come_94 K (f_X10_come_51 K 271 n) 271 (some co) (some (18 + 21 * k)) (nI (i + 1)) (nI m) x5 y0 S = if y0 = 0 then f_X10_come_51 K 271 n (some co) (some (18 + 21 * k)) (nI (i + 1)) (nI (m + 1)) (sI S (273 + (i + 1)) m 0) else f_X10_come_51 K 271 n (some co) (some (18 + 21 * k)) (nI (i + 1)) (nI (m + 1)) (sI S (273 + (i + 1)) m x5) := by
      unfold f_X10_come_94 f_X10_come_115
      rw [r_271_0 hW, y272 hW (by omega), hput, hput]
    rw [f_X10_come_51, if_neg (show ¬ (40 : Int32) < nI m from nI_nlt (a := 40) (by omega) (by omega)), r_271_0 hW, nI_pred, y272 hW (by omega), nearC (g273 hW (by omega)) r3 h1 (by omega), b1_s, c1_s (sight_k hW hk).1, hft S (Of.rf _ _) m (by omega), b1_s]
    unfold f_X10_come_93
    rw [e94, e94, if_pos rfl, if_neg n10]
    by_cases q : nearN A m = 0
    · rw [q, if_pos nI_0, ← k1, ← hS1, q]
      congr 2
      split <;> rfl
    · rw [if_neg (by rw [← nI_0, nI_eq hb (by decide)]; exact q)]
      cases hf : ft (i + 1) m
      · rw [if_pos (show bi false = 0 from rfl), ← k1, ← hS1, hf, if_neg Bool.false_ne_true]
        rfl
      · rw [if_neg (show ¬ bi true = 0 by decide), ← k1, ← hS1, hf, if_pos rfl]
end WY
