/-! what a court, a sight tells of itself -/
theorem nI_div {a b : Nat} (ha : a < 2 ^ 31) (hb : b < 2 ^ 31) : nI a / nI b = nI (a / b) := by
  apply Int32.toInt_inj.mp
  have h : a / b < 2 ^ 31 := Nat.lt_of_le_of_lt (Nat.div_le_self a b) ha
  rw [Int32.toInt_div, nI_toInt ha, nI_toInt hb, nI_toInt h, ← Int.ofNat_tdiv]
  generalize a / b = q at h ⊢
  rw [Int.bmod_eq_of_le] <;> simp <;> omega
theorem nI_rem {a b : Nat} (ha : a < 2 ^ 31) (hb : b < 2 ^ 31) : jrem (nI a) (nI b) = nI (a % b) := by
  unfold jrem
  rw [nI_div ha hb, nI_mul, nI_sub (Nat.div_mul_le_self a b)]
  congr 1
  have := Nat.div_add_mod a b
  rw [Nat.mul_comm] at this
  omega
theorem in_y {S : GS} {k a b : Nat} (h1 : a ≤ k) (h2 : k ≤ b) (hb : b < 2 ^ 31) : f_X12_in (nI k) (nI a) (nI b) S = some 1 := by
  rw [m_in, if_neg (nI_nlt h1 (by omega)), if_neg (nI_nlt h2 (by omega))]
theorem in_n {S : GS} {k a b : Nat} (h : k < a ∨ b < k) (hk : k < 2 ^ 31) (ha : a < 2 ^ 31) : f_X12_in (nI k) (nI a) (nI b) S = some 0 := by
  rw [m_in]
  by_cases q : k < a
  · rw [if_pos (nI_lt q ha)]
  · rw [if_neg (nI_nlt (by omega) (by omega)), if_pos (nI_lt (by omega) hk)]
theorem in_neg {S : GS} {x : Int32} {a : Nat} {b : Int32} (hx : x < 0) (ha : a < 2 ^ 31) : f_X12_in x (nI a) b S = some 0 := by
  have : x < nI a := by
    rw [Int32.lt_iff_toInt_lt] at hx ⊢
    rw [nI_toInt ha]
    have e0 : (0 : Int32).toInt = 0 := by decide
    omega
  rw [m_in, if_pos this]
section TE
variable {S S' : GS} {o b k l : Nat} {c : Int32}
/-- what a court tells of itself, by number -/
def tellV (S : GS) (b nro nst w : Nat) (pr : Int32) : Int32 := if w < 9 then S.1 319 (b + w) else if w < 10 then -1 else if w < 20 then (if w - 10 < nro then S.1 319 (b + 9 + (2 * (w - 10) + 0)) else -1) else if w < 30 then (if w - 20 < nro then S.1 319 (b + 9 + (2 * (w - 20) + 1)) else -1) else if w < 40 then (if w - 30 < nst then S.1 319 (b + 17 + (2 * (w - 30) + 0)) else -1) else if w < 100 then (if w - 40 < nst then S.1 319 (b + 17 + (2 * (w - 40) + 1)) else -1) else if w < 141 then pr else -1
def propC (S : GS) (b n : Nat) (mark : Int32) : Int32 := propV (fun j => S.1 319 (b + (17 + 2 * j + 1))) (propS (fun j => S.1 319 (b + (17 + 2 * j))) mark n 0 none)
theorem propS_c (f g : Nat → Int32) (mark : Int32) : ∀ (d k : Nat) (b : Option Nat) (n : Nat), k + d = n → (∀ j, j < n → f j = g j) → (∀ j, b = some j → j < n) → propS f mark d k b = propS g mark d k b ∧ ∀ j, propS g mark d k b = some j → j < n
  | 0, k, b, n, hk, hf, hb => ⟨rfl, hb⟩
  | d + 1, k, b, n, hk, hf, hb => by
    have e : propN f mark k b = propN g mark k b := by
      cases b with
      | none => show (if mark < f k then none else some k) = (if mark < g k then none else some k); rw [hf k (by omega)]
      | some j => show (if mark < f k then some j else if f k ≤ f j then some j else some k) = (if mark < g k then some j else if g k ≤ g j then some j else some k); rw [hf k (by omega), hf j (hb j rfl)]
    have hb2 : ∀ j, propN g mark k b = some j → j < n := by
      intro j hj
      cases b with
      | none =>
        have hj : (if mark < g k then none else some k) = some j := hj
        split at hj
        · cases hj
        · cases hj; omega
      | some i =>
        have hi := hb i rfl
        have hj : (if mark < g k then some i else if g k ≤ g i then some i else some k) = some j := hj
        split at hj
        · cases hj; exact hi
        · split at hj
          · cases hj; exact hi
          · cases hj; omega
    show propS f mark d (k + 1) (propN f mark k b) = propS g mark d (k + 1) (propN g mark k b) ∧ _
    rw [e]
    exact propS_c f g mark d (k + 1) _ n (by omega) hf hb2
theorem CF.properC (h : CF S o b) (mark : Int32) : f_X0_properAt o mark S = some (propC S b (nr S (o + 5)) mark) := by
  obtain ⟨f0, f1, f2, f3, f4, f5, f6, f7, f8, f9, -⟩ := h
  have e0 : ∀ j, j < nr S (o + 5) → S.1 (o + 6) (2 * j) = S.1 319 (b + (17 + 2 * j)) := fun j hj => by
    rw [show b + (17 + 2 * j) = b + 17 + (2 * j + 0) by omega]
    exact f6 j hj 0 (by decide)
  have e1 : ∀ j, j < nr S (o + 5) → S.1 (o + 6) (2 * j + 1) = S.1 319 (b + (17 + 2 * j + 1)) := fun j hj => by
    rw [show b + (17 + 2 * j + 1) = b + 17 + (2 * j + 1) by omega]
    exact f6 j hj 1 (by decide)
  rw [f0.proper (fun j hj => by
    rw [e0 j hj, show b + (17 + 2 * j) = b + 17 + (2 * j + 0) by omega]
    obtain ⟨m, -, hm, e⟩ := (f9 j hj).1
    have e : S.1 319 (b + 17 + (2 * j + 0)) = nI m := e
    rw [e]
    exact nI_pos (by omega)) mark]
  obtain ⟨g1, g2⟩ := propS_c (fun j => S.1 (o + 6) (2 * j)) (fun j => S.1 319 (b + (17 + 2 * j))) mark (nr S (o + 5)) 0 none (nr S (o + 5)) (by omega) e0 (fun j h => nomatch h)
  unfold propC
  rw [g1]
  generalize propS (fun j => S.1 319 (b + (17 + 2 * j))) mark (nr S (o + 5)) 0 none = r at g2
  cases r with
  | none => rfl
  | some j => exact congrArg some (e1 j (g2 j rfl))
theorem Mc.properM {c : Nat} (hM : Mc S c) {ns : Nat} (hs : ns ≤ 6) (h2 : S.1 319 (69 * c + 2) = nI ns) (mark : Int32) : f_X12_properAt 313 mark S = some (propC S (69 * c) ns mark) := hM.proper hs h2 mark
theorem CF.ro (h : CF S o b) : Rw S (o + 1) 4 2 := h.1.2.2.2.2.2.2.2.1
theorem CF.st (h : CF S o b) : Rw S (o + 5) 6 2 := h.1.2.2.2.2.2.2.2.2.2
theorem Rw.cellQ {m w : Nat} (h : Rw S o m w) {k : Nat} (hk : k < 2 ^ 31) (c : Int32) (i : Nat) (hc : c = nI i) (hi : i < w) {f : Nat → Int32} (hf : ∀ k, k < nr S o → S.1 (o + 1) (w * k + i) = f k) : f_X7_cell o (nI k) c S = some (if k < nr S o then f k else -1) := by
  by_cases q : k < nr S o
  · rw [if_pos q, h.cellL c i hc q hi, hf k q]
  · rw [if_neg q, h.cellO hk (by omega)]
theorem nI_litsub {w : Nat} (c : Int32) (a : Nat) (hc : c = nI a) (h : a ≤ w) : nI w - c = nI (w - a) := by
  rw [hc]
  exact nI_sub h
theorem CF.tell (h : CF S o b) {w : Nat} (hw : w < 2 ^ 31) : f_X0_tell o (nI w) S = some (tellV S b (nr S (o + 1)) (nr S (o + 5)) w (propC S b (nr S (o + 5)) (nI (w - 100)))) := by
  have c0 := h.1.1
  have hro := h.ro
  have hst := h.st
  obtain ⟨f0, f1, f2, f3, f4, f5, f6, f7, f8, f9, g4, g5, g6, g7, g8, g9⟩ := id h
  obtain ⟨-, c1, c2, c3, c4, c5, c6, -, -, -⟩ := f0
  unfold f_X0_tell tellV
  by_cases q9 : w < 9
  · rw [if_pos q9, if_pos (show nI w < (100 : Int32) from nI_lt (b := 100) (by omega) (by omega)), if_pos (show nI w < (40 : Int32) from nI_lt (b := 40) (by omega) (by omega)), if_pos (show nI w < (30 : Int32) from nI_lt (b := 30) (by omega) (by omega)), if_pos (show nI w < (20 : Int32) from nI_lt (b := 20) (by omega) (by omega)), if_pos (show nI w < (10 : Int32) from nI_lt (b := 10) (by omega) (by omega)), c1_s c0]
    unfold f_X0_tellWhole f_X0_tellWhole_91
    rw [tsw_in (by show w < 9; exact q9) (by show 9 < 1000; decide)]
    rcases (show w = 0 ∨ w = 1 ∨ w = 2 ∨ w = 3 ∨ w = 4 ∨ w = 5 ∨ w = 6 ∨ w = 7 ∨ w = 8 by omega) with rfl | rfl | rfl | rfl | rfl | rfl | rfl | rfl | rfl <;> simp only [List.getD_cons_zero, List.getD_cons_succ]
    · rw [xR_s c0, c1, xI_s hro.1, b1_s, hro.2.2.2.2.2.2.1, ← f1]
      rfl
    · rw [xR_s c0, c2, xI_s h.rl.1, b1_s, h.rl.2.2.2.2.2.2.1, ← f2]
    · rw [xR_s c0, c3, xI_s hst.1, b1_s, hst.2.2.2.2.2.2.1, ← f3]
    · rw [xI_s c0, b1_s, g4]
    · rw [xI_s c0, b1_s, g5]
    · rw [xI_s c0, b1_s, g6]
    · rw [xR_s c0, c4, show nI 6 - 6 = nI 0 by decide, yI_n c5 (by rw [c6]; decide) (by decide), b1_s, g7]
    · rw [xR_s c0, c4, show nI 7 - 6 = nI 1 by decide, yI_n c5 (by rw [c6]; decide) (by decide), b1_s, g8]
    · rw [xR_s c0, c4, show nI 8 - 6 = nI 2 by decide, yI_n c5 (by rw [c6]; decide) (by decide), b1_s, g9]
  · rw [if_neg q9]
    by_cases q10 : w < 10
    · rw [if_pos q10, if_pos (show nI w < (100 : Int32) from nI_lt (b := 100) (by omega) (by omega)), if_pos (show nI w < (40 : Int32) from nI_lt (b := 40) (by omega) (by omega)), if_pos (show nI w < (30 : Int32) from nI_lt (b := 30) (by omega) (by omega)), if_pos (show nI w < (20 : Int32) from nI_lt (b := 20) (by omega) (by omega)), if_pos (show nI w < (10 : Int32) from nI_lt (b := 10) (by omega) (by omega)), c1_s c0]
      unfold f_X0_tellWhole
      rw [tsw_out (n := 9) (Or.inr ⟨w, hw, rfl, by omega⟩) rfl (by decide), b1_s]
    · rw [if_neg q10]
      by_cases q20 : w < 20
      · rw [if_pos q20, if_pos (show nI w < (100 : Int32) from nI_lt (b := 100) (by omega) (by omega)), if_pos (show nI w < (40 : Int32) from nI_lt (b := 40) (by omega) (by omega)), if_pos (show nI w < (30 : Int32) from nI_lt (b := 30) (by omega) (by omega)), if_pos (show nI w < (20 : Int32) from nI_lt (b := 20) (by omega) (by omega)), if_neg (show ¬ nI w < (10 : Int32) from nI_nlt (b := 10) (by omega) (by omega)), xR_s c0, c1, c1_s hro.1, nI_litsub 10 10 rfl (by omega), hro.cellQ (by omega) 0 0 rfl (by decide) (fun k hk => f4 k hk 0 (by decide)), b1_s]
      · rw [if_neg q20]
        by_cases q30 : w < 30
        · rw [if_pos q30, if_pos (show nI w < (100 : Int32) from nI_lt (b := 100) (by omega) (by omega)), if_pos (show nI w < (40 : Int32) from nI_lt (b := 40) (by omega) (by omega)), if_pos (show nI w < (30 : Int32) from nI_lt (b := 30) (by omega) (by omega)), if_neg (show ¬ nI w < (20 : Int32) from nI_nlt (b := 20) (by omega) (by omega)), xR_s c0, c1, c1_s hro.1, nI_litsub 20 20 rfl (by omega), hro.cellQ (by omega) 1 1 rfl (by decide) (fun k hk => f4 k hk 1 (by decide)), b1_s]
        · rw [if_neg q30]
          by_cases q40 : w < 40
          · rw [if_pos q40, if_pos (show nI w < (100 : Int32) from nI_lt (b := 100) (by omega) (by omega)), if_pos (show nI w < (40 : Int32) from nI_lt (b := 40) (by omega) (by omega)), if_neg (show ¬ nI w < (30 : Int32) from nI_nlt (b := 30) (by omega) (by omega)), xR_s c0, c3, c1_s hst.1, nI_litsub 30 30 rfl (by omega), hst.cellQ (by omega) 0 0 rfl (by decide) (fun k hk => f6 k hk 0 (by decide)), b1_s]
          · rw [if_neg q40]
            by_cases q100 : w < 100
            · rw [if_pos q100, if_pos (show nI w < (100 : Int32) from nI_lt (b := 100) (by omega) (by omega)), if_neg (show ¬ nI w < (40 : Int32) from nI_nlt (b := 40) (by omega) (by omega)), xR_s c0, c3, c1_s hst.1, nI_litsub 40 40 rfl (by omega), hst.cellQ (by omega) 1 1 rfl (by decide) (fun k hk => f6 k hk 1 (by decide)), b1_s]
            · rw [if_neg q100, if_neg (show ¬ nI w < (100 : Int32) from nI_nlt (b := 100) (by omega) (by omega)), nI_litsub 100 100 rfl (by omega), isMark_q (S' := S)]
              by_cases q141 : w < 141
              · rw [if_pos q141, show f_X12_in (nI (w - 100)) 0 40 S = some 1 from in_y (a := 0) (b := 40) (by omega) (by omega) (by omega), b1_s, if_neg n10, c1_s c0, h.properC, b1_s]
              · rw [if_neg q141, show f_X12_in (nI (w - 100)) 0 40 S = some 0 from in_n (a := 0) (b := 40) (by omega) (by omega) (by omega), b1_s, if_pos rfl]
end TE
