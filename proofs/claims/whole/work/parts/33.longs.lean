/-! longs: one object's longs alone are written -/
def OfJ (a : Nat) (S S' : GS) : Prop := S'.1 = S.1 ∧ S'.2.2 = S.2.2 ∧ ∀ o, o ≠ a → S'.2.1 o = S.2.1 o
theorem OfJ.rf (a : Nat) (S : GS) : OfJ a S S := ⟨rfl, rfl, fun _ _ => rfl⟩
theorem OfJ.tr {a : Nat} {S S1 S2 : GS} (h : OfJ a S S1) (h2 : OfJ a S1 S2) : OfJ a S S2 := ⟨h2.1.trans h.1, h2.2.1.trans h.2.1, fun o q => (h2.2.2 o q).trans (h.2.2 o q)⟩
theorem ofJ_J {a i : Nat} {v : Int64} {S : GS} : OfJ a S (sJ S a i v) := ⟨rfl, rfl, fun o q => by
  funext j
  show (if o = a ∧ j = i then v else S.2.1 o j) = _
  rw [if_neg (fun z => q z.1)]⟩
theorem OfJ.wr {a : Nat} {S S' : GS} (h : OfJ a S S') (hW : Wr S) : Wr S' := by
  unfold Wr
  rw [h.2.1]
  exact hW
theorem OfJ.sm {a : Nat} {S S' : GS} (h : OfJ a S S') : Sm S S' := ⟨by rw [h.2.1], fun o i _ => by rw [h.2.1], fun o _ => by rw [h.1]⟩
theorem sJ_at {S : GS} {a i j : Nat} {v : Int64} : (sJ S a i v).2.1 a j = if j = i then v else S.2.1 a j := by
  show (if a = a ∧ j = i then v else S.2.1 a j) = _
  by_cases q : j = i
  · rw [if_pos ⟨rfl, q⟩, if_pos q]
  · rw [if_neg (fun z => q z.2), if_neg q]
theorem sJ_o {S : GS} {a i : Nat} {v : Int64} {o : Nat} (h : o ≠ a) : (sJ S a i v).2.1 o = S.2.1 o := by
  funext j
  show (if o = a ∧ j = i then v else S.2.1 o j) = _
  rw [if_neg (fun z => h z.1)]
theorem fillJ_l {a : Nat} {v : Int64} {N : Nat} (hl : ln a = N) (hN : N < 2 ^ 31) : ∀ (d j n : Nat) (S : GS), gk S a = 15 → j + d = N → d < n → ∃ S', f_J7_fill_d0a16_6 n (some a) v (nI j) (nI N) S = some S' ∧ OfJ a S S' ∧ (∀ i, j ≤ i → i < N → S'.2.1 a i = v) ∧ ∀ i, i < j ∨ N ≤ i → S'.2.1 a i = S.2.1 a i
  | _, _, 0, _, _, _, hn => absurd hn (Nat.not_lt_zero _)
  | 0, j, n + 1, S, hg, hj, _ => by
    refine ⟨S, ?_, OfJ.rf _ _, fun i h1 h2 => by omega, fun i _ => rfl⟩
    rw [f_J7_fill_d0a16_6, if_pos (nI_le (by omega) (by omega))]
  | d + 1, j, n + 1, S, hg, hj, hn => by
    obtain ⟨S', g1, g2, g3, g4⟩ := fillJ_l hl hN (v := v) d (j + 1) n (sJ S a j v) hg (by omega) (by omega)
    refine ⟨S', ?_, ofJ_J.tr g2, fun i h1 h2 => ?_, fun i h => ?_⟩
    · rw [f_J7_fill_d0a16_6, if_neg (nI_ge (by omega) hN), qJ_n hg (by omega) (by omega), nI_1, g1]
    · by_cases q : i = j
      · rw [g4 i (by omega), sJ_at, if_pos q]
      · exact g3 i (by omega) h2
    · rw [g4 i (by omega), sJ_at, if_neg (by omega)]
theorem fillJ_v {S : GS} {a : Nat} (v : Int64) {N : Nat} (hl : ln a = N) (hN : N < 4096) (hg : gk S a = 15) : ∃ S', f_J7_fill_d0a16 (some a) v S = some S' ∧ OfJ a S S' ∧ (∀ i, i < N → S'.2.1 a i = v) := by
  obtain ⟨S', g1, g2, g3, -⟩ := fillJ_l hl (by omega) (v := v) N 0 fu S hg (by omega) (by unfold fu; omega)
  refine ⟨S', ?_, g2, fun i hi => g3 i (by omega) hi⟩
  unfold f_J7_fill_d0a16
  rw [xl_s hg, hl]
  exact g1
