/-! rows filled; the rota's bits by minute -/
section RO
variable {S S' : GS} {o b k l : Nat} {c : Int32}
theorem of_gk {a : Nat} (h : Of a S S') (x : Nat) : gk S' x = gk S x := by
  unfold gk
  rw [h.1]
theorem Rw.of {a m w : Nat} (h : Rw S o m w) (hO : Of a S S') (h1 : o ≠ a) (h2 : o + 1 ≠ a) : Rw S' o m w ∧ nr S' o = nr S o ∧ S'.1 (o + 1) = S.1 (o + 1) := by
  have e : nr S' o = nr S o := by
    unfold nr
    rw [hO.2 o h1]
  refine ⟨?_, e, hO.2 (o + 1) h2⟩
  obtain ⟨c0, c1, c2, c3, c4, c5, c6, c7, c8, c9⟩ := h
  refine ⟨by rw [of_gk hO]; exact c0, by rw [of_gk hO]; exact c1, c2, by rw [hO.1]; exact c3, by rw [hO.2 o h1]; exact c4, by rw [hO.2 o h1]; exact c5, by rw [hO.2 o h1, e]; exact c6, by rw [e]; exact c7, c8, c9⟩
theorem fill_l {a : Nat} {v : Int32} {N : Nat} (hl : ln a = N) (hN : N < 2 ^ 31) : ∀ (d j n : Nat) (S : GS), gk S a = 14 → j + d = N → d < n → ∃ S', f_J7_fill_53178_5 n (some a) v (nI j) (nI N) S = some S' ∧ Of a S S' ∧ (∀ i, j ≤ i → i < N → S'.1 a i = v) ∧ ∀ i, i < j ∨ N ≤ i → S'.1 a i = S.1 a i
  | _, _, 0, _, _, _, hn => absurd hn (Nat.not_lt_zero _)
  | 0, j, n + 1, S, hg, hj, _ => by
    refine ⟨S, ?_, Of.rf _ _, fun i h1 h2 => by omega, fun i _ => rfl⟩
    rw [f_J7_fill_53178_5, if_pos (nI_le (by omega) (by omega))]
  | d + 1, j, n + 1, S, hg, hj, hn => by
    obtain ⟨S', g1, g2, g3, g4⟩ := fill_l hl hN (v := v) d (j + 1) n (sI S a j v) hg (by omega) (by omega)
    refine ⟨S', ?_, of_I.tr g2, fun i h1 h2 => ?_, fun i h => ?_⟩
    · rw [f_J7_fill_53178_5, if_neg (nI_ge (by omega) hN), qI_n hg (by omega) (by omega), nI_1, g1]
    · by_cases q : i = j
      · rw [g4 i (by omega), sI_at, if_pos q]
      · exact g3 i (by omega) h2
    · rw [g4 i (by omega), sI_at, if_neg (by omega)]
theorem fill_v {a : Nat} (v : Int32) {N : Nat} (hl : ln a = N) (hN : N < 4096) (hg : gk S a = 14) : ∃ S', f_J7_fill_53178 (some a) v S = some S' ∧ Of a S S' ∧ (∀ i, i < N → S'.1 a i = v) := by
  obtain ⟨S', g1, g2, g3, -⟩ := fill_l hl (by omega) (v := v) N 0 fu S hg (by omega) (by unfold fu; omega)
  refine ⟨S', ?_, g2, fun i hi => g3 i (by omega) hi⟩
  unfold f_J7_fill_53178
  rw [xl_s hg, hl]
  exact g1
def rP (f t m : Nat) : Bool := decide (f ≤ m ∧ m ≤ t)
theorem begin20 {f t : Nat} (hf : f ≤ 30) (ht : t ≤ 30) (hk : k < 10) {K : Option Nat → Int32 → GS → Option GS} {A : Nat → Nat} : ∀ (d j n : Nat) (S : GS), Wr S → (∀ S', Of 312 S S' → gk S' o = 7 ∧ f_X7_cell o (nI k) 0 S' = some (nI f) ∧ f_X7_cell o (nI k) 1 S' = some (nI t)) → (∀ m, j ≤ m → m < 31 → S.1 312 m = nI (A m) ∧ A m < 2 ^ k) → j + d = 31 → d < n → ∃ S', f_X6_begin_20 K 311 n (some o) (nI k) (nI j) S = K (some o) (nI (k + 1)) S' ∧ Of 312 S S' ∧ (∀ m, j ≤ m → m < 31 → S'.1 312 m = nI (if rP f t m = true then A m + 2 ^ k else A m)) ∧ ∀ m, m < j → S'.1 312 m = S.1 312 m
  | _, _, 0, _, _, _, _, _, hn => absurd hn (Nat.not_lt_zero _)
  | 0, j, n + 1, S, hW, hc, hA, hj, _ => by
    refine ⟨S, ?_, Of.rf _ _, fun m h1 h2 => by omega, fun m _ => rfl⟩
    rw [f_X6_begin_20, if_pos (show (30 : Int32) < nI j from nI_lt (a := 30) (by omega) (by omega)), nI_1]
  | d + 1, j, n + 1, S, hW, hc, hA, hj, hn => by
    obtain ⟨c0, c1, c2⟩ := hc S (Of.rf _ _)
    obtain ⟨a1, a2⟩ := hA j (by omega) (by omega)
    by_cases q : f ≤ j ∧ j ≤ t
    · have qr : rP f t j = true := decide_eq_true q
      generalize hS1 : sI S 312 j (nI (A j + 2 ^ k)) = S1
      have o1 : Of 312 S S1 := by rw [← hS1]; exact of_I
      obtain ⟨S', g1, g2, g3, g4⟩ := begin20 hf ht hk (K := K) (A := A) d (j + 1) n S1 (o1.wr hW) (fun S' h => hc S' (o1.tr h)) (fun m h1 hm => by
        rw [← hS1, sI_at, if_neg (by omega)]
        exact hA m (by omega) hm) (by omega) (by omega)
      refine ⟨S', ?_, o1.tr g2, fun m h1 hm => ?_, fun m hm => ?_⟩
      · rw [f_X6_begin_20, if_neg (show ¬ (30 : Int32) < nI j from nI_nlt (a := 30) (by omega) (by omega)), c1_s c0, c1, b1_s, if_neg (nI_nlt q.1 (by omega)), c1_s c0, c2, b1_s, if_neg (nI_nlt q.2 (by omega)), r_311_0 hW, y_312 hW (by omega), a1, or_k k hk (A j) a2, q_312 hW (by omega), hS1]
        unfold f_X6_begin_58
        rw [nI_1, g1]
      · by_cases z : m = j
        · subst z
          rw [g4 m (by omega), ← hS1, sI_at, if_pos rfl, if_pos qr]
        · exact g3 m (by omega) hm
      · rw [g4 m (by omega), ← hS1, sI_at, if_neg (by omega)]
    · have qr : ¬ rP f t j = true := by
        unfold rP
        rw [decide_eq_true_eq]
        exact q
      obtain ⟨S', g1, g2, g3, g4⟩ := begin20 hf ht hk (K := K) (A := A) d (j + 1) n S hW hc (fun m h1 hm => hA m (by omega) hm) (by omega) (by omega)
      refine ⟨S', ?_, g2, fun m h1 hm => ?_, fun m hm => g4 m (by omega)⟩
      · rw [f_X6_begin_20, if_neg (show ¬ (30 : Int32) < nI j from nI_nlt (a := 30) (by omega) (by omega)), c1_s c0, c1, b1_s]
        unfold f_X6_begin_58
        rw [nI_1]
        by_cases z : j < f
        · rw [if_pos (nI_lt z (by omega)), g1]
        · rw [if_neg (nI_nlt (by omega) (by omega)), c1_s c0, c2, b1_s, if_pos (nI_lt (by omega) (by omega)), g1]
      · by_cases z : m = j
        · subst z
          rw [g4 m (by omega), if_neg qr]
          exact a1
        · exact g3 m (by omega) hm
/-- a maid's first and last minute -/
def mF (S : GS) (k i j : Nat) : Nat := (S.1 324 (21 * k + 1 + (2 * j + i))).toNatClampNeg
theorem begin10 {nm : Nat} {F T : Nat → Nat} (hF : ∀ j, j < nm → F j ≤ 30 ∧ T j ≤ 30) (hnm : nm ≤ 10) : ∀ (d j n : Nat) (S : GS) (A : Nat → Nat), Wr S → (∀ S', Of 312 S S' → Rw S' o 10 2 ∧ nr S' o = nm ∧ ∀ j, j < nm → S'.1 (o + 1) (2 * j + 0) = nI (F j) ∧ S'.1 (o + 1) (2 * j + 1) = nI (T j)) → (∀ m, m < 31 → S.1 312 m = nI (A m) ∧ A m < 2 ^ j) → j + d = nm → d < n → ∃ S', f_X6_begin_10 311 n (some o) (nI j) S = some S' ∧ Of 312 S S' ∧ ∀ m, m < 31 → S'.1 312 m = nI (setN (fun j => rP (F j) (T j) m) d j (A m))
  | _, _, 0, _, _, _, _, _, _, hn => absurd hn (Nat.not_lt_zero _)
  | 0, j, n + 1, S, A, hW, hc, hA, hj, _ => by
    obtain ⟨c0, c1, c2⟩ := hc S (Of.rf _ _)
    refine ⟨S, ?_, Of.rf _ _, fun m h1 => (hA m h1).1⟩
    rw [f_X6_begin_10, xI_s c0.1, c0.2.2.2.2.2.2.1, c1, if_pos (nI_le (by omega) (by omega))]
  | d + 1, j, n + 1, S, A, hW, hc, hA, hj, hn => by
    obtain ⟨c0, c1, c2⟩ := hc S (Of.rf _ _)
    obtain ⟨S1, g1, g2, g3, -⟩ := begin20 (o := o) (k := j) (hF j (by omega)).1 (hF j (by omega)).2 (by omega) (K := f_X6_begin_10 311 n) (A := A) 31 0 fu S hW (fun S' h => by
      obtain ⟨e0, e1, e2⟩ := hc S' h
      obtain ⟨v0, v1⟩ := e2 j (by omega)
      refine ⟨e0.1, ?_, ?_⟩
      · rw [e0.cellL 0 0 rfl (by omega) (by decide), v0]
      · rw [e0.cellL 1 1 rfl (by omega) (by decide), v1]) (fun m _ hm => hA m hm) (by omega) (by unfold fu; omega)
    obtain ⟨S', k1, k2, k3⟩ := begin10 hF hnm d (j + 1) n S1 (fun m => if rP (F j) (T j) m = true then A m + 2 ^ j else A m) (g2.wr hW) (fun S' h => hc S' (g2.tr h)) (fun m hm => ⟨g3 m (by omega) hm, by
      have := (hA m hm).2
      show (if rP (F j) (T j) m = true then A m + 2 ^ j else A m) < 2 ^ (j + 1)
      rw [Nat.pow_succ]
      split <;> omega⟩) (by omega) (by omega)
    refine ⟨S', ?_, g2.tr k2, k3⟩
    rw [f_X6_begin_10, xI_s c0.1, c0.2.2.2.2.2.2.1, c1, if_neg (nI_ge (by omega) (by omega)), show f_X6_begin_20 (f_X6_begin_10 311 n) 311 fu (some o) (nI j) 0 S = _ from g1, k1]
end RO
