/-! pays: the chain, by the reference -/
section CI
variable {S S' : GS} {o b k l : Nat} {c : Int32}
/-- the reference's ledger in hand -/
def Ml (S : GS) (k np : Nat) : Prop := Wr S ∧ k < 2 ∧ np ≤ 30 ∧ S.1 313 55 = nI k ∧ S.1 323 (91 * k) = nI np ∧ ∀ j, j < np → vPawn (fun i => S.1 323 (91 * k + 1 + (3 * j + i)))
theorem Ml.many {np : Nat} (h : Ml S k np) : f_X12_pawns 313 S = some (nI np) := by rw [pawns_v h.1 h.2.1 h.2.2.2.1, h.2.2.2.2.1]
theorem Ml.cell {np : Nat} (h : Ml S k np) {j : Nat} (hj : j < np) (c : Int32) (i : Nat) (hc : c = nI i) (hi : i < 3) : f_X12_pawnOf 313 (nI j) c S = some (pD S k i j) := by
  have := h.2.2.1
  rw [pawnOf_v (l := j) (x := nI j) (c := c) h.1 h.2.1 h.2.2.2.1 rfl hc (by omega) hi]
  rfl
theorem owed_l {np : Nat} (h : Ml S k np) {x1 : Int32} : ∀ (d j n : Nat) (s : Int32), j + d = np → d < n → f_X12_owedBy_4 313 S n x1 s (nI j) = some (sumS (fun j => if pD S k 0 j = x1 then pD S k 2 j else 0) d j s)
  | _, _, 0, _, _, hn => absurd hn (Nat.not_lt_zero _)
  | 0, j, n + 1, s, hj, _ => by
    have := h.2.2.1
    rw [f_X12_owedBy_4, k_313 h.1, h.many, b1_s, if_pos (nI_le (by omega) (by omega))]
    rfl
  | d + 1, j, n + 1, s, hj, hn => by
    have := h.2.2.1
    rw [f_X12_owedBy_4, k_313 h.1, h.many, b1_s, if_neg (nI_ge (by omega) (by omega)), k_313 h.1, h.cell (by omega) 0 0 rfl (by decide), b1_s, k_313 h.1, h.cell (by omega) 2 2 rfl (by decide), b1_s]
    unfold f_X12_owedBy_33
    rw [nI_1, owed_l h d (j + 1) n _ (by omega) (by omega), owed_l h d (j + 1) n _ (by omega) (by omega)]
    show _ = some (sumS _ d (j + 1) (s + (if pD S k 0 j = x1 then pD S k 2 j else 0)))
    by_cases q : pD S k 0 j = x1
    · rw [if_pos q, if_pos q]
    · rw [if_neg q, if_neg q]
theorem owed_v {np : Nat} (h : Ml S k np) (l : Nat) : f_X12_owedBy 313 (nI l) S = some (owS S k l np) :=
  owed_l h (x1 := nI l) np 0 fu 0 (by omega) (by have := h.2.2.1; unfold fu; omega)
theorem owS_nat {np : Nat} (h : Ml S k np) (l : Nat) : ∃ m, m ≤ 99 * 30 ∧ owS S k l np = nI m := by
  obtain ⟨m', h1, h2⟩ := sumS_nat (f := fun j => if pD S k 0 j = nI l then pD S k 2 j else 0) (M := 99) np 0 0 (fun j _ hj => by
    obtain ⟨i, e, -, hi⟩ := (h.2.2.2.2.2 j (by omega)).2.2.nat
    by_cases q : pD S k 0 j = nI l
    · exact ⟨i, hi, by simp only [if_pos q]; exact e⟩
    · exact ⟨0, by omega, by simp only [if_neg q]; rfl⟩)
  have := h.2.2.1
  exact ⟨m', by have := Nat.mul_le_mul_left 99 h.2.2.1; omega, h2⟩
theorem chainM_i {np : Nat} (h : Ml S k np) {K : Int32 → Int32 → Option Int32} {x3 : Int32} : ∀ (d j n : Nat) (s : Int32), j + d = np → d < n → f_X12_chained_62 K 313 S n s x3 (nI j) = K (chI (pD S k 0) (pD S k 1) d j s) (x3 + 1)
  | _, _, 0, _, _, hn => absurd hn (Nat.not_lt_zero _)
  | 0, j, n + 1, s, hj, _ => by
    have := h.2.2.1
    rw [f_X12_chained_62, k_313 h.1, h.many, b1_s, if_pos (nI_le (by omega) (by omega))]
    rfl
  | d + 1, j, n + 1, s, hj, hn => by
    have := h.2.2.1
    rw [f_X12_chained_62, k_313 h.1, h.many, b1_s, if_neg (nI_ge (by omega) (by omega)), k_313 h.1, h.cell (by omega) 0 0 rfl (by decide), b1_s, m_has, b1_s, k_313 h.1, h.cell (by omega) 1 1 rfl (by decide), b1_s]
    unfold f_X12_chained_99
    rw [nI_1, chainM_i h d (j + 1) n _ (by omega) (by omega), chainM_i h d (j + 1) n _ (by omega) (by omega)]
    show _ = K (chI _ _ d (j + 1) (if jshr s (pD S k 0 j) &&& 1 = 1 then s ||| jshl 1 (pD S k 1 j) else s)) (x3 + 1)
    by_cases q : jshr s (pD S k 0 j) &&& 1 = 1
    · rw [if_pos q, decide_eq_true q, if_neg (show ¬ bi true = 0 by decide)]
    · rw [if_neg q, decide_eq_false q, if_pos (show bi false = 0 from rfl), Int32.or_zero]
theorem chainM_o {np : Nat} (h : Ml S k np) : ∀ (d l n : Nat) (s : Int32), l + d = 8 → d < n → f_X12_chained_53 313 S n s (nI l) = some (chO (chI (pD S k 0) (pD S k 1) np 0) d s)
  | _, _, 0, _, _, hn => absurd hn (Nat.not_lt_zero _)
  | 0, l, n + 1, s, hj, _ => by
    rw [f_X12_chained_53, if_pos (show (8 : Int32) ≤ nI l from nI_le (a := 8) (by omega) (by omega))]
    rfl
  | d + 1, l, n + 1, s, hj, hn => by
    have := h.2.2.1
    rw [f_X12_chained_53, if_neg (show ¬ (8 : Int32) ≤ nI l from nI_ge (b := 8) (by omega) (by omega)), show f_X12_chained_62 (f_X12_chained_53 313 S n) 313 S fu s (nI l) 0 = _ from chainM_i h np 0 fu s (by omega) (by unfold fu; omega), nI_1, chainM_o h d (l + 1) n _ (by omega) (by omega)]
    rfl
theorem chainM_b {np : Nat} (h : Ml S k np) : ∀ (d l n b : Nat), l + d = 8 → d < n → f_X12_chained_4 313 S n (nI b) (nI l) = some (chO (chI (pD S k 0) (pD S k 1) np 0) 8 (if owS S k (bestS (fun l => owS S k l np) d l b) np = 0 then 0 else jshl 1 (nI (bestS (fun l => owS S k l np) d l b))))
  | _, _, 0, _, _, hn => absurd hn (Nat.not_lt_zero _)
  | 0, l, n + 1, b, hj, _ => by
    rw [f_X12_chained_4, if_pos (show (8 : Int32) ≤ nI l from nI_le (a := 8) (by omega) (by omega)), k_313 h.1, owed_v h b, b1_s]
    unfold f_X12_chained_50
    show (if owS S k b np = 0 then _ else _) = some (chO _ 8 (if owS S k b np = 0 then 0 else jshl 1 (nI b)))
    by_cases q : owS S k b np = 0
    · rw [if_pos q, if_pos q]
      exact chainM_o h 8 0 fu 0 (by omega) (by unfold fu; omega)
    · rw [if_neg q, if_neg q]
      exact chainM_o h 8 0 fu _ (by omega) (by unfold fu; omega)
  | d + 1, l, n + 1, b, hj, hn => by
    rw [f_X12_chained_4, if_neg (show ¬ (8 : Int32) ≤ nI l from nI_ge (b := 8) (by omega) (by omega)), k_313 h.1, owed_v h l, b1_s, k_313 h.1, owed_v h b, b1_s]
    unfold f_X12_chained_28
    rw [nI_1, chainM_b h d (l + 1) n b (by omega) (by omega), chainM_b h d (l + 1) n l (by omega) (by omega)]
    show _ = some (chO _ 8 (if owS S k (bestS _ d (l + 1) (if owS S k l np ≤ owS S k b np then b else l)) np = 0 then 0 else jshl 1 (nI (bestS _ d (l + 1) (if owS S k l np ≤ owS S k b np then b else l)))))
    by_cases q : owS S k l np ≤ owS S k b np
    · rw [if_pos q, if_pos q]
    · rw [if_neg q, if_neg q]
/-- the chain: both sides -/
theorem chain_both {np : Nat} (h : Ml S k np) : f_X12_chained 313 S = some (chO (chI (pD S k 0) (pD S k 1) np 0) 8 (match deepS (fun l => owS S k l np) 8 0 none with
    | none => 0
    | some j => jshl 1 (nI j))) := by
  have e := chainM_b h 7 1 fu 0 (by omega) (by unfold fu; omega)
  have e : f_X12_chained 313 S = _ := e
  rw [e]
  have hz : deepS (fun l => owS S k l np) 8 0 none = deepS (fun l => owS S k l np) 7 1 (if owS S k 0 np ≤ 0 then none else some 0) := rfl
  rw [hz]
  rcases deep_best (fun l => owS S k l np) 7 1 0 (if owS S k 0 np ≤ 0 then none else some 0) (by
    by_cases q : owS S k 0 np ≤ 0
    · rw [if_pos q]
      exact Or.inr ⟨rfl, q⟩
    · rw [if_neg q]
      exact Or.inl ⟨rfl, q⟩) with ⟨g1, g2⟩ | ⟨g1, g2⟩
  · rw [g1]
    rw [if_neg (fun y => g2 (by show owS S k _ np ≤ 0; rw [y]; exact Int32.le_refl 0))]
  · rw [g1]
    obtain ⟨m, hm, em⟩ := owS_nat h (bestS (fun l => owS S k l np) 7 1 0)
    have g2 : owS S k (bestS (fun l => owS S k l np) 7 1 0) np ≤ 0 := g2
    rw [em] at g2
    have m0 : m = 0 := by
      have g2 : nI m ≤ nI 0 := g2
      rw [nI_leI (by omega) (by omega)] at g2
      omega
    rw [em, m0, if_pos nI_0]
end CI
