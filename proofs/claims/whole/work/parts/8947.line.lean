/-! texts: marks -/
def GF (S T : GS) : Prop := RwD S ∧ ∃ n, RLn S T 224 1 16 0 1 vMark n
def pMark (f g : Nat → Int32) : Prop := (∀ i, i < 1 → f i = g i) ∧ vMark g
def mLoop (N : Nat) (T : GS) : Option (Int32 × GS) := (xI (some 313) 12 15 T fun v8 => (if v8 = 3 then (f_X12_forecastLine_17 313 N T) else (some (1, T))))
section LN
variable {α : Type} {L : Nat} {B : Nat → Nat} {S S' T T' S0 T0 : GS} {s e k f c o w m p q n d e0 v : Nat} {V : (Nat → Int32) → Prop} {P P' : (Nat → Int32) → (Nat → Int32) → Prop} {R : GS → GS → Prop}
theorem ro7 : RO9 224 1 16 := Or.inr (Or.inr (Or.inr (Or.inr (Or.inr (Or.inr (Or.inl ⟨rfl, rfl, rfl⟩))))))
/-- the class's row behind a number -/
theorem markC (hW : Wr S) (h0 : S.1 224 0 = nI 16) (h1 : S.1 224 1 = nI 1) (h3 : S.1 224 3 = nI n) (hn : n ≤ 16) (y z : Int32) : ∃ S2 S3 S4, f_X5_addRowAt 207 (some 224) y S = some S3 ∧ f_X7_setLast 224 0 z S3 = some S4 ∧ S2 = (if n = 16 ∧ S.1 207 11 = 0 then sI (sI S 207 11 3) 207 12 y else S) ∧ FR 224 S2 S3 ∧ FR 224 S2 S4 ∧ S4.1 224 0 = nI 16 ∧ S4.1 224 1 = nI 1 ∧ S4.1 224 3 = nI (if n = 16 then n else n + 1) ∧ (n < 16 → S4.1 225 n = z ∧ ∀ i, i < n → S4.1 225 i = S.1 225 i) := by
  have hW2 : Wr (if n = 16 ∧ S.1 207 11 = 0 then sI (sI S 207 11 3) 207 12 y else S) := by split <;> exact hW
  have e24 : (if n = 16 ∧ S.1 207 11 = 0 then sI (sI S 207 11 3) 207 12 y else S).1 224 = S.1 224 := by
    split
    · rw [sI_o (by decide), sI_o (by decide)]
    · rfl
  have e25 : (if n = 16 ∧ S.1 207 11 = 0 then sI (sI S 207 11 3) 207 12 y else S).1 225 = S.1 225 := by
    split
    · rw [sI_o (by decide), sI_o (by decide)]
    · rfl
  have hg : f_X5_addRowAt 207 (some 224) y S = f_X7_addRow 224 (if n = 16 ∧ S.1 207 11 = 0 then sI (sI S 207 11 3) 207 12 y else S) := by
    unfold f_X5_addRowAt f_X5_addRowAt_17
    rw [xI_w (c := 7) hW (by decide) rfl, h3, xI_w (c := 7) hW (by decide) rfl, h0]
    by_cases q : n = 16
    · subst q
      rw [if_neg (by decide), k_207 hW, note_v hW, b1_s]
      by_cases z : S.1 207 11 = 0
      · rw [if_pos z, if_pos ⟨rfl, z⟩, kr ro7.rk (show Wr (sI (sI S 207 11 3) 207 12 y) from hW)]
        cases f_X7_addRow 224 (sI (sI S 207 11 3) 207 12 y) <;> rfl
      · rw [if_neg z, if_neg (fun w => z w.2), kr ro7.rk hW]
        cases f_X7_addRow 224 S <;> rfl
    · rw [if_pos (nI_lt (by omega) (by decide)), if_neg (fun w => q w.1), kr ro7.rk hW]
      cases f_X7_addRow 224 S <;> rfl
  rw [hg]
  generalize (if n = 16 ∧ S.1 207 11 = 0 then sI (sI S 207 11 3) 207 12 y else S) = S2 at hW2 e24 e25
  obtain ⟨S3, g1, g2, g3, g4⟩ := addRow_v ro7.rk hW2 (by rw [e24]; exact h0) (by rw [e24]; exact h1) (by rw [e24]; exact h3) hn
  have a0 : S3.1 224 0 = nI 16 := by rw [g2.2 _ _ (by omega) (by decide), e24]; exact h0
  have a1 : S3.1 224 1 = nI 1 := by rw [g2.2 _ _ (by omega) (by decide), e24]; exact h1
  obtain ⟨S4, x1, x2, x3, x4⟩ := setLast_v (c := 0) ro7.rk (g2.wr hW2) a1 g3 (by split <;> omega) (by decide) z
  refine ⟨S2, S3, S4, g1, x1, rfl, g2, g2.tr x2, by rw [x3]; exact a0, by rw [x3]; exact a1, by rw [x3]; exact g3, fun hlt => ?_⟩
  obtain ⟨y1, y2⟩ := g4 hlt
  have := x4 n (by rw [if_neg (by omega)])
  subst this
  refine ⟨?_, fun i hi => ?_⟩
  · show (sI S3 225 (1 * n + 0) z).1 225 n = z
    rw [sI_at, if_pos (by omega)]
  · show (sI S3 225 (1 * n + 0) z).1 225 i = _
    rw [sI_at, if_neg (by omega)]
    have := y2 i (by omega)
    rw [show S3.1 225 i = S2.1 225 i from this, e25]
/-- readMark, its pieces together -/
theorem readMark_v {S1 S3 S4 : GS} {x : Int32} (hW : Wr S) (hW1 : Wr S1) (hW3 : Wr S3) (h9 : S.1 207 9 = nI s) (h1 : f_X5_takeNumber 207 0 40 S = some (x, S1)) (h2 : f_X5_addRowAt 207 (some 224) (nI s) S1 = some S3) (h3 : f_X7_setLast 224 0 x S3 = some S4) : f_X5_readMark 207 S = some S4 := by
  unfold f_X5_readMark
  rw [i_207 hW, h9, kk_207 hW, h1, b2_s, r_207_4 hW1, k_207 hW1, h2, b1_s, r_207_4 hW3, kr ro7.rk hW3, h3, b1_s]
/-- a mark that is no number -/
theorem mark_no (h : TB L B S T) (hk : Tk L B S T s e k) (h2 : k ≠ 2) (hF : FA s S T) (hG : GF S T) : ∃ S', f_X5_readMark 207 S = some S' ∧ BR 224 1 16 (nI s) S' ∧ FC 224 S S' ∧ f_X12_take 313 0 0 40 T = some (0, sI T 313 18 (nI s)) := by
  obtain ⟨hD, n, hR⟩ := hG
  obtain ⟨t1, t2⟩ := take_no h hk h2 hF 0 40 0 0 40 (-1)
  have hb := brk_S (s := s) h.1 hR.rwr (by decide)
  have hfb := (brk_F (S := S) (s := s)).fc (r := 224)
  generalize sI (sI S 207 11 1) 207 12 (nI s) = S1 at hb hfb t1
  obtain ⟨b1', b2', b3', b4', b5', n', b6', b7'⟩ := hb
  obtain ⟨S2, S3, S4, x1, x2, x3, x4, x5, x6, x7, x8, x9⟩ := markC b1' b4' b5' b7' b6' (nI s) 0
  have hS2 : S2 = S1 := by rw [x3, if_neg (fun w => by rw [b2'] at w; exact absurd w.2 (by decide))]
  subst hS2
  refine ⟨S4, readMark_v h.1 b1' (x4.wr b1') hk.1 t1 x1 x2, ⟨x5.wr b1', by rw [x5.2 _ _ (by omega) (by decide)]; exact b2', by rw [x5.2 _ _ (by omega) (by decide)]; exact b3', x6, x7, _, by split <;> omega, x8⟩, hfb.tr x5.fc, take_v _ _ _ (Or.inl rfl) h.2.1 t2⟩
end LN
