/-! feed, end: the tape -/
theorem jsh8 (x : Int32) (d : Nat) (hd : d < 4) : (jushr x (nI (8 * d))).toInt8 = (jshr x (nI (8 * d))).toInt8 := by
  apply Int8.toBitVec_inj.mp
  unfold jushr jshr
  rcases (show d = 0 ∨ d = 1 ∨ d = 2 ∨ d = 3 by omega) with rfl | rfl | rfl | rfl
  · rw [show (nI (8 * 0) &&& 31) = 0 by decide, show ((nI (8 * 0)).toUInt32 &&& Int32.toUInt32 31) = 0 by decide]
    apply BitVec.eq_of_getLsbD_eq
    intro i hi
    have h1 : i < 32 := by omega
    have h2 : 0 + i < 32 := by omega
    simp [BitVec.getLsbD_sshiftRight, Int32.toBitVec_shiftRight, UInt32.toBitVec_shiftRight, BitVec.getLsbD_signExtend, hi, h1, h2]
  · rw [show (nI (8 * 1) &&& 31) = 8 by decide, show ((nI (8 * 1)).toUInt32 &&& Int32.toUInt32 31) = 8 by decide]
    apply BitVec.eq_of_getLsbD_eq
    intro i hi
    have h1 : i < 32 := by omega
    have h2 : 8 + i < 32 := by omega
    simp [BitVec.getLsbD_sshiftRight, Int32.toBitVec_shiftRight, UInt32.toBitVec_shiftRight, BitVec.getLsbD_signExtend, hi, h1, h2]
    simp [BitVec.getElem_signExtend, BitVec.getElem_sshiftRight, h1, h2]
  · rw [show (nI (8 * 2) &&& 31) = 16 by decide, show ((nI (8 * 2)).toUInt32 &&& Int32.toUInt32 31) = 16 by decide]
    apply BitVec.eq_of_getLsbD_eq
    intro i hi
    have h1 : i < 32 := by omega
    have h2 : 16 + i < 32 := by omega
    simp [BitVec.getLsbD_sshiftRight, Int32.toBitVec_shiftRight, UInt32.toBitVec_shiftRight, BitVec.getLsbD_signExtend, hi, h1, h2]
    simp [BitVec.getElem_signExtend, BitVec.getElem_sshiftRight, h1, h2]
  · rw [show (nI (8 * 3) &&& 31) = 24 by decide, show ((nI (8 * 3)).toUInt32 &&& Int32.toUInt32 31) = 24 by decide]
    apply BitVec.eq_of_getLsbD_eq
    intro i hi
    have h1 : i < 32 := by omega
    have h2 : 24 + i < 32 := by omega
    simp [BitVec.getLsbD_sshiftRight, Int32.toBitVec_shiftRight, UInt32.toBitVec_shiftRight, BitVec.getLsbD_signExtend, hi, h1, h2]
    simp [BitVec.getElem_signExtend, BitVec.getElem_sshiftRight, h1, h2]
def byteV (x : Int32) (d : Nat) : Int32 := (jshr x (nI (8 * d))).toInt8.toInt32.toInt8.toInt32
/-- a tape with a number's bytes behind its length -/
def tapeF (x : Int32) : Nat → Nat → (Nat → Int32) → Nat → Int32
  | 0, _, f => f
  | d + 1, len, f => tapeF x d (len + 1) (fun i => if i = len then byteV x d else f i)
theorem tapeF_c (x : Int32) : ∀ (d len : Nat) (f g : Nat → Int32), (∀ i, i < 600 → f i = g i) → ∀ i, i < 600 → tapeF x d len f i = tapeF x d len g i
  | 0, _, f, g, h, i, hi => h i hi
  | d + 1, len, f, g, h, i, hi => tapeF_c x d (len + 1) _ _ (fun i hi => by
    show (if i = len then byteV x d else f i) = (if i = len then byteV x d else g i)
    rw [h i hi]) i hi
theorem tapeF_b (x : Int32) : ∀ (d len : Nat) (f : Nat → Int32), (∀ i, By (f i)) → ∀ i, By (tapeF x d len f i)
  | 0, _, f, h => h
  | d + 1, len, f, h => tapeF_b x d (len + 1) _ (fun i => by
    show By (if i = len then byteV x d else f i)
    split
    · exact by_t _
    · exact h i)
theorem tapeF_hi (x : Int32) : ∀ (d len : Nat) (f : Nat → Int32) (i : Nat), len + d ≤ i → tapeF x d len f i = f i
  | 0, _, f, i, _ => rfl
  | d + 1, len, f, i, h => by
    show tapeF x d (len + 1) _ i = f i
    rw [tapeF_hi x d (len + 1) _ i (by omega), if_neg (by omega)]
theorem nI_dec8 (d : Nat) : nI (8 * (d + 1)) + (-8) = nI (8 * d) := by
  rw [show 8 * (d + 1) = 8 * d + 8 by omega, ← nI_add, Int32.add_assoc, show nI 8 + (-8) = 0 by decide, Int32.add_zero]
section FE
variable {S S' : GS} {o b k l : Nat} {c : Int32}
def AdC (S S' : GS) (x : Int32) (d len : Nat) : Prop := S'.2 = S.2 ∧ (∀ o, o ≠ 1 → o ≠ 2 → S'.1 o = S.1 o) ∧ (∀ i, i ≠ 8 → S'.1 1 i = S.1 1 i) ∧ S'.1 1 8 = nI (len + d) ∧ S'.1 2 = tapeF x d len (S.1 2)
def AdM (S S' : GS) (x : Int32) (d len : Nat) : Prop := S'.2 = S.2 ∧ (∀ o, o ≠ 314 → o ≠ 315 → S'.1 o = S.1 o) ∧ (∀ i, i ≠ 0 → S'.1 315 i = S.1 315 i) ∧ S'.1 315 0 = nI (len + d) ∧ S'.1 314 = tapeF x d len (S.1 314)
theorem sI_o {S : GS} {a i : Nat} {v : Int32} {o : Nat} (h : o ≠ a) : (sI S a i v).1 o = S.1 o := by
  funext j
  show (if o = a ∧ j = i then v else S.1 o j) = _
  rw [if_neg (fun z => h z.1)]
theorem sI_f {S : GS} {a i : Nat} {v : Int32} : (sI S a i v).1 a = fun j => if j = i then v else S.1 a j := by
  funext j
  exact sI_at
theorem addC_l {x : Int32} : ∀ (d len n : Nat) (S : GS), Wr S → S.1 1 8 = nI len → len + d ≤ 600 → d < n → d ≤ 4 → ∃ S', f_X9_addNumber_3 1 n x (nI (8 * d) + (-8)) S = some S' ∧ AdC S S' x d len
  | _, _, 0, _, _, _, _, hn, _ => absurd hn (Nat.not_lt_zero _)
  | 0, len, n + 1, S, hW, h8, _, _, _ => by
    refine ⟨S, ?_, rfl, fun _ _ _ => rfl, fun _ _ => rfl, h8, rfl⟩
    rw [f_X9_addNumber_3, if_pos (by decide)]
  | d + 1, len, n + 1, S, hW, h8, hl, hn, hd => by
    generalize hS1 : sI (sI S 2 len (byteV x d)) 1 8 (nI (len + 1)) = S1
    have hW1 : Wr S1 := by rw [← hS1]; exact hW
    obtain ⟨S', g1, g2, g3, g4, g5, g6⟩ := addC_l (x := x) d (len + 1) n S1 hW1 (by rw [← hS1]; rfl) (by omega) (by omega) (by omega)
    refine ⟨S', ?_, ?_, fun o h1 h2 => ?_, fun i hi => ?_, ?_, ?_⟩
    · rw [f_X9_addNumber_3, nI_dec8, if_neg (nI_pos (by omega)), i_1 hW, i_1 hW, h8, if_neg (nI_pos (by omega)), if_neg (show ¬ (600 : Int32) ≤ nI len from nI_ge (b := 600) (by omega) (by omega)), r_1_0 hW, i_1 hW, h8, jsh8 x d (by omega)]
      rw [show qB (some 2) (nI len) _ S _ = _ from qB_w (o := 2) hW (by decide) rfl (n := 600) rfl (by omega) (by omega), show (jshr x (nI (8 * d))).toInt8.toInt32.toInt8.toInt32 = byteV x d from rfl]
      rw [i_1 (S := sI S 2 len (byteV x d)) hW, p_1 (S := sI S 2 len (byteV x d)) hW]
      unfold f_X9_addNumber_47
      rw [show (sI S 2 len (byteV x d)).1 1 8 = nI len from h8, nI_1, hS1]
      exact g1
    · rw [g2, ← hS1]; rfl
    · rw [g3 o h1 h2, ← hS1, sI_o h1, sI_o h2]
    · rw [g4 i hi, ← hS1, sI_at, if_neg hi]
      rfl
    · rw [g5, show len + 1 + d = len + (d + 1) by omega]
    · rw [g6, ← hS1, sI_o (by decide), sI_f]
      rfl
theorem addM_l {x : Int32} : ∀ (d len n : Nat) (S : GS), Wr S → S.1 315 0 = nI len → len + d ≤ 600 → d < n → d ≤ 4 → ∃ S', f_X12_four_3 313 n x (nI (8 * d) + (-8)) S = some S' ∧ AdM S S' x d len
  | _, _, 0, _, _, _, _, hn, _ => absurd hn (Nat.not_lt_zero _)
  | 0, len, n + 1, S, hW, h8, _, _, _ => by
    refine ⟨S, ?_, rfl, fun _ _ _ => rfl, fun _ _ => rfl, h8, rfl⟩
    rw [f_X12_four_3, if_pos (by decide)]
  | d + 1, len, n + 1, S, hW, h8, hl, hn, hd => by
    generalize hS1 : sI (sI S 314 len (byteV x d)) 315 0 (nI (len + 1)) = S1
    have hW1 : Wr S1 := by rw [← hS1]; exact hW
    obtain ⟨S', g1, g2, g3, g4, g5, g6⟩ := addM_l (x := x) d (len + 1) n S1 hW1 (by rw [← hS1]; rfl) (by omega) (by omega) (by omega)
    refine ⟨S', ?_, ?_, fun o h1 h2 => ?_, fun i hi => ?_, ?_, ?_⟩
    · rw [f_X12_four_3, nI_dec8, if_neg (nI_pos (by omega)), r_313_1 hW, r_313_2 hW, show yI (some 315) 14 0 S _ = _ from y_315 (k := 0) hW (by decide), h8, q_314 hW (by omega)]
      rw [show (jshr x (nI (8 * d))).toInt8.toInt32.toInt8.toInt32 = byteV x d from rfl, r_313_2 (S := sI S 314 len (byteV x d)) hW, show yI (some 315) 14 0 (sI S 314 len (byteV x d)) _ = _ from y_315 (S := sI S 314 len (byteV x d)) (k := 0) hW (by decide), show (sI S 314 len (byteV x d)).1 315 0 = nI len from h8, nI_1, show qI (some 315) 0 (nI (len + 1)) (sI S 314 len (byteV x d)) _ = _ from q_315 (S := sI S 314 len (byteV x d)) (k := 0) hW (by decide), hS1]
      exact g1
    · rw [g2, ← hS1]; rfl
    · rw [g3 o h1 h2, ← hS1, sI_o h2, sI_o h1]
    · rw [g4 i hi, ← hS1, sI_at, if_neg hi]
      rfl
    · rw [g5, show len + 1 + d = len + (d + 1) by omega]
    · rw [g6, ← hS1, sI_o (by decide), sI_f]
      rfl
theorem addC {x : Int32} {len : Nat} (hW : Wr S) (h8 : S.1 1 8 = nI len) (hl : len + 4 ≤ 600) : ∃ S', f_X9_addNumber 1 x S = some S' ∧ AdC S S' x 4 len := addC_l (x := x) 4 len fu S hW h8 hl (by unfold fu; omega) (by omega)
theorem addM {x : Int32} {len : Nat} (hW : Wr S) (h8 : S.1 315 0 = nI len) (hl : len + 4 ≤ 600) : ∃ S', f_X12_four 313 x S = some S' ∧ AdM S S' x 4 len := addM_l (x := x) 4 len fu S hW h8 hl (by unfold fu; omega) (by omega)
end FE
