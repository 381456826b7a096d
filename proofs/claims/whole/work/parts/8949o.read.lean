/-! texts: how a text's reading begins -/
section ME
variable {α : Type} {L : Nat} {B : Nat → Nat} {S S' T T' S0 T0 : GS} {s e k f c o w m p q n d e0 v sl srt : Nat} {R : GS → GS → Prop} {V : (Nat → Int32) → Prop}
theorem and255 (x : Int32) : ∃ b, b < 256 ∧ x &&& 255 = nI b := by
  refine ⟨(x.toBitVec &&& 255#32).toNat, ?_, ?_⟩
  · rw [BitVec.toNat_and]
    exact Nat.lt_of_le_of_lt Nat.and_le_right (by decide)
  · apply Int32.toBitVec.inj
    rw [Int32.toBitVec_and]
    show x.toBitVec &&& 255#32 = BitVec.ofNat 32 (x.toBitVec &&& 255#32).toNat
    rw [BitVec.ofNat_toNat, BitVec.setWidth_eq]
theorem clr (ho : RO9 o w m) (hW : Wr S) : f_X7_clear o S = some (sI S o 3 0) := by
  have hK := ho.rk
  unfold f_X7_clear
  rw [pI_w hW (by have := hK.2.1; omega) hK.2.2.1]
theorem kc (ho : RO9 o w m) (hW : Wr S) {g : GS → Option α} : c1 (some o) 7 S (fun o' => f_X7_clear o' S) g = g (sI S o 3 0) := by
  rw [kr ho.rk hW, clr ho hW, b1_s]
theorem sCI_o {a b n : Nat} (h : o ≠ b) : (sCI S a b 0 0 n).1 o = S.1 o := by
  funext i
  exact if_neg h
theorem sCI_at {a b n i : Nat} (h : i < n) : (sCI S a b 0 0 n).1 b i = S.1 a i := by
  show (if b = b then (if 0 ≤ i ∧ i < 0 + n then S.1 a (0 + (i - 0)) else S.1 b i) else S.1 b i) = _
  rw [if_pos rfl, if_pos ⟨Nat.zero_le _, by omega⟩, Nat.zero_add, Nat.sub_zero]
/-- a court as it is before anything of it is told -/
theorem clrCourt (hW : Wr S) : ∃ S', f_X0_clear 209 S = some S' ∧ S'.2 = S.2 ∧ (∀ o, o ≠ 209 → o ≠ 210 → o ≠ 212 → o ≠ 214 → o ≠ 216 → S'.1 o = S.1 o) ∧ S'.1 210 = up (S.1 210) 3 0 ∧ S'.1 212 = up (S.1 212) 3 0 ∧ S'.1 214 = up (S.1 214) 3 0 ∧ (S'.1 209 4 = 2 ∧ S'.1 209 5 = 3 ∧ S'.1 209 6 = 30) ∧ ∀ i, i < 3 → S'.1 216 i = 1 := by
  have hW3 : Wr (sI (sI (sI S 210 3 0) 212 3 0) 214 3 0) := hW
  obtain ⟨S4, g1, g2, g3⟩ := fill_v (S := sI (sI (sI S 210 3 0) 212 3 0) 214 3 0) (a := 216) 1 (N := 3) rfl (by decide) (gk_n hW3 (by decide) rfl)
  have hW4 : Wr S4 := g2.wr hW3
  have eo : ∀ o, o ≠ 216 → S4.1 o = (sI (sI (sI S 210 3 0) 212 3 0) 214 3 0).1 o := fun o ho => g2.2 o ho
  refine ⟨sI (sI (sI S4 209 4 2) 209 5 3) 209 6 30, ?_, g2.1, fun o h1 h2 h3 h4 h5 => ?_, ?_, ?_, ?_, ⟨rfl, rfl, rfl⟩, fun i hi => ?_⟩
  · unfold f_X0_clear
    rw [r_209 hW gs0.2, kc ro1 hW, r_209 (S := sI S 210 3 0) hW gs1.2, kc (S := sI S 210 3 0) ro2 hW, r_209 (S := sI (sI S 210 3 0) 212 3 0) hW gs2.2, kc (S := sI (sI S 210 3 0) 212 3 0) ro3 hW, r_209_3 hW3, g1, b1_s, pI_w (o := 209) (c := 0) hW4 (by decide) rfl, pI_w (S := sI S4 209 4 2) (o := 209) (c := 0) hW4 (by decide) rfl, pI_w (S := sI (sI S4 209 4 2) 209 5 3) (o := 209) (c := 0) hW4 (by decide) rfl]
  · rw [sI_o h1, sI_o h1, sI_o h1, eo o h5, sI_o h4, sI_o h3, sI_o h2]
  · rw [sI_o (by decide), sI_o (by decide), sI_o (by decide), eo 210 (by decide), sI_o (by decide), sI_o (by decide), up_f]
  · rw [sI_o (by decide), sI_o (by decide), sI_o (by decide), eo 212 (by decide), sI_o (by decide), up_f, sI_o (by decide)]
  · rw [sI_o (by decide), sI_o (by decide), sI_o (by decide), eo 214 (by decide), up_f, sI_o (by decide), sI_o (by decide)]
  · rw [sI_o (by decide), sI_o (by decide), sI_o (by decide)]
    exact g3 i hi
/-- the reader, empty -/
def Emp (S : GS) : Prop := RwD S ∧ (S.1 210 3 = 0 ∧ S.1 212 3 = 0 ∧ S.1 214 3 = 0 ∧ S.1 218 3 = 0 ∧ S.1 220 3 = 0 ∧ S.1 222 3 = 0 ∧ S.1 224 3 = 0 ∧ S.1 226 3 = 0 ∧ S.1 228 3 = 0) ∧ (S.1 209 4 = 2 ∧ S.1 209 5 = 3 ∧ S.1 209 6 = 30) ∧ ∀ i, i < 3 → S.1 216 i = 1
theorem rwr_0 (h : RwR S o w m) (h1 : S'.1 o = up (S.1 o) 3 0) : RwR S' o w m := by
  obtain ⟨a, b, n, c, d⟩ := h
  refine ⟨by rw [h1, up_o (by decide)]; exact a, by rw [h1, up_o (by decide)]; exact b, 0, Nat.zero_le _, by rw [h1, up_at]; rfl⟩
theorem beg_C (hW : Wr S) (hD : RwD S) (hl : S.1 1 8 = nI L) (hL : L ≤ 600) : ∃ S1, f_X5_begin 207 (some 1) S = f_X5_nextToken 207 S1 ∧ S1.2 = S.2 ∧ (∀ o, o < 207 ∨ 230 ≤ o → S1.1 o = S.1 o) ∧ S1.1 207 7 = nI L ∧ (∀ i, i < 600 → S1.1 208 i = S.1 2 i) ∧ S1.1 207 11 = 0 ∧ S1.1 207 12 = -1 ∧ S1.1 207 10 = 0 ∧ Emp S1 := by
  have hj : jmax 0 (jmin 600 (nI L)) = nI L := by
    have e1 : jmin 600 (nI L) = nI L := by
      unfold jmin
      by_cases z : L < 600
      · rw [if_pos (show nI L < 600 from nI_lt (b := 600) z (by decide))]
      · rw [if_neg (show ¬ nI L < 600 from nI_nlt (b := 600) (by omega) (by omega)), show L = 600 by omega]
        rfl
    rw [e1]
    unfold jmax
    by_cases z : 0 < L
    · rw [if_pos (show (0 : Int32) < nI L from nI_lt (a := 0) z (by omega))]
    · rw [if_neg (show ¬ (0 : Int32) < nI L from nI_nlt (a := 0) (by omega) (by decide)), show L = 0 by omega]
      rfl
  have hW0 : Wr (sCI S 2 208 0 0 600) := hW
  have hW1 : Wr (sI (sCI S 2 208 0 0 600) 207 7 (nI L)) := hW
  obtain ⟨S2, g1, g2, g3, g4, g5, g6, g7, g8⟩ := clrCourt hW1
  have hW2 : Wr S2 := wr_2 (by rw [g2]) hW1
  have low : ∀ o, o ≠ 209 → o ≠ 210 → o ≠ 212 → o ≠ 214 → o ≠ 216 → o ≠ 207 → o ≠ 208 → S2.1 o = S.1 o := fun o h1 h2 h3 h4 h5 h6 h7 => by
    rw [g3 o h1 h2 h3 h4 h5, sI_o h6, sCI_o h7]
  have e207 : S2.1 207 7 = nI L := by
    rw [g3 207 (by decide) (by decide) (by decide) (by decide) (by decide), sI_at, if_pos rfl]
  have e208 : ∀ i, i < 600 → S2.1 208 i = S.1 2 i := fun i hi => by
    rw [g3 208 (by decide) (by decide) (by decide) (by decide) (by decide), sI_o (by decide), sCI_at hi]
  have e210 : S2.1 210 = up (S.1 210) 3 0 := by rw [g4, sI_o (by decide), sCI_o (by decide)]
  have e212 : S2.1 212 = up (S.1 212) 3 0 := by rw [g5, sI_o (by decide), sCI_o (by decide)]
  have e214 : S2.1 214 = up (S.1 214) 3 0 := by rw [g6, sI_o (by decide), sCI_o (by decide)]
  have hW3 : Wr (sI S2 218 3 0) := hW2
  have hW4 : Wr (sI (sI S2 218 3 0) 220 3 0) := hW2
  have hW5 : Wr (sI (sI (sI S2 218 3 0) 220 3 0) 222 3 0) := hW2
  have hW6 : Wr (sI (sI (sI (sI S2 218 3 0) 220 3 0) 222 3 0) 224 3 0) := hW2
  have hW7 : Wr (sI (sI (sI (sI (sI S2 218 3 0) 220 3 0) 222 3 0) 224 3 0) 226 3 0) := hW2
  have hW8 : Wr (sI (sI (sI (sI (sI (sI S2 218 3 0) 220 3 0) 222 3 0) 224 3 0) 226 3 0) 228 3 0) := hW2
  have hg : f_X5_begin 207 (some 1) S = f_X5_nextToken 207 (sI (sI (sI (sI (sI (sI (sI (sI (sI S2 218 3 0) 220 3 0) 222 3 0) 224 3 0) 226 3 0) 228 3 0) 207 11 0) 207 12 (-1)) 207 10 0) := by
    have h8 : f_X8_clear 217 S2 = some (sI (sI S2 218 3 0) 220 3 0) := by
      unfold f_X8_clear
      rw [r_217_0 hW2, kc ro4 hW2, r_217_1 hW3, kc ro5 hW3]
    have bS : ∀ X : Option GS, b1 X (fun S10 => some S10) = X := fun X => by cases X <;> rfl
    unfold f_X5_begin
    rw [r_1_0 hW, r_207_0 hW, show acI 13 (some 2) 0 (some 208) 0 600 S _ = _ from acI_v (n := 600) (gk_n hW (by decide) rfl) (gk_n hW (by decide) rfl) (by decide) (by decide) (by decide) (by decide), i_1 hW0, show (sCI S 2 208 0 0 600).1 1 8 = nI L by rw [sCI_o (by decide)]; exact hl, hj, p_207 hW0, r_207_1 hW1, c1_w (o := 209) (c := 0) hW1 (by decide) rfl, g1, b1_s, r_207_2 hW2, c1_w (o := 217) (c := 8) hW2 (by decide) rfl, h8, b1_s, r_207_3 hW4, kc ro6 hW4, r_207_4 hW5, kc ro7 hW5, r_207_5 hW6, kc ro8 hW6, r_207_6 hW7, kc ro9 hW7, p_207 hW8, p_207 (S := sI (sI (sI (sI (sI (sI (sI S2 218 3 0) 220 3 0) 222 3 0) 224 3 0) 226 3 0) 228 3 0) 207 11 0) hW8, p_207 (S := sI (sI (sI (sI (sI (sI (sI (sI S2 218 3 0) 220 3 0) 222 3 0) 224 3 0) 226 3 0) 228 3 0) 207 11 0) 207 12 (-1)) hW8, k_207 (S := sI (sI (sI (sI (sI (sI (sI (sI (sI S2 218 3 0) 220 3 0) 222 3 0) 224 3 0) 226 3 0) 228 3 0) 207 11 0) 207 12 (-1)) 207 10 0) hW8, bS]
  refine ⟨_, hg, g2, fun o ho => ?_, e207, fun i hi => e208 i hi, rfl, rfl, rfl, ?_⟩
  · rw [sI_o (by omega), sI_o (by omega), sI_o (by omega), sI_o (by omega), sI_o (by omega), sI_o (by omega), sI_o (by omega), sI_o (by omega), sI_o (by omega), low o (by omega) (by omega) (by omega) (by omega) (by omega) (by omega) (by omega)]
  · obtain ⟨d1, d2, d3, d4, d5, d6, d7, d8, d9⟩ := hD
    have k1 : ∀ o, o ≠ 207 → o ≠ 218 → o ≠ 220 → o ≠ 222 → o ≠ 224 → o ≠ 226 → o ≠ 228 → (sI (sI (sI (sI (sI (sI (sI (sI (sI S2 218 3 0) 220 3 0) 222 3 0) 224 3 0) 226 3 0) 228 3 0) 207 11 0) 207 12 (-1)) 207 10 0).1 o = S2.1 o := fun o h1 h2 h3 h4 h5 h6 h7 => by
      rw [sI_o h1, sI_o h1, sI_o h1, sI_o h7, sI_o h6, sI_o h5, sI_o h4, sI_o h3, sI_o h2]
    have r218 : (sI (sI (sI (sI (sI (sI (sI (sI (sI S2 218 3 0) 220 3 0) 222 3 0) 224 3 0) 226 3 0) 228 3 0) 207 11 0) 207 12 (-1)) 207 10 0).1 218 = up (S.1 218) 3 0 := by
      rw [sI_o (by decide), sI_o (by decide), sI_o (by decide), sI_o (by decide), sI_o (by decide), sI_o (by decide), sI_o (by decide), sI_o (by decide), up_f, low 218 (by decide) (by decide) (by decide) (by decide) (by decide) (by decide) (by decide)]
    have r220 : (sI (sI (sI (sI (sI (sI (sI (sI (sI S2 218 3 0) 220 3 0) 222 3 0) 224 3 0) 226 3 0) 228 3 0) 207 11 0) 207 12 (-1)) 207 10 0).1 220 = up (S.1 220) 3 0 := by
      rw [sI_o (by decide), sI_o (by decide), sI_o (by decide), sI_o (by decide), sI_o (by decide), sI_o (by decide), sI_o (by decide), up_f, sI_o (by decide), low 220 (by decide) (by decide) (by decide) (by decide) (by decide) (by decide) (by decide)]
    have r222 : (sI (sI (sI (sI (sI (sI (sI (sI (sI S2 218 3 0) 220 3 0) 222 3 0) 224 3 0) 226 3 0) 228 3 0) 207 11 0) 207 12 (-1)) 207 10 0).1 222 = up (S.1 222) 3 0 := by
      rw [sI_o (by decide), sI_o (by decide), sI_o (by decide), sI_o (by decide), sI_o (by decide), sI_o (by decide), up_f, sI_o (by decide), sI_o (by decide), low 222 (by decide) (by decide) (by decide) (by decide) (by decide) (by decide) (by decide)]
    have r224 : (sI (sI (sI (sI (sI (sI (sI (sI (sI S2 218 3 0) 220 3 0) 222 3 0) 224 3 0) 226 3 0) 228 3 0) 207 11 0) 207 12 (-1)) 207 10 0).1 224 = up (S.1 224) 3 0 := by
      rw [sI_o (by decide), sI_o (by decide), sI_o (by decide), sI_o (by decide), sI_o (by decide), up_f, sI_o (by decide), sI_o (by decide), sI_o (by decide), low 224 (by decide) (by decide) (by decide) (by decide) (by decide) (by decide) (by decide)]
    have r226 : (sI (sI (sI (sI (sI (sI (sI (sI (sI S2 218 3 0) 220 3 0) 222 3 0) 224 3 0) 226 3 0) 228 3 0) 207 11 0) 207 12 (-1)) 207 10 0).1 226 = up (S.1 226) 3 0 := by
      rw [sI_o (by decide), sI_o (by decide), sI_o (by decide), sI_o (by decide), up_f, sI_o (by decide), sI_o (by decide), sI_o (by decide), sI_o (by decide), low 226 (by decide) (by decide) (by decide) (by decide) (by decide) (by decide) (by decide)]
    have r228 : (sI (sI (sI (sI (sI (sI (sI (sI (sI S2 218 3 0) 220 3 0) 222 3 0) 224 3 0) 226 3 0) 228 3 0) 207 11 0) 207 12 (-1)) 207 10 0).1 228 = up (S.1 228) 3 0 := by
      rw [sI_o (by decide), sI_o (by decide), sI_o (by decide), up_f, sI_o (by decide), sI_o (by decide), sI_o (by decide), sI_o (by decide), sI_o (by decide), low 228 (by decide) (by decide) (by decide) (by decide) (by decide) (by decide) (by decide)]
    have r210 := (k1 210 (by decide) (by decide) (by decide) (by decide) (by decide) (by decide) (by decide)).trans e210
    have r212 := (k1 212 (by decide) (by decide) (by decide) (by decide) (by decide) (by decide) (by decide)).trans e212
    have r214 := (k1 214 (by decide) (by decide) (by decide) (by decide) (by decide) (by decide) (by decide)).trans e214
    refine ⟨⟨rwr_0 d1 r210, rwr_0 d2 r212, rwr_0 d3 r214, rwr_0 d4 r218, rwr_0 d5 r220, rwr_0 d6 r222, rwr_0 d7 r224, rwr_0 d8 r226, rwr_0 d9 r228⟩, ⟨by rw [r210, up_at], by rw [r212, up_at], by rw [r214, up_at], by rw [r218, up_at], by rw [r220, up_at], by rw [r222, up_at], by rw [r224, up_at], by rw [r226, up_at], by rw [r228, up_at]⟩, ?_, fun i hi => ?_⟩
    · rw [k1 209 (by decide) (by decide) (by decide) (by decide) (by decide) (by decide) (by decide)]
      exact g7
    · rw [k1 216 (by decide) (by decide) (by decide) (by decide) (by decide) (by decide) (by decide)]
      exact g8 i hi
end ME
