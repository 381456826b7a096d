/-! courts that are told: both sides at once -/
def cOk (o : Nat) : Prop := o + 7 < 230 ∧ kd o = 0 ∧ kd (o + 1) = 7 ∧ kd (o + 1 + 1) = 14 ∧ kd (o + 3) = 7 ∧ kd (o + 3 + 1) = 14 ∧ kd (o + 5) = 7 ∧ kd (o + 5 + 1) = 14 ∧ kd (o + 7) = 14 ∧ ln (o + 1 + 1) = 4 * 2 ∧ ln (o + 3 + 1) = 8 * 5 ∧ ln (o + 5 + 1) = 6 * 2 ∧ ln (o + 7) = 3 ∧ gRf o 0 = some (o + 1) ∧ gRf o 1 = some (o + 3) ∧ gRf o 2 = some (o + 5) ∧ gRf o 3 = some (o + 7) ∧ gRf (o + 1) 2 = some (o + 1 + 1) ∧ gRf (o + 3) 2 = some (o + 3 + 1) ∧ gRf (o + 5) 2 = some (o + 5 + 1)
/-- both sides' court -/
def CF (S : GS) (o b : Nat) : Prop := Cw S o ∧ S.1 319 b = nI (nr S (o + 1)) ∧ S.1 319 (b + 1) = nI (nr S (o + 3)) ∧ S.1 319 (b + 2) = nI (nr S (o + 5)) ∧
  (∀ k, k < nr S (o + 1) → ∀ i, i < 2 → S.1 (o + 1 + 1) (2 * k + i) = S.1 319 (b + 9 + (2 * k + i))) ∧ (∀ k, k < nr S (o + 3) → ∀ i, i < 5 → S.1 (o + 3 + 1) (5 * k + i) = S.1 319 (b + 29 + (5 * k + i))) ∧ (∀ k, k < nr S (o + 5) → ∀ i, i < 2 → S.1 (o + 5 + 1) (2 * k + i) = S.1 319 (b + 17 + (2 * k + i))) ∧
  (∀ k, k < nr S (o + 1) → vRoom (fun i => S.1 319 (b + 9 + (2 * k + i)))) ∧ (∀ k, k < nr S (o + 3) → vLady (S.1 319 b) (fun i => S.1 319 (b + 29 + (5 * k + i)))) ∧ (∀ k, k < nr S (o + 5) → vStep (fun i => S.1 319 (b + 17 + (2 * k + i)))) ∧
  S.1 o 4 = S.1 319 (b + 3) ∧ S.1 o 5 = S.1 319 (b + 4) ∧ S.1 o 6 = S.1 319 (b + 5) ∧ S.1 (o + 7) 0 = S.1 319 (b + 6) ∧ S.1 (o + 7) 1 = S.1 319 (b + 7) ∧ S.1 (o + 7) 2 = S.1 319 (b + 8)
section GE
variable {S S' : GS} {o b k l : Nat} {c : Int32}
theorem RwC.cf (hW : Wr S) (h : RwC S o b) (hc : cOk o) : CF S o b := by
  obtain ⟨h1, h2, h3, h4, h5, h6, h7, h8, h9⟩ := h
  obtain ⟨k0, k1, k2, k3, k4, k5, k6, k7, k8, l1, l2, l3, l4, r1, r2, r3, r4, r5, r6, r7⟩ := hc
  obtain ⟨a1, a2, a3, a4⟩ := h1.rw hW (by omega) k2 k3 l1 r5 (by omega) (by omega)
  obtain ⟨b1, b2, b3, b4⟩ := h2.rw hW (by omega) k4 k5 l2 r6 (by omega) (by omega)
  obtain ⟨d1, d2, d3, d4⟩ := h3.rw hW (by omega) k6 k7 l3 r7 (by omega) (by omega)
  exact ⟨⟨gk_n hW (by omega) k1, rf_n hW (by omega) r1, rf_n hW (by omega) r2, rf_n hW (by omega) r3, rf_n hW (by omega) r4, gk_n hW (by omega) k8, l4, a1, b1, d1⟩, a2, b2, d2, a3, b3, d3, a4, b4, d4, h4, h5, h6, h7, h8, h9⟩
theorem Inv.cf (h : Inv S) (hk : k < 2) : CF S (10 + 21 * k) (69 * k) := by
  have hT := h.2.1 0 (by omega)
  have h0 : RwC S 10 0 := hT.2.2.2.2.2.1.1
  have h1 : RwC S 31 69 := hT.2.2.2.2.2.2.1
  exact two (P := fun k => CF S (10 + 21 * k) (69 * k)) (h0.cf h.1 (by unfold cOk; decide +kernel)) (h1.cf h.1 (by unfold cOk; decide +kernel)) hk
theorem Lm.sm {c l : Nat} {bu fa he la : Int32} (h : Lm S c l bu fa he la) (hS : Sm S S') : Lm S' c l bu fa he la := by
  unfold Lm
  rw [hS.2.2 319 (by decide)]
  exact h
theorem CF.lady (h : CF S o b) (hl : l < nr S (o + 3)) {c : Nat} (hb : b = 69 * c) : ∃ bu fa he la, Lw S o l bu fa he la ∧ Lm S c l bu fa he la := by
  obtain ⟨f0, f1, f2, f3, f4, f5, f6, f7, f8, f9, -⟩ := h
  have hn : nr S (o + 3) ≤ 8 := f0.2.2.2.2.2.2.2.2.1.2.2.2.2.2.2.2.1
  have hr4 : nr S (o + 1) ≤ 4 := f0.2.2.2.2.2.2.2.1.2.2.2.2.2.2.2.1
  obtain ⟨⟨r, g1, g3⟩, -⟩ := f8 l hl
  rw [f1, nI_clamp (by omega)] at g3
  have e0 := f5 l hl 0 (by omega)
  have e1 := f5 l hl 1 (by omega)
  have e2 := f5 l hl 2 (by omega)
  have e3 := f5 l hl 3 (by omega)
  have er := f4 r g3 1 (by omega)
  subst hb
  refine ⟨_, _, _, _, ⟨hl, rfl, rfl, rfl, r, g3, ?_, rfl⟩, ⟨by omega, ?_, ?_, ?_, r, by omega, ?_, ?_⟩⟩
  · exact e0.trans g1
  · rw [show 69 * c + (29 + 5 * l + 3) = 69 * c + 29 + (5 * l + 3) by omega]
    exact e3.symm
  · rw [show 69 * c + (29 + 5 * l + 2) = 69 * c + 29 + (5 * l + 2) by omega]
    exact e2.symm
  · rw [show 69 * c + (29 + 5 * l + 1) = 69 * c + 29 + (5 * l + 1) by omega]
    exact e1.symm
  · rw [show 69 * c + (29 + 5 * l + 0) = 69 * c + 29 + (5 * l + 0) by omega]
    exact g1
  · rw [show 69 * c + (9 + 2 * r + 1) = 69 * c + 9 + (2 * r + 1) by omega]
    exact er.symm
/-- the reference asks whether there is such a lady -/
theorem isLady (hM : Mc S b) {n : Nat} (hn : n ≤ 8) (h1 : S.1 319 (69 * b + 1) = nI n) {l : Nat} (hl : l < 2 ^ 31) : f_X12_isLady 313 (nI l) S = some (bi (decide (l < n))) := by
  unfold f_X12_isLady
  rw [i_313 hM.1, hM.2.2.2.2, h1, m_in0 hl (by omega), b1_s, bi_tz]
theorem isLadyN (hM : Mc S b) {x : Int32} (hx : x < 0) : f_X12_isLady 313 x S = some 0 := by
  unfold f_X12_isLady
  rw [i_313 hM.1, m_inN hx, b1_s]
  rfl
theorem isRoom (hM : Mc S b) {n : Nat} (hn : n ≤ 4) (h1 : S.1 319 (69 * b) = nI n) {l : Nat} (hl : l < 2 ^ 31) : f_X12_isRoom 313 (nI l) S = some (bi (decide (l < n))) := by
  unfold f_X12_isRoom
  rw [i_313 hM.1, hM.2.2.2.1, h1, m_in0 hl (by omega), b1_s, bi_tz]
theorem isRoomN (hM : Mc S b) {x : Int32} (hx : x < 0) : f_X12_isRoom 313 x S = some 0 := by
  unfold f_X12_isRoom
  rw [i_313 hM.1, m_inN hx, b1_s]
  rfl
/-- both give the same answer -/
def Both {α : Type} (A : Option α) (M : GS → Option (α × GS)) (S : GS) : Prop := ∃ v S2, A = some v ∧ M S = some (v, S2) ∧ Inv S2
def Both2 {α : Type} (A : GS → Option (α × GS)) (M : GS → Option (α × GS)) (S : GS) : Prop := ∃ v S1 S2, A S = some (v, S1) ∧ M S1 = some (v, S2) ∧ Inv S2
/-- a lady that is asked about: there, or not -/
theorem ladyQ (h : CF S o b) (x : Int32) : (∃ l, x = nI l ∧ l < nr S (o + 3)) ∨ x < 0 ∨ ∃ l, l < 2 ^ 31 ∧ x = nI l ∧ nr S (o + 3) ≤ l := by
  by_cases q : x < 0
  · exact Or.inr (Or.inl q)
  · obtain ⟨l, hl, e⟩ := nI_of q
    by_cases z : l < nr S (o + 3)
    · exact Or.inl ⟨l, e, z⟩
    · exact Or.inr (Or.inr ⟨l, hl, e, by omega⟩)
abbrev s0 (S : GS) : GS := sI S 313 0 0
theorem both_fault (h : Inv S) (x : Int32) : Both (f_X11_fault 0 x S) (f_X12_fault 313 x) S := by
  have hT := h.2.1 0 (by omega)
  have h9 : S.1 1 9 = S.1 316 0 := hT.2.2.1
  have h10 : S.1 1 10 = S.1 317 0 := hT.2.2.2.1.resolve_left (fun z => z.1 rfl)
  have hW := h.1
  have hs : Sm S (s0 S) := sm_I (by decide)
  unfold Both f_X11_fault f_X12_fault
  rw [p_313 hW]
  by_cases q : x = 0
  · refine ⟨S.1 1 9, s0 S, ?_, ?_, h.sm hs⟩
    · rw [if_pos q, r_0_0 hW, i_1 hW]
    · rw [if_pos q, r_313_3 (S := s0 S) hW, show yI (some 316) 14 0 (s0 S) _ = _ from y_316 (S := s0 S) (k := 0) hW (by decide), h9]
      rfl
  · by_cases z : x = 1
    · refine ⟨S.1 1 10, s0 S, ?_, ?_, h.sm hs⟩
      · rw [if_neg q, if_pos z, r_0_0 hW, i_1 hW]
      · rw [if_neg q, if_pos z, r_313_4 (S := s0 S) hW, show yI (some 317) 14 0 (s0 S) _ = _ from y_317 (S := s0 S) (k := 0) hW (by decide), h10]
        rfl
    · exact ⟨-1, s0 S, by rw [if_neg q, if_neg z], by rw [if_neg q, if_neg z], h.sm hs⟩
theorem both_count (h : Inv S) (x : Int32) : Both (f_X11_count 0 x S) (f_X12_count 313 x) S := by
  have hW := h.1
  have hs : Sm S (s0 S) := sm_I (by decide)
  unfold Both f_X11_count f_X12_count f_X11_count_10
  rw [p_313 hW, m_in]
  by_cases q : x < 0
  · exact ⟨-2, s0 S, by rw [if_pos q], by rw [if_pos q, b1_s, if_pos rfl], h.sm hs⟩
  · obtain ⟨k, hk, rfl⟩ := nI_of q
    by_cases z : k < 6
    · obtain ⟨n, c1, c2, c3⟩ := h.cnt z
      refine ⟨S.1 3 k, s0 S, ?_, ?_, h.sm hs⟩
      · rw [if_neg q, if_pos (show nI k < (6 : Int32) from nI_lt (b := 6) z (by omega)), r_0_0 hW, r_1_1 hW, y_3 hW z]
      · rw [if_neg q, if_neg (show ¬ (5 : Int32) < nI k from nI_nlt (a := 5) (by omega) (by omega)), b1_s, if_neg (by decide), r_313_5 (S := s0 S) hW, y_318 (S := s0 S) hW (by omega), c2]
        exact congrArg (fun q => some (q, s0 S)) c3
    · refine ⟨-2, s0 S, ?_, ?_, h.sm hs⟩
      · rw [if_neg q, if_neg (show ¬ nI k < (6 : Int32) from nI_nlt (b := 6) (by omega) (by omega))]
      · rw [if_neg q, if_pos (show (5 : Int32) < nI k from nI_lt (a := 5) (by omega) hk), b1_s, if_pos rfl]
end GE
