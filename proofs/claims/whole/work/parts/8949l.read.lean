/-! texts: the six sorts -/
def G4 (S T : GS) : Prop := RwD S ∧ ∃ n, RLn S T 226 3 30 0 1 vPawn n
def G5 (S T : GS) : Prop := RwD S ∧ ∃ n, RLn S T 228 2 10 0 1 vMaid n
section MB
variable {α : Type} {L : Nat} {B : Nat → Nat} {S S' T T' S0 T0 : GS} {s e k f c o w m p q n d e0 v sl srt : Nat} {R : GS → GS → Prop} {V : (Nat → Int32) → Prop}
theorem t5 {a0 a1 a2 a3 a4 x : Option α} {i : Nat} (hi : i < 5) : tsw (nI i) 0 [a0, a1, a2, a3, a4] x = [a0, a1, a2, a3, a4].getD i none := tsw_in hi (show 5 < 1000 by decide)
theorem t5_0 {a0 a1 a2 a3 a4 x : Option α} : tsw (nI 0) 0 [a0, a1, a2, a3, a4] x = a0 := t5 (i := 0) (by decide)
theorem t5_1 {a0 a1 a2 a3 a4 x : Option α} : tsw (nI 1) 0 [a0, a1, a2, a3, a4] x = a1 := t5 (i := 1) (by decide)
theorem t5_2 {a0 a1 a2 a3 a4 x : Option α} : tsw (nI 2) 0 [a0, a1, a2, a3, a4] x = a2 := t5 (i := 2) (by decide)
theorem t5_3 {a0 a1 a2 a3 a4 x : Option α} : tsw (nI 3) 0 [a0, a1, a2, a3, a4] x = a3 := t5 (i := 3) (by decide)
theorem t5_4 {a0 a1 a2 a3 a4 x : Option α} : tsw (nI 4) 0 [a0, a1, a2, a3, a4] x = a4 := t5 (i := 4) (by decide)
theorem t5_5 {a0 a1 a2 a3 a4 x : Option α} : tsw (nI 5) 0 [a0, a1, a2, a3, a4] x = x := tsw_out (n := 5) (Or.inr ⟨5, by decide, rfl, by decide⟩) rfl (by decide)
theorem FT.at (h : FT S S') (ho : o ≠ 207) : S'.1 o = S.1 o := h.fu.at ho
theorem FMt.told (h : FMt T T') : T'.1 325 = T.1 325 := h.fm.told
/-- a token changes no rows -/
theorem RLn.tk (h : RLn S T o w m p q V n) (ho : o ≠ 207 ∧ o + 1 ≠ 207) (h1 : FT S S') (h2 : FMt T T') (hV : Vc w V V) : RLn S' T' o w m p q V n := h.mv (h1.at ho.1) (h1.at ho.2) (by rw [h2.told]) (fun j _ _ => by rw [h2.told]) (fun z => (ok_fc (h1.2 _ _ (by omega))).mp z) hV.eq
theorem RwD.tk (h : RwD S) (h1 : FT S S') : RwD S' := h.at (fun o a b c => h1.at (by omega))
theorem lineH1 : LineH L B 1 GB (f_X5_readBallLine 207) (fun W x T => f_X12_ballLine 313 W x T) := by
  refine ⟨fun n j S hW => by rw [t5_1, k_207 hW], fun W x T hW => ?_, fun S T s e k h hk h0 hF hG => line1 h hk h0 hF hG, fun S T S' T' h h1 h2 => ⟨h.1.tk h1, by
    obtain ⟨n, hR⟩ := h.2
    exact ⟨n, hR.tk (by decide) h1 h2 vDeed_c⟩⟩, fun S T h => h.1⟩
  unfold f_X12_lineOf
  rw [t5_1, kk_313 hW]
theorem lineH2 : LineH L B 2 GF (f_X5_readForecastLine 207) (fun W x T => f_X12_forecastLine 313 W T) := by
  refine ⟨fun n j S hW => by rw [t5_2, k_207 hW], fun W x T hW => ?_, fun S T s e k h hk h0 hF hG => line2 h hk h0 hF hG, fun S T S' T' h h1 h2 => ⟨h.1.tk h1, by
    obtain ⟨n, hR⟩ := h.2
    exact ⟨n, hR.tk (by decide) h1 h2 vMark_c⟩⟩, fun S T h => h.1⟩
  unfold f_X12_lineOf
  rw [t5_2, kk_313 hW]
theorem lineH3 : LineH L B 3 GV (f_X5_readSightLine 207) (fun W x T => f_X12_sightLine 313 W x T) := by
  refine ⟨fun n j S hW => by rw [t5_3, k_207 hW], fun W x T hW => ?_, fun S T s e k h hk h0 hF hG => line3 h hk h0 hF hG, fun S T S' T' h h1 h2 => ⟨h.1.tk h1, ?_, ?_⟩, fun S T h => h.1⟩
  · unfold f_X12_lineOf
    rw [t5_3, kk_313 hW]
  · obtain ⟨n, hR⟩ := h.2.1
    exact ⟨n, hR.tk (by decide) h1 h2 vSeen_c⟩
  · obtain ⟨n, hR⟩ := h.2.2
    exact ⟨n, hR.tk (by decide) h1 h2 vShot_c⟩
theorem lineH4 : LineH L B 4 G4 (f_X5_readLedgerLine 207) (fun W x T => f_X12_ledgerLine 313 W x T) := by
  refine ⟨fun n j S hW => by rw [t5_4, k_207 hW], fun W x T hW => ?_, fun S T s e k h hk h0 hF hG => by
    obtain ⟨hD, n, hR⟩ := hG
    exact line4 h hk h0 hF hD hR, fun S T S' T' h h1 h2 => ⟨h.1.tk h1, by
    obtain ⟨n, hR⟩ := h.2
    exact ⟨n, hR.tk (by decide) h1 h2 vPawn_c⟩⟩, fun S T h => h.1⟩
  unfold f_X12_lineOf
  rw [t5_4, kk_313 hW]
theorem lineH5 : LineH L B 5 G5 (f_X5_readShiftsLine 207) (fun W x T => f_X12_shiftLine 313 W x T) := by
  refine ⟨fun n j S hW => by rw [t5_5, k_207 hW], fun W x T hW => ?_, fun S T s e k h hk h0 hF hG => by
    obtain ⟨hD, n, hR⟩ := hG
    exact line5 h hk h0 hF hD hR, fun S T S' T' h h1 h2 => ⟨h.1.tk h1, by
    obtain ⟨n, hR⟩ := h.2
    exact ⟨n, hR.tk (by decide) h1 h2 vMaid_c⟩⟩, fun S T h => h.1⟩
  unfold f_X12_lineOf
  rw [t5_5, kk_313 hW]
theorem lineH0 : LineH L B 0 GQ (f_X5_readCourtLine 207) (fun W x T => f_X12_courtLine 313 W x T) := by
  refine ⟨fun n j S hW => by rw [t5_0, k_207 hW], fun W x T hW => ?_, fun S T s e k h hk h0 hF hG => line0 h hk h0 hF hG, fun S T S' T' h h1 h2 => ?_, fun S T h => h.1⟩
  · unfold f_X12_lineOf
    rw [t5_0, kk_313 hW]
  · have ho : ok S' → ok S := fun z => (ok_fc (h1.2 _ _ (by omega))).mp z
    refine h.mv (fun o a b c => h1.at (by omega)) (fun j _ => by rw [h2.told]) (h2.2.2 313 23 (by omega)) (h2.2.1 313 24 (by omega)) ho (fun z => ?_)
    exact (h.2.2.2.2 (ho z)).mv (fun i _ _ => by rw [h1.at (by decide)]) (fun i _ => by rw [h1.at (by decide)]) (fun j _ _ => by rw [h2.told])
/-- whether all ladies' rooms are there: the class -/
theorem rooms_l {nR nL : Nat} (hR : Rw S 210 4 2) (hL : Rw S 212 8 5) (h0 : gk S 209 = 0) (g0 : S.2.2.1 209 0 = some 210) (g1 : S.2.2.1 209 1 = some 212) (eR : nr S 210 = nR) (eL : nr S 212 = nL) : ∀ (d j N : Nat), j + d = nL → d < N → ∃ b : Bool, f_X0_roomsOfAllAreThere_2 209 S N (nI j) = some (bi b) ∧ ((∀ k, j ≤ k → k < nL → ∃ r, r < 2 ^ 31 ∧ S.1 213 (5 * k + 0) = nI r) → (b = true ↔ ∀ k, j ≤ k → k < nL → ∃ r, r < nR ∧ S.1 213 (5 * k + 0) = nI r))
  | _, _, 0, _, hN => absurd hN (Nat.not_lt_zero _)
  | 0, j, N + 1, hj, _ => by
    have hn := hL.n40
    refine ⟨true, ?_, fun _ => ⟨fun _ k a b => absurd b (by omega), fun _ => rfl⟩⟩
    rw [f_X0_roomsOfAllAreThere_2, xR_s h0, g1, xI_s hL.1, hL.2.2.2.2.2.2.1, if_pos (nI_le (by omega) (by omega))]
    rfl
  | d + 1, j, N + 1, hj, hN => by
    have hn := hL.n40
    have hn2 := hR.n40
    obtain ⟨b, g2, g3⟩ := rooms_l hR hL h0 g0 g1 eR eL d (j + 1) N (by omega) (by omega)
    have hh : ∃ x : Int32, f_X7_has 210 (S.1 213 (5 * j + 0)) S = some x ∧ (x = 0 ∨ x = 1) ∧ ∀ r, r < 2 ^ 31 → S.1 213 (5 * j + 0) = nI r → (x = 1 ↔ r < nR) := by
      by_cases z : S.1 213 (5 * j + 0) < 0
      · exact ⟨0, hR.hasN z, Or.inl rfl, fun r hr y => absurd z (by rw [y]; exact nI_pos hr)⟩
      · obtain ⟨r, hr, er⟩ := nI_of z
        rw [er]
        refine ⟨_, hR.has hr, ?_, fun r' hr' y => ?_⟩
        · split
          · exact Or.inr rfl
          · exact Or.inl rfl
        · have := (nI_eq hr hr').mp y
          subst this
          rw [eR]
          by_cases w : r < nR
          · rw [if_pos w]
            exact ⟨fun _ => w, fun _ => rfl⟩
          · rw [if_neg w]
            exact ⟨fun u => absurd u (by decide), fun u => absurd u w⟩
    obtain ⟨x, x1, x2, x3⟩ := hh
    rw [f_X0_roomsOfAllAreThere_2, xR_s h0, g1, xI_s hL.1, hL.2.2.2.2.2.2.1, if_neg (nI_ge (by omega) (by omega)), xR_s h0, g0, xR_s h0, g1, c1_s hL.1, show f_X7_cell 212 (nI j) 0 S = _ from hL.cell (k := j) (i := 0) (by omega) (by decide), b1_s, c1_s hR.1, show f_X7_has 210 (S.1 (212 + 1) (5 * j + 0)) S = some x from x1, b1_s]
    by_cases z : x = 0
    · refine ⟨false, by rw [if_pos z]; rfl, fun H => ⟨fun y => absurd y (by decide), fun y => ?_⟩⟩
      obtain ⟨r, hr, er⟩ := y j (Nat.le_refl _) (by omega)
      have := (x3 r (by omega) er).mpr hr
      rw [z] at this
      exact absurd this (by decide)
    · have z1 : x = 1 := x2.resolve_left z
      refine ⟨b, by rw [if_neg z, nI_1]; exact g2, fun H => (g3 (fun k a c => H k (by omega) c)).trans ⟨fun y k a c => ?_, fun y k a c => y k (by omega) c⟩⟩
      by_cases w : k = j
      · subst w
        obtain ⟨r, hr, er⟩ := H k (Nat.le_refl _) c
        exact ⟨r, (x3 r hr er).mp z1, er⟩
      · exact y k (by omega) c
end MB
