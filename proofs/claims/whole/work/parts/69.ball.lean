/-! stop: both answer alike -/
section BO
variable {S S' T : GS} {kc kb n : Nat}
def dkS (S : GS) (kb i j : Nat) : Int32 := S.1 320 (121 * kb + 1 + (3 * j + i))
def rsS (S : GS) (kc : Nat) : Nat := (S.1 319 (69 * kc + 4)).toNatClampNeg
def nlS (S : GS) (kc : Nat) : Nat := nr S (10 + 21 * kc + 3)
def nrS (S : GS) (kc : Nat) : Nat := nr S (10 + 21 * kc + 1)
def dS (S : GS) (kc : Nat) : DSt := dmS S (69 * kc) (rsS S kc)
def plS (S : GS) (kc kb n : Nat) : Nat × BSt := playB (dS S kc) (nlS S kc) (nrS S kc) (dkS S kb 0) (dkS S kb 1) (dkS S kb 2) n 0 (bgS S (69 * kc))
theorem Inv.rs (h : Inv S) (hc : TD S 0 kc) : S.1 319 (69 * kc + 4) = nI (rsS S kc) ∧ 1 ≤ rsS S kc ∧ rsS S kc ≤ 9 := by
  obtain ⟨-, ⟨r, r1, r2, e⟩, -⟩ := h.vc hc
  have : rsS S kc = r := by
    unfold rsS
    rw [e, nI_clamp (by omega)]
  rw [this]
  exact ⟨e, r1, r2⟩
theorem Inv.co5 (h : Inv S) (hc : TD S 0 kc) : S.1 (10 + 21 * kc) 5 = nI (rsS S kc) := by
  obtain ⟨f0, f1, f2, f3, f4, f5, f6, f7, f8, f9, g1, g2, g3⟩ := h.cf hc.1
  exact g2.trans (h.rs hc).1
theorem clsPlay (h : Inv S) (hc : TD S 0 kc) (hb : TD S 1 kb) (hn : n ≤ nr S (23 + 21 * kb)) : ∃ S', f_X2_play 230 (some (10 + 21 * kc)) (some (23 + 21 * kb)) (nI n) S = some (bi (decide ((plS S kc kb n).1 = n)), S') ∧ OfB S S' ∧ Hx S' (10 + 21 * kc) (nlS S kc) (nrS S kc) (dS S kc) ∧ HB S' (nlS S kc) (nrS S kc) (plS S kc kb n).2 ∧ S'.1 230 9 = nI (plS S kc kb n).1 ∧ BI (nlS S kc) (nrS S kc) (rsS S kc) (plS S kc kb n).2 ∧ (plS S kc kb n).1 ≤ n := by
  have h2 := hc.1
  have h3 := hb.1
  obtain ⟨f1, f2, f3, f4⟩ := h.lf_b hb.1
  exact playH (o := 10 + 21 * kc) (b := 69 * kc) (bo := 23 + 21 * kb) (h.cf hc.1) h.1 (by omega) (h.co5 hc) (h.rs hc).2.2 (by omega) f1 (fun j hj => ⟨vDeed_k (f4 j hj), f3 j hj 0 (by omega), f3 j hj 1 (by omega), f3 j hj 2 (by omega)⟩) hn
def tS (T : GS) (kc kb : Nat) : GS := hS (sI (s0 T) 313 28 (nI kb)) kc
theorem tS_sm : Sm T (tS T kc kb) := (sm_I (by decide)).tr ((sm_I (by decide)).tr (hS_sm _ _))
theorem CF.hxm {o b rs : Nat} (h : CF S o b) (hb : b = 69 * kc) (hM : Mc T kc) (e : T.1 319 = S.1 319) (hr : S.1 319 (69 * kc + 4) = nI rs) : HxM T kc (nr S (o + 3)) (nr S (o + 1)) (dmS S b rs) := by
  subst hb
  unfold HxM
  rw [e]
  refine ⟨hM, h.2.1, h.2.2.1, fun r hr => ⟨?_, ?_⟩, fun l hl => ⟨?_, ?_, ?_⟩, hr, h.n8, h.n4⟩
  · rw [show 69 * kc + (9 + 2 * r + 1) = 69 * kc + 9 + (2 * r + 1) by omega]
    rfl
  · rw [show 69 * kc + (9 + 2 * r) = 69 * kc + 9 + (2 * r + 0) by omega]
    rfl
  · rw [show 69 * kc + (29 + 5 * l + 3) = 69 * kc + 29 + (5 * l + 3) by omega]
    rfl
  · rw [show 69 * kc + (29 + 5 * l + 2) = 69 * kc + 29 + (5 * l + 2) by omega]
    rfl
  · rw [show 69 * kc + (29 + 5 * l + 4) = 69 * kc + 29 + (5 * l + 4) by omega]
    rfl
theorem modHx (h : Inv S) (hc : TD S 0 kc) (hT : Sm S T) (hM : Mc T kc) : HxM T kc (nlS S kc) (nrS S kc) (dS S kc) := (h.cf hc.1).hxm rfl hM (hT.2.2 319 (by decide)) (h.rs hc).1
theorem modBeg (h : Inv S) (hc : TD S 0 kc) (hT : Sm S T) (hM : Mc T kc) : ∃ S', f_X12_begin 313 T = some S' ∧ OfM T S' ∧ HM S' (nlS S kc) (nrS S kc) (bgS S (69 * kc)) := by
  have e9 : T.1 319 = S.1 319 := hT.2.2 319 (by decide)
  have hcf := h.cf hc.1
  refine beginM (modHx h hc hT hM) (by rw [e9]) fun l hl => ?_
  rw [e9, show 69 * kc + (29 + 5 * l + 0) = 69 * kc + 29 + (5 * l + 0) by omega, show 69 * kc + (29 + 5 * l + 1) = 69 * kc + 29 + (5 * l + 1) by omega]
  exact ⟨(hcf.rm hl).1, rfl⟩
theorem modPlay (h : Inv S) (hc : TD S 0 kc) (hb : TD S 1 kb) (hT : Sm S T) (hM : Mc T kc) (h28 : T.1 313 28 = nI kb) (hn : n ≤ nr S (23 + 21 * kb)) : ∃ S', f_X12_play 313 (nI n) T = some (nI (plS S kc kb n).1, S') ∧ OfM T S' ∧ HxM S' kc (nlS S kc) (nrS S kc) (dS S kc) ∧ HM S' (nlS S kc) (nrS S kc) (plS S kc kb n).2 := by
  obtain ⟨f1, f2, f3, f4⟩ := h.lf_b hb.1
  have hb40 : nr S (23 + 21 * kb) ≤ 40 := f1.2.2.2.2.2.2.2.1
  have e20 : T.1 320 = S.1 320 := hT.2.2 320 (by decide)
  have hx := modHx h hc hT hM
  obtain ⟨S1, g1, g2, g3⟩ := modBeg h hc hT hM
  obtain ⟨S', k1, k2, k3⟩ := play6M (D := dS S kc) (h.rs hc).2.1 (kb := kb) (dk := dkS S kb 0) (dx := dkS S kb 1) (dy := dkS S kb 2) hn hb40 hb.1 (fun j hj => vDeed_k (f4 j hj)) n 0 fu S1 (bgS S (69 * kc)) (g2.hx hx) ((h.cf hc.1).bi0 (h.rs hc).2.2) g3 ⟨by rw [g2.2.2 28 (by decide)]; exact h28, fun j hj => by rw [g2.2.1 320 (by decide) (by decide), e20]; exact ⟨rfl, rfl, rfl⟩⟩ (by omega) (by unfold fu; omega)
  refine ⟨S', ?_, g2.tr k2, (g2.tr k2).hx hx, k3⟩
  unfold f_X12_play
  rw [k_313 hx.1.1, g1, b1_s]
  exact k1
theorem deedsT (h : Inv S) (hb : TD S 1 kb) (hT : Sm S T) (h28 : T.1 313 28 = nI kb) : f_X12_deeds 313 T = some (nI (nr S (23 + 21 * kb))) := by
  rw [deeds_v (hT.wr h.1) hb.1 h28, hT.2.2 320 (by decide)]
  exact congrArg some (h.lf_b hb.1).2.1
theorem both_stop (h : Inv S) (x1 x2 : Int32) : Both2 (f_X11_stop 0 x1 x2) (f_X12_stop 313 x1 x2) S := by
  have hW := h.1
  rcases tld h (s := 1) (by decide) x2 with ⟨kb, rfl, hkb⟩ | hnb
  · rcases tld h (s := 0) (by decide) x1 with ⟨kc, rfl, hkc⟩ | hnc
    · obtain ⟨S1, g1, g2, g3, g4, g5, g6, g7⟩ := clsPlay h hkc hkb (Nat.le_refl _)
      have hs1 := g2.sm
      have hW1 := hs1.wr hW
      have hi1 := h.sm hs1
      have hT : Sm S (tS S1 kc kb) := hs1.tr tS_sm
      obtain ⟨S2, k1, k2, k3, k4⟩ := modPlay h hkc hkb hT (hS_Mc hW1 hkc.1) rfl (Nat.le_refl _)
      refine ⟨nI (plS S kc kb (nr S (23 + 21 * kb))).1, S1, S2, ?_, ?_, h.sm (hT.tr k2.sm)⟩
      · obtain ⟨f1, f2, f3, f4⟩ := h.lf_b hkb.1
        unfold f_X11_stop
        rw [r_0_0 hW, k_1 hW, courtAt_y hW hkc, b1_s, r_0_0 hW, k_1 hW, rowsAt_b hW hkb, b1_s, nul_s, nul_s, r_0_4 hW, xI_s f1.1, f1.2.2.2.2.2.2.1, kk_230 hW, g1, b2_s, r_0_4 hW1, i_230 hW1, g5]
      · unfold f_X12_stop
        rw [p_313 hW1, kk_313 (S := s0 S1) hW1, hasBall_y (S := s0 S1) hW1 (hkb.sm (hs1.tr (sm_I (by decide)))), b2_s, if_neg n10, kk_313 (S := sI (s0 S1) 313 28 (nI kb)) hW1, hand_y (S := sI (s0 S1) 313 28 (nI kb)) hW1 (hkc.sm (hs1.tr ((sm_I (by decide)).tr (sm_I (by decide))))), b2_s, if_neg n10, show hS (sI (s0 S1) 313 28 (nI kb)) kc = tS S1 kc kb from rfl, k_313 (S := tS S1 kc kb) (hT.wr hW), deedsT h hkb hT rfl, b1_s, kk_313 (S := tS S1 kc kb) (hT.wr hW), k1, b2_s]
    · have hs : Sm S (sI (s0 S) 313 28 (nI kb)) := (sm_I (by decide)).tr (sm_I (by decide))
      refine ⟨-1, S, sI (s0 S) 313 28 (nI kb), ?_, ?_, h.sm hs⟩
      · unfold f_X11_stop
        rw [r_0_0 hW, k_1 hW, courtAt_n hW hnc, b1_s, r_0_0 hW, k_1 hW, rowsAt_b hW hkb, b1_s, nul_n]
      · unfold f_X12_stop
        rw [p_313 hW, kk_313 (S := s0 S) hW, hasBall_y (S := s0 S) hW (hkb.sm (sm_I (by decide))), b2_s, if_neg n10, kk_313 (S := sI (s0 S) 313 28 (nI kb)) hW, hand_n (S := sI (s0 S) 313 28 (nI kb)) hW (hnc.sm hs), b2_s, if_pos rfl]
  · refine ⟨-1, S, sI (s0 S) 313 28 x2, ?_, ?_, h.sm ((sm_I (by decide)).tr (sm_I (by decide)))⟩
    · unfold f_X11_stop
      rcases tld h (s := 0) (by decide) x1 with ⟨kc, rfl, hkc⟩ | hnc
      · rw [r_0_0 hW, k_1 hW, courtAt_y hW hkc, b1_s, r_0_0 hW, k_1 hW, rowsAt_n hW (s := 1) (by decide) 1 rfl hnb, b1_s, nul_s, nul_n]
      · rw [r_0_0 hW, k_1 hW, courtAt_n hW hnc, b1_s, r_0_0 hW, k_1 hW, rowsAt_n hW (s := 1) (by decide) 1 rfl hnb, b1_s, nul_n]
    · unfold f_X12_stop
      rw [p_313 hW, kk_313 (S := s0 S) hW, hasBall_n (S := s0 S) hW (hnb.sm (sm_I (by decide))), b2_s, if_pos rfl]
/-- the reference lays a state: what the class plays -/
theorem modLay (h : Inv S) (hc : TD S 0 kc) (hb : TD S 1 kb) (hT : Sm S T) (hn : n ≤ nr S (23 + 21 * kb)) : ∃ S', f_X12_layState 313 (nI kc) (nI kb) (nI n) (s0 T) = some (bi (decide ((plS S kc kb n).1 = n)), S') ∧ Sm T S' ∧ HxM S' kc (nlS S kc) (nrS S kc) (dS S kc) ∧ HM S' (nlS S kc) (nrS S kc) (plS S kc kb n).2 := by
  have hW := hT.wr h.1
  have hT3 : Sm S (tS T kc kb) := hT.tr tS_sm
  have hb40 : nr S (23 + 21 * kb) ≤ 40 := (h.lf_b hb.1).1.2.2.2.2.2.2.2.1
  obtain ⟨S', k1, k2, k3, k4⟩ := modPlay h hc hb hT3 (hS_Mc hW hc.1) rfl hn
  have hle : (plS S kc kb n).1 ≤ n := (clsPlay h hc hb hn).choose_spec.2.2.2.2.2.2
  refine ⟨S', ?_, tS_sm.tr k2.sm, k3, k4⟩
  unfold f_X12_layState
  rw [kk_313 (S := s0 T) hW, hasBall_y (S := s0 T) hW (hb.sm (hT.tr (sm_I (by decide)))), b2_s, if_neg n10, kk_313 (S := sI (s0 T) 313 28 (nI kb)) hW, hand_y (S := sI (s0 T) 313 28 (nI kb)) hW (hc.sm (hT.tr ((sm_I (by decide)).tr (sm_I (by decide))))), b2_s, if_neg n10, show hS (sI (s0 T) 313 28 (nI kb)) kc = tS T kc kb from rfl, k_313 (S := tS T kc kb) hW, deedsT h hb hT3 rfl, b1_s, m_in, if_neg (nI_pos (by omega)), if_neg (nI_nlt hn (by omega)), b1_s, if_neg n10, kk_313 (S := tS T kc kb) hW, k1, b2_s]
  by_cases z : (plS S kc kb n).1 = n
  · rw [if_pos (by rw [z]), decide_eq_true z]
    rfl
  · rw [if_neg (by rw [nI_eq (by omega) (by omega)]; exact z), decide_eq_false z]
    rfl
end BO
