/-! cover answers alike -/
section CX
variable {S S' : GS} {o b k l : Nat} {c : Int32}
theorem all_w {np w : Nat} (hn : np ≤ w) (p : Nat → Bool) : countN (fun j => (2 ^ w - 1).testBit j && p j) np 0 0 = countN p np 0 0 :=
  countN_c _ _ np 0 0 (fun j _ hj => by
    rw [Nat.testBit_two_pow_sub_one, decide_eq_true (by omega), Bool.true_and])
/-- the gap's spec: at which minute fewer than so many of a set are there -/
def gapS (S : GS) (k np s : Nat) (f t : Nat) (x4 : Int32) : Int32 := firstS (fun m => !decide (x4 ≤ nI (countN (fun j => s.testBit j && thP S k m j) np 0 0))) (t + 1 - f) f
theorem gapOfC (hW : Wr S') {np : Nat} (hnp : np ≤ 10) (hA : ∀ m, m < 31 → S'.1 312 m = nI (setN (thP S k m) np 0 0)) {f t : Nat} (hf : f ≤ t) (ht : t ≤ 30) (s : Nat) (x4 : Int32) : f_X6_firstGapOf 311 (nI s) (nI f) (nI t) x4 S' = some (gapS S k np s f t x4) := by
  have hlt : ∀ m, setN (thP S k m) np 0 0 < 1024 := fun m => by
    have h1 := setN_lt (thP S k m) np 0 0 (by decide)
    have h2 : 2 ^ (0 + np) ≤ 2 ^ 10 := Nat.pow_le_pow_right (by decide) (by omega)
    omega
  unfold f_X6_firstGapOf
  have e : jmax 0 (nI f) = nI f := by
    unfold jmax
    by_cases q : (0 : Int32) < nI f
    · rw [if_pos q]
    · rw [if_neg q]
      have : f = 0 := by
        by_cases z : f = 0
        · exact z
        · exact absurd (show (0 : Int32) < nI f from nI_lt (a := 0) (by omega) (by omega)) q
      rw [this]
      rfl
  rw [e, gapC_l hW (A := fun m => setN (thP S k m) np 0 0) (fun m hm => ⟨hA m hm, hlt m⟩) ht (s := s) (x4 := x4) (t + 1 - f) f fu (by omega) (by unfold fu; omega)]
  unfold gapS
  refine congrArg some (firstS_c _ _ fun m _ _ => ?_)
  rw [pop_and _ _ _ hnp]
theorem gapOfM {np : Nat} (h : Ms S k np) {f t : Nat} (hf : f ≤ t) (ht : t ≤ 30) {s : Nat} (hs : s < 1024) (x4 : Int32) : f_X12_gapOf 313 (nI f) (nI t) x4 (nI s) S = some (gapS S k np s f t x4) :=
  gapM_l h ht hs (x4 := x4) (t + 1 - f) f fu (by omega) (by unfold fu; omega)
theorem both_cover (h : Inv S) (x1 x2 x3 x4 x5 : Int32) : Both2 (f_X11_cover 0 x1 x2 x3 x4 x5) (f_X12_cover 313 x1 x2 x3 x4 x5) S := by
  have hW := h.1
  unfold Both2 f_X11_cover f_X12_cover
  rcases tld h (s := 5) (by decide) x1 with ⟨k, rfl, hk⟩ | hn
  · have hf := h.lf_m hk.1
    have hm : nr S (29 + 21 * k) ≤ 10 := hf.1.2.2.2.2.2.2.2.1
    have hk2 := hk.1
    have hs3 : Sm S (sI (s0 S) 313 59 (nI k)) := (sm_I (by decide)).tr (sm_I (by decide))
    rw [r_0_0 hW, k_1 hW, rowsAt_m hW hk, b1_s, nul_s]
    have hmod : ∀ S1 : GS, Wr S1 → Sm S S1 → f_X12_hasShifts 313 (nI k) (s0 S1) = some (1, sI (s0 S1) 313 59 (nI k)) := fun S1 hW1 hs1 => hasSh_y (S := s0 S1) hW1 ((hk.sm hs1).sm (sm_I (by decide)))
    by_cases bad : f_X12_in x2 0 30 S = some 0 ∨ f_X12_in x3 x2 30 S = some 0 ∨ f_X12_in x4 1 10 S = some 0
    · refine ⟨-1, S, sI (s0 S) 313 59 (nI k), ?_, ?_, h.sm hs3⟩
      · rw [m_in, m_in, m_in] at bad
        by_cases q1 : x2 < 0
        · rw [if_pos q1]
        rw [if_neg q1]
        by_cases q2 : 30 < x3
        · rw [if_pos q2]
        rw [if_neg q2]
        by_cases q3 : x3 < x2
        · rw [if_pos q3]
        rw [if_neg q3, maidNum_q (S' := S)]
        rw [if_neg q1, if_neg q3, if_neg q2, ← m_in (S := S) (x := x4)] at bad
        rcases bad with e | e | e
        · exfalso
          split at e
          · next z => exact q2 (Int32.lt_of_lt_of_le z (Int32.not_lt.mp q3))
          · exact absurd e (by decide)
        · exact absurd e (by decide)
        · rw [e, b1_s, if_pos rfl]
      · rw [p_313 hW, kk_313 (S := s0 S) hW, hmod S hW (Sm.rf S), b2_s, if_neg n10, in_S (S' := S), in_S (S' := S) x3, in_S (S' := S) x4]
        rcases in_or (S := S) x2 0 30 with e | e
        · rw [e, b1_s, if_pos rfl]
        rw [e, b1_s, if_neg n10]
        rcases in_or (S := S) x3 x2 30 with e2 | e2
        · rw [e2, b1_s, if_pos rfl]
        rw [e2, b1_s, if_neg n10]
        rcases in_or (S := S) x4 1 10 with e3 | e3
        · rw [e3, b1_s, if_pos rfl]
        · rw [e, e2, e3] at bad
          exact absurd bad (by decide)
    · have b1' : f_X12_in x2 0 30 S = some 1 := (in_or (S := S) x2 0 30).resolve_left fun e => bad (Or.inl e)
      have b2' : f_X12_in x3 x2 30 S = some 1 := (in_or (S := S) x3 x2 30).resolve_left fun e => bad (Or.inr (Or.inl e))
      have b3' : f_X12_in x4 1 10 S = some 1 := (in_or (S := S) x4 1 10).resolve_left fun e => bad (Or.inr (Or.inr e))
      have g1 : ¬ x2 < 0 := fun q => by
        rw [m_in, if_pos q] at b1'
        exact absurd b1' (by decide)
      have g2 : ¬ x3 < x2 := fun q => by
        rw [m_in, if_pos q] at b2'
        exact absurd b2' (by decide)
      have g3 : ¬ (30 : Int32) < x3 := fun q => by
        rw [m_in, if_neg g2, if_pos q] at b2'
        exact absurd b2' (by decide)
      obtain ⟨f, hf2, rfl⟩ := nI_of g1
      have g0 : ¬ x3 < 0 := fun q => g2 (lt_neg f rfl hf2 q)
      obtain ⟨t, ht2, rfl⟩ := nI_of g0
      have ht : t ≤ 30 := Nat.not_lt.mp fun z => g3 (show (30 : Int32) < nI t from nI_lt (a := 30) z ht2)
      have hft : f ≤ t := Nat.not_lt.mp fun z => g2 (nI_lt z hf2)
      obtain ⟨S1, e1, e2, e3⟩ := begin_v hW hf (by omega)
      have hW1 := e2.wr hW
      have hs1 : Sm S S1 := e2.sm (by decide)
      have hsm : Sm S1 (sI (s0 S1) 313 59 (nI k)) := (sm_I (by decide)).tr (sm_I (by decide))
      have e324 : (sI (s0 S1) 313 59 (nI k)).1 324 = S.1 324 := by
        show S1.1 324 = _
        exact e2.2 324 (by decide)
      have hth : ∀ m, thP (sI (s0 S1) 313 59 (nI k)) k m = thP S k m := fun m => by
        funext j
        unfold thP mF
        rw [e324]
      have hgs : ∀ s, gapS (sI (s0 S1) 313 59 (nI k)) k (nr S (29 + 21 * k)) s f t x4 = gapS S k (nr S (29 + 21 * k)) s f t x4 := fun s => by
        unfold gapS
        refine firstS_c _ _ fun m _ _ => ?_
        rw [hth]
      have hMs : Ms (sI (s0 S1) 313 59 (nI k)) k (nr S (29 + 21 * k)) := ⟨hW1, hk.1, hm, rfl, by rw [e324]; exact hf.2.1, fun j hj => by
        unfold mF
        rw [e324]
        obtain ⟨⟨a1, a2⟩, a3, a4⟩ := mF_v hf hj
        exact ⟨a1, a2, a3, a4⟩⟩
      have hp : 2 ^ nr S (29 + 21 * k) ≤ 2 ^ 10 := Nat.pow_le_pow_right (by decide) hm
      have hp1 : 1 ≤ 2 ^ nr S (29 + 21 * k) := Nat.one_le_two_pow
      have h1n : nr S1 (29 + 21 * k) = nr S (29 + 21 * k) := (hf.1.of e2 (by omega) (by omega)).2.1
      have hR1 := (hf.1.of e2 (by omega) (by omega)).1
      rw [if_neg g1, if_neg g3, if_neg g2, maidNum_q (S' := S), b3', b1_s, if_neg n10, r_0_9 hW, k_311 hW, e1, b1_s]
      by_cases q5 : x5 = 0
      · refine ⟨deepV (covS popN (fun s => decide (gapS S k (nr S (29 + 21 * k)) s f t x4 = -1)) (2 ^ nr S (29 + 21 * k)) 0 none), S1, sI (s0 S1) 313 59 (nI k), ?_, ?_, h.sm (hs1.tr hsm)⟩
        · rw [if_pos q5, r_0_9 hW1, xI_s hR1.1, hR1.2.2.2.2.2.2.1, h1n, k_311 hW1]
          unfold f_X6_fewestMaids
          rw [nI_1, show f_X6_fewestMaids_11 311 S1 fu (nI (nr S (29 + 21 * k))) (nI f) (nI t) x4 (-1) (nI (nr S (29 + 21 * k) + 1)) 0 = _ from covC_l hm (g := fun s => gapS S k (nr S (29 + 21 * k)) s f t x4) (fun s _ => gapOfC hW1 hm e3 hft ht s x4) hW1 (2 ^ nr S (29 + 21 * k)) 0 fu none (by omega) (by unfold fu; omega) (fun j hj => nomatch hj), b1_s]
        · rw [p_313 hW1, kk_313 (S := s0 S1) hW1, hmod S1 hW1 hs1, b2_s, if_neg n10, in_S (S' := S), b1', b1_s, if_neg n10, in_S (S' := S), b2', b1_s, if_neg n10, in_S (S' := S), b3', b1_s, if_neg n10, k_313 (S := sI (s0 S1) 313 59 (nI k)) hW1, hMs.many, b1_s, if_pos q5, shl_k _ (by omega), show nI (2 ^ nr S (29 + 21 * k)) - 1 = nI (2 ^ nr S (29 + 21 * k) - 1) from nI_sub (b := 1) hp1]
          have hq := covM_l (S := sI (s0 S1) 313 59 (nI k)) hm (x2 := nI f) (x3 := nI t) (x4 := x4) (g := fun s => gapS S k (nr S (29 + 21 * k)) s f t x4) (fun s hs => by rw [gapOfM hMs hft ht (by omega) x4, hgs]) hW1 (2 ^ nr S (29 + 21 * k)) 0 fu none (by omega) (by unfold fu; omega) (fun j hj => nomatch hj)
          generalize covS popN (fun s => decide (gapS S k (nr S (29 + 21 * k)) s f t x4 = -1)) (2 ^ nr S (29 + 21 * k)) 0 none = r at hq ⊢
          exact hq
      · refine ⟨gapS S k (nr S (29 + 21 * k)) (2 ^ 32 - 1) f t x4, S1, sI (s0 S1) 313 59 (nI k), ?_, ?_, h.sm (hs1.tr hsm)⟩
        · rw [if_neg q5, r_0_9 hW1, k_311 hW1]
          unfold f_X6_firstGap
          rw [k_311 hW1, show (-1 : Int32) = nI (2 ^ 32 - 1) by decide, gapOfC hW1 hm e3 hft ht (2 ^ 32 - 1) x4, b1_s, b1_s]
        · rw [p_313 hW1, kk_313 (S := s0 S1) hW1, hmod S1 hW1 hs1, b2_s, if_neg n10, in_S (S' := S), b1', b1_s, if_neg n10, in_S (S' := S), b2', b1_s, if_neg n10, in_S (S' := S), b3', b1_s, if_neg n10, k_313 (S := sI (s0 S1) 313 59 (nI k)) hW1, hMs.many, b1_s, if_neg q5, shl_k _ (by omega), show nI (2 ^ nr S (29 + 21 * k)) - 1 = nI (2 ^ nr S (29 + 21 * k) - 1) from nI_sub (b := 1) hp1, k_313 (S := sI (s0 S1) 313 59 (nI k)) hW1, gapOfM hMs hft ht (by omega) x4, b1_s, hgs]
          refine congrArg (fun q => some (q, _)) ?_
          unfold gapS
          refine firstS_c _ _ fun m _ _ => ?_
          rw [all_bits, all_w (by omega)]
  · refine ⟨-1, S, sI (s0 S) 313 59 x1, ?_, ?_, h.sm ((sm_I (by decide)).tr (sm_I (by decide)))⟩
    · rw [r_0_0 hW, k_1 hW, rowsAt_n hW (s := 5) (by decide) 5 rfl hn, b1_s, nul_n]
    · rw [p_313 hW, kk_313 (S := s0 S) hW, hasSh_n (S := s0 S) hW (hn.sm (sm_I (by decide))), b2_s, if_pos rfl]
end CX
