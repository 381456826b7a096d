/-! may: both answer alike -/
section MZ
variable {S S' : GS} {o b k l co : Nat} {c : Int32}
theorem s10 : ¬ (some (1 : Int32) = some 0) := by decide
abbrev maP (ft : Nat → Nat → Bool) (gl L i : Nat) : Nat → Bool := fun m => decide (aN ft gl i m ≠ 0 ∧ onN ft L (L - i) m ≠ 0)
theorem maP_go {ft : Nat → Nat → Bool} {gl L i : Nat} (hi : i ≤ L) {m : Nat} (hm : m < 41) : nzP (gR (aN ft gl) L i) m = maP ft gl L i m := by
  have h := go_ne ft gl L (L - i) (by omega) m hm
  rw [show L - (L - i) = i by omega] at h
  exact decide_eq_decide.mpr h
theorem maP_sum {ft : Nat → Nat → Bool} {gl L i : Nat} (hi : i ≤ L) : sumN (aN ft gl L) 41 = 0 ↔ ∀ m, m < 41 → maP ft gl L i m = false := by
  have h := ways_d ft gl L (L - i) (by omega)
  rw [show L - (L - i) = i by omega] at h
  rw [← h]
  constructor
  · intro z m hm
    have := sumN_le (F := fun m => aN ft gl i m * onN ft L (L - i) m) 41 hm
    rw [z] at this
    have this : aN ft gl i m * onN ft L (L - i) m ≤ 0 := this
    refine decide_eq_false fun y => ?_
    have := Nat.mul_pos (Nat.pos_of_ne_zero y.1) (Nat.pos_of_ne_zero y.2)
    omega
  · intro z
    rw [sumN_c (G := fun _ => 0) 41 (fun m hm => by
      have := of_decide_eq_false (z m hm)
      by_cases q : aN ft gl i m = 0
      · rw [q, Nat.zero_mul]
      · have q2 : onN ft L (L - i) m = 0 := Classical.byContradiction fun y => this ⟨q, y⟩
        rw [q2, Nat.mul_zero]), sumN_0]
theorem maV_no {p : Nat → Bool} (h : ∀ m, m < 41 → p m = false) (x : Int32) : maV p x = -1 := by
  unfold maV
  rcases first_last p 41 0 with ⟨h1, h2, h3, -⟩ | ⟨a, b, t, h1, h2, h3, h4, -⟩
  · rw [h1, h2]
    by_cases q0 : x = 0
    · rw [if_pos q0]
    · rw [if_neg q0]
      by_cases q1 : x = 1
      · rw [if_pos q1]
      · rw [if_neg q1]
        split <;> rfl
  · rw [h a (by omega)] at h4
    exact absurd h4 Bool.false_ne_true
theorem maV_2 {p : Nat → Bool} (h : ¬ ∀ m, m < 41 → p m = false) : (if firstS p 41 0 = lastS p 41 0 (-1) then some (firstS p 41 0, S) else some (-1, S)) = some (maV p 2, S) := by
  have e2 : maV p 2 = if countS p 41 0 0 = 1 then firstS p 41 0 else -1 := by
    unfold maV
    rw [if_neg (show ¬ (2 : Int32) = 0 by decide), if_neg (show ¬ (2 : Int32) = 1 by decide)]
  rw [e2]
  rcases first_last p 41 0 with ⟨h1, h2, h3, h4⟩ | ⟨a, b, t, h1, h2, h3, h4, h5, h6, h7, h8, h9, h10⟩
  · exact absurd (fun m hm => h4 m (by omega) (by omega)) h
  · have ec : countS p 41 0 0 = nI t := by
      have := countN_S p 41 0 0
      rw [h9, Nat.zero_add] at this
      exact this.symm
    rw [h5, h6, ec]
    by_cases q : a = b
    · rw [if_pos (by rw [q]), if_pos (by rw [h10.mpr q]; rfl)]
    · rw [if_neg (by rw [nI_eq (by omega) (by omega)]; exact q), if_neg (by
        rw [show (1 : Int32) = nI 1 from rfl, nI_eq (by omega) (by omega)]
        exact fun z => q (h10.mp z))]
theorem both_may (h : Inv S) (x1 x2 x3 x4 : Int32) : Both2 (f_X11_may 0 x1 x2 x3 x4) (f_X12_may 313 x1 x2 x3 x4) S := by
  have hW := h.1
  unfold Both2
  rcases tld h (s := 3) (by decide) x2 with ⟨k2, rfl, hk2⟩ | hn2
  · rcases tld h (s := 0) (by decide) x1 with ⟨k, rfl, hk⟩ | hn
    · obtain ⟨ft, gl, L, al, S1, hgl, hL, hI1, hs1, hla, hwa, hc, hmo⟩ := ways_both h hk hk2
      have hmod : ∀ T, Inv T → Sm S T → ∃ T', Inv T' ∧ f_X12_may 313 (nI k) (nI k2) x3 x4 T = some (if f_X12_in x4 0 2 S = some 0 then -1 else if al = false then -1 else if f_X12_in x3 0 (nI L) S = some 0 then -1 else maV (maP ft gl L x3.toNatClampNeg) x4, T') := fun T hT hsT => by
        have hWT := hT.1
        unfold f_X12_may
        rcases in_or (S := S) x4 0 2 with e4 | e4
        · refine ⟨s0 T, hT.sm (sm_I (by decide)), ?_⟩
          rw [p_313 hWT, in_S (S' := S), e4, b1_s, if_pos rfl, if_pos rfl]
        · obtain ⟨S3, r1, r2, r3⟩ := hmo (s0 T) (hT.sm (sm_I (by decide))) (hsT.tr (sm_I (by decide)))
          refine ⟨S3, hT.sm ((sm_I (by decide)).tr r1), ?_⟩
          rw [p_313 hWT, in_S (S' := S), e4, b1_s, if_neg n10, kk_313 (S := s0 T) hWT, r2, b2_s, if_neg s10]
          cases al
          · rw [if_pos (show bi false = 0 from rfl), if_pos rfl]
          · obtain ⟨t1, t2, t3, t4, t5⟩ := r3 rfl
            rw [if_neg (show ¬ bi true = 0 by decide), if_neg (show ¬ (true = false) by decide), i_313 t1.1, t2, in_S (S' := S)]
            rcases in_or (S := S) x3 0 (nI L) with e3 | e3
            · rw [e3, b1_s, if_pos rfl, if_pos rfl]
            · obtain ⟨i, rfl, -, hi⟩ := in1 (a := 0) (by decide) (by omega) e3
              have hb2 : ∀ j, j < 41 → onN ft L (L - i) j < 2 ^ 31 := fun j hj => by
                have h1 := onN_le ft L (L - i) j hj
                have h2 := p3_le (i := L - i) (by omega)
                omega
              rw [e3, b1_s, if_neg n10, if_neg s10, nI_clamp (by omega)]
              exact may50 (by omega) t1.1 (t4 i hi) (t5 i hi) (fun j hj => aN_b (by omega) hj) hb2 41 0 fu (-1) (-1) 0 (by omega) (by unfold fu; omega)
      rcases in_or (S := S) x3 0 (nI L) with e3 | e3
      · obtain ⟨T', t1, t2⟩ := hmod S h (Sm.rf S)
        refine ⟨-1, S, T', ?_, ?_, t1⟩
        · unfold f_X11_may
          rw [r_0_0 hW, k_1 hW, courtAt_y hW hk, b1_s, r_0_0 hW, k_1 hW, sightAt_y hW hk2, b1_s, nul_s, nul_s, c1_s (sight_k hW hk2.1).1, hla, b1_s]
          rw [m_in] at e3
          by_cases q : x3 < 0
          · rw [if_pos q]
          · rw [if_neg q] at e3 ⊢
            by_cases z : nI L < x3
            · rw [if_pos z]
            · rw [if_neg z] at e3
              exact absurd e3 (by decide)
        · rw [t2, e3, if_pos rfl]
          refine congrArg (fun q => some (q, T')) ?_
          split
          · rfl
          · split <;> rfl
      · obtain ⟨i, rfl, -, hi⟩ := in1 (a := 0) (by decide) (by omega) e3
        obtain ⟨T', t1, t2⟩ := hmod S1 hI1 hs1
        have hW1 := hI1.1
        rw [e3, if_neg s10, nI_clamp (by omega)] at t2
        cases al
        · refine ⟨-1, S1, T', ?_, ?_, t1⟩
          · unfold f_X11_may
            rw [r_0_0 hW, k_1 hW, courtAt_y hW hk, b1_s, r_0_0 hW, k_1 hW, sightAt_y hW hk2, b1_s, nul_s, nul_s, c1_s (sight_k hW hk2.1).1, hla, b1_s]
            rw [if_neg (nI_pos (by omega)), if_neg (nI_nlt hi (by omega)), r_0_7 hW, kk_271 hW, hwa, b2_s]
            rw [if_neg Bool.false_ne_true, if_neg (by decide)]
          · rw [t2, if_pos rfl]
            refine congrArg (fun q => some (q, T')) ?_
            split <;> rfl
        · rw [if_neg (show ¬ (true = false) by decide)] at t2
          obtain ⟨u1, u2⟩ := hc rfl
          have hsb : sumN (aN ft gl L) 41 < 2 ^ 31 := by
            rw [ways_0 ft (by omega)]
            have h1 := onN_le ft L L gl (by omega)
            have h2 := p3_le (i := L) (by omega)
            omega
          by_cases z : sumN (aN ft gl L) 41 = 0
          · refine ⟨-1, S1, T', ?_, ?_, t1⟩
            · unfold f_X11_may
              rw [r_0_0 hW, k_1 hW, courtAt_y hW hk, b1_s, r_0_0 hW, k_1 hW, sightAt_y hW hk2, b1_s, nul_s, nul_s, c1_s (sight_k hW hk2.1).1, hla, b1_s]
              rw [if_neg (nI_pos (by omega)), if_neg (nI_nlt hi (by omega)), r_0_7 hW, kk_271 hW, hwa, b2_s]
              rw [if_pos rfl, z, if_neg (by decide)]
            · rw [t2, maV_no ((maP_sum hi).mp z)]
              refine congrArg (fun q => some (q, T')) ?_
              split <;> rfl
          · have hall : ¬ ∀ m, m < 41 → maP ft gl L i m = false := fun y => z ((maP_sum hi).mpr y)
            obtain ⟨v1, v2⟩ := leastMarkC (F := gR (aN ft gl) L i) hi hL hW1 u1 (u2 i hi) (fun j hj => goN_b (by omega) hj)
            rw [firstS_c (q := maP ft gl L i) 41 0 (fun j _ hj => maP_go hi (by omega))] at v1
            rw [lastS_c (q := maP ft gl L i) 41 0 (-1) (fun j _ hj => maP_go hi (by omega))] at v2
            refine ⟨if f_X12_in x4 0 2 S = some 0 then -1 else maV (maP ft gl L i) x4, S1, T', ?_, t2, t1⟩
            unfold f_X11_may
            rw [r_0_0 hW, k_1 hW, courtAt_y hW hk, b1_s, r_0_0 hW, k_1 hW, sightAt_y hW hk2, b1_s, nul_s, nul_s, c1_s (sight_k hW hk2.1).1, hla, b1_s]
            rw [if_neg (nI_pos (by omega)), if_neg (nI_nlt hi (by omega)), r_0_7 hW, kk_271 hW, hwa, b2_s]
            rw [if_pos rfl, if_pos (show (0 : Int32) < nI (sumN (aN ft gl L) 41) from nI_lt (a := 0) (by omega) hsb), r_0_7 hW1, k_271 hW1, v1, b1_s, r_0_7 hW1, k_271 hW1, v2, b1_s]
            rcases numQ3 (S := S) x4 with rfl | rfl | rfl | ⟨e4, hx⟩
            · rw [tsw, if_pos rfl, in02 (Or.inl rfl), if_neg s10]
              rfl
            · rw [tsw, if_neg (by decide), tsw, if_pos (by decide), in02 (Or.inr (Or.inl rfl)), if_neg s10]
              rfl
            · rw [tsw, if_neg (by decide), tsw, if_neg (by decide), tsw, if_pos (by decide), in02 (Or.inr (Or.inr rfl)), if_neg s10, maV_2 hall]
            · rw [tsw_out (n := 3) hx rfl (by decide), if_pos e4]
    · have hcls : f_X11_may 0 x1 (nI k2) x3 x4 S = some (-1, S) := by
        unfold f_X11_may
        rw [r_0_0 hW, k_1 hW, courtAt_n hW hn, b1_s, r_0_0 hW, k_1 hW, sightAt_y hW hk2, b1_s, nul_n]
      unfold f_X12_may
      rcases in_or (S := S) x4 0 2 with e4 | e4
      · exact ⟨-1, S, s0 S, hcls, by rw [p_313 hW, in_S (S' := S), e4, b1_s, if_pos rfl], h.sm (sm_I (by decide))⟩
      · obtain ⟨S3, r1, r2⟩ := laySight_n (S := s0 S) (x1 := x1) (x2 := nI k2) hW (Or.inr ⟨hn.sm (sm_I (by decide)), k2, rfl, hk2.sm (sm_I (by decide))⟩)
        exact ⟨-1, S, S3, hcls, by rw [p_313 hW, in_S (S' := S), e4, b1_s, if_neg n10, kk_313 (S := s0 S) hW, r2, b2_s, if_pos rfl], h.sm ((sm_I (by decide)).tr r1)⟩
  · have hcls : f_X11_may 0 x1 x2 x3 x4 S = some (-1, S) := by
      unfold f_X11_may
      rw [r_0_0 hW, k_1 hW]
      rcases tld h (s := 0) (by decide) x1 with ⟨k, rfl, hk⟩ | hn
      · rw [courtAt_y hW hk, b1_s, r_0_0 hW, k_1 hW, sightAt_n hW hn2, b1_s, nul_s, nul_n]
      · rw [courtAt_n hW hn, b1_s, r_0_0 hW, k_1 hW, sightAt_n hW hn2, b1_s, nul_n]
    unfold f_X12_may
    rcases in_or (S := S) x4 0 2 with e4 | e4
    · exact ⟨-1, S, s0 S, hcls, by rw [p_313 hW, in_S (S' := S), e4, b1_s, if_pos rfl], h.sm (sm_I (by decide))⟩
    · obtain ⟨S3, r1, r2⟩ := laySight_n (S := s0 S) (x1 := x1) (x2 := x2) hW (Or.inl (hn2.sm (sm_I (by decide))))
      exact ⟨-1, S, S3, hcls, by rw [p_313 hW, in_S (S' := S), e4, b1_s, if_neg n10, kk_313 (S := s0 S) hW, r2, b2_s, if_pos rfl], h.sm ((sm_I (by decide)).tr r1)⟩
end MZ
