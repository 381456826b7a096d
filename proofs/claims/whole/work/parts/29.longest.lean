/-! longest -/
section LO
variable {S S' : GS} {o b k l : Nat} {c : Int32}
/-- who is there at a minute -/
def thP (S : GS) (k m j : Nat) : Bool := rP (mF S k 0 j) (mF S k 1 j) m
theorem mF_v (h : LF S o 2 10 324 (21 * k) (21 * k + 1) vMaid) {j : Nat} (hj : j < nr S o) : (S.1 324 (21 * k + 1 + (2 * j + 0)) = nI (mF S k 0 j) ∧ mF S k 0 j ≤ 30) ∧ S.1 324 (21 * k + 1 + (2 * j + 1)) = nI (mF S k 1 j) ∧ mF S k 1 j ≤ 30 := by
  obtain ⟨⟨i0, -, h0, e0⟩, i1, -, h1, e1⟩ := h.2.2.2 j hj
  have e0 : S.1 324 (21 * k + 1 + (2 * j + 0)) = nI i0 := e0
  have e1 : S.1 324 (21 * k + 1 + (2 * j + 1)) = nI i1 := e1
  unfold mF
  rw [e0, e1, nI_clamp (by omega), nI_clamp (by omega)]
  exact ⟨⟨rfl, h0⟩, rfl, h1⟩
theorem begin_v (hW : Wr S) (h : LF S o 2 10 324 (21 * k) (21 * k + 1) vMaid) (ho : o + 1 < 230) : ∃ S', f_X6_begin 311 (some o) S = some S' ∧ Of 312 S S' ∧ ∀ m, m < 31 → S'.1 312 m = nI (setN (thP S k m) (nr S o) 0 0) := by
  obtain ⟨S1, g1, g2, g3⟩ := fill_v (S := S) (a := 312) 0 (N := 31) rfl (by decide) (gk_n hW (by decide) rfl)
  have hm : nr S o ≤ 10 := h.1.2.2.2.2.2.2.2.1
  obtain ⟨S', k1, k2, k3⟩ := begin10 (o := o) (nm := nr S o) (F := mF S k 0) (T := mF S k 1) (fun j hj => ⟨(mF_v h hj).1.2, (mF_v h hj).2.2⟩) hm (nr S o) 0 fu S1 (fun _ => 0) (g2.wr hW) (fun S' hS => by
    obtain ⟨r1, r2, r3⟩ := h.1.of (g2.tr hS) (by omega) (by omega)
    refine ⟨r1, r2, fun j hj => ?_⟩
    rw [r3, h.2.2.1 j hj 0 (by decide), h.2.2.1 j hj 1 (by decide)]
    exact ⟨(mF_v h hj).1.1, (mF_v h hj).2.1⟩) (fun m hm => ⟨g3 m hm, by decide⟩) (by omega) (by unfold fu; omega)
  refine ⟨S', ?_, g2.tr k2, k3⟩
  unfold f_X6_begin
  rw [r_311_0 hW, g1, b1_s]
  exact k1
theorem longC_l (hW : Wr S) {A : Nat → Nat} (hA : ∀ m, m < 31 → S.1 312 m = nI (A m) ∧ A m < 1024) {x1 : Int32} : ∀ (d m n : Nat) (b r : Int32), m + d = 31 → d < n → f_X6_longestRow_7 311 S n x1 b r (nI m) = some (calmS (fun m => !decide (nI (popN (A m)) < x1)) d m b r)
  | _, _, 0, _, _, _, hn => absurd hn (Nat.not_lt_zero _)
  | 0, m, n + 1, b, r, hm, _ => by
    rw [f_X6_longestRow_7, if_pos (show (30 : Int32) < nI m from nI_lt (a := 30) (by omega) (by omega))]
    rfl
  | d + 1, m, n + 1, b, r, hm, hn => by
    obtain ⟨a1, a2⟩ := hA m (by omega)
    rw [f_X6_longestRow_7, if_neg (show ¬ (30 : Int32) < nI m from nI_nlt (a := 30) (by omega) (by omega)), r_311_0 hW, y_312 hW (by omega), a1, bitCount_v S a2, b1_s]
    unfold f_X6_longestRow_35
    rw [nI_1, longC_l hW hA d (m + 1) n _ _ (by omega) (by omega), longC_l hW hA d (m + 1) n _ _ (by omega) (by omega)]
    show _ = some (calmS _ d (m + 1) (jmax b (if (!decide (nI (popN (A m)) < x1)) = true then r + 1 else 0)) (if (!decide (nI (popN (A m)) < x1)) = true then r + 1 else 0))
    by_cases q : nI (popN (A m)) < x1
    · rw [if_pos q, decide_eq_true q]
      rfl
    · rw [if_neg q, decide_eq_false q]
      rfl
/-- the reference's shifts in hand -/
def Ms (S : GS) (k np : Nat) : Prop := Wr S ∧ k < 2 ∧ np ≤ 10 ∧ S.1 313 59 = nI k ∧ S.1 324 (21 * k) = nI np ∧ ∀ j, j < np → S.1 324 (21 * k + 1 + (2 * j + 0)) = nI (mF S k 0 j) ∧ mF S k 0 j ≤ 30 ∧ S.1 324 (21 * k + 1 + (2 * j + 1)) = nI (mF S k 1 j) ∧ mF S k 1 j ≤ 30
theorem Ms.many {np : Nat} (h : Ms S k np) : f_X12_maids 313 S = some (nI np) := by rw [maids_v h.1 h.2.1 h.2.2.2.1, h.2.2.2.2.1]
theorem in_rP {f t m : Nat} (hf : f ≤ 30) (ht : t ≤ 30) (hm : m < 2 ^ 31) : f_X12_in (nI m) (nI f) (nI t) S = some (bi (rP f t m)) := by
  unfold rP
  by_cases q : f ≤ m ∧ m ≤ t
  · rw [decide_eq_true q, in_y q.1 q.2 (by omega)]
    rfl
  · rw [decide_eq_false q, in_n (by omega) hm (by omega)]
    rfl
theorem there_l {np : Nat} (h : Ms S k np) {m s : Nat} (hm : m < 31) (hs : s < 1024) : ∀ (d j n : Nat) (x : Int32), j + d = np → d < n → f_X12_thereAt_5 313 S n (nI m) (nI s) x (nI j) = some (countS (fun j => s.testBit j && thP S k m j) d j x)
  | _, _, 0, _, _, hn => absurd hn (Nat.not_lt_zero _)
  | 0, j, n + 1, x, hj, _ => by
    have := h.2.2.1
    rw [f_X12_thereAt_5, k_313 h.1, h.many, b1_s, if_pos (nI_le (by omega) (by omega))]
    rfl
  | d + 1, j, n + 1, x, hj, hn => by
    have := h.2.2.1
    obtain ⟨e0, f0, e1, f1⟩ := h.2.2.2.2.2 j (by omega)
    rw [f_X12_thereAt_5, k_313 h.1, h.many, b1_s, if_neg (nI_ge (by omega) (by omega)), m_has, b1_s, has_k s hs j (by omega), k_313 h.1, maidOf_v (l := j) (x := nI j) (c := 0) h.1 h.2.1 h.2.2.2.1 rfl (i := 0) rfl (by omega) (by decide), b1_s, k_313 h.1, maidOf_v (l := j) (x := nI j) (c := 1) h.1 h.2.1 h.2.2.2.1 rfl (i := 1) rfl (by omega) (by decide), b1_s, e0, e1, in_rP f0 f1 (by omega), b1_s]
    unfold f_X12_thereAt_49 f_X12_thereAt_50
    rw [nI_1, there_l h hm hs d (j + 1) n _ (by omega) (by omega), there_l h hm hs d (j + 1) n _ (by omega) (by omega)]
    show _ = some (countS _ d (j + 1) (if (s.testBit j && thP S k m j) = true then x + 1 else x))
    unfold thP
    cases s.testBit j
    · rw [if_pos (show bi false = 0 from rfl), Int32.add_zero]
      rfl
    · rw [if_neg (show ¬ bi true = 0 by decide)]
      cases rP (mF S k 0 j) (mF S k 1 j) m
      · rw [if_pos (show bi false = 0 from rfl), Int32.add_zero]
        rfl
      · rw [if_neg (show ¬ bi true = 0 by decide)]
        rfl
theorem there_v {np : Nat} (h : Ms S k np) {m s : Nat} (hm : m < 31) (hs : s < 1024) : f_X12_thereAt 313 (nI m) (nI s) S = some (nI (countN (fun j => s.testBit j && thP S k m j) np 0 0)) := by
  have := h.2.2.1
  rw [countN_S]
  exact there_l h hm hs np 0 fu 0 (by omega) (by unfold fu; omega)
theorem all_bits {np : Nat} (p : Nat → Bool) : countN (fun j => (2 ^ np - 1).testBit j && p j) np 0 0 = countN p np 0 0 :=
  countN_c _ _ np 0 0 (fun j _ hj => by
    rw [Nat.testBit_two_pow_sub_one, decide_eq_true (by omega), Bool.true_and])
theorem longM_l {np : Nat} (h : Ms S k np) {x1 : Int32} : ∀ (d m n : Nat) (b r : Int32), m + d = 31 → d < n → f_X12_longest_33 313 n x1 b r (nI m) S = some (calmS (fun m => !decide (nI (countN (thP S k m) np 0 0) < x1)) d m b r, S)
  | _, _, 0, _, _, _, hn => absurd hn (Nat.not_lt_zero _)
  | 0, m, n + 1, b, r, hm, _ => by
    rw [f_X12_longest_33, if_pos (show (30 : Int32) < nI m from nI_lt (a := 30) (by omega) (by omega))]
    rfl
  | d + 1, m, n + 1, b, r, hm, hn => by
    have := h.2.2.1
    have hp : 2 ^ np ≤ 2 ^ 10 := Nat.pow_le_pow_right (by decide) this
    have hp1 : 1 ≤ 2 ^ np := Nat.one_le_two_pow
    rw [f_X12_longest_33, if_neg (show ¬ (30 : Int32) < nI m from nI_nlt (a := 30) (by omega) (by omega)), k_313 h.1, h.many, b1_s, shl_k np (by omega), show nI (2 ^ np) - 1 = nI (2 ^ np - 1) from nI_sub (b := 1) hp1, k_313 h.1, there_v h (by omega) (by omega), b1_s, all_bits]
    unfold f_X12_longest_66
    rw [m_greater, m_greater, b1_s, b1_s, nI_1, longM_l h d (m + 1) n _ _ (by omega) (by omega), longM_l h d (m + 1) n _ _ (by omega) (by omega)]
    show _ = some (calmS _ d (m + 1) (jmax b (if (!decide (nI (countN (thP S k m) np 0 0) < x1)) = true then r + 1 else 0)) (if (!decide (nI (countN (thP S k m) np 0 0) < x1)) = true then r + 1 else 0), S)
    by_cases q : nI (countN (thP S k m) np 0 0) < x1
    · rw [if_pos q, decide_eq_true q]
      rfl
    · rw [if_neg q, decide_eq_false q]
      rfl
theorem maidNum_q (x : Int32) : f_X11_isMaidNumber x S = f_X12_in x 1 10 S' := by
  rw [m_in]
  unfold f_X11_isMaidNumber
  split
  · rfl
  · split <;> rfl
theorem calmS_c {p q : Nat → Bool} : ∀ (d k : Nat) (b r : Int32), (∀ j, k ≤ j → j < k + d → p j = q j) → calmS p d k b r = calmS q d k b r
  | 0, k, b, r, _ => rfl
  | d + 1, k, b, r, h => by
    show calmS p d (k + 1) (jmax b (if p k = true then r + 1 else 0)) (if p k = true then r + 1 else 0) = calmS q d (k + 1) (jmax b (if q k = true then r + 1 else 0)) (if q k = true then r + 1 else 0)
    rw [h k (by omega) (by omega)]
    exact calmS_c d (k + 1) _ _ (fun j a b => h j (by omega) (by omega))
theorem both_longest (h : Inv S) (x1 x2 : Int32) : Both2 (f_X11_longest 0 x1 x2) (f_X12_longest 313 x1 x2) S := by
  have hW := h.1
  unfold Both2 f_X11_longest f_X12_longest
  rcases tld h (s := 5) (by decide) x1 with ⟨k, rfl, hk⟩ | hn
  · have hf := h.lf_m hk.1
    have hm : nr S (29 + 21 * k) ≤ 10 := hf.1.2.2.2.2.2.2.2.1
    have hk2 := hk.1
    rw [r_0_0 hW, k_1 hW, rowsAt_m hW hk, b1_s, nul_s]
    rcases in_or (S := S) x2 1 10 with e | e
    · refine ⟨-1, S, sI (s0 S) 313 59 (nI k), ?_, ?_, h.sm ((sm_I (by decide)).tr (sm_I (by decide)))⟩
      · rw [maidNum_q (S' := S), e, b1_s, if_pos rfl]
      · rw [p_313 hW, kk_313 (S := s0 S) hW, hasSh_y (S := s0 S) hW (hk.sm (sm_I (by decide))), b2_s, if_neg n10, in_S (S' := S), e, b1_s, if_pos rfl]
    · obtain ⟨S1, g1, g2, g3⟩ := begin_v hW hf (by omega)
      have hW1 := g2.wr hW
      have hs1 : Sm S S1 := g2.sm (by decide)
      have hsm : Sm S1 (sI (s0 S1) 313 59 (nI k)) := (sm_I (by decide)).tr (sm_I (by decide))
      have e324 : (sI (s0 S1) 313 59 (nI k)).1 324 = S.1 324 := by
        show S1.1 324 = _
        exact g2.2 324 (by decide)
      have hth : ∀ m, thP (sI (s0 S1) 313 59 (nI k)) k m = thP S k m := fun m => by
        funext j
        unfold thP mF
        rw [e324]
      have hMs : Ms (sI (s0 S1) 313 59 (nI k)) k (nr S (29 + 21 * k)) := ⟨hW1, hk.1, hm, rfl, by rw [e324]; exact hf.2.1, fun j hj => by
        unfold mF
        rw [e324]
        obtain ⟨⟨a1, a2⟩, a3, a4⟩ := mF_v hf hj
        exact ⟨a1, a2, a3, a4⟩⟩
      have hlt : ∀ m, setN (thP S k m) (nr S (29 + 21 * k)) 0 0 < 1024 := fun m => by
        have h1 := setN_lt (thP S k m) (nr S (29 + 21 * k)) 0 0 (by decide)
        have h2 : 2 ^ (0 + nr S (29 + 21 * k)) ≤ 2 ^ 10 := Nat.pow_le_pow_right (by decide) (by omega)
        omega
      refine ⟨calmS (fun m => !decide (nI (popN (setN (thP S k m) (nr S (29 + 21 * k)) 0 0)) < x2)) 31 0 0 0, S1, sI (s0 S1) 313 59 (nI k), ?_, ?_, h.sm (hs1.tr hsm)⟩
      · rw [maidNum_q (S' := S), e, b1_s, if_neg n10, r_0_9 hW, k_311 hW, g1, b1_s, r_0_9 hW1, k_311 hW1, show f_X6_longestRow 311 x2 S1 = _ from longC_l hW1 (A := fun m => setN (thP S k m) (nr S (29 + 21 * k)) 0 0) (fun m hm => ⟨g3 m hm, hlt m⟩) (x1 := x2) 31 0 fu 0 0 (by omega) (by unfold fu; omega), b1_s]
      · rw [p_313 hW1, kk_313 (S := s0 S1) hW1, hasSh_y (S := s0 S1) hW1 ((hk.sm hs1).sm (sm_I (by decide))), b2_s, if_neg n10, in_S (S' := S), e, b1_s, if_neg n10, show f_X12_longest_33 313 fu x2 0 0 0 (sI (s0 S1) 313 59 (nI k)) = _ from longM_l hMs (x1 := x2) 31 0 fu 0 0 (by omega) (by unfold fu; omega)]
        refine congrArg (fun q => some (q, _)) (calmS_c 31 0 0 0 fun m _ _ => ?_)
        rw [hth, pop_set _ _ hm]
  · refine ⟨-1, S, sI (s0 S) 313 59 x1, ?_, ?_, h.sm ((sm_I (by decide)).tr (sm_I (by decide)))⟩
    · rw [r_0_0 hW, k_1 hW, rowsAt_n hW (s := 5) (by decide) 5 rfl hn, b1_s, nul_n]
    · rw [p_313 hW, kk_313 (S := s0 S) hW, hasSh_n (S := s0 S) hW (hn.sm (sm_I (by decide))), b2_s, if_pos rfl]
end LO
