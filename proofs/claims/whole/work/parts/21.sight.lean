/-! sight, spy -/
section SI
variable {S S' : GS} {o b k l : Nat} {c : Int32} {bu fa he la : Int32}
/-- what the reference does once it has the sight -/
def sightR (x2 : Int32) (S3 : GS) : Option (Int32 × GS) := (if x2 = 0 then (f_X12_sight_24 313 x2 S3) else (if x2 = 1 then (f_X12_sight_24 313 x2 S3) else (dz 10 (dz 30 (dz 10 (if x2 < 100 then (some ((-1), S3)) else (if (jrem x2 10) ≤ 2 then (if 400 ≤ x2 then (if 700 ≤ x2 then (some ((-1), S3)) else (c1 (some 313) 12 S3 (fun o' => f_X12_shotMany o'  S3) fun v4 => (if v4 ≤ (jrem ((x2 - 100) / 10) 30) then (some ((-1), S3)) else (c1 (some 313) 12 S3 (fun o' => f_X12_shotOf o' (jrem ((x2 - 100) / 10) 30) (jrem x2 10) S3) fun v6 => (some (v6, S3)))))) else (c1 (some 313) 12 S3 (fun o' => f_X12_seenMany o'  S3) fun v8 => (if v8 ≤ (jrem ((x2 - 100) / 10) 30) then (some ((-1), S3)) else (c1 (some 313) 12 S3 (fun o' => f_X12_seenOf o' (jrem ((x2 - 100) / 10) 30) (jrem x2 10) S3) fun v10 => (some (v10, S3)))))) else (some ((-1), S3)))))))))
theorem sightR_v (hW : Wr S) (hk : k < 2) (h1 : S.1 313 51 = nI k) {n1 n2 : Nat} (hn1 : n1 ≤ 20) (hn2 : n2 ≤ 20) (e1 : S.1 322 (122 * k) = nI n1) (e2 : S.1 322 (122 * k + 1) = nI n2) {w : Nat} (hw : w < 2 ^ 31) : sightR (nI w) S = some (sightV S (122 * k) n1 n2 w, S) := by
  unfold sightR sightV f_X12_sight_24 dz
  by_cases q0 : w = 0
  · subst q0
    rw [if_pos (by decide), if_pos rfl, if_pos (by decide), k_313 hW, seenMany_v hW hk h1, b1_s, e1]
  rw [if_neg q0, if_neg (nI_ne0 (by omega) hw)]
  by_cases q1 : w = 1
  · subst q1
    rw [if_pos (by decide), if_pos rfl, if_neg (by decide), k_313 hW, shotMany_v hW hk h1, b1_s, e2]
  rw [if_neg q1, if_neg (show ¬ nI w = 1 by rw [show (1 : Int32) = nI 1 from rfl, nI_eq (by omega) (by omega)]; exact q1), if_neg (by decide), if_neg (by decide), if_neg (by decide)]
  by_cases q2 : w < 100
  · rw [if_pos q2, if_pos (show nI w < (100 : Int32) from nI_lt (b := 100) (by omega) (by omega))]
  rw [if_neg q2, if_neg (show ¬ nI w < (100 : Int32) from nI_nlt (b := 100) (by omega) (by omega)), show jrem (nI w) 10 = nI (w % 10) from nI_rem (b := 10) (by omega) (by decide), nI_litsub 100 100 rfl (by omega), show nI (w - 100) / 10 = nI ((w - 100) / 10) from nI_div (b := 10) (by omega) (by decide), show jrem (nI ((w - 100) / 10)) 30 = nI ((w - 100) / 10 % 30) from nI_rem (b := 30) (by omega) (by decide)]
  by_cases q3 : w % 10 < 3
  · rw [if_pos (show nI (w % 10) ≤ (2 : Int32) from nI_le (b := 2) (by omega) (by omega))]
    by_cases q4 : w < 400
    · rw [if_pos q4, if_neg (show ¬ (400 : Int32) ≤ nI w from nI_ge (b := 400) (by omega) (by omega)), k_313 hW, seenMany_v hW hk h1, b1_s, e1, show (w - 100) / 10 % 30 = (w - 100) / 10 by omega]
      by_cases z : (w - 100) / 10 < n1
      · rw [if_neg (nI_ge z (by omega)), k_313 hW, seenOf_v hW hk h1 rfl rfl (by omega) q3, b1_s, if_pos ⟨z, q3⟩]
      · rw [if_pos (nI_le (by omega) (by omega)), if_neg (fun y => z y.1)]
    · rw [if_neg q4, if_pos (show (400 : Int32) ≤ nI w from nI_le (a := 400) (by omega) (by omega))]
      by_cases q5 : w < 700
      · rw [if_neg (show ¬ (700 : Int32) ≤ nI w from nI_ge (b := 700) (by omega) (by omega)), k_313 hW, shotMany_v hW hk h1, b1_s, e2, show (w - 100) / 10 % 30 = (w - 400) / 10 by omega]
        by_cases z : (w - 400) / 10 < n2
        · rw [if_neg (nI_ge z (by omega)), k_313 hW, shotOf_v hW hk h1 rfl rfl (by omega) q3, b1_s, if_pos ⟨z, q3⟩]
        · rw [if_pos (nI_le (by omega) (by omega)), if_neg (fun y => z y.1)]
      · rw [if_pos (show (700 : Int32) ≤ nI w from nI_le (a := 700) (by omega) (by omega)), if_neg (by omega)]
  · rw [if_neg (show ¬ nI (w % 10) ≤ (2 : Int32) from nI_ge (a := 2) (by omega) (by omega))]
    by_cases q4 : w < 400
    · rw [if_pos q4, if_neg (fun y => q3 y.2)]
    · rw [if_neg q4, if_neg (fun y => q3 y.2)]
theorem sightR_n {x : Int32} (hx : x < 0) : sightR x S = some (-1, S) := by
  have h0 : ¬ x = 0 := fun e => by
    rw [e] at hx
    exact absurd hx (by decide)
  have h1 : ¬ x = 1 := fun e => by
    rw [e] at hx
    exact absurd hx (by decide)
  unfold sightR dz
  rw [if_neg h0, if_neg h1, if_neg (by decide), if_neg (by decide), if_neg (by decide), if_pos (lt_neg (a := 100) 100 rfl (by decide) hx)]
theorem sightC_n (hW : Wr S) (hk : k < 2) {x : Int32} (hx : x < 0) : f_X8_tell (18 + 21 * k) x S = some (-1) := by
  have h0 : ¬ x = 0 := fun e => by
    rw [e] at hx
    exact absurd hx (by decide)
  have h1 : ¬ x = 1 := fun e => by
    rw [e] at hx
    exact absurd hx (by decide)
  unfold f_X8_tell
  rw [if_pos (lt_neg (a := 400) 400 rfl (by decide) hx), if_pos (lt_neg (a := 100) 100 rfl (by decide) hx), if_neg h0, if_neg h1]
theorem both_sight (h : Inv S) (x1 x2 : Int32) : Both (f_X11_sight 0 x1 x2 S) (f_X12_sight 313 x1 x2) S := by
  have hW := h.1
  have hs : Sm S (s0 S) := sm_I (by decide)
  unfold Both f_X11_sight f_X12_sight
  rw [r_0_0 hW, k_1 hW, p_313 hW, kk_313 (S := s0 S) hW]
  rcases tld h (s := 3) (by decide) x1 with ⟨k, rfl, hk⟩ | hn
  · obtain ⟨l1, l2⟩ := h.lf_s hk.1
    have hs3 : Sm S (sI (s0 S) 313 51 (nI k)) := hs.tr (sm_I (by decide))
    rw [sightAt_y hW hk, b1_s, nul_s, hasSi_y (S := s0 S) hW (hk.sm hs), b2_s, c1_s (sight_k hW hk.1).1, if_neg n10]
    show ∃ v S2, _ ∧ sightR x2 (sI (s0 S) 313 51 (nI k)) = some (v, S2) ∧ Inv S2
    by_cases q : x2 < 0
    · exact ⟨-1, _, by rw [sightC_n hW hk.1 q, b1_s], sightR_n q, h.sm hs3⟩
    · obtain ⟨w, hw, rfl⟩ := nI_of q
      refine ⟨_, _, by rw [sight_tell hW hk.1 l1 l2 hw, b1_s], ?_, h.sm hs3⟩
      exact sightR_v (S := sI (s0 S) 313 51 (nI k)) hW hk.1 rfl (by have := l1.1.2.2.2.2.2.2.2.1; omega) (by have := l2.1.2.2.2.2.2.2.2.1; omega) l1.2.1 l2.2.1 hw
  · rw [sightAt_n hW hn, b1_s, nul_n, hasSi_n (S := s0 S) hW (hn.sm hs), b2_s, if_pos rfl]
    exact ⟨-1, _, rfl, rfl, h.sm (hs.tr (sm_I (by decide)))⟩
/-! spy: the laces that agree with all shots -/
/-- whether a row of shots agrees -/
def allS (p : Nat → Bool) : Nat → Nat → Bool
  | 0, _ => true
  | d + 1, k => p k && allS p d (k + 1)
/-- one shot: of another lady, or as it was seen -/
def shotP (S : GS) (b : Nat) (bu fa : Int32) (l : Nat) (lace : Int32) (k : Nat) : Bool := !(S.1 322 (b + 62 + (3 * k + 0)) == nI l) || (su bu fa lace (S.1 322 (b + 62 + (3 * k + 1))) == (S.1 322 (b + 62 + (3 * k + 2)) == 0))
theorem In01 {x : Int32} (h : In x 0 1) : x = 0 ∨ x = 1 := by
  obtain ⟨j, -, hj, rfl⟩ := h
  rcases (show j = 0 ∨ j = 1 by omega) with rfl | rfl
  · exact Or.inl rfl
  · exact Or.inr rfl
theorem shots_l (hW : Wr S) (hk : k < 2) {co : Nat} (hC : Cw S co) (hL : Lw S co l bu fa he la) (h2 : LF S (21 + 21 * k) 3 20 322 (122 * k + 1) (122 * k + 62) vShot) {lace : Int32} : ∀ (d j n : Nat), j + d = nr S (21 + 21 * k) → d < n → f_X8_shotsAgree_3 (18 + 21 * k) S n (some co) (nI l) lace (nI j) = some (bi (allS (shotP S (122 * k) bu fa l lace) d j))
  | _, _, 0, _, hn => absurd hn (Nat.not_lt_zero _)
  | 0, j, n + 1, hj, _ => by
    obtain ⟨s1, s2, s3⟩ := sight_k hW hk
    have := h2.1.n40
    rw [f_X8_shotsAgree_3, xR_s s1, s3, xI_s h2.1.1, h2.1.2.2.2.2.2.2.1, if_pos (nI_le (by omega) (by omega))]
    rfl
  | d + 1, j, n + 1, hj, hn => by
    obtain ⟨s1, s2, s3⟩ := sight_k hW hk
    have := h2.1.n40
    have hj2 : j < nr S (21 + 21 * k) := by omega
    have ih := shots_l hW hk hC hL h2 (lace := lace) d (j + 1) n (by omega) (by omega)
    have c0 := h2.2.2.1 j hj2 0 (by decide)
    have c1' := h2.2.2.1 j hj2 1 (by decide)
    have c2' := h2.2.2.1 j hj2 2 (by decide)
    have hv := In01 (h2.2.2.2 j hj2).2.2
    rw [f_X8_shotsAgree_3, xR_s s1, s3, xI_s h2.1.1, h2.1.2.2.2.2.2.2.1, if_neg (nI_ge (by omega) (by omega)), xR_s s1, s3, c1_s h2.1.1, h2.1.cellL 0 0 rfl hj2 (by decide), b1_s, c0, xR_s s1, s3, c1_s h2.1.1, h2.1.cellL 1 1 rfl hj2 (by decide), b1_s, c1', c1_s hC.1, hL.stands hC, b1_s, xR_s s1, s3, c1_s h2.1.1, h2.1.cellL 2 2 rfl hj2 (by decide), b1_s, c2']
    unfold f_X8_shotsAgree_64 f_X8_shotsAgree_69
    rw [nI_1, ih]
    show _ = some (bi (shotP S (122 * k) bu fa l lace j && allS (shotP S (122 * k) bu fa l lace) d (j + 1)))
    unfold shotP
    by_cases q : S.1 322 (122 * k + 62 + (3 * j + 0)) = nI l
    · rw [if_pos q, q]
      rcases hv with hv | hv
      · have hv : S.1 322 (122 * k + 62 + (3 * j + 2)) = 0 := hv
        rw [hv, if_neg (by decide)]
        cases su bu fa lace (S.1 322 (122 * k + 62 + (3 * j + 1)))
        · rw [if_pos (show bi false = 0 from rfl)]
          simp [bi]
        · rw [if_neg (show ¬ bi true = 0 from by decide)]
          simp
      · have hv : S.1 322 (122 * k + 62 + (3 * j + 2)) = 1 := hv
        rw [hv, if_pos rfl]
        cases su bu fa lace (S.1 322 (122 * k + 62 + (3 * j + 1)))
        · rw [if_neg (show ¬ bi false = 1 from by decide)]
          simp
        · rw [if_pos (show bi true = 1 from rfl)]
          simp [bi]
    · have e : (S.1 322 (122 * k + 62 + (3 * j + 0)) == nI l) = false := beq_eq_false_iff_ne.mpr q
      rw [if_neg q, e]
      rfl
theorem shotsA (hW : Wr S) (hk : k < 2) {co : Nat} (hC : Cw S co) (hL : Lw S co l bu fa he la) (h2 : LF S (21 + 21 * k) 3 20 322 (122 * k + 1) (122 * k + 62) vShot) (lace : Int32) : f_X8_shotsAgree (18 + 21 * k) (some co) (nI l) lace S = some (bi (allS (shotP S (122 * k) bu fa l lace) (nr S (21 + 21 * k)) 0)) :=
  shots_l hW hk hC hL h2 (lace := lace) (nr S (21 + 21 * k)) 0 fu (by omega) (by have := h2.1.n40; unfold fu; omega)
theorem spyC_l (hW : Wr S) (hk : k < 2) {co : Nat} (hC : Cw S co) (hL : Lw S co l bu fa he la) (h2 : LF S (21 + 21 * k) 3 20 322 (122 * k + 1) (122 * k + 62) vShot) : ∀ (d j n : Nat) (x6 : Int32), j + d = 31 → d < n → f_X11_spy_50 0 S n (nI l) (some co) (some (18 + 21 * k)) x6 (nI j) = some (bitsS (fun j => allS (shotP S (122 * k) bu fa l (nI j)) (nr S (21 + 21 * k)) 0) d j x6)
  | _, _, 0, _, _, hn => absurd hn (Nat.not_lt_zero _)
  | 0, j, n + 1, x6, hj, _ => by
    rw [f_X11_spy_50, if_pos (show (30 : Int32) < nI j from nI_lt (a := 30) (by omega) (by omega))]
    rfl
  | d + 1, j, n + 1, x6, hj, hn => by
    rw [f_X11_spy_50, if_neg (show ¬ (30 : Int32) < nI j from nI_nlt (a := 30) (by omega) (by omega)), c1_s (sight_k hW hk).1, shotsA hW hk hC hL h2, b1_s]
    unfold f_X11_spy_79
    rw [nI_1, spyC_l hW hk hC hL h2 d (j + 1) n _ (by omega) (by omega), spyC_l hW hk hC hL h2 d (j + 1) n _ (by omega) (by omega)]
    show _ = some (bitsS _ d (j + 1) (if allS (shotP S (122 * k) bu fa l (nI j)) (nr S (21 + 21 * k)) 0 = true then x6 ||| jshl 1 (nI j) else x6))
    cases allS (shotP S (122 * k) bu fa l (nI j)) (nr S (21 + 21 * k)) 0 <;> rfl
theorem spyI_l (hM : Mc S b) (hL : Lm S b l bu fa he la) (hk : k < 2) (h1 : S.1 313 51 = nI k) {n2 : Nat} (hn2 : n2 ≤ 20) (e2 : S.1 322 (122 * k + 1) = nI n2) (hv : ∀ j, j < n2 → vShot (fun i => S.1 322 (122 * k + 62 + (3 * j + i)))) {K : Int32 → Int32 → Int32 → GS → Option (Int32 × GS)} {x4 x5 : Int32} : ∀ (d j n : Nat) (w : Bool), j + d = n2 → d < n → f_X12_spy_50 K 313 n (nI l) x4 x5 (bi w) (nI j) S = K (nI l) (if (w && allS (shotP S (122 * k) bu fa l x5) d j) = true then x4 ||| jshl 1 x5 else x4) (x5 + 1) S
  | _, _, 0, _, _, hn => absurd hn (Nat.not_lt_zero _)
  | 0, j, n + 1, w, hj, _ => by
    rw [f_X12_spy_50, k_313 hM.1, shotMany_v hM.1 hk h1, b1_s, e2, if_pos (nI_le (by omega) (by omega))]
    unfold f_X12_spy_143
    cases w
    · rw [if_pos (show bi false = 0 from rfl), Int32.or_zero]
      rfl
    · rw [if_neg (show ¬ bi true = 0 by decide)]
      rfl
  | d + 1, j, n + 1, w, hj, hn => by
    have ih := fun w => spyI_l hM hL hk h1 hn2 e2 hv (K := K) (x4 := x4) (x5 := x5) d (j + 1) n w (by omega) (by omega)
    rw [f_X12_spy_50, k_313 hM.1, shotMany_v hM.1 hk h1, b1_s, e2, if_neg (nI_ge (by omega) (by omega))]
    unfold f_X12_spy_119 f_X12_spy_97 f_X12_spy_115 f_X12_spy_112
    unfold f_X12_spy_119 f_X12_spy_115 f_X12_spy_120
    rw [nI_1]
    cases w
    · rw [if_pos (show bi false = 0 from rfl)]
      have := ih false
      rw [show bi false = 0 from rfl] at this
      rw [this]
      rfl
    · rw [if_neg (show ¬ bi true = 0 by decide), k_313 hM.1, shotOf_v (l := j) (x := nI j) (c := 0) hM.1 hk h1 rfl (i := 0) rfl (by omega) (by decide), b1_s, k_313 hM.1, shotOf_v (l := j) (x := nI j) (c := 1) hM.1 hk h1 rfl (i := 1) rfl (by omega) (by decide), b1_s, k_313 hM.1, hL.does hM, b1_s, k_313 hM.1, shotOf_v (l := j) (x := nI j) (c := 2) hM.1 hk h1 rfl (i := 2) rfl (by omega) (by decide), b1_s]
      have i0 := ih false
      have i1 := ih true
      rw [show bi false = 0 from rfl] at i0
      rw [show bi true = 1 from rfl] at i1
      rw [i0, i1]
      show _ = K (nI l) (if (true && (shotP S (122 * k) bu fa l x5 j && allS (shotP S (122 * k) bu fa l x5) d (j + 1))) = true then x4 ||| jshl 1 x5 else x4) (x5 + 1) S
      have hz := In01 (hv j (by omega)).2.2
      unfold shotP
      by_cases q : S.1 322 (122 * k + 62 + (3 * j + 0)) = nI l
      · rw [if_pos q, q]
        have hf : (fate bu fa x5 (S.1 322 (122 * k + 62 + (3 * j + 1))) = 0) = (su bu fa x5 (S.1 322 (122 * k + 62 + (3 * j + 1))) = true) := su_t
        cases hq : su bu fa x5 (S.1 322 (122 * k + 62 + (3 * j + 1)))
        · rw [if_neg (by rw [hf, hq]; decide), k_313 hM.1, shotOf_v (l := j) (x := nI j) (c := 2) hM.1 hk h1 rfl (i := 2) rfl (by omega) (by decide), b1_s]
          rcases hz with hz | hz
          · have hz : S.1 322 (122 * k + 62 + (3 * j + 2)) = 0 := hz
            rw [hz, if_pos rfl, if_neg (by decide)]
            simp
          · have hz : S.1 322 (122 * k + 62 + (3 * j + 2)) = 1 := hz
            rw [hz, if_neg (by decide), if_pos rfl]
            simp
        · rw [if_pos (by rw [hf, hq])]
          rcases hz with hz | hz
          · have hz : S.1 322 (122 * k + 62 + (3 * j + 2)) = 0 := hz
            rw [hz, if_pos rfl, if_pos rfl]
            simp
          · have hz : S.1 322 (122 * k + 62 + (3 * j + 2)) = 1 := hz
            rw [hz, if_neg (by decide), if_neg (by decide)]
            simp
      · have e : (S.1 322 (122 * k + 62 + (3 * j + 0)) == nI l) = false := beq_eq_false_iff_ne.mpr q
        rw [if_neg q, e]
        rfl
theorem spyM_l (hM : Mc S b) (hL : Lm S b l bu fa he la) (hk : k < 2) (h1 : S.1 313 51 = nI k) {n2 : Nat} (hn2 : n2 ≤ 20) (e2 : S.1 322 (122 * k + 1) = nI n2) (hv : ∀ j, j < n2 → vShot (fun i => S.1 322 (122 * k + 62 + (3 * j + i)))) : ∀ (d j n : Nat) (x4 : Int32), j + d = 31 → d < n → f_X12_spy_37 313 n (nI l) x4 (nI j) S = some (bitsS (fun j => allS (shotP S (122 * k) bu fa l (nI j)) n2 0) d j x4, S)
  | _, _, 0, _, _, hn => absurd hn (Nat.not_lt_zero _)
  | 0, j, n + 1, x4, hj, _ => by
    rw [f_X12_spy_37, if_pos (show (31 : Int32) ≤ nI j from nI_le (a := 31) (by omega) (by omega))]
    rfl
  | d + 1, j, n + 1, x4, hj, hn => by
    rw [f_X12_spy_37, if_neg (show ¬ (31 : Int32) ≤ nI j from nI_ge (b := 31) (by omega) (by omega)), show f_X12_spy_50 (f_X12_spy_37 313 n) 313 fu (nI l) x4 (nI j) 1 0 S = _ from spyI_l hM hL hk h1 hn2 e2 hv (K := f_X12_spy_37 313 n) (x4 := x4) (x5 := nI j) n2 0 fu true (by omega) (by unfold fu; omega), nI_1, spyM_l hM hL hk h1 hn2 e2 hv d (j + 1) n _ (by omega) (by omega)]
    rfl
theorem both_spy (h : Inv S) (x1 x2 x3 : Int32) : Both (f_X11_spy 0 x1 x2 x3 S) (f_X12_spy 313 x1 x2 x3) S := by
  have hW := h.1
  have hs : Sm S (s0 S) := sm_I (by decide)
  unfold Both f_X11_spy f_X12_spy
  rw [r_0_0 hW, k_1 hW, p_313 hW, kk_313 (S := s0 S) hW]
  rcases tld h (s := 3) (by decide) x2 with ⟨k2, rfl, hk2⟩ | hn2
  · have hs2 : Sm S (sI (s0 S) 313 51 (nI k2)) := hs.tr (sm_I (by decide))
    obtain ⟨l1, l2⟩ := h.lf_s hk2.1
    have hm : nr S (21 + 21 * k2) ≤ 20 := l2.1.2.2.2.2.2.2.2.1
    rw [hasSi_y (S := s0 S) hW (hk2.sm hs), b2_s, if_neg n10, kk_313 (S := sI (s0 S) 313 51 (nI k2)) hW]
    rcases tld h (s := 0) (by decide) x1 with ⟨k, rfl, hk⟩ | hn
    · have hcf := h.cf hk.1
      have hs3 : Sm S (hS (sI (s0 S) 313 51 (nI k2)) k) := hs2.tr (hS_sm _ _)
      have hM : Mc (hS (sI (s0 S) 313 51 (nI k2)) k) k := hS_Mc hW hk.1
      have h1 : (hS (sI (s0 S) 313 51 (nI k2)) k).1 319 (69 * k + 1) = nI (nr S (10 + 21 * k + 3)) := hcf.2.2.1
      rw [courtAt_y hW hk, b1_s, r_0_0 hW, k_1 hW, sightAt_y hW hk2, b1_s, nul_s, nul_s, xR_s hcf.1.1, hcf.1.2.2.1, c1_s hcf.rl.1, hand_y (S := sI (s0 S) 313 51 (nI k2)) hW (hk.sm hs2), b2_s, if_neg n10, k_313 (S := hS (sI (s0 S) 313 51 (nI k2)) k) hM.1]
      rcases ladyQ hcf x3 with ⟨l, rfl, hl⟩ | hx
      · obtain ⟨bu, fa, he, la, hLw, hLm⟩ := hcf.lady hl rfl
        rw [isLady_y hM hl hcf.n8 h1, b1_s, if_neg n10, has_y hcf.rl hl, b1_s, if_neg n10]
        exact ⟨_, _, spyC_l hW hk2.1 hcf.1 hLw l2 31 0 fu 0 (by omega) (by unfold fu; omega), spyM_l hM (hLm.sm hs3) hk2.1 rfl hm l2.2.1 l2.2.2.2 31 0 fu 0 (by omega) (by unfold fu; omega), h.sm hs3⟩
      · rw [has_n hcf.rl hx, b1_s, if_pos rfl, isLady_n hM hcf.n8 h1 hx, b1_s, if_pos rfl]
        exact ⟨-1, _, rfl, rfl, h.sm hs3⟩
    · rw [courtAt_n hW hn, b1_s, r_0_0 hW, k_1 hW, sightAt_y hW hk2, b1_s, nul_n, hand_n (S := sI (s0 S) 313 51 (nI k2)) hW (hn.sm hs2), b2_s, if_pos rfl]
      exact ⟨-1, _, rfl, rfl, h.sm hs2⟩
  · rw [hasSi_n (S := s0 S) hW (hn2.sm hs), b2_s, if_pos rfl]
    have hs2 : Sm S (sI (s0 S) 313 51 x2) := hs.tr (sm_I (by decide))
    rcases tld h (s := 0) (by decide) x1 with ⟨k, rfl, hk⟩ | hn
    · rw [courtAt_y hW hk, b1_s, r_0_0 hW, k_1 hW, sightAt_n hW hn2, b1_s, nul_s, nul_n]
      exact ⟨-1, _, rfl, rfl, h.sm hs2⟩
    · rw [courtAt_n hW hn, b1_s, r_0_0 hW, k_1 hW, sightAt_n hW hn2, b1_s, nul_n]
      exact ⟨-1, _, rfl, rfl, h.sm hs2⟩
end SI
