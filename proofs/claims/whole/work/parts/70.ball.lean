/-! state, of: both answer alike -/
section BP
variable {S S' T : GS} {kc kb n c nl nro b : Nat} {D : DSt} {B : BSt}
theorem impM_l (h : HxM S c nl nro D) (hB : HM S nl nro B) {ns : Nat} (hs : ns ≤ 6) (h2 : S.1 319 (69 * c + 2) = nI ns) : ∀ (d l n : Nat) (x : Int32), l + d = nl → d < n → f_X12_improper_4 313 S n x (nI l) = some (bitsS (fun l => decide (l < nl) && impL (S.1 319 (69 * c + 3)) (propC S (69 * c) ns B.1.1) (B.2.2 l)) d l x)
  | _, _, 0, _, _, hn => absurd hn (Nat.not_lt_zero _)
  | 0, l, n + 1, x, hl, _ => by
    have n8 := h.2.2.2.2.2.2.1
    rw [f_X12_improper_4, i_313 h.1.1, h.n27, if_pos (nI_le (by omega) (by omega))]
    rfl
  | d + 1, l, n + 1, x, hl, hn => by
    have hW := h.1.1
    have n8 := h.2.2.2.2.2.2.1
    have hll : l < nl := by omega
    have ih := fun y => impM_l h hB hs h2 d (l + 1) n y (by omega) (by omega)
    obtain ⟨f1, f2, f3, f4, f5⟩ := hB
    rw [f_X12_improper_4, i_313 hW, h.n27, if_neg (nI_ge (by omega) (by omega)), i_313 hW, f2.1.has hll n8, b1_s]
    unfold f_X12_improper_56 f_X12_improper_57
    rw [nI_1]
    show _ = some (bitsS _ d (l + 1) (if (decide (l < nl) && impL (S.1 319 (69 * c + 3)) (propC S (69 * c) ns B.1.1) (B.2.2 l)) = true then x ||| jshl 1 (nI l) else x))
    rw [decide_eq_true hll, Bool.true_and]
    unfold impL
    show (if bi (upL (B.2.2 l)) = 0 then _ else _) = _
    cases upL (B.2.2 l)
    · rw [if_pos (show bi false = 0 from rfl), Bool.false_and, if_neg Bool.false_ne_true, Int32.or_zero]
      exact ih _
    · rw [if_neg (show ¬ bi true = 0 by decide), r_313_41 hW, y_329 hW (by omega), (f5 l hll).2.1, i_313 hW, f1.1, k_313 hW, h.1.properM hs h2, b1_s, m_size, b1_s, k_313 hW, h.1.of 3 3 rfl (by decide), b1_s, Bool.true_and]
      by_cases z : S.1 319 (69 * c + 3) < jabs ((B.2.2 l).2.1 - propC S (69 * c) ns B.1.1)
      · rw [if_neg (Int32.not_le.mpr z), decide_eq_true z, if_pos rfl]
        exact ih _
      · rw [if_pos (Int32.not_lt.mp z), decide_eq_false z, if_neg Bool.false_ne_true, Int32.or_zero]
        exact ih _
theorem bits_z {p : Nat → Bool} : ∀ (d k : Nat) (x : Int32), (∀ j, k ≤ j → j < k + d → p j = false) → bitsS p d k x = x
  | 0, _, _, _ => rfl
  | d + 1, k, x, h => by
    show bitsS p d (k + 1) (if p k = true then x ||| jshl 1 (nI k) else x) = x
    rw [h k (by omega) (by omega), if_neg Bool.false_ne_true, bits_z d (k + 1) x (fun j h1 h2 => h j (by omega) (by omega))]
theorem bits_ad {p : Nat → Bool} : ∀ (c d k : Nat) (x : Int32), bitsS p (c + d) k x = bitsS p d (k + c) (bitsS p c k x)
  | 0, d, k, x => by rw [Nat.zero_add]; rfl
  | c + 1, d, k, x => by
    rw [show c + 1 + d = (c + d) + 1 by omega]
    show bitsS p (c + d) (k + 1) _ = bitsS p d (k + (c + 1)) (bitsS p c (k + 1) _)
    rw [bits_ad c d (k + 1) _, show k + 1 + c = k + (c + 1) by omega]
theorem bits_Q {p : Nat → Bool} {n : Nat} (hn : n ≤ 8) : bitsS (fun l => decide (l < n) && p l) n 0 0 = setQ 8 n p := by
  unfold setQ
  rw [← bitsS_set _ 8 0 0 (by decide) (by decide), show (8 : Nat) = n + (8 - n) by omega, bits_ad, bits_z (8 - n) _ _ (fun j h1 h2 => by rw [decide_eq_false (by omega)]; rfl)]
  rfl
/-- what the reference tells of a state -/
def tellF (x4 : Int32) (S3 : GS) : Option (Int32 × GS) := (xI (some 313) 12 26 S3 fun v4 => (b1 (f_X12_in x4 20 (19 + v4) S3) fun v5 => (if v5 = 0 then (tsw x4 0 [(xI (some 313) 12 30 S3 fun v7 => (some (v7, S3))), (xI (some 313) 12 29 S3 fun v8 => (some (v8, S3))), (xI (some 313) 12 31 S3 fun v9 => (some (v9, S3))), (xI (some 313) 12 32 S3 fun v10 => (some (v10, S3))), (xI (some 313) 12 33 S3 fun v11 => (some (v11, S3))), (xI (some 313) 12 34 S3 fun v12 => (some (v12, S3))), (xI (some 313) 12 35 S3 fun v13 => (some (v13, S3))), (c1 (some 313) 12 S3 (fun o' => f_X12_improper o'  S3) fun v14 => (some (v14, S3))), (xI (some 313) 12 36 S3 fun v16 => (some (v16, S3))), (xI (some 313) 12 37 S3 fun v17 => (some (v17, S3))), (xI (some 313) 12 38 S3 fun v18 => (some (v18, S3)))] (some ((-100), S3))) else (c1 (some 313) 12 S3 (fun o' => f_X12_pressureOf o' (x4 - 20) S3) fun v19 => (some (v19, S3))))))
theorem tellM (h : HxM S c nl nro D) (hB : HM S nl nro B) {ns : Nat} (hs : ns ≤ 6) (h2 : S.1 319 (69 * c + 2) = nI ns) {k : Nat} (hk : k < 2 ^ 31) : tellF (nI k) S = some (tellB D nl nro (propC S (69 * c) ns B.1.1) (S.1 319 (69 * c + 3)) k B, S) := by
  have hW := h.1.1
  have n8 := h.2.2.2.2.2.2.1
  have n4 := h.2.2.2.2.2.2.2
  obtain ⟨f1, f2, f3, f4, f5⟩ := id hB
  obtain ⟨a1, a2, a3, a4, a5, a6⟩ := f1
  unfold tellF
  rw [i_313 hW, h.n26, m_in]
  by_cases q : k < 20
  · rw [if_pos (show nI k < 20 from nI_lt (b := 20) q (by decide)), b1_s, if_pos rfl]
    by_cases z : k < 11
    · rw [tsw_in (by exact z) (by exact (by decide : 11 < 1000))]
      rcases (show k = 0 ∨ k = 1 ∨ k = 2 ∨ k = 3 ∨ k = 4 ∨ k = 5 ∨ k = 6 ∨ k = 7 ∨ k = 8 ∨ k = 9 ∨ k = 10 by omega) with rfl | rfl | rfl | rfl | rfl | rfl | rfl | rfl | rfl | rfl | rfl
      · simp only [List.getD_cons_succ, List.getD_cons_zero]
        show _ = some (B.1.2.1, S)
        rw [i_313 hW, a2]
      · simp only [List.getD_cons_succ, List.getD_cons_zero]
        show _ = some (B.1.1, S)
        rw [i_313 hW, a1]
      · simp only [List.getD_cons_succ, List.getD_cons_zero]
        show _ = some (setQ 8 nl (fun l => upL (B.2.2 l)), S)
        rw [i_313 hW, show S.1 313 31 = _ from f2.1]
      · simp only [List.getD_cons_succ, List.getD_cons_zero]
        show _ = some (setQ 8 nl (fun l => dnL (B.2.2 l)), S)
        rw [i_313 hW, show S.1 313 32 = _ from f2.2.1]
      · simp only [List.getD_cons_succ, List.getD_cons_zero]
        show _ = some (setQ 8 nl (fun l => buL (B.2.2 l)), S)
        rw [i_313 hW, show S.1 313 33 = _ from f2.2.2]
      · simp only [List.getD_cons_succ, List.getD_cons_zero]
        show _ = some (B.1.2.2.1, S)
        rw [i_313 hW, a3]
      · simp only [List.getD_cons_succ, List.getD_cons_zero]
        show _ = some (B.1.2.2.2.1, S)
        rw [i_313 hW, a4]
      · simp only [List.getD_cons_succ, List.getD_cons_zero]
        show _ = some (setQ 8 nl (fun l => impL (S.1 319 (69 * c + 3)) (propC S (69 * c) ns B.1.1) (B.2.2 l)), S)
        rw [k_313 hW]
        unfold f_X12_improper
        rw [show f_X12_improper_4 313 S fu 0 0 = _ from impM_l h hB hs h2 nl 0 fu 0 (by omega) (by unfold fu; omega), b1_s, bits_Q n8]
      · simp only [List.getD_cons_succ, List.getD_cons_zero]
        show _ = some (B.1.2.2.2.2.1, S)
        rw [i_313 hW, a5]
      · simp only [List.getD_cons_succ, List.getD_cons_zero]
        show _ = some (B.1.2.2.2.2.2, S)
        rw [i_313 hW, a6]
      · simp only [List.getD_cons_succ, List.getD_cons_zero]
        show _ = some (setQ 4 nro (fun r => !(B.2.1 r).2), S)
        rw [i_313 hW, setQ_48 n4, show S.1 313 38 = _ from f3]
    · rw [tsw_out (n := 11) (Or.inr ⟨k, hk, rfl, by omega⟩) rfl (by decide)]
      unfold tellB
      rw [if_neg (show ¬ k = 0 by omega), if_neg (show ¬ k = 1 by omega), if_neg (show ¬ k = 2 by omega), if_neg (show ¬ k = 3 by omega), if_neg (show ¬ k = 4 by omega), if_neg (show ¬ k = 5 by omega), if_neg (show ¬ k = 6 by omega), if_neg (show ¬ k = 7 by omega), if_neg (show ¬ k = 8 by omega), if_neg (show ¬ k = 9 by omega), if_neg (show ¬ k = 10 by omega), if_pos q]
  · rw [if_neg (show ¬ nI k < 20 from nI_nlt (b := 20) (by omega) (by omega)), show (19 : Int32) + nI nro = nI (19 + nro) from nI_add 19 nro]
    unfold tellB
    rw [if_neg (show ¬ k = 0 by omega), if_neg (show ¬ k = 1 by omega), if_neg (show ¬ k = 2 by omega), if_neg (show ¬ k = 3 by omega), if_neg (show ¬ k = 4 by omega), if_neg (show ¬ k = 5 by omega), if_neg (show ¬ k = 6 by omega), if_neg (show ¬ k = 7 by omega), if_neg (show ¬ k = 8 by omega), if_neg (show ¬ k = 9 by omega), if_neg (show ¬ k = 10 by omega), if_neg q]
    by_cases z : k - 20 < nro
    · rw [if_neg (nI_nlt (by omega) (by omega)), b1_s, if_neg n10, nI_litsub 20 20 rfl (by omega), k_313 hW, airM h (B := B) a1 f3 z (f4 _ z), b1_s, if_pos z]
    · rw [if_pos (nI_lt (by omega) hk), b1_s, if_pos rfl, tsw_out (n := 11) (Or.inr ⟨k, hk, rfl, by omega⟩) rfl (by decide), if_neg z]
theorem tellMN (h : HxM S c nl nro D) {x : Int32} (hx : x < 0) : tellF x S = some (-100, S) := by
  unfold tellF
  rw [i_313 h.1.1, m_in, if_pos (show x < (20 : Int32) from lt_neg 20 rfl (by decide) hx), b1_s, if_pos rfl, tsw_out (n := 11) (Or.inl hx) rfl (by decide)]
/-- no such court, ball or deed -/
theorem layNo (h : Inv S) (x1 x2 x3 : Int32) : (∃ kc kb n, x1 = nI kc ∧ x2 = nI kb ∧ x3 = nI n ∧ TD S 0 kc ∧ TD S 1 kb ∧ n ≤ nr S (23 + 21 * kb)) ∨ ((∃ o b, f_X9_courtAt 1 x1 S = some o ∧ f_X9_rowsAt 1 1 x2 S = some b ∧ f_X2_play 230 o b x3 S = some (0, S)) ∧ ∃ S', f_X12_layState 313 x1 x2 x3 (s0 S) = some (0, S') ∧ Sm S S') := by
  have hW := h.1
  have z0 : Sm S (s0 S) := sm_I (by decide)
  rcases tld h (s := 1) (by decide) x2 with ⟨kb, rfl, hkb⟩ | hnb
  · have zb : Sm S (sI (s0 S) 313 28 (nI kb)) := z0.tr (sm_I (by decide))
    have hb40 : nr S (23 + 21 * kb) ≤ 40 := (h.lf_b hkb.1).1.2.2.2.2.2.2.2.1
    have f1 := (h.lf_b hkb.1).1
    have hlay : f_X12_layState 313 x1 (nI kb) x3 (s0 S) = b2 (f_X12_hand 313 x1 (sI (s0 S) 313 28 (nI kb))) (fun v3 S4 => (if v3 = 0 then (some (0, S4)) else (c1 (some 313) 12 S4 (fun o' => f_X12_deeds o'  S4) fun v5 => (b1 (f_X12_in x3 0 v5 S4) fun v7 => (if v7 = 0 then (some (0, S4)) else (c2 (some 313) 12 S4 (fun o' => f_X12_play o' x3 S4) fun v9 S10 => (if v9 = x3 then (some (1, S10)) else (some (0, S10))))))))) := by
      unfold f_X12_layState
      rw [kk_313 (S := s0 S) hW, hasBall_y (S := s0 S) hW (hkb.sm z0), b2_s, if_neg n10, kk_313 (S := sI (s0 S) 313 28 (nI kb)) hW]
    rcases tld h (s := 0) (by decide) x1 with ⟨kc, rfl, hkc⟩ | hnc
    · rw [hand_y (S := sI (s0 S) 313 28 (nI kb)) hW (hkc.sm zb), b2_s, if_neg n10, show hS (sI (s0 S) 313 28 (nI kb)) kc = tS S kc kb from rfl, k_313 (S := tS S kc kb) hW, deedsT h hkb tS_sm rfl, b1_s, m_in] at hlay
      by_cases q : x3 < 0
      · refine Or.inr ⟨⟨_, _, courtAt_y hW hkc, rowsAt_b hW hkb, ?_⟩, tS S kc kb, ?_, tS_sm⟩
        · unfold f_X2_play
          rw [nul_s, nul_s, if_pos q]
        · rw [hlay, if_pos q, b1_s, if_pos rfl]
      · obtain ⟨n, hn, rfl⟩ := nI_of q
        by_cases z : n ≤ nr S (23 + 21 * kb)
        · exact Or.inl ⟨kc, kb, n, rfl, rfl, rfl, hkc, hkb, z⟩
        · refine Or.inr ⟨⟨_, _, courtAt_y hW hkc, rowsAt_b hW hkb, ?_⟩, tS S kc kb, ?_, tS_sm⟩
          · unfold f_X2_play
            rw [nul_s, nul_s, if_neg q, xI_s f1.1, f1.2.2.2.2.2.2.1, if_neg (nI_ge (by omega) (by omega))]
          · rw [hlay, if_neg q, if_pos (nI_lt (by omega) hn), b1_s, if_pos rfl]
    · refine Or.inr ⟨⟨_, _, courtAt_n hW hnc, rowsAt_b hW hkb, rfl⟩, sI (s0 S) 313 28 (nI kb), ?_, zb⟩
      rw [hlay, hand_n (S := sI (s0 S) 313 28 (nI kb)) hW (hnc.sm zb), b2_s, if_pos rfl]
  · refine Or.inr ⟨?_, sI (s0 S) 313 28 x2, ?_, z0.tr (sm_I (by decide))⟩
    · rcases tld h (s := 0) (by decide) x1 with ⟨kc, rfl, hkc⟩ | hnc
      · exact ⟨_, _, courtAt_y hW hkc, rowsAt_n hW (s := 1) (by decide) 1 rfl hnb, rfl⟩
      · exact ⟨_, _, courtAt_n hW hnc, rowsAt_n hW (s := 1) (by decide) 1 rfl hnb, rfl⟩
    · unfold f_X12_layState
      rw [kk_313 (S := s0 S) hW, hasBall_n (S := s0 S) hW (hnb.sm z0), b2_s, if_pos rfl]
end BP
