/-! texts: line after line -/
section MA
variable {α : Type} {L : Nat} {B : Nat → Nat} {S S' T T' S0 T0 : GS} {s e k f c o w m p q n d e0 v sl srt : Nat} {R : GS → GS → Prop}
/-- what a sort's lines are, on both sides, and that they are alike -/
def LineH (L : Nat) (B : Nat → Nat) (srt : Nat) (R : GS → GS → Prop) (CL : GS → Option GS) (ML : Int64 → Int32 → GS → Option (Int32 × GS)) : Prop :=
  (∀ n j S, Wr S → tsw (nI srt) 0 [(c1 (some 207) 5 S (fun o' => f_X5_readCourtLine o'  S) fun S5 => (f_X5_readAll_103 (f_X5_readAll_7 207 n) 207 (nI srt) j S5)), (c1 (some 207) 5 S (fun o' => f_X5_readBallLine o'  S) fun S7 => (f_X5_readAll_103 (f_X5_readAll_7 207 n) 207 (nI srt) j S7)), (c1 (some 207) 5 S (fun o' => f_X5_readForecastLine o'  S) fun S9 => (f_X5_readAll_103 (f_X5_readAll_7 207 n) 207 (nI srt) j S9)), (c1 (some 207) 5 S (fun o' => f_X5_readSightLine o'  S) fun S11 => (f_X5_readAll_103 (f_X5_readAll_7 207 n) 207 (nI srt) j S11)), (c1 (some 207) 5 S (fun o' => f_X5_readLedgerLine o'  S) fun S13 => (f_X5_readAll_103 (f_X5_readAll_7 207 n) 207 (nI srt) j S13))] (c1 (some 207) 5 S (fun o' => f_X5_readShiftsLine o'  S) fun S15 => (f_X5_readAll_103 (f_X5_readAll_7 207 n) 207 (nI srt) j S15)) = b1 (CL S) fun S5 => f_X5_readAll_103 (f_X5_readAll_7 207 n) 207 (nI srt) j S5) ∧
  (∀ W x T, Wr T → f_X12_lineOf 313 (nI srt) W x T = b2 (ML W x T) fun v S => tz v (some (v, S))) ∧
  (∀ S T s e k, TB L B S T → Tk L B S T s e k → k ≠ 0 → FA s S T → R S T → LX L B R S T e (CL S) (ML (wd T) (nI s) T)) ∧
  (∀ S T S' T', R S T → FT S S' → FMt T T' → R S' T') ∧
  ∀ S T, R S T → RwD S
theorem brk_here (hW : Wr S) (hb : S.1 207 11 = 1) : f_X5_breakHere 207 S = some S := by
  unfold f_X5_breakHere f_X5_isBroken
  rw [k_207 hW, i_207 hW, if_pos hb, b1_s, if_neg n10]
/-- once broken, the class reads no further line -/
theorem brk_end (hW : Wr S) (hb : S.1 207 11 = 1) (x j : Int32) (n : Nat) : f_X5_readAll_7 207 (n + 1) x j S = f_X5_readAll_113 207 x S := by
  have h1 : f_X5_isBroken 207 S = some 1 := by
    unfold f_X5_isBroken
    rw [i_207 hW, if_pos hb]
  rw [f_X5_readAll_7]
  split
  · rfl
  · rw [i_207 hW]
    split
    · rfl
    · rw [k_207 hW, h1, b1_s, if_neg n10]
theorem brk_close (hL : L ≤ 600) (hW : Wr S) (h7 : S.1 207 7 = nI L) (hb : S.1 207 11 = 1) : ∃ S', f_X5_closeLine 207 S = some S' ∧ FT S S' := by
  unfold f_X5_closeLine
  rw [i_207 hW]
  split
  · obtain ⟨S', g1, g2⟩ := next_tot hL hW h7
    rw [k_207 hW, g1, b1_s]
    exact ⟨S', rfl, g2⟩
  · rw [k_207 hW, brk_here hW hb, b1_s]
    exact ⟨S, rfl, FT.rf S⟩
theorem FT.x (h : FT S S') : FCx S S' := ⟨h.1, fun o ho => h.fu.at (by omega), h.2 207 7 (by omega)⟩
theorem lines_l {CL : GS → Option GS} {ML : Int64 → Int32 → GS → Option (Int32 × GS)} (hH : LineH L B srt R CL ML) (hL : L ≤ 600) : ∀ (d j n N : Nat) (S T : GS) (s e k : Nat), L ≤ s + d → j ≤ s → d + 1 < n → d + 1 < N → TB L B S T → Tk L B S T s e k → FA s S T → R S T →
    ∃ S' T', f_X5_readAll_7 207 n (nI srt) (nI j) S = f_X5_readAll_113 207 (nI srt) S' ∧ FCx S S' ∧ FMx T T' ∧
      ((f_X12_lines_2 313 N (nI srt) 1 T = some (1, T') ∧ TB L B S' T' ∧ Tk L B S' T' L L 0 ∧ FA L S' T' ∧ R S' T') ∨
       (f_X12_lines_2 313 N (nI srt) 1 T = some (0, T') ∧ Wr S' ∧ Wr T' ∧ S'.1 207 11 = 1 ∧ S'.1 207 12 = T'.1 313 18 ∧ RwD S'))
  | d, j, 0, _, _, _, _, _, _, _, _, hn, _, _, _, _, _ => absurd hn (by omega)
  | d, j, n + 1, 0, _, _, _, _, _, _, _, _, hN, _, _, _, _ => absurd hN (by omega)
  | d, j, n + 1, N + 1, S, T, s, e, k, hd, hj, hn, hN, h, hk, hF, hR => by
    obtain ⟨H1, H2, H3, H4, H5⟩ := id hH
    have hle := hk.le
    have heL := hk.2.2.2.2.2.2.1
    have hk4 := hk.2.2.2.2.2.2.2.2.2.1
    by_cases q : k = 0
    · subst q
      obtain ⟨rfl, rfl⟩ := hk.2.2.2.2.2.2.2.1 rfl
      refine ⟨S, T, ?_, ⟨rfl, fun _ _ => rfl, rfl⟩, ⟨rfl, fun _ _ _ _ => rfl⟩, Or.inl ⟨?_, h, hk, hF, hR⟩⟩
      · rw [f_X5_readAll_7]
        split
        · rfl
        · rw [i_207 h.1, hk.2.2.1, if_pos (show nI 0 = 0 from rfl)]
      · rw [f_X12_lines_2, if_neg n10, i_313 h.2.1, hk.2.2.2.2.2.1, if_pos (show nI (kM 0) = 0 from rfl)]
        rfl
    · have hlt := hk.2.2.2.2.2.2.2.2.1 q
      have ek : ¬ nI k = 0 := fun z => q ((nI_eq (b := 0) (by omega) (by decide)).mp z)
      have ekm : ¬ nI (kM k) = 0 := by
        rcases (show k = 1 ∨ k = 2 ∨ k = 3 ∨ k = 4 by omega) with rfl | rfl | rfl | rfl <;> decide
      have hC : f_X5_readAll_7 207 (n + 1) (nI srt) (nI j) S = b1 (CL S) fun S5 => f_X5_readAll_103 (f_X5_readAll_7 207 n) 207 (nI srt) (nI j) S5 := by
        rw [f_X5_readAll_7, if_neg (show ¬ (600 : Int32) ≤ nI j from nI_ge (b := 600) (by omega) (by decide)), i_207 h.1, hk.2.2.1, if_neg ek, k_207 h.1, show f_X5_isBroken 207 S = some 0 by unfold f_X5_isBroken; rw [i_207 h.1, if_neg (FAv.nb hF)], b1_s, if_pos rfl]
        exact H1 n (nI j) S h.1
      have hM : f_X12_lines_2 313 (N + 1) (nI srt) 1 T = f_X12_lines_36 (f_X12_lines_2 313 N) 313 (nI srt) (nI s) (some 313) (nI srt) (wd T) T := by
        rw [f_X12_lines_2, if_neg n10, i_313 h.2.1, hk.2.2.2.2.2.1, if_neg ekm, i_313 h.2.1, hk.2.2.2.1, i_313 h.2.1, hk.2.2.2.2.2.1]
        unfold wd
        rw [hk.2.2.2.2.2.1]
        by_cases z : nI (kM k) = 2
        · rw [if_pos z, if_pos z, j_313 h.2.1]
        · rw [if_neg z, if_neg z]
      rw [hC, hM]
      unfold f_X12_lines_36 f_X12_lines_58 f_X12_lines_66
      rw [kk_313 h.2.1, H2 _ _ _ h.2.1]
      rcases H3 S T s e k h hk q hF hR with ⟨S1, T1, s1, e1, k1, a1, a2, a3, a4, a5, a6, a7, a8, a9, a10⟩ | ⟨S1, T1, a1, a2, a3, a4, a5, a6, a7, a8, a9⟩
      · have hle1 := a6.le
        have hk14 := a6.2.2.2.2.2.2.2.2.2.1
        rw [a1, b1_s, a2, b2_s, show tz (1 : Int32) (some ((1 : Int32), T1)) = some (1, T1) from rfl, b2_s, if_neg n10]
        unfold f_X5_readAll_103 f_X5_closeLine
        rw [k_207 a5.1, i_207 a5.1, a6.2.2.1, i_313 a5.2.1, a6.2.2.2.2.2.1]
        by_cases q3 : k1 = 3
        · subst q3
          have hlt1 := a6.2.2.2.2.2.2.2.2.1 (by decide)
          obtain ⟨S2, T2, s2, e2, k2, t1, t2, t3, t4, t5, t6, t7⟩ := tok_both a5 a6.2.2.2.2.2.2.1 a6.2.1 a6.2.2.2.2.1
          have hB2 := (a5.ft t3).fm t4
          have hF2 : FA s2 S2 T2 := by
            unfold FA
            rw [t3.2 _ _ (by omega), t3.2 _ _ (by omega)]
            exact FAv.up a7 (by omega) (t4.2.2 _ _ (by omega)) (t4.2.2 _ _ (by omega))
          obtain ⟨S', T', b1', b2', b3', b4'⟩ := lines_l hH hL (d - 1) (j + 1) n N S2 T2 s2 e2 k2 (by omega) (by omega) (by omega) (by omega) hB2 t7 hF2 (H4 _ _ _ _ a10 t3 t4)
          rw [if_pos (show nI 3 = 3 from rfl), k_207 a5.1, t1, b1_s, b1_s, nI_1, b1', if_pos (show nI (kM 3) = 4 from rfl), if_neg n10, k_313 a5.2.1, t2, b1_s]
          exact ⟨S', T', rfl, (a3.tr t3.x).tr b2', (a4.tr t4.fm.x).tr b3', b4'⟩
        · have e3 : ¬ nI k1 = 3 := fun z => q3 ((nI_eq (b := 3) (by omega) (by decide)).mp z)
          have e4 : ¬ nI (kM k1) = 4 := by
            rcases (show k1 = 0 ∨ k1 = 1 ∨ k1 = 2 ∨ k1 = 4 by omega) with rfl | rfl | rfl | rfl <;> decide
          obtain ⟨n, rfl⟩ : ∃ n', n = n' + 1 := ⟨n - 1, by omega⟩
          obtain ⟨N, rfl⟩ : ∃ N', N = N' + 1 := ⟨N - 1, by omega⟩
          have hW2 : Wr (sI (sI S1 207 11 1) 207 12 (nI s1)) := a5.1
          rw [if_neg e3, k_207 a5.1, break_v a5.1 a6.1 (FAv.nb a7), b1_s, b1_s, brk_end hW2 rfl, if_neg e4, kk_313 a5.2.1, fails_v a5.2.1 a6.2.2.2.1, b2_s, if_pos rfl]
          refine ⟨_, sI T1 313 18 (nI s1), rfl, a3.tr (brk_F (S := S1) (s := s1)).x, a4.tr (FM.I (by omega)).x, Or.inr ⟨?_, hW2, a5.2.1, rfl, rfl, ?_⟩⟩
          · rw [f_X12_lines_2, if_pos rfl]
            rfl
          · exact (H5 _ _ a10).at (fun o h1 h2 h3 => (brk_F (S := S1) (s := s1)).at (by omega))
      · rw [a1, b1_s, a2, b2_s, show tz (0 : Int32) (some ((0 : Int32), T1)) = some (0, T1) from rfl, b2_s, if_pos rfl, if_pos rfl]
        obtain ⟨n, rfl⟩ : ∃ n', n = n' + 1 := ⟨n - 1, by omega⟩
        obtain ⟨N, rfl⟩ : ∃ N', N = N' + 1 := ⟨N - 1, by omega⟩
        obtain ⟨S2, c1', c2'⟩ := brk_close hL a5 (by rw [a3.2.2]; exact h.2.2.2.1) a7
        have hW2 : Wr S2 := wr_2 (by rw [c2'.1]) a5
        have e11 : S2.1 207 11 = 1 := by rw [c2'.2 _ _ (by omega)]; exact a7
        unfold f_X5_readAll_103
        rw [k_207 a5, c1', b1_s, brk_end hW2 e11]
        refine ⟨S2, T1, rfl, a3.tr c2'.x, a4, Or.inr ⟨?_, hW2, a6, e11, by rw [c2'.2 _ _ (by omega)]; exact a8, a9.at (fun o h1 h2 h3 => c2'.fu.at (by omega))⟩⟩
        rw [f_X12_lines_2, if_pos rfl]
        rfl
end MA
