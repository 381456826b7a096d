/-! the ball: what the class tells of a state -/
section BG
variable {S S' : GS} {o b co nl nro : Nat} {D : DSt} {B : BSt}
def setQ (w n : Nat) (p : Nat → Bool) : Int32 := nI (setN (fun l => decide (l < n) && p l) w 0 0)
def impL (lee pr : Int32) (L : BLs) : Bool := upL L && decide (lee < jabs (L.2.1 - pr))
def tellB (D : DSt) (nl nro : Nat) (pr lee : Int32) (k : Nat) (B : BSt) : Int32 := if k = 0 then B.1.2.1 else if k = 1 then B.1.1 else if k = 2 then setQ 8 nl (fun l => upL (B.2.2 l)) else if k = 3 then setQ 8 nl (fun l => dnL (B.2.2 l)) else if k = 4 then setQ 8 nl (fun l => buL (B.2.2 l)) else if k = 5 then B.1.2.2.1 else if k = 6 then B.1.2.2.2.1 else if k = 7 then setQ 8 nl (fun l => impL lee pr (B.2.2 l)) else if k = 8 then B.1.2.2.2.2.1 else if k = 9 then B.1.2.2.2.2.2 else if k = 10 then setQ 4 nro (fun r => !(B.2.1 r).2) else if k < 20 then -100 else if k - 20 < nro then prB D B.1.1 B.2.1 (k - 20) else -100
def ofLB (k : Nat) (L : BLs) : Int32 := if k = 0 then nI L.1 else if k = 1 then L.2.1 else if k = 2 then nI L.2.2.1 else if k = 3 then L.2.2.2.2.1 else L.2.2.2.2.2
theorem OfB.cf (hO : OfB S S') (ho : o + 7 < 230) (h : CF S o b) : CF S' o b := by
  obtain ⟨f0, f1, f2, f3, f4, f5, f6, f7, f8, f9, g1, g2, g3, g4, g5, g6⟩ := h
  have e : ∀ o, o < 230 → S'.1 o = S.1 o := fun o q => hO.2.2.2 o (Or.inl q)
  have e9 : S'.1 319 = S.1 319 := hO.2.2.2 319 (by omega)
  have n1 : nr S' (o + 1) = nr S (o + 1) := by unfold nr; rw [e _ (by omega)]
  have n3 : nr S' (o + 3) = nr S (o + 3) := by unfold nr; rw [e _ (by omega)]
  have n5 : nr S' (o + 5) = nr S (o + 5) := by unfold nr; rw [e _ (by omega)]
  refine ⟨hO.cw ho f0, ?_⟩
  rw [e9, n1, n3, n5, e (o + 1 + 1) (by omega), e (o + 3 + 1) (by omega), e (o + 5 + 1) (by omega), e o (by omega), e (o + 7) (by omega)]
  exact ⟨f1, f2, f3, f4, f5, f6, f7, f8, f9, g1, g2, g3, g4, g5, g6⟩
theorem OfB.pc {n : Nat} {x : Int32} (hO : OfB S S') : propC S' b n x = propC S b n x := by
  unfold propC
  rw [hO.2.2.2 319 (by omega)]
theorem impC_l (h : Hx S co nl nro D) {A : Nat → BLs} {pr : Int32} (hA : ∀ l, l < nl → LaC S l (A l) ∧ (A l).2.2.1 ≤ 9) : ∀ (d l n : Nat) (x : Int32), l + d = 8 → d < n → f_X2_improper_16 230 S n x pr (nI l) = some (bitsS (fun l => decide (l < nl) && impL (S.1 co 4) pr (A l)) d l x)
  | _, _, 0, _, _, hn => absurd hn (Nat.not_lt_zero _)
  | 0, l, n + 1, x, hl, _ => by
    rw [f_X2_improper_16, if_pos (show (8 : Int32) ≤ nI l from nI_le (a := 8) (by omega) (by omega))]
    rfl
  | d + 1, l, n + 1, x, hl, hn => by
    have ih := fun y => impC_l h (pr := pr) hA d (l + 1) n y (by omega) (by omega)
    rw [f_X2_improper_16, if_neg (show ¬ (8 : Int32) ≤ nI l from nI_ge (b := 8) (by omega) (by omega)), k_230 h.1, hasLadyC h, b1_s]
    unfold f_X2_improper_61
    rw [nI_1]
    show _ = some (bitsS _ d (l + 1) (if (decide (l < nl) && impL (S.1 co 4) pr (A l)) = true then x ||| jshl 1 (nI l) else x))
    by_cases q : l < nl
    · have hn8 := h.2.2.2.2.2.2.2.2.2.1
      rw [inQ_y q (by omega), if_neg (show ¬ bi true = 0 by decide), k_230 h.1, isUpC h.1 (by omega) (hA l q).1 (hA l q).2, b1_s, decide_eq_true q, Bool.true_and]
      unfold impL
      cases upL (A l)
      · rw [if_pos (show bi false = 0 from rfl), Bool.false_and, if_neg Bool.false_ne_true]
        exact ih _
      · rw [if_neg (show ¬ bi true = 0 by decide), r_230_8 h, r_230_3 h.1, y_234 h.1 (by omega), (hA l q).1.2.1, c1_s h.2.2.2.1.1, Bool.true_and]
        unfold f_X0_isNear
        rw [xI_s h.2.2.2.1.1]
        by_cases z : S.1 co 4 < jabs ((A l).2.1 - pr)
        · rw [if_pos z, b1_s, if_pos rfl, decide_eq_true z, if_pos rfl]
          exact ih _
        · rw [if_neg z, b1_s, if_neg n10, decide_eq_false z, if_neg Bool.false_ne_true]
          exact ih _
    · rw [show inQ (nI l) nl = false from decide_eq_false (fun z => q (by have := z.2; rwa [nI_clamp (by omega)] at this)), if_pos (show bi false = 0 from rfl), decide_eq_false q, Bool.false_and, if_neg Bool.false_ne_true]
      exact ih _
theorem opensC_l (h : Hx S co nl nro D) (hB : HB S nl nro B) : ∀ (d r n : Nat) (x : Int32), r + d = 4 → d < n → f_X2_openRooms_4 230 S n x (nI r) = some (bitsS (fun r => decide (r < nro) && !(B.2.1 r).2) d r x)
  | _, _, 0, _, _, hn => absurd hn (Nat.not_lt_zero _)
  | 0, r, n + 1, x, hl, _ => by
    rw [f_X2_openRooms_4, if_pos (show (4 : Int32) ≤ nI r from nI_le (a := 4) (by omega) (by omega))]
    rfl
  | d + 1, r, n + 1, x, hl, hn => by
    have ih := fun y => opensC_l h hB d (r + 1) n y (by omega) (by omega)
    rw [f_X2_openRooms_4, if_neg (show ¬ (4 : Int32) ≤ nI r from nI_ge (b := 4) (by omega) (by omega)), k_230 h.1, hasRoomC h, b1_s]
    unfold f_X2_openRooms_32
    rw [nI_1]
    show _ = some (bitsS _ d (r + 1) (if (decide (r < nro) && !(B.2.1 r).2) = true then x ||| jshl 1 (nI r) else x))
    have n4 := h.2.2.2.2.2.2.2.2.2.2
    by_cases q : r < nro
    · rw [inQ_y q (by omega), if_neg (show ¬ bi true = 0 by decide), r_230_1 h.1, y_232 h.1 (by omega), (hB.2.1 r q).1, decide_eq_true q, Bool.true_and]
      cases (B.2.1 r).2
      · rw [if_pos (show bi false = 0 from rfl), Bool.not_false, if_pos rfl]
        exact ih _
      · rw [if_neg (show ¬ bi true = 0 by decide), Bool.not_true, if_neg Bool.false_ne_true]
        exact ih _
    · rw [show inQ (nI r) nro = false from decide_eq_false (fun z => q (by have := z.2; rwa [nI_clamp (by omega)] at this)), if_pos (show bi false = 0 from rfl), decide_eq_false q, Bool.false_and, if_neg Bool.false_ne_true]
      exact ih _
theorem tellH (h : Hx S co nl nro D) (hcf : CF S co b) (hI : BI nl nro D.2.2.2.2.2 B) (hB : HB S nl nro B) {k : Nat} (hk : k < 2 ^ 31) : f_X2_tell 230 (nI k) S = some (tellB D nl nro (propC S b (nr S (co + 5)) B.1.1) (S.1 co 4) k B) := by
  have hW := h.1
  obtain ⟨⟨f1, f2, f3, f4, f5, f6⟩, f7, f8, f9⟩ := id hB
  have hA := hB.a hI
  have who : ∀ w, w < 3 → f_X2_ladiesWho 230 (nI w) S = some (setQ 8 nl (fun l => whoL w (B.2.2 l))) := fun w hw => whoC h hA hw
  have wh0 : f_X2_ladiesWho 230 0 S = some (setQ 8 nl (fun l => upL (B.2.2 l))) := who 0 (by decide)
  have wh1 : f_X2_ladiesWho 230 1 S = some (setQ 8 nl (fun l => dnL (B.2.2 l))) := who 1 (by decide)
  have wh2 : f_X2_ladiesWho 230 2 S = some (setQ 8 nl (fun l => buL (B.2.2 l))) := who 2 (by decide)
  unfold f_X2_tell
  by_cases q : k < 11
  · rw [tsw_in (by exact q) (by exact (by decide : 11 < 1000))]
    rcases (show k = 0 ∨ k = 1 ∨ k = 2 ∨ k = 3 ∨ k = 4 ∨ k = 5 ∨ k = 6 ∨ k = 7 ∨ k = 8 ∨ k = 9 ∨ k = 10 by omega) with rfl | rfl | rfl | rfl | rfl | rfl | rfl | rfl | rfl | rfl | rfl
    · show xI (some 230) 2 11 S _ = some B.1.2.1
      rw [i_230 hW, f2]
    · show xI (some 230) 2 10 S _ = some B.1.1
      rw [i_230 hW, f1]
    · simp only [List.getD_cons_succ, List.getD_cons_zero]
      show _ = some (setQ 8 nl (fun l => upL (B.2.2 l)))
      rw [k_230 hW, wh0, b1_s]
    · simp only [List.getD_cons_succ, List.getD_cons_zero]
      show _ = some (setQ 8 nl (fun l => dnL (B.2.2 l)))
      rw [k_230 hW, wh1, b1_s]
    · simp only [List.getD_cons_succ, List.getD_cons_zero]
      show _ = some (setQ 8 nl (fun l => buL (B.2.2 l)))
      rw [k_230 hW, wh2, b1_s]
    · show xI (some 230) 2 12 S _ = some B.1.2.2.1
      rw [i_230 hW, f3]
    · show xI (some 230) 2 13 S _ = some B.1.2.2.2.1
      rw [i_230 hW, f4]
    · simp only [List.getD_cons_succ, List.getD_cons_zero]
      show _ = some (setQ 8 nl (fun l => impL (S.1 co 4) (propC S b (nr S (co + 5)) B.1.1) (B.2.2 l)))
      rw [k_230 hW]
      unfold f_X2_improper setQ
      rw [r_230_8 h, i_230 hW, f1, c1_s h.2.2.2.1.1, hcf.properC, b1_s, show f_X2_improper_16 230 S fu 0 _ 0 = _ from impC_l h hA 8 0 fu 0 (by omega) (by unfold fu; omega), b1_s, ← bitsS_set _ 8 0 0 (by decide) (by decide)]
      rfl
    · show xI (some 230) 2 14 S _ = some B.1.2.2.2.2.1
      rw [i_230 hW, f5]
    · show xI (some 230) 2 15 S _ = some B.1.2.2.2.2.2
      rw [i_230 hW, f6]
    · simp only [List.getD_cons_succ, List.getD_cons_zero]
      show _ = some (setQ 4 nro (fun r => !(B.2.1 r).2))
      rw [k_230 hW]
      unfold f_X2_openRooms setQ
      rw [show f_X2_openRooms_4 230 S fu 0 0 = _ from opensC_l h hB 4 0 fu 0 (by omega) (by unfold fu; omega), b1_s, ← bitsS_set _ 4 0 0 (by decide) (by decide)]
      rfl
  · rw [tsw_out (n := 11) (Or.inr ⟨k, hk, rfl, by omega⟩) rfl (by decide)]
    unfold tellB
    rw [if_neg (show ¬ k = 0 by omega), if_neg (show ¬ k = 1 by omega), if_neg (show ¬ k = 2 by omega), if_neg (show ¬ k = 3 by omega), if_neg (show ¬ k = 4 by omega), if_neg (show ¬ k = 5 by omega), if_neg (show ¬ k = 6 by omega), if_neg (show ¬ k = 7 by omega), if_neg (show ¬ k = 8 by omega), if_neg (show ¬ k = 9 by omega), if_neg (show ¬ k = 10 by omega)]
    by_cases z : k < 20
    · rw [if_pos (show nI k < 20 from nI_lt (b := 20) z (by decide)), if_pos z]
    · rw [if_neg (show ¬ nI k < 20 from nI_nlt (b := 20) (by omega) (by omega)), if_neg z, nI_litsub 20 20 rfl (by omega), k_230 hW, hasRoomC h, b1_s]
      by_cases y : k - 20 < nro
      · have n4 := h.2.2.2.2.2.2.2.2.2.2
        rw [inQ_y y (by omega), if_neg (show ¬ bi true = 0 by decide), k_230 hW, pressC h f1 (f7 _ y) y, b1_s, if_pos y]
      · rw [show inQ (nI (k - 20)) nro = false from decide_eq_false (fun w => y (by have := w.2; rwa [nI_clamp (by omega)] at this)), if_pos (show bi false = 0 from rfl), if_neg y]
theorem tellHN (h : Hx S co nl nro D) {x : Int32} (hx : x < 0) : f_X2_tell 230 x S = some (-100) := by
  unfold f_X2_tell
  rw [tsw_out (n := 11) (Or.inl hx) rfl (by decide), if_pos (show x < (20 : Int32) from lt_neg 20 rfl (by decide) hx)]
theorem tellOfH (h : Hx S co nl nro D) (hB : HB S nl nro B) (x y : Int32) : f_X2_tellOf 230 x y S = some (if inQ x nl = true ∧ inQ y 5 = true then ofLB y.toNatClampNeg (B.2.2 x.toNatClampNeg) else -2) := by
  have hW := h.1
  have hn8 := h.2.2.2.2.2.2.2.2.2.1
  unfold f_X2_tellOf
  rw [k_230 hW, hasLadyC h, b1_s]
  cases q : inQ x nl
  · rw [if_pos (show bi false = 0 from rfl), if_neg (fun z => Bool.false_ne_true z.1)]
  · rw [if_neg (show ¬ bi true = 0 by decide)]
    obtain ⟨q1, q2⟩ := of_decide_eq_true q
    obtain ⟨l, hl, rfl⟩ := nI_of q1
    rw [nI_clamp hl] at q2 ⊢
    obtain ⟨a1, a2, a3, a4, a5, a6⟩ := hB.2.2.2 l q2
    rcases numQ y 5 with ⟨i, rfl, hi⟩ | hy
    · rw [tsw_in (by exact hi) (by exact (by decide : 5 < 1000)), inQ_y hi (by decide), if_pos ⟨rfl, rfl⟩, nI_clamp (by omega)]
      rcases (show i = 0 ∨ i = 1 ∨ i = 2 ∨ i = 3 ∨ i = 4 by omega) with rfl | rfl | rfl | rfl | rfl
      · simp only [List.getD_cons_succ, List.getD_cons_zero]
        show _ = some (nI (B.2.2 l).1)
        rw [r_230_2 hW, y_233 hW (by omega), a1]
      · simp only [List.getD_cons_succ, List.getD_cons_zero]
        show _ = some (B.2.2 l).2.1
        rw [r_230_3 hW, y_234 hW (by omega), a2]
      · simp only [List.getD_cons_succ, List.getD_cons_zero]
        show _ = some (nI (B.2.2 l).2.2.1)
        rw [r_230_4 hW, y_235 hW (by omega), a3]
      · simp only [List.getD_cons_succ, List.getD_cons_zero]
        show _ = some (B.2.2 l).2.2.2.2.1
        rw [r_230_6 hW, y_237 hW (by omega), a5]
      · simp only [List.getD_cons_succ, List.getD_cons_zero]
        show _ = some (B.2.2 l).2.2.2.2.2
        rw [r_230_7 hW, y_238 hW (by omega), a6]
    · rw [tsw_out (n := 5) hy rfl (by decide), if_neg]
      rintro ⟨-, w⟩
      obtain ⟨w1, w2⟩ := of_decide_eq_true w
      rcases hy with z | ⟨i, hi, rfl, hq⟩
      · exact w1 z
      · rw [nI_clamp hi] at w2
        omega
end BG
