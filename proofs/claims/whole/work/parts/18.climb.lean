/-! falls, climb, court -/
theorem nI_q10 : ∀ w, w < 100 → nI w / 10 = nI (w / 10) ∧ jrem (nI w) 10 = nI (w % 10) := by decide +kernel
section CL
variable {S S' : GS} {o b k l : Nat} {c : Int32} {bu fa he la : Int32}
theorem fallsC_l {r : Nat} (hC : Cw S o) (hL : Lw S o l bu fa he la) {f : Nat → Int32} (hR : Rw S r 16 1) (hf : ∀ k, k < nr S r → S.1 (r + 1) (1 * k + 0) = f k) : ∀ (d k n : Nat), k + d = nr S r → d < n → f_X11_falls_60 0 S n (nI l) (some o) (some r) la (nI k) = some (firstS (fun k => !sd bu fa he la (f k)) d k)
  | _, _, 0, _, hn => absurd hn (Nat.not_lt_zero _)
  | 0, k, n + 1, hk, _ => by
    rw [f_X11_falls_60, xI_s hR.1, hR.2.2.2.2.2.2.1, if_pos (by rw [← hk]; exact nI_le (by omega) (by have := hR.n40; omega))]
    rfl
  | d + 1, k, n + 1, hk, hn => by
    have := hR.n40
    rw [f_X11_falls_60, xI_s hR.1, hR.2.2.2.2.2.2.1, if_neg (by rw [← hk]; exact nI_ge (by omega) (by omega)), c1_s hR.1, hR.cellL 0 0 rfl (by omega) (by decide), b1_s, hf k (by omega), c1_s hC.1, hL.standsAt hC, b1_s, nI_1, fallsC_l hC hL hR hf d (k + 1) n (by omega) (by omega)]
    show _ = some (if (!sd bu fa he la (f k)) = true then nI k else firstS _ d (k + 1))
    cases sd bu fa he la (f k) <;> rfl
theorem fallsM_l {nn : Nat} (hM : Mc S b) (hL : Lm S b l bu fa he la) {f : Nat → Int32} (hn0 : nn ≤ 16) (hv : f_X12_marks 313 S = some (nI nn)) (hf : ∀ k, k < nn → f_X12_markOf 313 (nI k) S = some (f k)) : ∀ (d k n : Nat), k + d = nn → d < n → f_X12_falls_34 313 n (nI l) (nI k) S = some (firstS (fun k => !sd bu fa he la (f k)) d k, S)
  | _, _, 0, _, hn => absurd hn (Nat.not_lt_zero _)
  | 0, k, n + 1, hk, _ => by
    rw [f_X12_falls_34, k_313 hM.1, hv, b1_s, if_pos (nI_le (by omega) (by omega))]
    rfl
  | d + 1, k, n + 1, hk, hn => by
    rw [f_X12_falls_34, k_313 hM.1, hv, b1_s, if_neg (nI_ge (by omega) (by omega)), k_313 hM.1, hL.lace hM, b1_s, k_313 hM.1, hf k (by omega), b1_s, k_313 hM.1, hL.stands hM, b1_s, nI_1, fallsM_l hM hL hn0 hv hf d (k + 1) n (by omega) (by omega)]
    show _ = some ((if (!sd bu fa he la (f k)) = true then nI k else firstS _ d (k + 1)), S)
    cases sd bu fa he la (f k) <;> rfl
theorem both_falls (h : Inv S) (x1 x2 x3 : Int32) : Both (f_X11_falls 0 x1 x2 x3 S) (f_X12_falls 313 x1 x2 x3) S := by
  have hW := h.1
  have hs : Sm S (s0 S) := sm_I (by decide)
  unfold Both f_X11_falls f_X12_falls
  rw [r_0_0 hW, k_1 hW, p_313 hW, kk_313 (S := s0 S) hW]
  rcases tld h (s := 2) (by decide) x2 with ⟨k2, rfl, hk2⟩ | hn2
  · have hs2 : Sm S (sI (s0 S) 313 45 (nI k2)) := hs.tr (sm_I (by decide))
    obtain ⟨f1, f2, f3, f4⟩ := h.lf_f hk2.1
    have hm : nr S (25 + 21 * k2) ≤ 16 := f1.2.2.2.2.2.2.2.1
    rw [hasFc_y (S := s0 S) hW (hk2.sm hs), b2_s, if_neg n10, kk_313 (S := sI (s0 S) 313 45 (nI k2)) hW]
    rcases tld h (s := 0) (by decide) x1 with ⟨k, rfl, hk⟩ | hn
    · have hcf := h.cf hk.1
      have hs3 : Sm S (hS (sI (s0 S) 313 45 (nI k2)) k) := hs2.tr (hS_sm _ _)
      have hM : Mc (hS (sI (s0 S) 313 45 (nI k2)) k) k := hS_Mc hW hk.1
      have h1 : (hS (sI (s0 S) 313 45 (nI k2)) k).1 319 (69 * k + 1) = nI (nr S (10 + 21 * k + 3)) := hcf.2.2.1
      have hv : f_X12_marks 313 (hS (sI (s0 S) 313 45 (nI k2)) k) = some (nI (nr S (25 + 21 * k2))) := by rw [marks_v (S := hS (sI (s0 S) 313 45 (nI k2)) k) hW hk2.1 rfl, ← f2]; rfl
      rw [courtAt_y hW hk, b1_s, r_0_0 hW, k_1 hW, rowsAt_f hW hk2, b1_s, nul_s, nul_s, xR_s hcf.1.1, hcf.1.2.2.1, c1_s hcf.rl.1, hand_y (S := sI (s0 S) 313 45 (nI k2)) hW (hk.sm hs2), b2_s, if_neg n10, k_313 (S := hS (sI (s0 S) 313 45 (nI k2)) k) hM.1]
      rcases ladyQ hcf x3 with ⟨l, rfl, hl⟩ | hx
      · obtain ⟨bu, fa, he, la, hLw, hLm⟩ := hcf.lady hl rfl
        rw [isLady_y hM hl hcf.n8 h1, b1_s, if_neg n10, has_y hcf.rl hl, b1_s, if_neg n10, xR_s hcf.1.1, hcf.1.2.2.1, c1_s hcf.rl.1, hLw.lace hcf.1, b1_s]
        refine ⟨_, _, fallsC_l hcf.1 hLw f1 (f := fun l => S.1 321 (17 * k2 + 1 + l)) (fun l hl => ?_) (nr S (25 + 21 * k2)) 0 fu (by omega) (by unfold fu; omega), fallsM_l hM (hLm.sm hs3) hm hv (f := fun l => S.1 321 (17 * k2 + 1 + l)) (fun l hl => ?_) (nr S (25 + 21 * k2)) 0 fu (by omega) (by unfold fu; omega), h.sm hs3⟩
        · rw [f3 l hl 0 (by decide), show 17 * k2 + 1 + (1 * l + 0) = 17 * k2 + 1 + l by omega]
        · rw [markOf_v (S := hS (sI (s0 S) 313 45 (nI k2)) k) hW hk2.1 rfl (by omega)]
          rfl
      · rw [has_n hcf.rl hx, b1_s, if_pos rfl, isLady_n hM hcf.n8 h1 hx, b1_s, if_pos rfl]
        exact ⟨-1, _, rfl, rfl, h.sm hs3⟩
    · rw [courtAt_n hW hn, b1_s, r_0_0 hW, k_1 hW, rowsAt_f hW hk2, b1_s, nul_n, hand_n (S := sI (s0 S) 313 45 (nI k2)) hW (hn.sm hs2), b2_s, if_pos rfl]
      exact ⟨-1, _, rfl, rfl, h.sm hs2⟩
  · rw [hasFc_n (S := s0 S) hW (hn2.sm hs), b2_s, if_pos rfl]
    have hs2 : Sm S (sI (s0 S) 313 45 x2) := hs.tr (sm_I (by decide))
    rcases tld h (s := 0) (by decide) x1 with ⟨k, rfl, hk⟩ | hn
    · rw [courtAt_y hW hk, b1_s, r_0_0 hW, k_1 hW, rowsAt_n hW (s := 2) (by decide) 2 rfl hn2, b1_s, nul_s, nul_n]
      exact ⟨-1, _, rfl, rfl, h.sm hs2⟩
    · rw [courtAt_n hW hn, b1_s, r_0_0 hW, k_1 hW, rowsAt_n hW (s := 2) (by decide) 2 rfl hn2, b1_s, nul_n]
      exact ⟨-1, _, rfl, rfl, h.sm hs2⟩
/-! climb -/
def pickC (x4 hi se n le mo : Int32) : Int32 := if x4 = 0 then hi else if x4 = 1 then se else if x4 = 2 then n else if x4 = 3 then le else mo
theorem pick0 {a b c d e : Int32} : pickC (nI 0) a b c d e = a := rfl
theorem pick1 {a b c d e : Int32} : pickC (nI 1) a b c d e = b := rfl
theorem pick2 {a b c d e : Int32} : pickC (nI 2) a b c d e = c := rfl
theorem pick3 {a b c d e : Int32} : pickC (nI 3) a b c d e = d := rfl
theorem pick4 {a b c d e : Int32} : pickC (nI 4) a b c d e = e := rfl
theorem tsw_out {α : Type} {x : Int32} {rs : List (Option α)} {d : Option α} {n : Nat} (hx : x < 0 ∨ ∃ l, l < 2 ^ 31 ∧ x = nI l ∧ n ≤ l) (hl : rs.length = n) (hn : n < 1000) : tsw x 0 rs d = d := by
  have e0 : (0 : Int32).toInt = 0 := by decide
  rw [tsw_spec x d rs 0 (by rw [e0, hl]; omega), if_neg]
  rintro ⟨h1, h2⟩
  rw [e0] at h1 h2
  rcases hx with q | ⟨l, hl2, rfl, hw⟩
  · rw [Int32.lt_iff_toInt_lt, e0] at q
    omega
  · rw [nI_toInt hl2] at h1 h2
    omega
theorem tsw_in {α : Type} {i : Nat} {rs : List (Option α)} {d : Option α} (hi : i < rs.length) (hn : rs.length < 1000) : tsw (nI i) 0 rs d = rs.getD i none := by
  have e0 : (0 : Int32).toInt = 0 := by decide
  rw [tsw_spec (nI i) d rs 0 (by rw [e0]; omega), nI_toInt (by omega), e0, if_pos (by omega)]
  congr 1
theorem climbL_l (hM : Mc S b) (hL : Lm S b l bu fa he la) {x3 x4 x6 x7 : Int32} : ∀ (d k n : Nat) (x8 x9 x10 : Int32), k + d = 31 → d < n → f_X12_climb_158 313 n (nI l) x3 x4 x6 x7 x8 x9 x10 (nI k) S = some (pickC x4 x7 x6 (countS (fun k => sd bu fa he (nI k) x3) d k x8) (if x9 = -1 then firstS (fun k => sd bu fa he (nI k) x3) d k else x9) (lastS (fun k => sd bu fa he (nI k) x3) d k x10), S)
  | _, _, 0, _, _, _, _, hn => absurd hn (Nat.not_lt_zero _)
  | 0, k, n + 1, x8, x9, x10, hk, _ => by
    rw [f_X12_climb_158, if_pos (show (31 : Int32) ≤ nI k from nI_le (a := 31) (by omega) (by omega))]
    show _ = some (pickC x4 x7 x6 x8 (if x9 = -1 then -1 else x9) x10, S)
    have e : (if x9 = -1 then -1 else x9) = x9 := by
      split
      · next q => exact q.symm
      · rfl
    rw [e]
    unfold pickC
    split
    · rfl
    · split
      · rfl
      · split
        · rfl
        · split <;> rfl
  | d + 1, k, n + 1, x8, x9, x10, hk, hn => by
    rw [f_X12_climb_158, if_neg (show ¬ (31 : Int32) ≤ nI k from nI_ge (b := 31) (by omega) (by omega)), k_313 hM.1, hL.stands hM, b1_s]
    unfold f_X12_climb_192 f_X12_climb_198
    rw [nI_1]
    rw [climbL_l hM hL d (k + 1) n _ _ _ (by omega) (by omega), climbL_l hM hL d (k + 1) n _ _ _ (by omega) (by omega), climbL_l hM hL d (k + 1) n _ _ _ (by omega) (by omega)]
    show _ = some (pickC x4 x7 x6 (countS _ d (k + 1) (if sd bu fa he (nI k) x3 = true then x8 + 1 else x8)) (if x9 = -1 then (if sd bu fa he (nI k) x3 = true then nI k else firstS _ d (k + 1)) else x9) (lastS _ d (k + 1) (if sd bu fa he (nI k) x3 = true then nI k else x10)), S)
    cases hq : sd bu fa he (nI k) x3
    · rfl
    · show (if x9 = -1 then _ else _) = some (pickC x4 x7 x6 (countS _ d (k + 1) (x8 + 1)) (if x9 = -1 then nI k else x9) (lastS _ d (k + 1) (nI k)), S)
      by_cases z : x9 = -1
      · rw [if_pos z, if_pos z, if_neg (nI_neg1 k (by omega))]
      · rw [if_neg z, if_neg z, if_neg z]
theorem climbR_l {nn : Nat} (hM : Mc S b) (hL : Lm S b l bu fa he la) (hn4 : nn ≤ 4) (h0 : S.1 319 (69 * b) = nI nn) {x3 x4 x7 : Int32} {f : Nat → Int32} (hf : ∀ r, r < nn → S.1 319 (69 * b + (9 + 2 * r + 1)) = f r) : ∀ (d k n : Nat) (x6 : Int32), k + d = nn → d < n → f_X12_climb_100 313 n (nI l) x3 x4 la x6 x7 (nI k) S = some (pickC x4 x7 (bitsS (fun r => su bu fa la (x3 - f r)) d k x6) (countS (fun k => sd bu fa he (nI k) x3) 31 0 0) (firstS (fun k => sd bu fa he (nI k) x3) 31 0) (lastS (fun k => sd bu fa he (nI k) x3) 31 0 (-1)), S)
  | _, _, 0, _, _, hn => absurd hn (Nat.not_lt_zero _)
  | 0, k, n + 1, x6, hk, _ => by
    rw [f_X12_climb_100, i_313 hM.1, hM.2.2.2.1, h0, if_pos (nI_le (by omega) (by omega)), show f_X12_climb_158 313 fu (nI l) x3 x4 x6 x7 0 (-1) (-1) 0 S = _ from climbL_l hM hL (x3 := x3) (x4 := x4) (x6 := x6) (x7 := x7) 31 0 fu 0 (-1) (-1) (by omega) (by unfold fu; omega)]
    rfl
  | d + 1, k, n + 1, x6, hk, hn => by
    rw [f_X12_climb_100, i_313 hM.1, hM.2.2.2.1, h0, if_neg (nI_ge (by omega) (by omega)), k_313 hM.1, hM.height (by omega), b1_s, hf k (by omega), k_313 hM.1, hL.does hM, b1_s]
    unfold f_X12_climb_137
    rw [nI_1, climbR_l hM hL hn4 h0 hf d (k + 1) n _ (by omega) (by omega), climbR_l hM hL hn4 h0 hf d (k + 1) n _ (by omega) (by omega)]
    show _ = some (pickC x4 x7 (bitsS _ d (k + 1) (if su bu fa la (x3 - f k) = true then x6 ||| jshl 1 (nI k) else x6)) _ _ _, S)
    by_cases q : fate bu fa la (x3 - f k) = 0
    · rw [if_pos q, if_pos (by rw [← su_t]; exact q)]
    · rw [if_neg q, if_neg (by rw [← su_t]; exact q), Int32.or_zero]
theorem climbH_l {nn : Nat} (hM : Mc S b) (hL : Lm S b l bu fa he la) (hn4 : nn ≤ 4) (h0 : S.1 319 (69 * b) = nI nn) {x3 x4 : Int32} {f : Nat → Int32} (hf : ∀ r, r < nn → S.1 319 (69 * b + (9 + 2 * r + 1)) = f r) : ∀ (d k n : Nat) (x7 : Int32), k + d = 41 → d < n → f_X12_climb_61 313 n (nI l) x3 x4 la 0 x7 (nI k) S = some (pickC x4 (lastS (fun k => su bu fa la (x3 - nI k)) d k x7) (bitsS (fun r => su bu fa la (x3 - f r)) nn 0 0) (countS (fun k => sd bu fa he (nI k) x3) 31 0 0) (firstS (fun k => sd bu fa he (nI k) x3) 31 0) (lastS (fun k => sd bu fa he (nI k) x3) 31 0 (-1)), S)
  | _, _, 0, _, _, hn => absurd hn (Nat.not_lt_zero _)
  | 0, k, n + 1, x7, hk, _ => by
    rw [f_X12_climb_61, if_pos (show (40 : Int32) < nI k from lt_lit 40 (by omega) (by omega))]
    exact climbR_l hM hL hn4 h0 hf nn 0 fu 0 (by omega) (by unfold fu; omega)
  | d + 1, k, n + 1, x7, hk, hn => by
    rw [f_X12_climb_61, if_neg (show ¬ (40 : Int32) < nI k from nI_nlt (a := 40) (by omega) (by omega)), k_313 hM.1, hL.does hM, b1_s]
    unfold f_X12_climb_89
    rw [nI_1, climbH_l hM hL hn4 h0 hf d (k + 1) n _ (by omega) (by omega), climbH_l hM hL hn4 h0 hf d (k + 1) n _ (by omega) (by omega)]
    show _ = some (pickC x4 (lastS _ d (k + 1) (if su bu fa la (x3 - nI k) = true then nI k else x7)) _ _ _ _, S)
    by_cases q : fate bu fa la (x3 - nI k) = 0
    · rw [if_pos q, if_pos (by rw [← su_t]; exact q)]
    · rw [if_neg q, if_neg (by rw [← su_t]; exact q)]
theorem both_climb (h : Inv S) (x1 x2 x3 x4 : Int32) : Both (f_X11_climb 0 x1 x2 x3 x4 S) (f_X12_climb 313 x1 x2 x3 x4) S := by
  have hW := h.1
  have hs : Sm S (s0 S) := sm_I (by decide)
  unfold Both f_X11_climb f_X12_climb
  rw [r_0_0 hW, k_1 hW, p_313 hW, kk_313 (S := s0 S) hW]
  rcases tld h (s := 0) (by decide) x1 with ⟨k, rfl, hk⟩ | hn
  · have hcf := h.cf hk.1
    have hs3 := s3_sm S k
    have hM : Mc (hS (s0 S) k) k := hS_Mc hW hk.1
    have h1 : (hS (s0 S) k).1 319 (69 * k + 1) = nI (nr S (10 + 21 * k + 3)) := hcf.2.2.1
    have h0 : (hS (s0 S) k).1 319 (69 * k) = nI (nr S (10 + 21 * k + 1)) := hcf.2.1
    rw [courtAt_y hW hk, b1_s, nul_s, hand_y (S := s0 S) hW (hk.sm hs), b2_s, xR_s hcf.1.1, hcf.1.2.2.1, c1_s hcf.rl.1, if_neg n10, k_313 (S := hS (s0 S) k) hM.1]
    rcases ladyQ hcf x2 with ⟨l, rfl, hl⟩ | hx
    · obtain ⟨bu, fa, he, la, hLw, hLm⟩ := hcf.lady hl rfl
      rw [isLady_y hM hl hcf.n8 h1, b1_s, if_neg n10, has_y hcf.rl hl, b1_s, if_neg n10, isMark_q (S' := s0 S) x3]
      rcases in_or (S := s0 S) x3 0 40 with e | e
      · exact ⟨-2, s0 S, by rw [e, b1_s, if_pos rfl], by rw [e, b1_s, if_pos rfl], h.sm hs⟩
      · rw [e, b1_s, b1_s, if_neg n10, if_neg n10]
        rcases numQ x4 5 with ⟨i, rfl, hi⟩ | hx4
        · rw [show f_X12_in (nI i) 0 4 (s0 S) = some 1 from in0_y (n := 5) (by decide) hi, b1_s, if_neg n10, k_313 (S := hS (s0 S) k) hM.1, (hLm.sm hs3).lace hM, b1_s]
          have hend := climbH_l hM (hLm.sm hs3) hcf.n4 h0 (x3 := x3) (x4 := nI i) (f := fun r => S.1 (10 + 21 * k + 2) (2 * r + 1)) (fun r hr => by
            rw [hcf.2.2.2.2.1 r hr 1 (by decide), show 69 * k + (9 + 2 * r + 1) = 69 * k + 9 + (2 * r + 1) by omega]
            rfl) 41 0 fu (-1) (by omega) (by unfold fu; omega)
          refine ⟨_, _, ?_, hend, h.sm hs3⟩
          rcases (show i = 0 ∨ i = 1 ∨ i = 2 ∨ i = 3 ∨ i = 4 by omega) with rfl | rfl | rfl | rfl | rfl
          · rw [tsw_in (i := 0) (by show 0 < 5; decide) (by show 5 < 1000; decide), pick0]
            simp only [List.getD_cons_zero, List.getD_cons_succ]
            rw [c1_s hcf.1.1, hLw.highest hcf.1, b1_s]
          · rw [tsw_in (i := 1) (by show 1 < 5; decide) (by show 5 < 1000; decide), pick1]
            simp only [List.getD_cons_zero, List.getD_cons_succ]
            rw [c1_s hcf.1.1, hLw.roomsTo hcf.1, b1_s]
          · rw [tsw_in (i := 2) (by show 2 < 5; decide) (by show 5 < 1000; decide), pick2]
            simp only [List.getD_cons_zero, List.getD_cons_succ]
            rw [c1_s hcf.1.1, hLw.free hcf.1, b1_s]
          · rw [tsw_in (i := 3) (by show 3 < 5; decide) (by show 5 < 1000; decide), pick3]
            simp only [List.getD_cons_zero, List.getD_cons_succ]
            rw [c1_s hcf.1.1, hLw.leastF hcf.1, b1_s]
          · rw [tsw_in (i := 4) (by show 4 < 5; decide) (by show 5 < 1000; decide), pick4]
            simp only [List.getD_cons_zero, List.getD_cons_succ]
            rw [c1_s hcf.1.1, hLw.mostF hcf.1, b1_s]
        · rw [show f_X12_in x4 0 4 (s0 S) = some 0 from in0_n (n := 5) (by decide) hx4, b1_s, if_pos rfl]
          exact ⟨-2, s0 S, tsw_out (n := 5) hx4 rfl (by decide), rfl, h.sm hs⟩
    · rw [has_n hcf.rl hx, b1_s, if_pos rfl]
      rcases in_or (S := s0 S) x3 0 40 with e | e
      · exact ⟨-2, s0 S, rfl, by rw [e, b1_s, if_pos rfl], h.sm hs⟩
      · rw [e, b1_s, if_neg n10]
        rcases in_or (S := s0 S) x4 0 4 with e | e
        · exact ⟨-2, s0 S, rfl, by rw [e, b1_s, if_pos rfl], h.sm hs⟩
        · exact ⟨-2, _, rfl, by rw [e, b1_s, if_neg n10, isLady_n hM hcf.n8 h1 hx, b1_s, if_pos rfl], h.sm hs3⟩
  · rw [courtAt_n hW hn, b1_s, nul_n, hand_n (S := s0 S) hW (hn.sm hs), b2_s, if_pos rfl]
    rcases in_or (S := s0 S) x3 0 40 with e | e
    · exact ⟨-2, s0 S, rfl, by rw [e, b1_s, if_pos rfl], h.sm hs⟩
    · rw [e, b1_s, if_neg n10]
      rcases in_or (S := s0 S) x4 0 4 with e | e
      · exact ⟨-2, s0 S, rfl, by rw [e, b1_s, if_pos rfl], h.sm hs⟩
      · exact ⟨-2, _, rfl, by rw [e, b1_s, if_neg n10], h.sm hs⟩
end CL
