/-! drawn: the weather, both sides -/
def nxtV (s : Int32) : Int32 := s * 1103515245 + 12345
theorem nxt_e (s : Int32) : s * 1103515245 + 12345 = nxtV s := rfl
def gstV (w : Nat → Nat) (s : Int32) : Nat := if nI (w 0) ≤ jrem (jushr s 16) (nI (sw w)) then (if nI (w 0) + nI (w 1) ≤ jrem (jushr s 16) (nI (sw w)) then 2 else 1) else 0
theorem gst_lt (w : Nat → Nat) (s : Int32) : gstV w s < 3 := by
  unfold gstV
  split
  · split <;> omega
  · omega
def drwB (D : DSt) (nl : Nat) (nx : Int32 → Int32) (gs : Int32 → Nat) : Nat → Int32 → Nat → Int32 → Int32 → BSt → Int32 × Int32 × BSt
  | 0, _, _, lo, hi, B => (lo, hi, B)
  | d + 1, s, m, lo, hi, B => drwB D nl nx gs d (nx s) (afN m (gs (nx s))) (jmin lo (nI (afN m (gs (nx s))))) (jmax hi (nI (afN m (gs (nx s))))) (minB D nl ((nI (afN m (gs (nx s))), B.1.2), B.2))
def drwA (nl k : Nat) (R : Int32 × Int32 × BSt) : Int32 := if k = 0 then R.2.2.1.1 else if k = 1 then setQ 8 nl (fun l => upL (R.2.2.2.2 l)) else if k = 2 then setQ 8 nl (fun l => dnL (R.2.2.2.2 l)) else if k = 3 then setQ 8 nl (fun l => buL (R.2.2.2.2 l)) else if k = 4 then R.2.2.1.2.2.2.1 else if k = 5 then R.1 else if k = 6 then R.2.1 else (R.2.2.2.2 (k - 10)).2.2.2.2.1
section BR
variable {S S' T : GS} {co nl nro c : Nat} {D : DSt} {B : BSt} {w : Nat → Nat}
def okX (nl : Nat) (x : Int32) : Prop := ∃ k, x = nI k ∧ (k < 7 ∨ (10 ≤ k ∧ k - 10 < nl)) ∧ k < 2 ^ 31
theorem gustC (h : Hx S co nl nro D) (hw : Wd S co w) (hp : 0 < sw w) (s : Int32) : f_X2_gustOf 230 (jushr s 16) S = some (nI (gstV w s)) := by
  have hle := Wd.le hw
  obtain ⟨c0, c1, c2, c3, c4⟩ := id hw
  have y0 : ∀ {g : Int32 → Option Int32}, yI (some (co + 7)) 14 0 S g = g (nI (w 0)) := fun {g} => by rw [show yI (some (co + 7)) 14 0 S g = _ from yI_n (k := 0) c2 (by rw [c3]; decide) (by decide), (c4 0 (by decide)).1]
  have y1 : ∀ {g : Int32 → Option Int32}, yI (some (co + 7)) 14 1 S g = g (nI (w 1)) := fun {g} => by rw [show yI (some (co + 7)) 14 1 S g = _ from yI_n (k := 1) c2 (by rw [c3]; decide) (by decide), (c4 1 (by decide)).1]
  unfold f_X2_gustOf
  rw [r_230_8 h, c1_s c0, allWC hw, b1_s, if_neg (show ¬ nI (sw w) ≤ 0 from nI_ge (a := 0) hp (by omega))]
  unfold dz
  rw [if_neg (nI_ne0 hp (by omega))]
  unfold f_X2_gustOf_19 gstV
  rw [r_230_8 h, xR_s c0, c1, y0, r_230_8 h, xR_s c0, c1, y0, r_230_8 h, xR_s c0, c1, y1]
  split
  · split <;> rfl
  · rfl
theorem Wd.oa (hO : OfA 230 247 S S') (ho : co + 7 < 230) (h : Wd S co w) : Wd S' co w := by
  obtain ⟨c0, c1, c2, c3, c4⟩ := h
  have hgk : ∀ o, gk S' o = gk S o := fun o => by
    unfold gk
    rw [hO.1]
  exact ⟨by rw [hgk]; exact c0, by rw [hO.1]; exact c1, by rw [hgk]; exact c2, c3, by rw [hO.2 _ (by omega)]; exact c4⟩
theorem drawEnd (h : Hx S co nl nro D) (hI : BI nl nro D.2.2.2.2.2 B) (hB : HB S nl nro B) {N k nn : Nat} (hk : N ≤ k) (hk2 : k < 2 ^ 31) (x4 s lo hi : Int32) : ∃ v, f_X2_tellWeather_23 230 (nn + 1) (some co) (nI N) x4 s lo hi (nI k) S = some (v, S) ∧ (∀ j, x4 = nI j → (j < 7 ∨ (10 ≤ j ∧ j - 10 < nl)) → j < 2 ^ 31 → v = drwA nl j (lo, hi, B)) ∧ (¬ okX nl x4 → v = -1) := by
  have hW := h.1
  have n8 := h.2.2.2.2.2.2.2.2.2.1
  obtain ⟨⟨f1, f2, f3, f4, f5, f6⟩, f7, f8, f9⟩ := id hB
  have hA := hB.a hI
  have who : ∀ w, w < 3 → f_X2_ladiesWho 230 (nI w) S = some (setQ 8 nl (fun l => whoL w (B.2.2 l))) := fun w hw => whoC h hA hw
  have wh0 : f_X2_ladiesWho 230 0 S = some (setQ 8 nl (fun l => upL (B.2.2 l))) := who 0 (by decide)
  have wh1 : f_X2_ladiesWho 230 1 S = some (setQ 8 nl (fun l => dnL (B.2.2 l))) := who 1 (by decide)
  have wh2 : f_X2_ladiesWho 230 2 S = some (setQ 8 nl (fun l => buL (B.2.2 l))) := who 2 (by decide)
  have fin : ∀ j v, x4 = nI j → j < 2 ^ 31 → (j < 7 ∨ (10 ≤ j ∧ j - 10 < nl)) → v = drwA nl j (lo, hi, B) → (∀ i, x4 = nI i → (i < 7 ∨ (10 ≤ i ∧ i - 10 < nl)) → i < 2 ^ 31 → v = drwA nl i (lo, hi, B)) ∧ (¬ okX nl x4 → v = -1) := fun j v e hj ho hv => ⟨fun i ei hi hi2 => by
    have : i = j := (nI_eq hi2 hj).mp (ei.symm.trans e)
    rw [this]
    exact hv, fun no => absurd ⟨j, e, ho, hj⟩ no⟩
  rw [f_X2_tellWeather_23, if_pos (nI_le hk hk2)]
  by_cases q : x4 < 0
  · refine ⟨-1, ?_, fun j e _ hj => absurd q (by rw [e]; exact nI_pos hj), fun _ => rfl⟩
    rw [tsw_out (n := 7) (Or.inl q) rfl (by decide), if_pos (show x4 < (10 : Int32) from lt_neg 10 rfl (by decide) q)]
  · obtain ⟨j, hj, rfl⟩ := nI_of q
    by_cases z : j < 7
    · refine ⟨drwA nl j (lo, hi, B), ?_, fin j _ rfl hj (Or.inl z) rfl⟩
      rw [tsw_in (by exact z) (by exact (by decide : 7 < 1000))]
      rcases (show j = 0 ∨ j = 1 ∨ j = 2 ∨ j = 3 ∨ j = 4 ∨ j = 5 ∨ j = 6 by omega) with rfl | rfl | rfl | rfl | rfl | rfl | rfl
      · simp only [List.getD_cons_succ, List.getD_cons_zero]
        show _ = some (B.1.1, S)
        rw [i_230 hW, f1]
      · simp only [List.getD_cons_succ, List.getD_cons_zero]
        show _ = some (setQ 8 nl (fun l => upL (B.2.2 l)), S)
        rw [k_230 hW, wh0, b1_s]
      · simp only [List.getD_cons_succ, List.getD_cons_zero]
        show _ = some (setQ 8 nl (fun l => dnL (B.2.2 l)), S)
        rw [k_230 hW, wh1, b1_s]
      · simp only [List.getD_cons_succ, List.getD_cons_zero]
        show _ = some (setQ 8 nl (fun l => buL (B.2.2 l)), S)
        rw [k_230 hW, wh2, b1_s]
      · simp only [List.getD_cons_succ, List.getD_cons_zero]
        show _ = some (B.1.2.2.2.1, S)
        rw [i_230 hW, f4]
      · rfl
      · rfl
    · rw [tsw_out (n := 7) (Or.inr ⟨j, hj, rfl, by omega⟩) rfl (by decide)]
      by_cases y : j < 10
      · rw [if_pos (show nI j < 10 from nI_lt (b := 10) y (by decide))]
        refine ⟨-1, rfl, fun i e hi hi2 => ?_, fun _ => rfl⟩
        have : i = j := (nI_eq hi2 hj).mp e.symm
        omega
      · rw [if_neg (show ¬ nI j < 10 from nI_nlt (b := 10) (by omega) (by omega)), nI_litsub 10 10 rfl (by omega), k_230 hW, hasLadyC h, b1_s]
        by_cases x : j - 10 < nl
        · refine ⟨drwA nl j (lo, hi, B), ?_, fin j _ rfl hj (Or.inr ⟨by omega, x⟩) rfl⟩
          rw [inQ_y x (by omega), if_neg (show ¬ bi true = 0 by decide), r_230_6 hW, y_237 hW (by omega), (f9 _ x).2.2.2.2.1]
          unfold drwA
          rw [if_neg (show ¬ j = 0 by omega), if_neg (show ¬ j = 1 by omega), if_neg (show ¬ j = 2 by omega), if_neg (show ¬ j = 3 by omega), if_neg (show ¬ j = 4 by omega), if_neg (show ¬ j = 5 by omega), if_neg (show ¬ j = 6 by omega)]
        · rw [show inQ (nI (j - 10)) nl = false from decide_eq_false (fun w => x (by have := w.2; rwa [nI_clamp (by omega)] at this)), if_pos (show bi false = 0 from rfl)]
          refine ⟨-1, rfl, fun i e hi hi2 => ?_, fun _ => rfl⟩
          have : i = j := (nI_eq hi2 hj).mp e.symm
          omega
end BR
