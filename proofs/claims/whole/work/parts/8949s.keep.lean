/-! texts: the class keeps what was read -/
def CFs (srt k : Nat) (S S' : GS) : Prop := (srt = 0 → CpF 210 (11 + 21 * k) 8 S S' ∧ CpF 212 (13 + 21 * k) 40 S S' ∧ CpF 214 (15 + 21 * k) 12 S S' ∧ (S'.1 (10 + 21 * k) 4 = S.1 209 4 ∧ S'.1 (10 + 21 * k) 5 = S.1 209 5 ∧ S'.1 (10 + 21 * k) 6 = S.1 209 6) ∧ ∀ i, i < 3 → S'.1 (17 + 21 * k) i = S.1 216 i) ∧ (srt = 1 → CpF 222 (23 + 21 * k) 120 S S') ∧ (srt = 2 → CpF 224 (25 + 21 * k) 16 S S') ∧ (srt = 3 → CpF 218 (19 + 21 * k) 60 S S' ∧ CpF 220 (21 + 21 * k) 60 S S') ∧ (srt = 4 → CpF 226 (27 + 21 * k) 90 S S') ∧ (srt = 5 → CpF 228 (29 + 21 * k) 20 S S')
section KR
variable {α : Type} {S S' T T' F : GS} {k srt s o o' w m p q a b n N : Nat} {V V' : (Nat → Int32) → Prop}
theorem k01 {P : Nat → Prop} (hk : k < 2) (h0 : P 0) (h1 : P 1) : P k := two h0 h1 hk
theorem CpF.mv {S2 : GS} (h : CpF o o' N S S') (h1 : S2.1 o' = S'.1 o') (h2 : S2.1 (o' + 1) = S'.1 (o' + 1)) : CpF o o' N S S2 := by
  unfold CpF
  rw [h1, h2]
  exact h
theorem CpF.src {S2 : GS} (h : CpF o o' N S' S2) (h1 : S'.1 o = S.1 o) (h2 : S'.1 (o + 1) = S.1 (o + 1)) (h3 : S'.1 o' = S.1 o') : CpF o o' N S S2 := by
  unfold CpF at h ⊢
  rw [h1, h2, h3] at h
  exact h
theorem t51 {a0 a1 a2 a3 a4 x : Option α} {i : Nat} (hi : i < 5) : tsw (nI (i + 1)) 1 [a0, a1, a2, a3, a4] x = [a0, a1, a2, a3, a4].getD i none := by
  rcases (show i = 0 ∨ i = 1 ∨ i = 2 ∨ i = 3 ∨ i = 4 by omega) with rfl | rfl | rfl | rfl | rfl <;> rfl
theorem t51_o {a0 a1 a2 a3 a4 x : Option α} : tsw (nI 0) 1 [a0, a1, a2, a3, a4] x = x := rfl
theorem t41 {a0 a1 a2 a3 x : Option α} : tsw (nI 1) 1 [a0, a1, a2, a3] x = a0 ∧ tsw (nI 2) 1 [a0, a1, a2, a3] x = a1 ∧ tsw (nI 4) 1 [a0, a1, a2, a3] x = a3 ∧ tsw (nI 5) 1 [a0, a1, a2, a3] x = x := ⟨rfl, rfl, rfl, rfl⟩
theorem yRk (hW : Wr S) {r : Nat} {c : Nat} (ho : o < 230) (hc : kd o = c) (hl : ln o = 2) (hk : k < 2) (hr : gRf o k = some r) {g : Option Nat → Option α} : yR (some o) c (nI k) S g = g (some r) := by
  rw [yR_w hW (by omega) hc hl hk (by omega) (by omega), hr]
/-- the rows of a sort that is one list -/
theorem row39 (hW : Wr S) (hk : k < 2) {slot rs : Nat} (hsrt : (srt = 1 ∧ slot = 4 ∧ rs = 222) ∨ (srt = 2 ∧ slot = 5 ∧ rs = 224) ∨ (srt = 4 ∧ slot = 6 ∧ rs = 226) ∨ (srt = 5 ∧ slot = 7 ∧ rs = 228)) : f_X9_keep_39 1 (nI srt) (nI k) (some 207) S = f_X7_copyFrom (plo srt + 21 * k) (some rs) S := by
  have hin : f_X9_rowsIn 1 (nI srt) (nI k) S = some (some (plo srt + 21 * k)) := by
    unfold f_X9_rowsIn
    rw [if_neg (nI_pos (by omega)), if_pos (show nI k < 2 from nI_lt (b := 2) hk (by decide))]
    rcases hsrt with ⟨rfl, rfl, rfl⟩ | ⟨rfl, rfl, rfl⟩ | ⟨rfl, rfl, rfl⟩ | ⟨rfl, rfl, rfl⟩
    · rw [show nI 1 = nI (0 + 1) from rfl, t51 (by decide)]
      show (xR (some 1) 9 4 S fun v1 => yR v1 18 (nI k) S fun v2 => some v2) = _
      rw [r_1_4 hW, yRk (c := 18) (r := plo 1 + 21 * k) hW (by decide) rfl rfl hk (k01 (P := fun k => gRf 6 k = some (plo 1 + 21 * k)) hk rfl rfl)]
    · rw [show nI 2 = nI (1 + 1) from rfl, t51 (by decide)]
      show (xR (some 1) 9 5 S fun v1 => yR v1 18 (nI k) S fun v2 => some v2) = _
      rw [r_1_5 hW, yRk (c := 18) (r := plo 2 + 21 * k) hW (by decide) rfl rfl hk (k01 (P := fun k => gRf 7 k = some (plo 2 + 21 * k)) hk rfl rfl)]
    · rw [show nI 4 = nI (3 + 1) from rfl, t51 (by decide)]
      show (xR (some 1) 9 6 S fun v1 => yR v1 18 (nI k) S fun v2 => some v2) = _
      rw [r_1_6 hW, yRk (c := 18) (r := plo 4 + 21 * k) hW (by decide) rfl rfl hk (k01 (P := fun k => gRf 8 k = some (plo 4 + 21 * k)) hk rfl rfl)]
    · rw [show nI 5 = nI (4 + 1) from rfl, t51 (by decide)]
      show (xR (some 1) 9 7 S fun v1 => yR v1 18 (nI k) S fun v2 => some v2) = _
      rw [r_1_7 hW, yRk (c := 18) (r := plo 5 + 21 * k) hW (by decide) rfl rfl hk (k01 (P := fun k => gRf 9 k = some (plo 5 + 21 * k)) hk rfl rfl)]
  have hof : f_X5_rowsOf 207 (nI srt) S = some (some rs) := by
    unfold f_X5_rowsOf
    rcases hsrt with ⟨rfl, rfl, rfl⟩ | ⟨rfl, rfl, rfl⟩ | ⟨rfl, rfl, rfl⟩ | ⟨rfl, rfl, rfl⟩
    · rw [t41.1, r_207_3 hW]
    · rw [t41.2.1, r_207_4 hW]
    · rw [t41.2.2.1, r_207_5 hW]
    · rw [t41.2.2.2, r_207_6 hW]
  have e0 : ¬ nI srt = 0 := by
    rcases hsrt with ⟨rfl, -, -⟩ | ⟨rfl, -, -⟩ | ⟨rfl, -, -⟩ | ⟨rfl, -, -⟩ <;> decide
  have e3 : ¬ nI srt = 3 := by
    rcases hsrt with ⟨rfl, -, -⟩ | ⟨rfl, -, -⟩ | ⟨rfl, -, -⟩ | ⟨rfl, -, -⟩ <;> decide
  have hkd : kd (plo srt + 21 * k) = 7 ∧ plo srt + 21 * k < 343 := by
    rcases hsrt with ⟨rfl, -, -⟩ | ⟨rfl, -, -⟩ | ⟨rfl, -, -⟩ | ⟨rfl, -, -⟩
    · exact k01 (P := fun k => kd (plo 1 + 21 * k) = 7 ∧ plo 1 + 21 * k < 343) hk (by decide) (by decide)
    · exact k01 (P := fun k => kd (plo 2 + 21 * k) = 7 ∧ plo 2 + 21 * k < 343) hk (by decide) (by decide)
    · exact k01 (P := fun k => kd (plo 4 + 21 * k) = 7 ∧ plo 4 + 21 * k < 343) hk (by decide) (by decide)
    · exact k01 (P := fun k => kd (plo 5 + 21 * k) = 7 ∧ plo 5 + 21 * k < 343) hk (by decide) (by decide)
  unfold f_X9_keep_39
  rw [k_1 hW, hin, b1_s, if_neg e0, if_neg e3, nul_s, k_207 hW, hof, b1_s, c1_w hW hkd.2 hkd.1]
  cases f_X7_copyFrom (plo srt + 21 * k) (some rs) S <;> rfl
theorem k39 (hs : srt < 6) (hk : k < 2) (hW : Wr S) : ∃ S', f_X9_keep_39 1 (nI srt) (nI k) (some 207) S = some S' ∧ S'.2 = S.2 ∧ (∀ x, ¬ (plo srt + 21 * k ≤ x ∧ x < phi srt + 21 * k) → S'.1 x = S.1 x) ∧ CFs srt k S S' := by
  have nn : ∀ {a b : Nat} {P : Prop}, a ≠ b → (a = b → P) := fun h e => absurd e h
  rcases (show srt = 0 ∨ srt = 1 ∨ srt = 2 ∨ srt = 3 ∨ srt = 4 ∨ srt = 5 by omega) with rfl | rfl | rfl | rfl | rfl | rfl
  · obtain ⟨S1, a1, a2, a3, a4⟩ := cpRw (o := 210) (o' := 11 + 21 * k) (N := 8) hW rfl rfl rfl rfl (k01 (P := fun k => kd (11 + 21 * k) = 7) hk rfl rfl) (k01 (P := fun k => kd (11 + 21 * k + 1) = 14) hk rfl rfl) (k01 (P := fun k => ln (11 + 21 * k + 1) = 8) hk rfl rfl) (k01 (P := fun k => gRf (11 + 21 * k) 2 = some (11 + 21 * k + 1)) hk rfl rfl) (by decide) (by omega) (by decide) (by decide)
    have hW1 : Wr S1 := wr_2 (by rw [a2]) hW
    obtain ⟨S2, b1', b2', b3', b4'⟩ := cpRw (o := 212) (o' := 13 + 21 * k) (N := 40) hW1 rfl rfl rfl rfl (k01 (P := fun k => kd (13 + 21 * k) = 7) hk rfl rfl) (k01 (P := fun k => kd (13 + 21 * k + 1) = 14) hk rfl rfl) (k01 (P := fun k => ln (13 + 21 * k + 1) = 40) hk rfl rfl) (k01 (P := fun k => gRf (13 + 21 * k) 2 = some (13 + 21 * k + 1)) hk rfl rfl) (by decide) (by omega) (by decide) (by decide)
    have hW2 : Wr S2 := wr_2 (by rw [b2']) hW1
    obtain ⟨S3, c1', c2', c3', c4'⟩ := cpRw (o := 214) (o' := 15 + 21 * k) (N := 12) hW2 rfl rfl rfl rfl (k01 (P := fun k => kd (15 + 21 * k) = 7) hk rfl rfl) (k01 (P := fun k => kd (15 + 21 * k + 1) = 14) hk rfl rfl) (k01 (P := fun k => ln (15 + 21 * k + 1) = 12) hk rfl rfl) (k01 (P := fun k => gRf (15 + 21 * k) 2 = some (15 + 21 * k + 1)) hk rfl rfl) (by decide) (by omega) (by decide) (by decide)
    have hW3 : Wr S3 := wr_2 (by rw [c2']) hW2
    have hW4 : Wr (sCI S3 216 (17 + 21 * k) 0 0 3) := hW3
    have hW5 : Wr (sI (sCI S3 216 (17 + 21 * k) 0 0 3) (10 + 21 * k) 4 (S.1 209 4)) := hW3
    have hW6 : Wr (sI (sI (sCI S3 216 (17 + 21 * k) 0 0 3) (10 + 21 * k) 4 (S.1 209 4)) (10 + 21 * k) 5 (S.1 209 5)) := hW3
    have e209 : (sCI S3 216 (17 + 21 * k) 0 0 3).1 209 = S.1 209 := by
      rw [sCI_o (by omega), c3' 209 (by omega) (by omega), b3' 209 (by omega) (by omega), a3 209 (by omega) (by omega)]
    have e216 : S3.1 216 = S.1 216 := by
      rw [c3' 216 (by omega) (by omega), b3' 216 (by omega) (by omega), a3 216 (by omega) (by omega)]
    have d0 : kd (10 + 21 * k) = 0 := k01 (P := fun k => kd (10 + 21 * k) = 0) hk rfl rfl
    have rr : ∀ i o, gRf (10 + 21 * k) i = some o → ∀ {T : GS} {α : Type} {g : Option Nat → Option α}, Wr T → xR (some (10 + 21 * k)) 0 i T g = g (some o) := fun i o h {T α g} hT => xR_w hT (by omega) d0 (by omega) h
    have hc : f_X0_copyFrom (10 + 21 * k) (some 209) S = some (sI (sI (sI (sCI S3 216 (17 + 21 * k) 0 0 3) (10 + 21 * k) 4 (S.1 209 4)) (10 + 21 * k) 5 (S.1 209 5)) (10 + 21 * k) 6 (S.1 209 6)) := by
      unfold f_X0_copyFrom
      rw [rr 0 (11 + 21 * k) (k01 (P := fun k => gRf (10 + 21 * k) 0 = some (11 + 21 * k)) hk rfl rfl) hW, r_209 hW gs0.2, c1_w hW (by omega) (k01 (P := fun k => kd (11 + 21 * k) = 7) hk rfl rfl), a1, b1_s, rr 1 (13 + 21 * k) (k01 (P := fun k => gRf (10 + 21 * k) 1 = some (13 + 21 * k)) hk rfl rfl) hW1, r_209 hW1 gs1.2, c1_w hW1 (by omega) (k01 (P := fun k => kd (13 + 21 * k) = 7) hk rfl rfl), b1', b1_s, rr 2 (15 + 21 * k) (k01 (P := fun k => gRf (10 + 21 * k) 2 = some (15 + 21 * k)) hk rfl rfl) hW2, r_209 hW2 gs2.2, c1_w hW2 (by omega) (k01 (P := fun k => kd (15 + 21 * k) = 7) hk rfl rfl), c1', b1_s, r_209_3 hW3, rr 3 (17 + 21 * k) (k01 (P := fun k => gRf (10 + 21 * k) 3 = some (17 + 21 * k)) hk rfl rfl) hW3, rr 3 (17 + 21 * k) (k01 (P := fun k => gRf (10 + 21 * k) 3 = some (17 + 21 * k)) hk rfl rfl) hW3, xl_w (n := 3) hW3 (by omega) (k01 (P := fun k => kd (17 + 21 * k) = 14) hk rfl rfl) (k01 (P := fun k => ln (17 + 21 * k) = 3) hk rfl rfl), acI_v (c := 14) (a := 216) (b := 17 + 21 * k) (n := 3) (gk_n hW3 (by decide) rfl) (gk_n hW3 (by omega) (k01 (P := fun k => kd (17 + 21 * k) = 14) hk rfl rfl)) (by decide) (Nat.le_of_eq (k01 (P := fun k => ln (17 + 21 * k) = 3) hk rfl rfl).symm) (by omega) (by decide), xI_w (o := 209) (c := 0) hW4 (by decide) rfl, e209, pI_w hW4 (by omega) d0, xI_w (o := 209) (c := 0) hW5 (by decide) rfl, sI_o (show 209 ≠ 10 + 21 * k by omega), e209, pI_w hW5 (by omega) d0, xI_w (o := 209) (c := 0) hW6 (by decide) rfl, sI_o (show 209 ≠ 10 + 21 * k by omega), sI_o (show 209 ≠ 10 + 21 * k by omega), e209, pI_w hW6 (by omega) d0]
    have eo : ∀ x, x ≠ 10 + 21 * k → x ≠ 17 + 21 * k → (sI (sI (sI (sCI S3 216 (17 + 21 * k) 0 0 3) (10 + 21 * k) 4 (S.1 209 4)) (10 + 21 * k) 5 (S.1 209 5)) (10 + 21 * k) 6 (S.1 209 6)).1 x = S3.1 x := fun x h1 h2 => by rw [sI_o h1, sI_o h1, sI_o h1, sCI_o h2]
    refine ⟨sI (sI (sI (sCI S3 216 (17 + 21 * k) 0 0 3) (10 + 21 * k) 4 (S.1 209 4)) (10 + 21 * k) 5 (S.1 209 5)) (10 + 21 * k) 6 (S.1 209 6), ?_, c2'.trans (b2'.trans a2), fun x hx => ?_, fun _ => ⟨?_, ?_, ?_, ⟨?_, ?_, ?_⟩, fun i hi => ?_⟩, nn (by decide), nn (by decide), nn (by decide), nn (by decide), nn (by decide)⟩
    · have hin : f_X9_rowsIn 1 (nI 0) (nI k) S = some none := by
        unfold f_X9_rowsIn
        rw [if_neg (nI_pos (by omega)), if_pos (show nI k < 2 from nI_lt (b := 2) hk (by decide)), t51_o]
      unfold f_X9_keep_39
      rw [k_1 hW, hin, b1_s, if_pos (show nI 0 = 0 from rfl), r_1_2 hW, yRk (c := 17) (r := 10 + 21 * k) hW (by decide) rfl rfl hk (k01 (P := fun k => gRf 4 k = some (10 + 21 * k)) hk rfl rfl), r_207_1 hW, c1_w hW (by omega) d0, hc, b1_s]
    · simp [plo, phi] at hx
      rw [eo x (by omega) (by omega), c3' x (by omega) (by omega), b3' x (by omega) (by omega), a3 x (by omega) (by omega)]
    · refine a4.mv ?_ ?_
      · rw [eo _ (by omega) (by omega), c3' _ (by omega) (by omega), b3' _ (by omega) (by omega)]
      · rw [eo _ (by omega) (by omega), c3' _ (by omega) (by omega), b3' _ (by omega) (by omega)]
    · refine (b4'.src (a3 212 (by omega) (by omega)) (a3 213 (by omega) (by omega)) (a3 _ (by omega) (by omega))).mv ?_ ?_
      · rw [eo _ (by omega) (by omega), c3' _ (by omega) (by omega)]
      · rw [eo _ (by omega) (by omega), c3' _ (by omega) (by omega)]
    · refine (c4'.src ?_ ?_ ?_).mv ?_ ?_
      · rw [b3' _ (by omega) (by omega), a3 _ (by omega) (by omega)]
      · rw [b3' _ (by omega) (by omega), a3 _ (by omega) (by omega)]
      · rw [b3' _ (by omega) (by omega), a3 _ (by omega) (by omega)]
      · rw [eo _ (by omega) (by omega)]
      · rw [eo _ (by omega) (by omega)]
    · rw [sI_at, if_neg (by decide), sI_at, if_neg (by decide), sI_at, if_pos rfl]
    · rw [sI_at, if_neg (by decide), sI_at, if_pos rfl]
    · rw [sI_at, if_pos rfl]
    · rw [sI_o (by omega), sI_o (by omega), sI_o (by omega), sCI_at hi, e216]
  · obtain ⟨S', g1, g2, g3, g4⟩ := cpRw (o := 222) (o' := plo 1 + 21 * k) (N := 120) hW rfl rfl rfl rfl (k01 (P := fun k => kd (plo 1 + 21 * k) = 7) hk rfl rfl) (k01 (P := fun k => kd (plo 1 + 21 * k + 1) = 14) hk rfl rfl) (k01 (P := fun k => ln (plo 1 + 21 * k + 1) = 120) hk rfl rfl) (k01 (P := fun k => gRf (plo 1 + 21 * k) 2 = some (plo 1 + 21 * k + 1)) hk rfl rfl) (by decide) (k01 (P := fun k => plo 1 + 21 * k + 1 < 52) hk (by decide) (by decide)) (by decide) (by decide)
    refine ⟨S', by rw [row39 hW hk (Or.inl ⟨rfl, rfl, rfl⟩)]; exact g1, g2, fun x hx => g3 x ?_ ?_, nn (by decide), fun _ => g4, nn (by decide), nn (by decide), nn (by decide), nn (by decide)⟩
    · simp [plo, phi] at hx ⊢
      omega
    · simp [plo, phi] at hx ⊢
      omega
  · obtain ⟨S', g1, g2, g3, g4⟩ := cpRw (o := 224) (o' := plo 2 + 21 * k) (N := 16) hW rfl rfl rfl rfl (k01 (P := fun k => kd (plo 2 + 21 * k) = 7) hk rfl rfl) (k01 (P := fun k => kd (plo 2 + 21 * k + 1) = 14) hk rfl rfl) (k01 (P := fun k => ln (plo 2 + 21 * k + 1) = 16) hk rfl rfl) (k01 (P := fun k => gRf (plo 2 + 21 * k) 2 = some (plo 2 + 21 * k + 1)) hk rfl rfl) (by decide) (k01 (P := fun k => plo 2 + 21 * k + 1 < 52) hk (by decide) (by decide)) (by decide) (by decide)
    refine ⟨S', by rw [row39 hW hk (Or.inr (Or.inl ⟨rfl, rfl, rfl⟩))]; exact g1, g2, fun x hx => g3 x ?_ ?_, nn (by decide), nn (by decide), fun _ => g4, nn (by decide), nn (by decide), nn (by decide)⟩
    · simp [plo, phi] at hx ⊢
      omega
    · simp [plo, phi] at hx ⊢
      omega
  · obtain ⟨S1, a1, a2, a3, a4⟩ := cpRw (o := 218) (o' := 19 + 21 * k) (N := 60) hW rfl rfl rfl rfl (k01 (P := fun k => kd (19 + 21 * k) = 7) hk rfl rfl) (k01 (P := fun k => kd (19 + 21 * k + 1) = 14) hk rfl rfl) (k01 (P := fun k => ln (19 + 21 * k + 1) = 60) hk rfl rfl) (k01 (P := fun k => gRf (19 + 21 * k) 2 = some (19 + 21 * k + 1)) hk rfl rfl) (by decide) (by omega) (by decide) (by decide)
    have hW1 : Wr S1 := wr_2 (by rw [a2]) hW
    obtain ⟨S2, b1', b2', b3', b4'⟩ := cpRw (o := 220) (o' := 21 + 21 * k) (N := 60) hW1 rfl rfl rfl rfl (k01 (P := fun k => kd (21 + 21 * k) = 7) hk rfl rfl) (k01 (P := fun k => kd (21 + 21 * k + 1) = 14) hk rfl rfl) (k01 (P := fun k => ln (21 + 21 * k + 1) = 60) hk rfl rfl) (k01 (P := fun k => gRf (21 + 21 * k) 2 = some (21 + 21 * k + 1)) hk rfl rfl) (by decide) (by omega) (by decide) (by decide)
    have d8 : kd (18 + 21 * k) = 8 := k01 (P := fun k => kd (18 + 21 * k) = 8) hk rfl rfl
    have rr : ∀ i o, gRf (18 + 21 * k) i = some o → ∀ {T : GS} {α : Type} {g : Option Nat → Option α}, Wr T → xR (some (18 + 21 * k)) 8 i T g = g (some o) := fun i o h {T α g} hT => xR_w hT (by omega) d8 (by omega) h
    have hc : f_X8_copyFrom (18 + 21 * k) (some 217) S = some S2 := by
      unfold f_X8_copyFrom
      rw [rr 0 (19 + 21 * k) (k01 (P := fun k => gRf (18 + 21 * k) 0 = some (19 + 21 * k)) hk rfl rfl) hW, r_217_0 hW, c1_w hW (by omega) (k01 (P := fun k => kd (19 + 21 * k) = 7) hk rfl rfl), a1, b1_s, rr 1 (21 + 21 * k) (k01 (P := fun k => gRf (18 + 21 * k) 1 = some (21 + 21 * k)) hk rfl rfl) hW1, r_217_1 hW1, c1_w hW1 (by omega) (k01 (P := fun k => kd (21 + 21 * k) = 7) hk rfl rfl), b1', b1_s]
    refine ⟨S2, ?_, b2'.trans a2, fun x hx => ?_, nn (by decide), nn (by decide), nn (by decide), fun _ => ⟨a4.mv ?_ ?_, b4'.src ?_ ?_ ?_⟩, nn (by decide), nn (by decide)⟩
    · have hin : f_X9_rowsIn 1 (nI 3) (nI k) S = some none := by
        unfold f_X9_rowsIn
        rw [if_neg (nI_pos (by omega)), if_pos (show nI k < 2 from nI_lt (b := 2) hk (by decide)), show nI 3 = nI (2 + 1) from rfl, t51 (by decide)]
        rfl
      unfold f_X9_keep_39
      rw [k_1 hW, hin, b1_s, if_neg (show ¬ nI 3 = 0 by decide), if_pos (show nI 3 = 3 from rfl), r_1_3 hW, yRk (c := 19) (r := 18 + 21 * k) hW (by decide) rfl rfl hk (k01 (P := fun k => gRf 5 k = some (18 + 21 * k)) hk rfl rfl), r_207_2 hW, c1_w hW (by omega) d8, hc, b1_s]
    · simp [plo, phi] at hx
      rw [b3' x (by omega) (by omega), a3 x (by omega) (by omega)]
    · exact b3' _ (by omega) (by omega)
    · exact b3' _ (by omega) (by omega)
    · exact a3 _ (by omega) (by omega)
    · exact a3 _ (by omega) (by omega)
    · exact a3 _ (by omega) (by omega)
  · obtain ⟨S', g1, g2, g3, g4⟩ := cpRw (o := 226) (o' := plo 4 + 21 * k) (N := 90) hW rfl rfl rfl rfl (k01 (P := fun k => kd (plo 4 + 21 * k) = 7) hk rfl rfl) (k01 (P := fun k => kd (plo 4 + 21 * k + 1) = 14) hk rfl rfl) (k01 (P := fun k => ln (plo 4 + 21 * k + 1) = 90) hk rfl rfl) (k01 (P := fun k => gRf (plo 4 + 21 * k) 2 = some (plo 4 + 21 * k + 1)) hk rfl rfl) (by decide) (k01 (P := fun k => plo 4 + 21 * k + 1 < 52) hk (by decide) (by decide)) (by decide) (by decide)
    refine ⟨S', by rw [row39 hW hk (Or.inr (Or.inr (Or.inl ⟨rfl, rfl, rfl⟩)))]; exact g1, g2, fun x hx => g3 x ?_ ?_, nn (by decide), nn (by decide), nn (by decide), nn (by decide), fun _ => g4, nn (by decide)⟩
    · simp [plo, phi] at hx ⊢
      omega
    · simp [plo, phi] at hx ⊢
      omega
  · obtain ⟨S', g1, g2, g3, g4⟩ := cpRw (o := 228) (o' := plo 5 + 21 * k) (N := 20) hW rfl rfl rfl rfl (k01 (P := fun k => kd (plo 5 + 21 * k) = 7) hk rfl rfl) (k01 (P := fun k => kd (plo 5 + 21 * k + 1) = 14) hk rfl rfl) (k01 (P := fun k => ln (plo 5 + 21 * k + 1) = 20) hk rfl rfl) (k01 (P := fun k => gRf (plo 5 + 21 * k) 2 = some (plo 5 + 21 * k + 1)) hk rfl rfl) (by decide) (k01 (P := fun k => plo 5 + 21 * k + 1 < 52) hk (by decide) (by decide)) (by decide) (by decide)
    refine ⟨S', by rw [row39 hW hk (Or.inr (Or.inr (Or.inr ⟨rfl, rfl, rfl⟩)))]; exact g1, g2, fun x hx => g3 x ?_ ?_, nn (by decide), nn (by decide), nn (by decide), nn (by decide), nn (by decide), fun _ => g4⟩
    · simp [plo, phi] at hx ⊢
      omega
    · simp [plo, phi] at hx ⊢
      omega
end KR
