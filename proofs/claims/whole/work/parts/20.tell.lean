/-! court: the reference; sight -/
section TF
variable {S S' : GS} {o b k l : Nat} {c : Int32}
theorem court63 (hM : Mc S k) {w : Nat} (hw : w < 100) (h : 9 + 2 * (w % 10) + w / 10 < 70) (h1 : 1 ≤ w / 10) : f_X12_court_63 313 (nI w) S = some (S.1 319 (69 * k + (9 + 2 * (w % 10) + w / 10 - 1)), S) := by
  unfold f_X12_court_63 dz
  rw [if_neg (by decide), if_neg (by decide), k_313 hM.1, show jrem (nI w) 10 = nI (w % 10) from nI_rem (b := 10) (by omega) (by decide), show nI w / 10 = nI (w / 10) from nI_div (b := 10) (by omega) (by decide), hM.of _ (9 + 2 * (w % 10) + w / 10 - 1) (by rw [← nI_sub (a := 9 + 2 * (w % 10) + w / 10) (by omega), ← nI_add, ← nI_add, ← nI_mul]; rfl) (by omega), b1_s]
theorem court118 (hM : Mc S k) {w : Nat} (hw : w < 100) (h : 17 + 2 * (w % 10) + w / 10 < 72) (h1 : 3 ≤ w / 10) : f_X12_court_118 313 (nI w) S = some (S.1 319 (69 * k + (17 + 2 * (w % 10) + w / 10 - 3)), S) := by
  unfold f_X12_court_118 dz
  rw [if_neg (by decide), if_neg (by decide), k_313 hM.1, show jrem (nI w) 10 = nI (w % 10) from nI_rem (b := 10) (by omega) (by decide), show nI w / 10 = nI (w / 10) from nI_div (b := 10) (by omega) (by decide), hM.of _ (17 + 2 * (w % 10) + w / 10 - 3) (by rw [← nI_sub (a := 17 + 2 * (w % 10) + w / 10) (by omega), ← nI_add, ← nI_add, ← nI_mul]; rfl) (by omega), b1_s]
/-- what the reference does once the court is in hand -/
def courtR (x2 : Int32) (S3 : GS) : Option (Int32 × GS) := (b1 (f_X12_in x2 0 8 S3) fun v4 => (if v4 = 0 then (xI (some 313) 12 26 S3 fun v6 => (b1 (f_X12_in x2 10 (9 + v6) S3) fun v7 => (if v7 = 0 then (xI (some 313) 12 26 S3 fun v9 => (b1 (f_X12_in x2 20 (19 + v9) S3) fun v10 => (if v10 = 0 then (c1 (some 313) 12 S3 (fun o' => f_X12_ofCourt o' 2 S3) fun v12 => (b1 (f_X12_in x2 30 (29 + v12) S3) fun v14 => (if v14 = 0 then (c1 (some 313) 12 S3 (fun o' => f_X12_ofCourt o' 2 S3) fun v16 => (b1 (f_X12_in x2 40 (39 + v16) S3) fun v18 => (if v18 = 0 then (b1 (f_X12_in x2 100 140 S3) fun v20 => (if v20 = 0 then (some ((-1), S3)) else (c1 (some 313) 12 S3 (fun o' => f_X12_properAt o' (x2 - 100) S3) fun v22 => (some (v22, S3))))) else (f_X12_court_118 313 x2 S3)))) else (f_X12_court_118 313 x2 S3)))) else (f_X12_court_63 313 x2 S3)))) else (f_X12_court_63 313 x2 S3)))) else (c1 (some 313) 12 S3 (fun o' => f_X12_ofCourt o' x2 S3) fun v24 => (some (v24, S3)))))
theorem nI_la (a : Int32) (A n : Nat) (h : a = nI A) : a + nI n = nI (A + n) := by rw [h, nI_add]
theorem courtR_v (hM : Mc S k) {nro nst : Nat} (h4 : nro ≤ 4) (h6 : nst ≤ 6) (e0 : S.1 319 (69 * k) = nI nro) (e2 : S.1 319 (69 * k + 2) = nI nst) {w : Nat} (hw : w < 2 ^ 31) : courtR (nI w) S = some (tellV S (69 * k) nro nst w (propC S (69 * k) nst (nI (w - 100))), S) := by
  unfold courtR tellV
  rw [i_313 hM.1, i_313 hM.1, hM.2.2.2.1, e0, nI_la 9 9 nro rfl, nI_la 19 19 nro rfl, k_313 hM.1, hM.of 2 2 rfl (by decide), e2, b1_s, nI_la 29 29 nst rfl]
  by_cases q9 : w < 9
  · rw [if_pos q9, show f_X12_in (nI w) 0 8 S = some 1 from in_y (a := 0) (b := 8) (by omega) (by omega) (by omega), b1_s, if_neg n10, k_313 hM.1, hM.of (nI w) w rfl (by omega), b1_s]
  rw [if_neg q9, show f_X12_in (nI w) 0 8 S = some 0 from in_n (a := 0) (b := 8) (by omega) hw (by omega), b1_s, if_pos rfl]
  by_cases qa : 10 ≤ w ∧ w ≤ 9 + nro
  · rw [show f_X12_in (nI w) 10 (nI (9 + nro)) S = some 1 from in_y (a := 10) (by omega) (by omega) (by omega), b1_s, if_neg n10, court63 hM (by omega) (by omega) (by omega), if_neg (by omega), if_pos (by omega), if_pos (by omega), show 69 * k + (9 + 2 * (w % 10) + w / 10 - 1) = 69 * k + 9 + (2 * (w - 10) + 0) by omega]
  rw [show f_X12_in (nI w) 10 (nI (9 + nro)) S = some 0 from in_n (a := 10) (by omega) hw (by omega), b1_s, if_pos rfl]
  by_cases qb : 20 ≤ w ∧ w ≤ 19 + nro
  · rw [show f_X12_in (nI w) 20 (nI (19 + nro)) S = some 1 from in_y (a := 20) (by omega) (by omega) (by omega), b1_s, if_neg n10, court63 hM (by omega) (by omega) (by omega), if_neg (by omega), if_neg (by omega), if_pos (by omega), if_pos (by omega), show 69 * k + (9 + 2 * (w % 10) + w / 10 - 1) = 69 * k + 9 + (2 * (w - 20) + 1) by omega]
  rw [show f_X12_in (nI w) 20 (nI (19 + nro)) S = some 0 from in_n (a := 20) (by omega) hw (by omega), b1_s, if_pos rfl]
  by_cases qc : 30 ≤ w ∧ w ≤ 29 + nst
  · rw [show f_X12_in (nI w) 30 (nI (29 + nst)) S = some 1 from in_y (a := 30) (by omega) (by omega) (by omega), b1_s, if_neg n10, court118 hM (by omega) (by omega) (by omega), if_neg (by omega), if_neg (by omega), if_neg (by omega), if_pos (by omega), if_pos (by omega), show 69 * k + (17 + 2 * (w % 10) + w / 10 - 3) = 69 * k + 17 + (2 * (w - 30) + 0) by omega]
  rw [show f_X12_in (nI w) 30 (nI (29 + nst)) S = some 0 from in_n (a := 30) (by omega) hw (by omega), b1_s, if_pos rfl, k_313 hM.1, hM.of 2 2 rfl (by decide), e2, b1_s, nI_la 39 39 nst rfl]
  by_cases qd : 40 ≤ w ∧ w ≤ 39 + nst
  · rw [show f_X12_in (nI w) 40 (nI (39 + nst)) S = some 1 from in_y (a := 40) (by omega) (by omega) (by omega), b1_s, if_neg n10, court118 hM (by omega) (by omega) (by omega), if_neg (by omega), if_neg (by omega), if_neg (by omega), if_neg (by omega), if_pos (by omega), if_pos (by omega), show 69 * k + (17 + 2 * (w % 10) + w / 10 - 3) = 69 * k + 17 + (2 * (w - 40) + 1) by omega]
  rw [show f_X12_in (nI w) 40 (nI (39 + nst)) S = some 0 from in_n (a := 40) (by omega) hw (by omega), b1_s, if_pos rfl]
  by_cases qe : 100 ≤ w ∧ w ≤ 140
  · rw [show f_X12_in (nI w) 100 140 S = some 1 from in_y (a := 100) (b := 140) (by omega) (by omega) (by omega), b1_s, if_neg n10, if_neg (by omega), if_neg (by omega), if_neg (by omega), if_neg (by omega), if_neg (by omega), if_pos (by omega), k_313 hM.1, nI_litsub 100 100 rfl (by omega), hM.properM h6 e2, b1_s]
  rw [show f_X12_in (nI w) 100 140 S = some 0 from in_n (a := 100) (b := 140) (by omega) hw (by omega), b1_s, if_pos rfl]
  by_cases r1 : w < 10
  · rw [if_pos r1]
  rw [if_neg r1]
  by_cases r2 : w < 20
  · rw [if_pos r2, if_neg (by omega)]
  rw [if_neg r2]
  by_cases r3 : w < 30
  · rw [if_pos r3, if_neg (by omega)]
  rw [if_neg r3]
  by_cases r4 : w < 40
  · rw [if_pos r4, if_neg (by omega)]
  rw [if_neg r4]
  by_cases r5 : w < 100
  · rw [if_pos r5, if_neg (by omega)]
  rw [if_neg r5, if_neg (by omega)]
theorem courtR_n (hM : Mc S k) {nst : Nat} (e2 : S.1 319 (69 * k + 2) = nI nst) {x : Int32} (hx : x < 0) : courtR x S = some (-1, S) := by
  unfold courtR
  rw [show f_X12_in x 0 8 S = some 0 from in_neg (a := 0) hx (by decide), b1_s, if_pos rfl, i_313 hM.1, show f_X12_in x 10 (9 + S.1 313 26) S = some 0 from in_neg (a := 10) hx (by decide), b1_s, if_pos rfl, i_313 hM.1, show f_X12_in x 20 (19 + S.1 313 26) S = some 0 from in_neg (a := 20) hx (by decide), b1_s, if_pos rfl, k_313 hM.1, hM.of 2 2 rfl (by decide), b1_s, show f_X12_in x 30 (29 + S.1 319 (69 * k + 2)) S = some 0 from in_neg (a := 30) hx (by decide), b1_s, if_pos rfl, k_313 hM.1, hM.of 2 2 rfl (by decide), b1_s, show f_X12_in x 40 (39 + S.1 319 (69 * k + 2)) S = some 0 from in_neg (a := 40) hx (by decide), b1_s, if_pos rfl, show f_X12_in x 100 140 S = some 0 from in_neg (a := 100) hx (by decide), b1_s, if_pos rfl]
theorem lt_neg {x a : Int32} (A : Nat) (ha : a = nI A) (hA : A < 2 ^ 31) (hx : x < 0) : x < a := by
  rw [ha]
  rw [Int32.lt_iff_toInt_lt] at hx ⊢
  rw [nI_toInt hA]
  have e0 : (0 : Int32).toInt = 0 := by decide
  omega
theorem CF.tellN (h : CF S o b) {x : Int32} (hx : x < 0) : f_X0_tell o x S = some (-1) := by
  unfold f_X0_tell f_X0_tellWhole
  rw [if_pos (lt_neg (a := 100) 100 rfl (by decide) hx), if_pos (lt_neg (a := 40) 40 rfl (by decide) hx), if_pos (lt_neg (a := 30) 30 rfl (by decide) hx), if_pos (lt_neg (a := 20) 20 rfl (by decide) hx), if_pos (lt_neg (a := 10) 10 rfl (by decide) hx), c1_s h.1.1, tsw_out (n := 9) (Or.inl hx) rfl (by decide), b1_s]
theorem tellV_c {nro nst w : Nat} {pr pr' : Int32} (h : S'.1 319 = S.1 319) (hp : pr = pr') : tellV S b nro nst w pr = tellV S' b nro nst w pr' := by
  unfold tellV
  rw [h, hp]
theorem both_court (h : Inv S) (x1 x2 : Int32) : Both (f_X11_court 0 x1 x2 S) (f_X12_court 313 x1 x2) S := by
  have hW := h.1
  have hs : Sm S (s0 S) := sm_I (by decide)
  unfold Both f_X11_court f_X12_court
  rw [r_0_0 hW, k_1 hW, p_313 hW, kk_313 (S := s0 S) hW]
  rcases tld h (s := 0) (by decide) x1 with ⟨k, rfl, hk⟩ | hn
  · have hcf := h.cf hk.1
    have hs3 := s3_sm S k
    have hM : Mc (hS (s0 S) k) k := hS_Mc hW hk.1
    have h0 : (hS (s0 S) k).1 319 (69 * k) = nI (nr S (10 + 21 * k + 1)) := hcf.2.1
    have h2 : (hS (s0 S) k).1 319 (69 * k + 2) = nI (nr S (10 + 21 * k + 5)) := hcf.2.2.2.1
    rw [courtAt_y hW hk, b1_s, nul_s, hand_y (S := s0 S) hW (hk.sm hs), b2_s, c1_s hcf.1.1, if_neg n10]
    show ∃ v S2, _ ∧ courtR x2 (hS (s0 S) k) = some (v, S2) ∧ Inv S2
    by_cases q : x2 < 0
    · exact ⟨-1, _, by rw [hcf.tellN q, b1_s], courtR_n hM h2 q, h.sm hs3⟩
    · obtain ⟨w, hw, rfl⟩ := nI_of q
      refine ⟨_, _, by rw [hcf.tell hw, b1_s], ?_, h.sm hs3⟩
      rw [courtR_v hM hcf.n4 hcf.n6 h0 h2 hw]
      have e : (hS (s0 S) k).1 319 = S.1 319 := hs3.2.2 319 (by decide)
      rw [tellV_c (S := S) (S' := hS (s0 S) k) e (pr' := propC (hS (s0 S) k) (69 * k) (nr S (10 + 21 * k + 5)) (nI (w - 100))) (by unfold propC; rw [e])]
  · rw [courtAt_n hW hn, b1_s, nul_n, hand_n (S := s0 S) hW (hn.sm hs), b2_s, if_pos rfl]
    exact ⟨-1, _, rfl, rfl, h.sm hs⟩
/-! sight -/
theorem Inv.lf_s (h : Inv S) (hk : k < 2) : LF S (19 + 21 * k) 3 20 322 (122 * k) (122 * k + 2) vSeen ∧ LF S (21 + 21 * k) 3 20 322 (122 * k + 1) (122 * k + 62) vShot := by
  have hT := h.2.1 0 (by omega)
  have h0 : RwL S 19 3 20 322 0 2 vSeen := hT.2.2.2.2.2.1.2.2.1
  have h1 : RwL S 40 3 20 322 122 124 vSeen := hT.2.2.2.2.2.2.2.2.1
  have g0 : RwL S 21 3 20 322 1 62 vShot := hT.2.2.2.2.2.1.2.2.2.1
  have g1 : RwL S 42 3 20 322 123 184 vShot := hT.2.2.2.2.2.2.2.2.2.1
  exact ⟨two (P := fun k => LF S (19 + 21 * k) 3 20 322 (122 * k) (122 * k + 2) vSeen) (h0.rw h.1 (by decide) rfl rfl rfl rfl (by decide) (by decide)) (h1.rw h.1 (by decide) rfl rfl rfl rfl (by decide) (by decide)) hk, two (P := fun k => LF S (21 + 21 * k) 3 20 322 (122 * k + 1) (122 * k + 62) vShot) (g0.rw h.1 (by decide) rfl rfl rfl rfl (by decide) (by decide)) (g1.rw h.1 (by decide) rfl rfl rfl rfl (by decide) (by decide)) hk⟩
theorem sight_k (hW : Wr S) (hk : k < 2) : gk S (18 + 21 * k) = 8 ∧ S.2.2.1 (18 + 21 * k) 0 = some (19 + 21 * k) ∧ S.2.2.1 (18 + 21 * k) 1 = some (21 + 21 * k) :=
  two (P := fun k => gk S (18 + 21 * k) = 8 ∧ S.2.2.1 (18 + 21 * k) 0 = some (19 + 21 * k) ∧ S.2.2.1 (18 + 21 * k) 1 = some (21 + 21 * k)) ⟨gk_n hW (by decide) rfl, rf_n hW (by decide) rfl, rf_n hW (by decide) rfl⟩ ⟨gk_n hW (by decide) rfl, rf_n hW (by decide) rfl, rf_n hW (by decide) rfl⟩ hk
def sightV (S : GS) (b n1 n2 w : Nat) : Int32 := if w = 0 then nI n1 else if w = 1 then nI n2 else if w < 100 then -1 else if w < 400 then (if (w - 100) / 10 < n1 ∧ w % 10 < 3 then S.1 322 (b + 2 + (3 * ((w - 100) / 10) + w % 10)) else -1) else if (w - 400) / 10 < n2 ∧ w % 10 < 3 then S.1 322 (b + 62 + (3 * ((w - 400) / 10) + w % 10)) else -1
theorem Rw.cellW {m w : Nat} (h : Rw S o m w) {k i : Nat} (hk : k < 2 ^ 31) (hi : i < 2 ^ 31) {f : Nat → Nat → Int32} (hf : ∀ k, k < nr S o → ∀ i, i < w → S.1 (o + 1) (w * k + i) = f k i) : f_X7_cell o (nI k) (nI i) S = some (if k < nr S o ∧ i < w then f k i else -1) := by
  by_cases q : k < nr S o
  · by_cases z : i < w
    · rw [if_pos ⟨q, z⟩, h.cell q z, hf k q i z]
    · rw [if_neg (fun y => z y.2), h.cellC (Or.inr ⟨i, hi, by omega, rfl⟩)]
  · rw [if_neg (fun y => q y.1), h.cellO hk (by omega)]
theorem sight_tell (hW : Wr S) (hk : k < 2) (h1 : LF S (19 + 21 * k) 3 20 322 (122 * k) (122 * k + 2) vSeen) (h2 : LF S (21 + 21 * k) 3 20 322 (122 * k + 1) (122 * k + 62) vShot) {w : Nat} (hw : w < 2 ^ 31) : f_X8_tell (18 + 21 * k) (nI w) S = some (sightV S (122 * k) (nr S (19 + 21 * k)) (nr S (21 + 21 * k)) w) := by
  obtain ⟨s1, s2, s3⟩ := sight_k hW hk
  unfold f_X8_tell sightV dz
  by_cases q0 : w = 0
  · subst q0
    rw [if_pos rfl, if_pos (by decide), if_pos (by decide), if_pos (by decide), xR_s s1, s2, xI_s h1.1.1, h1.1.2.2.2.2.2.2.1]
  rw [if_neg q0]
  by_cases q1 : w = 1
  · subst q1
    rw [if_pos rfl, if_pos (by decide), if_pos (by decide), if_neg (by decide), if_pos (by decide), xR_s s1, s3, xI_s h2.1.1, h2.1.2.2.2.2.2.2.1]
  rw [if_neg q1]
  by_cases q2 : w < 100
  · rw [if_pos q2, if_pos (show nI w < (400 : Int32) from nI_lt (b := 400) (by omega) (by omega)), if_pos (show nI w < (100 : Int32) from nI_lt (b := 100) (by omega) (by omega)), if_neg (nI_ne0 (by omega) (by omega)), if_neg (show ¬ nI w = 1 by rw [show (1 : Int32) = nI 1 from rfl, nI_eq (by omega) (by omega)]; exact q1)]
  rw [if_neg q2]
  by_cases q3 : w < 400
  · rw [if_pos q3, if_pos (show nI w < (400 : Int32) from nI_lt (b := 400) (by omega) (by omega)), if_neg (show ¬ nI w < (100 : Int32) from nI_nlt (b := 100) (by omega) (by omega)), xR_s s1, s2, if_neg (by decide), if_neg (by decide), c1_s h1.1.1, nI_litsub 100 100 rfl (by omega), show nI (w - 100) / 10 = nI ((w - 100) / 10) from nI_div (b := 10) (by omega) (by decide), show jrem (nI (w - 100)) 10 = nI ((w - 100) % 10) from nI_rem (b := 10) (by omega) (by decide), h1.1.cellW (by omega) (by omega) (f := fun k' i => S.1 322 (122 * k + 2 + (3 * k' + i))) h1.2.2.1, b1_s, show (w - 100) % 10 = w % 10 by omega]
  rw [if_neg q3, if_neg (show ¬ nI w < (400 : Int32) from nI_nlt (b := 400) (by omega) (by omega)), xR_s s1, s3, if_neg (by decide), if_neg (by decide), c1_s h2.1.1, nI_litsub 400 400 rfl (by omega), show nI (w - 400) / 10 = nI ((w - 400) / 10) from nI_div (b := 10) (by omega) (by decide), show jrem (nI (w - 400)) 10 = nI ((w - 400) % 10) from nI_rem (b := 10) (by omega) (by decide), h2.1.cellW (by omega) (by omega) (f := fun k' i => S.1 322 (122 * k + 62 + (3 * k' + i))) h2.2.2.1, b1_s, show (w - 400) % 10 = w % 10 by omega]
theorem seenMany_v (hW : Wr S) (hk : k < 2) (h1 : S.1 313 51 = nI k) : f_X12_seenMany 313 S = some (S.1 322 (122 * k)) := by
  unfold f_X12_seenMany
  rw [r_313_9 hW, i_313 hW, h1, show (122 : Int32) * nI k = nI (122 * k) from nI_mul 122 k, y_322 hW (by omega)]
theorem shotMany_v (hW : Wr S) (hk : k < 2) (h1 : S.1 313 51 = nI k) : f_X12_shotMany 313 S = some (S.1 322 (122 * k + 1)) := by
  unfold f_X12_shotMany
  rw [r_313_9 hW, i_313 hW, h1, show (122 : Int32) * nI k + 1 = nI (122 * k + 1) by rw [← nI_add, ← nI_mul]; rfl, y_322 hW (by omega)]
theorem seenOf_v (hW : Wr S) (hk : k < 2) (h1 : S.1 313 51 = nI k) {x c : Int32} {i : Nat} (hx : x = nI l) (hc : c = nI i) (hl : l < 20) (hi : i < 3) : f_X12_seenOf 313 x c S = some (S.1 322 (122 * k + 2 + (3 * l + i))) := by
  subst hx hc
  unfold f_X12_seenOf
  rw [r_313_9 hW, i_313 hW, h1, show (122 : Int32) * nI k + 2 + 3 * nI l + nI i = nI (122 * k + 2 + (3 * l + i)) by rw [show 122 * k + 2 + (3 * l + i) = 122 * k + 2 + 3 * l + i by omega, ← nI_add, ← nI_add, ← nI_add, ← nI_mul, ← nI_mul]; rfl, y_322 hW (by omega)]
theorem shotOf_v (hW : Wr S) (hk : k < 2) (h1 : S.1 313 51 = nI k) {x c : Int32} {i : Nat} (hx : x = nI l) (hc : c = nI i) (hl : l < 20) (hi : i < 3) : f_X12_shotOf 313 x c S = some (S.1 322 (122 * k + 62 + (3 * l + i))) := by
  subst hx hc
  unfold f_X12_shotOf
  rw [r_313_9 hW, i_313 hW, h1, show (122 : Int32) * nI k + 62 + 3 * nI l + nI i = nI (122 * k + 62 + (3 * l + i)) by rw [show 122 * k + 62 + (3 * l + i) = 122 * k + 62 + 3 * l + i by omega, ← nI_add, ← nI_add, ← nI_add, ← nI_mul, ← nI_mul]; rfl, y_322 hW (by omega)]
end TF
