/-! texts: deeds -/
def pDeed (d : Nat) (f g : Nat → Int32) : Prop := (∀ i, i < 3 → f i = g i) ∧ g 0 = nI d
def GB (S T : GS) : Prop := RwD S ∧ ∃ n, RLn S T 222 3 40 0 1 vDeed n
/-- the reference's end of the line -/
def bTail (T : GS) (v : Int32) : Option (Int32 × GS) := if v = 0 then (some (0, T)) else (c1 (some 313) 12 T (fun o' => f_X12_keep o' 0 1 3 40 T) fun S18 => (some (1, S18)))
section LM
variable {α : Type} {L : Nat} {B : Nat → Nat} {S S' T T' S0 T0 : GS} {s e k f c o w m p q n d e0 : Nat} {V : (Nat → Int32) → Prop} {P P' : (Nat → Int32) → (Nat → Int32) → Prop} {R : GS → GS → Prop}
theorem ro6 : RO9 222 3 40 := Or.inr (Or.inr (Or.inr (Or.inr (Or.inr (Or.inl ⟨rfl, rfl, rfl⟩)))))
theorem up3 {f g : Nat → Int32} {c : Nat} {v : Int32} (h : ∀ i, i < w → f i = g i) : ∀ i, i < w → up f c v i = up g c v i := fun i hi => by
  unfold up
  rw [h i hi]
theorem t7 {a0 a1 a2 a3 a4 a5 a6 x : Option α} {i : Nat} (hi : i < 7) : tsw (nI i) 0 [a0, a1, a2, a3, a4, a5, a6] x = [a0, a1, a2, a3, a4, a5, a6].getD i none := tsw_in hi (show 7 < 1000 by decide)
theorem t7_0 {a0 a1 a2 a3 a4 a5 a6 x : Option α} : tsw (nI 0) 0 [a0, a1, a2, a3, a4, a5, a6] x = a0 := t7 (i := 0) (by decide)
theorem t7_1 {a0 a1 a2 a3 a4 a5 a6 x : Option α} : tsw (nI 1) 0 [a0, a1, a2, a3, a4, a5, a6] x = a1 := t7 (i := 1) (by decide)
theorem t7_2 {a0 a1 a2 a3 a4 a5 a6 x : Option α} : tsw (nI 2) 0 [a0, a1, a2, a3, a4, a5, a6] x = a2 := t7 (i := 2) (by decide)
theorem t7_3 {a0 a1 a2 a3 a4 a5 a6 x : Option α} : tsw (nI 3) 0 [a0, a1, a2, a3, a4, a5, a6] x = a3 := t7 (i := 3) (by decide)
theorem t7_4 {a0 a1 a2 a3 a4 a5 a6 x : Option α} : tsw (nI 4) 0 [a0, a1, a2, a3, a4, a5, a6] x = a4 := t7 (i := 4) (by decide)
theorem t7_5 {a0 a1 a2 a3 a4 a5 a6 x : Option α} : tsw (nI 5) 0 [a0, a1, a2, a3, a4, a5, a6] x = a5 := t7 (i := 5) (by decide)
theorem t7_6 {a0 a1 a2 a3 a4 a5 a6 x : Option α} : tsw (nI 6) 0 [a0, a1, a2, a3, a4, a5, a6] x = a6 := t7 (i := 6) (by decide)
theorem t7_o {a0 a1 a2 a3 a4 a5 a6 x : Option α} {i : Nat} (h : 7 ≤ i) (hi : i < 2 ^ 31) : tsw (nI i) 0 [a0, a1, a2, a3, a4, a5, a6] x = x := tsw_out (n := 7) (Or.inr ⟨i, hi, rfl, h⟩) rfl (by decide)
theorem deed_w (h : TB L B S T) (hk : Tk L B S T s e k) (X : GS) : ∃ v, f_X5_deedOfWord 207 S = some v ∧ f_X12_deedBy (wd T) X = some v ∧ (v = -1 ∨ ∃ d, d ≤ 8 ∧ v = nI d) := by
  have i5 : f_X5_isWord 207 (some 100005) S = some (if wd T = 444199957363 then 1 else 0) := isW h hk (j := 5) (by decide)
  have i7 : f_X5_isWord 207 (some 100007) S = some (if wd T = 1869636974 then 1 else 0) := isW h hk (j := 7) (by decide)
  have i8 : f_X5_isWord 207 (some 100008) S = some (if wd T = 1936225652 then 1 else 0) := isW h hk (j := 8) (by decide)
  have i9 : f_X5_isWord 207 (some 100009) S = some (if wd T = 1936287592 then 1 else 0) := isW h hk (j := 9) (by decide)
  have i10 : f_X5_isWord 207 (some 100010) S = some (if wd T = 7629157 then 1 else 0) := isW h hk (j := 10) (by decide)
  have i11 : f_X5_isWord 207 (some 100011) S = some (if wd T = 119225867003246 then 1 else 0) := isW h hk (j := 11) (by decide)
  have i12 : f_X5_isWord 207 (some 100012) S = some (if wd T = 26479 then 1 else 0) := isW h hk (j := 12) (by decide)
  have i13 : f_X5_isWord 207 (some 100013) S = some (if wd T = 500084863860 then 1 else 0) := isW h hk (j := 13) (by decide)
  have i14 : f_X5_isWord 207 (some 100014) S = some (if wd T = 120299592184933 then 1 else 0) := isW h hk (j := 14) (by decide)
  unfold f_X5_deedOfWord f_X12_deedBy
  rw [k_207 h.1, i5, b1_s]
  by_cases q5 : wd T = 444199957363
  · rw [if_pos q5, if_neg n10, if_pos (lcp q5)]
    exact ⟨_, rfl, rfl, Or.inr ⟨0, by decide, rfl⟩⟩
  rw [if_neg q5, if_pos rfl, if_neg (lcn q5), k_207 h.1, i7, b1_s]
  by_cases q7 : wd T = 1869636974
  · rw [if_pos q7, if_neg n10, if_pos (lcp q7)]
    exact ⟨_, rfl, rfl, Or.inr ⟨1, by decide, rfl⟩⟩
  rw [if_neg q7, if_pos rfl, if_neg (lcn q7), k_207 h.1, i8, b1_s]
  by_cases q8 : wd T = 1936225652
  · rw [if_pos q8, if_neg n10, if_pos (lcp q8)]
    exact ⟨_, rfl, rfl, Or.inr ⟨2, by decide, rfl⟩⟩
  rw [if_neg q8, if_pos rfl, if_neg (lcn q8), k_207 h.1, i9, b1_s]
  by_cases q9 : wd T = 1936287592
  · rw [if_pos q9, if_neg n10, if_pos (lcp q9)]
    exact ⟨_, rfl, rfl, Or.inr ⟨3, by decide, rfl⟩⟩
  rw [if_neg q9, if_pos rfl, if_neg (lcn q9), k_207 h.1, i10, b1_s]
  by_cases q10 : wd T = 7629157
  · rw [if_pos q10, if_neg n10, if_pos (lcp q10)]
    exact ⟨_, rfl, rfl, Or.inr ⟨4, by decide, rfl⟩⟩
  rw [if_neg q10, if_pos rfl, if_neg (lcn q10), k_207 h.1, i11, b1_s]
  by_cases q11 : wd T = 119225867003246
  · rw [if_pos q11, if_neg n10, if_pos (lcp q11)]
    exact ⟨_, rfl, rfl, Or.inr ⟨5, by decide, rfl⟩⟩
  rw [if_neg q11, if_pos rfl, if_neg (lcn q11), k_207 h.1, i12, b1_s]
  by_cases q12 : wd T = 26479
  · rw [if_pos q12, if_neg n10, if_pos (lcp q12)]
    exact ⟨_, rfl, rfl, Or.inr ⟨6, by decide, rfl⟩⟩
  rw [if_neg q12, if_pos rfl, if_neg (lcn q12), k_207 h.1, i13, b1_s]
  by_cases q13 : wd T = 500084863860
  · rw [if_pos q13, if_neg n10, if_pos (lcp q13)]
    exact ⟨_, rfl, rfl, Or.inr ⟨7, by decide, rfl⟩⟩
  rw [if_neg q13, if_pos rfl, if_neg (lcn q13), k_207 h.1, i14, b1_s]
  by_cases q14 : wd T = 120299592184933
  · rw [if_pos q14, if_neg n10, if_pos (lcp q14)]
    exact ⟨_, rfl, rfl, Or.inr ⟨8, by decide, rfl⟩⟩
  rw [if_neg q14, if_pos rfl, if_neg (lcn q14)]
  exact ⟨_, rfl, rfl, Or.inl rfl⟩
/-- no numbers (any more): the row is kept -/
theorem ball0 (hB : TB L B S T) (hk : Tk L B S T s e k) (hF : FA s S T) (hD : RwD S0) (fs : FC 222 S0 S) (fm : FMx T0 T) (l1 : e0 ≤ s) (hR : RO S T 222 3 40 0 1 vDeed n P) (hP : ∀ f g, P f g → (∀ i, i < 3 → f i = g i) ∧ vDeed g) : LX L B GB S0 T0 e0 (some S) (bTail T 1) := by
  have hs := hk.le
  have hl := hk.2.2.2.2.2.2.1
  obtain ⟨T8, w1, w2, w3', w4, w5, w6, w7, w8, w9⟩ := lx_keep ro6 hD hB hk hF l1 (by omega) fs fm hR (by decide) (by decide) (Or.inl (by decide)) hP vDeed_c
  refine Or.inl ⟨S, T8, s, e, k, rfl, ?_, w8, w2, w4, w5, w6, l1, by omega, w7, w9⟩
  unfold bTail
  rw [if_neg n10, k_313 hB.2.1, show f_X12_keep 313 0 1 3 40 T = some T8 from w1, b1_s]
theorem ball1 (hB : TB L B S T) (hk : Tk L B S T s e k) (hF : FA s S T) (hD : RwD S0) (hT0 : Wr T0) (fs : FC 222 S0 S) (fm : FMx T0 T) (l1 : e0 ≤ s) (hR : RO S T 222 3 40 0 1 vDeed n (pDeed d)) {lo hi : Nat} (hlo : lo < 1000) (hhi : hi < 1000) (hV : ∀ g : Nat → Int32, g 0 = nI d → In (g 1) lo hi → vDeed g) : LX L B GB S0 T0 e0 (cT 222 (nI lo) (nI hi) 1 S fun S => some S) (b2 (c2 (some 313) 12 T (fun o' => f_X12_take o' 1 (nI lo) (nI hi) T) fun v1 S2 => (tz v1 (some (v1, S2)))) fun v T => bTail T v) := by
  have hs := hk.le
  rw [kk_313 hB.2.1]
  rcases ts_both (P' := fun f g => (∀ i, i < 3 → f i = g i) ∧ vDeed g) ro6.rk hB hk hF hR (c := 1) (by decide) hlo hhi (fun f g v y a b => ⟨up3 y.1, hV _ (by rw [up_o (by decide)]; exact y.2) (by rw [up_at]; exact in_I a b)⟩) with ⟨rfl, y, S7, T7, s7, e7, k7, y1, y2, y3, y4, y5, y6, y7, y8, y9, y10, y11, y12, y13⟩ | ⟨z, S7, T7, y1, y2, y3, y4, y5⟩
  · rw [show cT 222 (nI lo) (nI hi) 1 S (fun S => some S) = some S7 from y1 _, show f_X12_take 313 1 (nI lo) (nI hi) T = some (1, T7) from y2, b2_s, show tz (1 : Int32) (some ((1 : Int32), T7)) = some (1, T7) from rfl, b2_s]
    exact ball0 y5 y6 y7 hD (fs.tr y3) (fm.tr y4.x) (by omega) y13 (fun f g z => z)
  · rw [show cT 222 (nI lo) (nI hi) 1 S (fun S => some S) = some S7 from y1 _, show f_X12_take 313 1 (nI lo) (nI hi) T = some (0, T7) from y2, b2_s, show tz (0 : Int32) (some ((0 : Int32), T7)) = some (0, T7) from rfl, b2_s]
    exact lx_brk hD ro6 rfl rfl (fs.tr y3) (fm.tr y4.x) hT0 y5
theorem ball2 (hB : TB L B S T) (hk : Tk L B S T s e k) (hF : FA s S T) (hD : RwD S0) (hT0 : Wr T0) (fs : FC 222 S0 S) (fm : FMx T0 T) (l1 : e0 ≤ s) (hR : RO S T 222 3 40 0 1 vDeed n (pDeed d)) {lo hi : Nat} (hlo : lo < 1000) (hhi : hi < 1000) (hV : ∀ g : Nat → Int32, g 0 = nI d → In (g 1) 0 7 → In (g 2) lo hi → vDeed g) : LX L B GB S0 T0 e0 (cT 222 0 7 1 S fun S5 => xR (some 207) 5 3 S5 fun v6 => (c2 (some 207) 5 S5 (fun o' => f_X5_takeNumber o' (nI lo) (nI hi) S5) fun v7 S8 => (c1 v6 7 S8 (fun o' => f_X7_setLast o' 2 v7 S8) fun S10 => (some S10)))) (b2 (c2 (some 313) 12 T (fun o' => f_X12_take o' 1 0 7 T) fun v1 S2 => (if v1 = 0 then (some (0, S2)) else (c2 (some 313) 12 S2 (fun o' => f_X12_take o' 2 (nI lo) (nI hi) S2) fun v3 S4 => (if v3 = 0 then (some (0, S4)) else (some (1, S4)))))) fun v T => bTail T v) := by
  have hs := hk.le
  rcases ts_both (P' := fun f g => pDeed d f g ∧ In (g 1) 0 7) ro6.rk hB hk hF hR (lo := 0) (hi := 7) (c := 1) (by decide) (by decide) (by decide) (fun f g v y a b => ⟨⟨up3 y.1, by rw [up_o (by decide)]; exact y.2⟩, by rw [up_at]; exact in_I a b⟩) with ⟨rfl, y, S7, T7, s7, e7, k7, y1, y2, y3, y4, y5, y6, y7, y8, y9, y10, y11, y12, y13⟩ | ⟨z, S7, T7, y1, y2, y3, y4, y5⟩
  · have hs7 := y6.le
    rw [show ∀ K : GS → Option GS, cT 222 0 7 1 S K = K S7 from fun K => y1 K, r_207_3 y5.1, kk_313 hB.2.1, show f_X12_take 313 1 0 7 T = some (1, T7) from y2, b2_s, if_neg n10]
    rcases ts_both (P' := fun f g => (∀ i, i < 3 → f i = g i) ∧ vDeed g) ro6.rk y5 y6 y7 y13 (c := 2) (by decide) hlo hhi (fun f g v y a b => ⟨up3 y.1.1, hV _ (by rw [up_o (by decide)]; exact y.1.2) (by rw [up_o (by decide)]; exact y.2) (by rw [up_at]; exact in_I a b)⟩) with ⟨rfl, x, S9, T9, s9, e9, k9, x1, x2, x3, x4, x5, x6, x7, x8, x9, x10, x11, x12, x13⟩ | ⟨z, S9, T9, x1, x2, x3, x4, x5⟩
    · rw [kk_313 y5.2.1, show f_X12_take 313 2 (nI lo) (nI hi) T7 = some (1, T9) from x2, b2_s, if_neg n10, b2_s]
      have := ball0 x5 x6 x7 hD ((fs.tr y3).tr x3) ((fm.tr y4.x).tr x4.x) (show e0 ≤ s9 by omega) x13 (fun f g z => z)
      rw [← x1 (fun S => some S)] at this
      exact this
    · rw [kk_313 y5.2.1, show f_X12_take 313 2 (nI lo) (nI hi) T7 = some (0, T9) from x2, b2_s, if_pos rfl, b2_s]
      exact lx_brk hD ro6 (x1 (fun S => some S)) rfl ((fs.tr y3).tr x3) ((fm.tr y4.x).tr x4.x) hT0 x5
  · rw [show ∀ K : GS → Option GS, cT 222 0 7 1 S K = K S7 from fun K => y1 K, r_207_3 y5.1, kk_313 hB.2.1, show f_X12_take 313 1 0 7 T = some (0, T7) from y2, b2_s, if_pos rfl, b2_s]
    obtain ⟨S9, x1, x2, x3⟩ := brk_ts ro6.rk y5 (c := 2) (by decide) (nI lo) (nI hi)
    exact lx_brk hD ro6 (x1 (fun S => some S)) rfl ((fs.tr y3).tr x3) (fm.tr y4.x) hT0 x2
/-- a deed -/
theorem line1 (h : TB L B S T) (hk : Tk L B S T s e k) (hk0 : k ≠ 0) (hF : FA s S T) (hG : GB S T) : LX L B GB S T e (f_X5_readBallLine 207 S) (f_X12_ballLine 313 (wd T) (nI s) T) := by
  obtain ⟨hD, n, hR⟩ := hG
  obtain ⟨v, v1, v2, v3⟩ := deed_w h hk T
  unfold f_X5_readBallLine f_X12_ballLine
  rw [k_207 h.1, v1, b1_s, v2, b1_s]
  rcases v3 with rfl | ⟨d, hd, rfl⟩
  · rw [if_pos rfl, k_207 h.1, break_v h.1 hk.1 (FAv.nb hF), b1_s, if_pos rfl, kk_313 h.2.1, fails_v h.2.1 hk.2.2.2.1, b2_s]
    exact lx_no h hk hD
  · have hne := nI_neg1 d (by omega)
    obtain ⟨S1, T0, T1, s1, e1, k1, g1, g2, g3, hT0, c1', m1, r26, hB1, hk1, hF1, l1, l2, o1, hR1⟩ := open_both ro6.rk h hk hk0 hF hR (by decide)
    have a1 : (sI (sI (sI T1 326 0 (nI d)) 326 1 (-1)) 326 2 (-1)).1 326 0 = nI d := rfl
    have a2 : (sI (sI (sI T1 326 0 (nI d)) 326 1 (-1)) 326 2 (-1)).1 326 1 = -1 := rfl
    have a3 : (sI (sI (sI T1 326 0 (nI d)) 326 1 (-1)) 326 2 (-1)).1 326 2 = -1 := rfl
    have a4 : FM T1 (sI (sI (sI T1 326 0 (nI d)) 326 1 (-1)) 326 2 (-1)) := FM.A.tr (FM.A.tr FM.A)
    have a5 : ∀ i, (sI (sI (sI T1 326 0 (nI d)) 326 1 (-1)) 326 2 (-1)).1 313 i = T1.1 313 i := fun i => rfl
    have a6 : (sI (sI (sI T1 326 0 (nI d)) 326 1 (-1)) 326 2 (-1)).2 = T1.2 := rfl
    have hW1 : Wr (sI T1 326 0 (nI d)) := hB1.2.1
    have hW2 : Wr (sI (sI T1 326 0 (nI d)) 326 1 (-1)) := hB1.2.1
    rw [if_neg hne, r_207_3 h.1, k_207 h.1, g1, b1_s, r_207_3 hB1.1, if_neg hne, k_313 h.2.1, show f_X12_full 313 0 40 (nI s) T = some T0 from g2, b1_s, k_313 hT0, g3, b1_s, r_313_22 hB1.2.1, show qI (some 326) 0 (nI d) T1 _ = _ from q_326 (k := 0) hB1.2.1 (by decide), r_313_22 hW1, show qI (some 326) 1 (-1) (sI T1 326 0 (nI d)) _ = _ from q_326 (k := 1) hW1 (by decide), r_313_22 hW2, show qI (some 326) 2 (-1) (sI (sI T1 326 0 (nI d)) 326 1 (-1)) _ = _ from q_326 (k := 2) hW2 (by decide)]
    generalize sI (sI (sI T1 326 0 (nI d)) 326 1 (-1)) 326 2 (-1) = T2 at a1 a2 a3 a4 a5 a6 ⊢
    obtain ⟨S2, x1, x2, x3⟩ := set_both (P' := pDeed d) (T' := T2) ro6.rk hB1.1 hR1 (c := 0) (by decide) (nI d) a4.told (fun f z => ⟨fun i hi => by
      rcases (show i = 0 ∨ i = 1 ∨ i = 2 by omega) with rfl | rfl | rfl
      · rw [up_at, a1]
      · rw [up_o (by decide), a2]
        exact z 1 (by decide)
      · rw [up_o (by decide), a3]
        exact z 2 (by decide), a1⟩)
    have hB2 : TB L B S2 T2 := (hB1.fc x2.fc (by decide)).fM a4
    have k207 : ∀ i, S2.1 207 i = S1.1 207 i := fun i => x2.2 207 i (by omega) (by omega)
    have hk2 : Tk L B S2 T2 s1 e1 k1 := hk1.mv (fun i _ _ => k207 i) (fun i _ => a5 i) (by rw [a6])
    have hF2 : FA s1 S2 T2 := by
      unfold FA
      rw [k207, k207]
      exact FAv.up hF1 (Nat.le_refl _) (a5 _) (a5 _)
    have fs : FC 222 S S2 := c1'.tr x2.fc
    have fm : FMx T T2 := (m1.tr a4).x
    rw [kr ro6.rk hB1.1, show f_X7_setLast 222 0 (nI d) S1 = some S2 from x1, b1_s, kk_313 hB2.2.1]
    unfold f_X12_ballNumbers
    rcases (show d = 0 ∨ d = 1 ∨ d = 2 ∨ d = 3 ∨ d = 4 ∨ d = 5 ∨ d = 6 ∨ d = 7 ∨ d = 8 by omega) with rfl | rfl | rfl | rfl | rfl | rfl | rfl | rfl | rfl
    · rw [t7_0, t7_0, r_207_3 hB2.1]
      exact ball1 (lo := 0) (hi := 40) hB2 hk2 hF2 hD h.2.1 fs fm l1 x3 (by decide) (by decide) (fun g y1 y2 => Or.inl ⟨y1, y2⟩)
    · unfold f_X5_readBallLine_94 f_X12_ballNumbers_53
      rw [t7_1, t7_1, r_207_3 hB2.1]
      exact ball1 (lo := 0) (hi := 3) hB2 hk2 hF2 hD h.2.1 fs fm l1 x3 (by decide) (by decide) (fun g y1 y2 => Or.inr (Or.inl ⟨Or.inl y1, y2⟩))
    · unfold f_X5_readBallLine_94 f_X12_ballNumbers_53
      rw [t7_2, t7_2, r_207_3 hB2.1]
      exact ball1 (lo := 0) (hi := 3) hB2 hk2 hF2 hD h.2.1 fs fm l1 x3 (by decide) (by decide) (fun g y1 y2 => Or.inr (Or.inl ⟨Or.inr y1, y2⟩))
    · rw [t7_3, t7_3, r_207_3 hB2.1]
      exact ball1 (lo := 0) (hi := 7) hB2 hk2 hF2 hD h.2.1 fs fm l1 x3 (by decide) (by decide) (fun g y1 y2 => Or.inr (Or.inr (Or.inl ⟨y1, y2⟩)))
    · unfold f_X5_readBallLine_129 f_X12_ballNumbers_70
      rw [t7_4, t7_4, r_207_3 hB2.1]
      exact ball2 (lo := 1) (hi := 9) hB2 hk2 hF2 hD h.2.1 fs fm l1 x3 (by decide) (by decide) (fun g y1 y2 y3 => Or.inr (Or.inr (Or.inr (Or.inl ⟨Or.inl y1, y2, y3⟩))))
    · unfold f_X5_readBallLine_129 f_X12_ballNumbers_70
      rw [t7_5, t7_5, r_207_3 hB2.1]
      exact ball2 (lo := 1) (hi := 9) hB2 hk2 hF2 hD h.2.1 fs fm l1 x3 (by decide) (by decide) (fun g y1 y2 y3 => Or.inr (Or.inr (Or.inr (Or.inl ⟨Or.inr y1, y2, y3⟩))))
    · rw [t7_6, t7_6, r_207_3 hB2.1]
      exact ball2 (lo := 0) (hi := 3) hB2 hk2 hF2 hD h.2.1 fs fm l1 x3 (by decide) (by decide) (fun g y1 y2 y3 => Or.inr (Or.inr (Or.inr (Or.inr (Or.inl ⟨y1, y2, y3⟩)))))
    · rw [t7_o (by decide) (by decide), t7_o (by decide) (by decide), b2_s]
      exact ball0 hB2 hk2 hF2 hD fs fm l1 x3 (fun f g z => ⟨z.1, Or.inr (Or.inr (Or.inr (Or.inr (Or.inr (Or.inl z.2)))))⟩)
    · rw [t7_o (by decide) (by decide), t7_o (by decide) (by decide), b2_s]
      exact ball0 hB2 hk2 hF2 hD fs fm l1 x3 (fun f g z => ⟨z.1, Or.inr (Or.inr (Or.inr (Or.inr (Or.inr (Or.inr z.2)))))⟩)
end LM
