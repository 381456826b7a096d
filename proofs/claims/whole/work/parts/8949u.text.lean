/-! text answers alike -/
def M0 (S : GS) : GS := sI (sI (sI (sI (sI S 313 0 0) 313 13 (S.1 315 0)) 315 0 0) 316 0 0) 317 0 (-1)
def clT (a b : Int32) (S : GS) : GS := sI (sI (sI S 1 8 0) 1 9 a) 1 10 b
section TX
variable {α : Type} {L : Nat} {S S' T T' T2 F : GS} {k srt c c' : Nat}
theorem close_v (hW : Wr S) (a b : Int32) : f_X9_closeTape 1 a b S = some (clT a b S) := by
  have hW1 : Wr (sI S 1 8 0) := hW
  have hW2 : Wr (sI (sI S 1 8 0) 1 9 a) := hW
  unfold f_X9_closeTape
  rw [p_1 hW, p_1 hW1, p_1 hW2]
  rfl
theorem text_M (hW : Wr T) (x y : Int32) : f_X12_text 313 x y T = b1 (f_X12_in x 0 5 (M0 T)) fun v11 => (if v11 = 0 then (some ((-2), M0 T)) else (if y = (-1) then (xR (some 313) 12 5 (M0 T) fun v13 => (yI v13 14 x (M0 T) fun v14 => (if v14 = 2 then (some ((-2), M0 T)) else (f_X12_text_75 313 x y (M0 T))))) else (c1 (some 313) 12 (M0 T) (fun o' => f_X12_is o' x y (M0 T)) fun v15 => (if v15 = 0 then (some ((-2), M0 T)) else (f_X12_text_75 313 x y (M0 T)))))) := by
  have hW1 : Wr (sI T 313 0 0) := hW
  have hW2 : Wr (sI (sI T 313 0 0) 313 13 (T.1 315 0)) := hW
  have hW3 : Wr (sI (sI (sI T 313 0 0) 313 13 (T.1 315 0)) 315 0 0) := hW
  have hW4 : Wr (sI (sI (sI (sI T 313 0 0) 313 13 (T.1 315 0)) 315 0 0) 316 0 0) := hW
  unfold f_X12_text
  rw [p_313 hW, r_313_2 hW1, show yI (some 315) 14 0 (sI T 313 0 0) _ = _ from y_315 (k := 0) hW1 (by decide), show (sI T 313 0 0).1 315 0 = T.1 315 0 from rfl, p_313 hW1, r_313_2 hW2, show qI (some 315) 0 0 (sI (sI T 313 0 0) 313 13 (T.1 315 0)) _ = _ from q_315 (k := 0) hW2 (by decide), r_313_3 hW3, show qI (some 316) 0 0 (sI (sI (sI T 313 0 0) 313 13 (T.1 315 0)) 315 0 0) _ = _ from q_316 (k := 0) hW3 (by decide), r_313_4 hW4, show qI (some 317) 0 (-1) (sI (sI (sI (sI T 313 0 0) 313 13 (T.1 315 0)) 315 0 0) 316 0 0) _ = _ from q_317 (k := 0) hW4 (by decide)]
  rfl
theorem M0_o {o : Nat} (h1 : o ≠ 313) (h2 : o ≠ 315) (h3 : o ≠ 316) (h4 : o ≠ 317) : (M0 T).1 o = T.1 o := by
  unfold M0
  rw [sI_o h4, sI_o h3, sI_o h2, sI_o h1, sI_o h1]
theorem clT_o {a b : Int32} {o : Nat} (h : o ≠ 1) : (clT a b S).1 o = S.1 o := by
  unfold clT
  rw [sI_o h, sI_o h, sI_o h]
theorem M0_315 {i : Nat} (h : i ≠ 0) : (M0 T).1 315 i = T.1 315 i := by
  unfold M0
  rw [sI_o (by decide), sI_o (by decide), sI_at, if_neg h, sI_o (by decide), sI_o (by decide)]
theorem M0_316 {i : Nat} (h : i ≠ 0) : (M0 T).1 316 i = T.1 316 i := by
  unfold M0
  rw [sI_o (by decide), sI_at, if_neg h, sI_o (by decide), sI_o (by decide), sI_o (by decide)]
theorem M0_317 {i : Nat} (h : i ≠ 0) : (M0 T).1 317 i = T.1 317 i := by
  unfold M0
  rw [sI_at, if_neg h, sI_o (by decide), sI_o (by decide), sI_o (by decide), sI_o (by decide)]
/-- as Inv.tape, where the reader's rows changed too -/
theorem Inv.tape2 (h : Inv S) (hW : Wr S') (hP : ∀ o, (o < 207 ∨ (318 ≤ o ∧ o < 325) ∨ o = 342 ∨ o = 309) → o ≠ 1 → S'.1 o = S.1 o) (h314 : S'.1 314 = S.1 314) (hl : S'.1 1 8 = 0 ∧ S'.1 315 0 = 0) (hlJ : ∀ i, i ≠ 0 → S'.1 315 i = S.1 315 i) (hf : S'.1 1 9 = S'.1 316 0) (hfJ : ∀ i, i ≠ 0 → S'.1 316 i = S.1 316 i) (hp : S'.1 1 10 = S'.1 317 0) (hpJ : ∀ i, i ≠ 0 → S'.1 317 i = S.1 317 i) (hD : RwD S') : Inv S' := by
  obtain ⟨c1, c2, c3, c4⟩ := h
  have ha : ∀ a, 318 ≤ a → a < 325 → S'.1 a = S.1 a := fun a h1 h2 => hP a (Or.inr (Or.inl ⟨h1, h2⟩)) (by omega)
  have hb : ∀ a, 2 ≤ a → a < 207 → S'.1 a = S.1 a := fun a h1 h2 => hP a (Or.inl h2) (by omega)
  refine ⟨hW, fun j hj => ?_, ⟨?_, ?_, fun i => by rw [h314]; exact c3.2.2 i⟩, hD⟩
  · obtain ⟨d1, d2, d3, d4, d5, d6, d7⟩ := c2 j hj
    by_cases q : j = 0
    · subst q
      refine ⟨fun i hi => ?_, ⟨0, by decide, hl.1, hl.2⟩, hf, Or.inr hp, ?_, d6.sm2 (by omega) (fun i h1 h2 => ?_) ha, d7.sm2 (by omega) (fun i h1 h2 => ?_) ha⟩
      · show S'.1 2 i = _
        rw [hb 2 (by omega) (by omega), h314]
        exact d1 i hi
      · rw [ha 318 (by omega) (by omega)]
        show ∀ s, s < 6 → ∃ n, n ≤ 2 ∧ S'.1 3 s = nI n ∧ _
        rw [hb 3 (by omega) (by omega)]
        exact d5
      · exact hb _ (by show 2 ≤ 1 + i; omega) (by show 1 + i < 207; omega)
      · exact hb _ (by show 2 ≤ 1 + i; omega) (by show 1 + i < 207; omega)
    · have ht := tO_le hj
      have ht2 : 53 ≤ tO j := by
        unfold tO
        rw [if_neg q]
        omega
      refine ⟨fun i hi => ?_, ?_, ?_, ?_, ?_, d6.sm2 (by omega) (fun i h1 h2 => hb _ (by omega) (by omega)) ha, d7.sm2 (by omega) (fun i h1 h2 => hb _ (by omega) (by omega)) ha⟩
      · rw [hb _ (by omega) (by omega), h314]
        exact d1 i hi
      · rw [hb _ (by omega) (by omega), hlJ j q]
        exact d2
      · rw [hb _ (by omega) (by omega), hfJ j q]
        exact d3
      · rw [hb 206 (by omega) (by omega), hb (tO j) (by omega) (by omega), hpJ j q]
        exact d4
      · rw [hb _ (by omega) (by omega), ha 318 (by omega) (by omega)]
        exact d5
  · rw [hb 206 (by omega) (by omega), hP 342 (by omega) (by decide)]
    exact c3.1
  · rw [hP 309 (by omega) (by decide)]
    exact c3.2.1
/-- no such place, or no such sort -/
theorem text_ns (h : Inv S) (x y : Int32) (hn : f_X9_numberFor 1 x y S = some (-2)) (hM : f_X12_text 313 x y (clT 0 (-1) S) = some (-2, M0 (clT 0 (-1) S))) : Both2 (f_X11_text 0 x y) (f_X12_text 313 x y) S := by
  have hW := h.1
  refine ⟨-2, clT 0 (-1) S, M0 (clT 0 (-1) S), ?_, hM, ?_⟩
  · unfold f_X11_text
    rw [r_0_0 hW, k_1 hW, hn, b1_s, if_pos rfl, r_0_0 hW, k_1 hW, close_v hW, b1_s]
  · refine h.tape (S' := M0 (clT 0 (-1) S)) hW (fun o hP a1 a2 a3 a4 a5 a6 => ?_) (fun i hi => ?_) (fun i hi => rfl) ⟨0, by decide, rfl, rfl⟩ (fun i hi => ?_) rfl (fun i hi => ?_) rfl (fun i hi => ?_) h.2.2.1.2.2
    · rw [M0_o (fun e => by rw [e] at hP; exact absurd hP (by decide)) a4 a5 a6, clT_o a1]
    · have := (h.2.1 0 (by decide)).1 i hi
      rw [Nat.mul_zero, Nat.zero_add] at this
      exact this
    · rw [M0_315 hi, clT_o (by decide)]
    · rw [M0_316 hi, clT_o (by decide)]
    · rw [M0_317 hi, clT_o (by decide)]
/-- a text is read: a fault, or it is kept -/
theorem text_ok (h : Inv S) (hs : srt < 6) (hk : k < 2) (hc : S.1 318 srt = nI c ∧ S.1 3 srt = nI c) (hc2 : c ≤ 2) {y : Int32} (hcase : (k < c ∧ y = nI k) ∨ (k = c ∧ y = -1)) (hn : f_X9_numberFor 1 (nI srt) y S = some (nI k)) (hM : ∀ T, Wr T → T.1 318 = S.1 318 → f_X12_text 313 (nI srt) y T = f_X12_text_75 313 (nI srt) y (M0 T)) : Both2 (f_X11_text 0 (nI srt) y) (f_X12_text 313 (nI srt) y) S := by
  have hW := h.1
  obtain ⟨L, hL, l1, l2⟩ := h.len
  have hb : ∀ i, i < 600 → S.1 2 i = S.1 314 i := fun i hi => by
    have := (h.2.1 0 (by decide)).1 i hi
    rw [Nat.mul_zero, Nat.zero_add] at this
    exact this
  have rd : ∀ T, Wr T → T.1 315 = S.1 315 → T.1 314 = S.1 314 → RdF srt (RS srt) S (M0 T) (f_X5_readAll 207 (nI srt) (some 1) S) (f_X12_readText 313 (nI srt) (M0 T)) := fun T hT h5 h4 => read_all hs hW hT h.2.2.2 l1 hL (by show T.1 315 0 = nI L; rw [h5]; exact l2) (fun i hi => by rw [M0_o (by decide) (by decide) (by decide) (by decide), h4]; exact hb i hi)
  obtain ⟨S', b, T', y1, -, y3, y4, -, y6, -, y8, -⟩ := rd S hW rfl rfl
  have hlow : ∀ o, (o < 207 ∨ 230 ≤ o) → S'.1 o = S.1 o := y4
  have hW17 : Wr (clT (S'.1 207 11) (S'.1 207 12) S') := y6
  -- the reading, from any state of the reference's that the class left alone
  have again : ∀ T, Wr T → T.1 315 = S.1 315 → T.1 314 = S.1 314 → ∃ b T', f_X12_readText 313 (nI srt) (M0 T) = some (b, T') ∧ FMy (M0 T) T' ∧ Wr T' ∧ S'.1 207 11 = T'.1 316 0 ∧ S'.1 207 12 = T'.1 317 0 ∧ ((b = 1 ∧ ok S' ∧ ∃ T2, T2.1 325 = T'.1 325 ∧ RS srt S' T2 ∧ (srt = 0 → CX S' T')) ∨ (b = 0 ∧ ¬ ok S')) := fun T hT h5 h4 => by
    obtain ⟨S2, b, T', z1, z2, -, -, z5, -, z7, -, z9, z10, z11⟩ := rd T hT h5 h4
    have e : S' = S2 := Option.some.inj (y1.symm.trans z1)
    subst e
    exact ⟨b, T', z2, z5, z7, z9, z10, z11⟩
  have hkne : ¬ nI k = -2 := by
    rcases (show k = 0 ∨ k = 1 by omega) with rfl | rfl <;> decide
  have head : ∀ r : Option (Int32 × GS), (if S'.1 207 11 = 0 then (c1 (some 1) 9 (clT (S'.1 207 11) (S'.1 207 12) S') (fun o' => f_X9_keep o' (nI srt) (nI k) (some 207) (clT (S'.1 207 11) (S'.1 207 12) S')) fun S23 => some (nI k, S23)) else some (-1, clT (S'.1 207 11) (S'.1 207 12) S')) = r → f_X11_text 0 (nI srt) y S = r := fun r hr => by
    rw [← hr]
    unfold f_X11_text
    rw [r_0_0 hW, k_1 hW, hn, b1_s, if_neg hkne, r_0_3 hW, r_0_0 hW, k_207 hW, y1, b1_s, r_0_0 y6, r_0_3 y6, i_207 y6, r_0_3 y6, i_207 y6, k_1 y6, close_v y6, b1_s, r_0_3 hW17, i_207 hW17, show (clT (S'.1 207 11) (S'.1 207 12) S').1 207 11 = S'.1 207 11 by rw [clT_o (by decide)]]
    split
    · rw [r_0_0 hW17, r_0_3 hW17]
    · rfl
  by_cases ho : ok S'
  · have hc17 : (clT (S'.1 207 11) (S'.1 207 12) S').1 3 srt = nI c := by
      rw [clT_o (by decide), hlow 3 (by decide)]
      exact hc.2
    obtain ⟨S23, g1, g2, g3, g4, g5⟩ := keep_v hs hk hW17 hc17 hc2
    have hW23 : Wr S23 := wr_2 (by rw [g2]) hW17
    have hlo : 10 ≤ plo srt ∧ phi srt + 21 * k ≤ 52 := by
      rcases (show srt = 0 ∨ srt = 1 ∨ srt = 2 ∨ srt = 3 ∨ srt = 4 ∨ srt = 5 by omega) with rfl | rfl | rfl | rfl | rfl | rfl <;> simp [plo, phi] <;> omega
    have hi23 : ∀ o, 206 ≤ o → S23.1 o = S'.1 o := fun o ho => by rw [g3 o (by omega) (by omega), clT_o (by omega)]
    obtain ⟨b2, T2', m1, m2, m3, m4, m5, m6⟩ := again S23 hW23 (by rw [hi23 _ (by decide), hlow _ (by decide)]) (by rw [hi23 _ (by decide), hlow _ (by decide)])
    obtain ⟨rfl, -, T2, n2, n3, n4⟩ := m6.resolve_right (fun z => z.2 ho)
    have hWT : Wr (sI T2' 318 srt (nI (if k < c then c else k + 1))) := m3
    obtain ⟨F, s1, s2, s3, s4, s5⟩ := store_v hs hk hWT
    have hWF : Wr F := wr_2 (by rw [s2]) hWT
    have e318 : T2'.1 318 = S.1 318 := by rw [m2.2.1 318 (by decide) (by decide) (by decide) (by decide) (by decide), M0_o (by decide) (by decide) (by decide) (by decide), hi23 _ (by decide), hlow _ (by decide)]
    -- the reference's end
    have h118 : ∀ z : Int32, nI c + z = nI (if k < c then c else k + 1) → f_X12_text_118 313 (nI srt) (nI k) (some 318) (nI srt) (nI c) z T2' = some (nI k, F) := fun z hz => by
      unfold f_X12_text_118
      rw [hz, q_318 m3 (show srt < 24 by omega), k_313 hWT, s1, b1_s]
    have hend : f_X12_text 313 (nI srt) y S23 = some (nI k, F) := by
      rw [hM S23 hW23 (by rw [hi23 _ (by decide), hlow _ (by decide)])]
      unfold f_X12_text_75 f_X12_text_100
      rw [kk_313 (show Wr (M0 S23) from hW23), m1, b2_s, if_neg n10]
      rcases hcase with ⟨z1, z2⟩ | ⟨z1, z2⟩
      · have hy : ¬ y = -1 := by
          rw [z2]
          exact nI_neg1 k (by omega)
        rw [if_neg hy, r_313_5 m3, y_318 m3 (show srt < 24 by omega), e318, hc.1, if_neg hy, z2]
        exact h118 0 (by rw [if_pos z1]; exact Int32.add_zero _)
      · rw [if_pos z2, r_313_5 m3, y_318 m3 (show srt < 24 by omega), e318, hc.1, r_313_5 m3, y_318 m3 (show srt < 24 by omega), e318, hc.1, if_pos z2, show nI c = nI k by rw [z1]]
        have := h118 1 (by rw [if_neg (by omega), nI_1, z1])
        rw [show nI c = nI k by rw [z1]] at this
        exact this
    refine ⟨nI k, S23, F, head _ ?_, hend, ?_⟩
    · rw [if_pos (show S'.1 207 11 = 0 from ho), k_1 hW17, g1, b1_s]
    -- the relation
    have eF : ∀ o, o ≠ 313 → o ≠ 315 → o ≠ 316 → o ≠ 317 → o ≠ 318 → ¬ (319 ≤ o ∧ o < 325) → o ≠ 325 → o ≠ 326 → F.1 o = S23.1 o := fun o h1 h2 h3 h4 h5 h6 h7 h8 => by
      rw [s3 o (by omega), sI_o h5, m2.2.1 o h1 h7 h8 h3 h4, M0_o h1 h2 h3 h4]
    have ecls : ∀ o, 3 < o → o < 206 → ¬ (plo srt + 21 * k ≤ o ∧ o < phi srt + 21 * k) → F.1 o = S.1 o := fun o h1 h2 h3 => by
      rw [eF o (by omega) (by omega) (by omega) (by omega) (by omega) (by omega) (by omega) (by omega), g3 o (by omega) h3, clT_o (by omega), hlow o (by omega)]
    have e1 : F.1 1 = (clT (S'.1 207 11) (S'.1 207 12) S').1 1 := by
      rw [eF 1 (by decide) (by decide) (by decide) (by decide) (by decide) (by decide) (by decide) (by decide), g3 1 (by decide) (by omega)]
    have esrc : ∀ o, 207 ≤ o → o < 230 → F.1 o = S'.1 o := fun o h1 h2 => by
      rw [eF o (by omega) (by omega) (by omega) (by omega) (by omega) (by omega) (by omega) (by omega), hi23 o (by omega)]
    have hc' : ((if k < c then c else k + 1) = c ∧ k < c) ∨ ((if k < c then c else k + 1) = c + 1 ∧ k = c) := by
      by_cases z : k < c
      · rw [if_pos z]
        exact Or.inl ⟨rfl, z⟩
      · rw [if_neg z]
        rcases hcase with ⟨z1, -⟩ | ⟨z1, -⟩
        · exact absurd z1 z
        · exact Or.inr ⟨by omega, z1⟩
    have e17 : ∀ o, 1 < o → (clT (S'.1 207 11) (S'.1 207 12) S').1 o = S'.1 o := fun o ho => clT_o (by omega)
    have hcf : CFs srt k S' F := by
      have eD : ∀ o, 10 ≤ o → o < 206 → F.1 o = S23.1 o := fun o h1 h2 => eF o (by omega) (by omega) (by omega) (by omega) (by omega) (by omega) (by omega) (by omega)
      have t : ∀ {o o' N : Nat}, 1 < o → 10 ≤ o' → o' + 1 < 206 → CpF o o' N (clT (S'.1 207 11) (S'.1 207 12) S') S23 → CpF o o' N S' F := fun {o o' N} h1 h2 h3 hh => ((hh.src (e17 o h1) (e17 (o + 1) (by omega)) (e17 o' (by omega)))).mv (eD o' h2 (by omega)) (eD (o' + 1) (by omega) h3)
      obtain ⟨a0, a1, a2, a3, a4, a5⟩ := g5
      refine ⟨fun w => ?_, fun w => t (by decide) (by omega) (by omega) (a1 w), fun w => t (by decide) (by omega) (by omega) (a2 w), fun w => ⟨t (by decide) (by omega) (by omega) (a3 w).1, t (by decide) (by omega) (by omega) (a3 w).2⟩, fun w => t (by decide) (by omega) (by omega) (a4 w), fun w => t (by decide) (by omega) (by omega) (a5 w)⟩
      obtain ⟨x1, x2, x3, x4, x5⟩ := a0 w
      rw [e17 209 (by decide)] at x4
      rw [e17 216 (by decide)] at x5
      refine ⟨t (by decide) (by omega) (by omega) x1, t (by decide) (by omega) (by omega) x2, t (by decide) (by omega) (by omega) x3, ?_, fun i hi => ?_⟩
      · rw [eD _ (by omega) (by omega)]
        exact x4
      · rw [eD _ (by omega) (by omega)]
        exact x5 i hi
    have earr : ∀ a, 319 ≤ a → a < 325 → ∀ i, ¬ (a = 319 + srt ∧ pwi srt * k ≤ i ∧ i < pwi srt * k + pwi srt) → F.1 a i = S.1 a i := fun a h1 h2 i hi => by
      have e : (sI T2' 318 srt (nI (if k < c then c else k + 1))).1 a = S.1 a := by
        rw [sI_o (by omega), m2.2.1 a (by omega) (by omega) (by omega) (by omega) (by omega), M0_o (by omega) (by omega) (by omega) (by omega), hi23 a (by omega), hlow a (by omega)]
      by_cases z : a = 319 + srt
      · subst z
        rw [s5 i (fun w => hi ⟨rfl, w⟩), e]
      · rw [s3 a z, e]
    have hst : ∀ i, i < pwi srt → F.1 (319 + srt) (pwi srt * k + i) = T2'.1 325 i := fun i hi => by
      rw [s4 i hi, sI_o (by decide)]
    have eM : ∀ o, o ≠ 318 → ¬ (319 ≤ o ∧ o < 325) → F.1 o = T2'.1 o := fun o h5 h6 => by rw [s3 o (by omega), sI_o h5]
    refine h.keep hWF hs hk ecls ?_ earr (np hs hk h n3 ho n4 n2 hcf (fun x hx => hlow x (by omega)) hst) ?_ ⟨?_, ?_⟩ (fun i hi => ?_) ?_ (fun i hi => ?_) ?_ (fun i hi => ?_) hc hc' (by rcases hc' with z | z <;> omega) ?_ ?_ ?_ ?_ ?_ ?_
    · rw [eF 2 (by decide) (by decide) (by decide) (by decide) (by decide) (by decide) (by decide) (by decide), g3 2 (by decide) (by omega), clT_o (by decide), hlow 2 (by decide)]
    · rw [eF 314 (by decide) (by decide) (by decide) (by decide) (by decide) (by decide) (by decide) (by decide), hi23 _ (by decide), hlow _ (by decide)]
    · rw [e1]
      rfl
    · rw [eM 315 (by decide) (by decide), m2.2.1 315 (by decide) (by decide) (by decide) (by decide) (by decide)]
      rfl
    · rw [eM 315 (by decide) (by decide), m2.2.1 315 (by decide) (by decide) (by decide) (by decide) (by decide), M0_315 hi, hi23 _ (by decide), hlow _ (by decide)]
    · rw [e1, eM 316 (by decide) (by decide)]
      exact m4
    · rw [eM 316 (by decide) (by decide), (m2.2.2 i hi).1, M0_316 hi, hi23 _ (by decide), hlow _ (by decide)]
    · rw [e1, eM 317 (by decide) (by decide)]
      exact m5
    · rw [eM 317 (by decide) (by decide), (m2.2.2 i hi).2, M0_317 hi, hi23 _ (by decide), hlow _ (by decide)]
    · rw [eF 3 (by decide) (by decide) (by decide) (by decide) (by decide) (by decide) (by decide) (by decide), g4, clT_o (by decide), hlow 3 (by decide)]
    · rw [s3 318 (by omega), up_f, e318]
    · rw [eF 206 (by decide) (by decide) (by decide) (by decide) (by decide) (by decide) (by decide) (by decide), hi23 _ (by decide), hlow _ (by decide)]
    · rw [eF 342 (by decide) (by decide) (by decide) (by decide) (by decide) (by decide) (by decide) (by decide), hi23 _ (by decide), hlow _ (by decide)]
    · rw [eF 309 (by decide) (by decide) (by decide) (by decide) (by decide) (by decide) (by decide) (by decide), hi23 _ (by decide), hlow _ (by decide)]
    · exact y8.at (fun o h1 h2 h3 => esrc o (by omega) h2)
  · have e17 : ∀ o, o ≠ 1 → (clT (S'.1 207 11) (S'.1 207 12) S').1 o = S'.1 o := fun o ho => clT_o ho
    obtain ⟨b2, T2', m1, m2, m3, m4, m5, m6⟩ := again (clT (S'.1 207 11) (S'.1 207 12) S') hW17 (by rw [e17 _ (by decide), hlow _ (by decide)]) (by rw [e17 _ (by decide), hlow _ (by decide)])
    rcases m6 with ⟨-, z, -⟩ | ⟨rfl, -⟩
    · exact absurd z ho
    refine ⟨-1, clT (S'.1 207 11) (S'.1 207 12) S', T2', head _ (by rw [if_neg (show ¬ S'.1 207 11 = 0 from ho)]), ?_, ?_⟩
    · rw [hM _ hW17 (by rw [e17 _ (by decide), hlow _ (by decide)])]
      unfold f_X12_text_75
      rw [kk_313 (show Wr (M0 (clT (S'.1 207 11) (S'.1 207 12) S')) from hW17), m1, b2_s, if_pos rfl]
    · have eF : ∀ o, o ≠ 313 → o ≠ 315 → o ≠ 316 → o ≠ 317 → o ≠ 325 → o ≠ 326 → T2'.1 o = (clT (S'.1 207 11) (S'.1 207 12) S').1 o := fun o h1 h2 h3 h4 h7 h8 => by
        rw [m2.2.1 o h1 h7 h8 h3 h4, M0_o h1 h2 h3 h4]
      have e1 : T2'.1 1 = (clT (S'.1 207 11) (S'.1 207 12) S').1 1 := eF 1 (by decide) (by decide) (by decide) (by decide) (by decide) (by decide)
      refine h.tape2 m3 (fun o hP h1 => ?_) ?_ ⟨?_, ?_⟩ (fun i hi => ?_) ?_ (fun i hi => ?_) ?_ (fun i hi => ?_) ?_
      · rw [eF o (by omega) (by omega) (by omega) (by omega) (by omega) (by omega), e17 o h1, hlow o (by omega)]
      · rw [eF 314 (by decide) (by decide) (by decide) (by decide) (by decide) (by decide), e17 _ (by decide), hlow _ (by decide)]
      · rw [e1]
        rfl
      · rw [m2.2.1 315 (by decide) (by decide) (by decide) (by decide) (by decide)]
        rfl
      · rw [m2.2.1 315 (by decide) (by decide) (by decide) (by decide) (by decide), M0_315 hi, e17 _ (by decide), hlow _ (by decide)]
      · rw [e1]
        exact m4
      · rw [(m2.2.2 i hi).1, M0_316 hi, e17 _ (by decide), hlow _ (by decide)]
      · rw [e1]
        exact m5
      · rw [(m2.2.2 i hi).2, M0_317 hi, e17 _ (by decide), hlow _ (by decide)]
      · refine y8.at (fun o h1 h2 h3 => ?_)
        rw [eF o (by omega) (by omega) (by omega) (by omega) (by omega) (by omega), e17 o (by omega)]
end TX
