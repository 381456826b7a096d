/-! texts: how the reference's reading begins; a reading as a whole -/
section MF
variable {α : Type} {L : Nat} {B : Nat → Nat} {S S' T T' S0 T0 : GS} {s e k f c o w m p q n d e0 v sl srt : Nat} {R : GS → GS → Prop} {V : (Nat → Int32) → Prop}
def tDef (srt i : Nat) : Int32 := if srt = 0 then (if i = 3 then 2 else if i = 4 then 3 else if i = 5 then 30 else if i = 6 ∨ i = 7 ∨ i = 8 then 1 else 0) else 0
theorem zero_l (hs : srt < 6) : ∀ (d j N : Nat) (T : GS), j + d = 122 → d < N → Wr T → (∀ i, i < j → T.1 325 i = 0) → ∃ T', f_X12_readText_2 313 N (nI srt) (nI j) T = f_X12_readText_71 313 (nI srt) T' ∧ T'.2 = T.2 ∧ (∀ o, o ≠ 325 → T'.1 o = T.1 o) ∧ ∀ i, i < 122 → T'.1 325 i = tDef srt i
  | _, _, 0, _, _, hN, _, _ => absurd hN (Nat.not_lt_zero _)
  | 0, j, N + 1, T, hj, _, hW, hz => by
    have hj : j = 122 := hj
    subst hj
    rw [f_X12_readText_2, if_pos (show (122 : Int32) ≤ nI 122 by decide)]
    by_cases q : srt = 0
    · subst q
      have hW1 : Wr (sI T 325 3 2) := hW
      have hW2 : Wr (sI (sI T 325 3 2) 325 4 3) := hW
      have hW3 : Wr (sI (sI (sI T 325 3 2) 325 4 3) 325 5 30) := hW
      have hW4 : Wr (sI (sI (sI (sI T 325 3 2) 325 4 3) 325 5 30) 325 6 1) := hW
      have hW5 : Wr (sI (sI (sI (sI (sI T 325 3 2) 325 4 3) 325 5 30) 325 6 1) 325 7 1) := hW
      refine ⟨sI (sI (sI (sI (sI (sI T 325 3 2) 325 4 3) 325 5 30) 325 6 1) 325 7 1) 325 8 1, ?_, rfl, fun o ho => ?_, fun i hi => ?_⟩
      · rw [if_pos (show nI 0 = 0 from rfl), r_313_21 hW, show qI (some 325) 3 2 T _ = _ from q_325 (k := 3) hW (by decide), r_313_21 hW1, show qI (some 325) 4 3 (sI T 325 3 2) _ = _ from q_325 (k := 4) hW1 (by decide), r_313_21 hW2, show qI (some 325) 5 30 (sI (sI T 325 3 2) 325 4 3) _ = _ from q_325 (k := 5) hW2 (by decide), r_313_21 hW3, show qI (some 325) 6 1 (sI (sI (sI T 325 3 2) 325 4 3) 325 5 30) _ = _ from q_325 (k := 6) hW3 (by decide), r_313_21 hW4, show qI (some 325) 7 1 (sI (sI (sI (sI T 325 3 2) 325 4 3) 325 5 30) 325 6 1) _ = _ from q_325 (k := 7) hW4 (by decide), r_313_21 hW5, show qI (some 325) 8 1 (sI (sI (sI (sI (sI T 325 3 2) 325 4 3) 325 5 30) 325 6 1) 325 7 1) _ = _ from q_325 (k := 8) hW5 (by decide)]
      · rw [sI_o ho, sI_o ho, sI_o ho, sI_o ho, sI_o ho, sI_o ho]
      · unfold tDef
        rw [if_pos rfl, sI_at, sI_at, sI_at, sI_at, sI_at, sI_at]
        by_cases a3 : i = 3
        · subst a3
          rfl
        by_cases a4 : i = 4
        · subst a4
          rfl
        by_cases a5 : i = 5
        · subst a5
          rfl
        by_cases a6 : i = 6
        · subst a6
          rfl
        by_cases a7 : i = 7
        · subst a7
          rfl
        by_cases a8 : i = 8
        · subst a8
          rfl
        rw [if_neg a8, if_neg a7, if_neg a6, if_neg a5, if_neg a4, if_neg a3, if_neg a3, if_neg a4, if_neg a5, if_neg (by omega)]
        exact hz i hi
    · refine ⟨T, ?_, rfl, fun _ _ => rfl, fun i hi => ?_⟩
      · rw [if_neg (show ¬ nI srt = 0 from fun z => q ((nI_eq (b := 0) (by omega) (by decide)).mp z))]
      · unfold tDef
        rw [if_neg q]
        exact hz i hi
  | d + 1, j, N + 1, T, hj, hN, hW, hz => by
    obtain ⟨T', g1, g2, g3, g4⟩ := zero_l hs d (j + 1) N (sI T 325 j 0) (by omega) (by omega) hW (fun i hi => by
      rw [sI_at]
      by_cases y : i = j
      · rw [if_pos y]
      · rw [if_neg y]
        exact hz i (by omega))
    refine ⟨T', ?_, g2, fun o ho => by rw [g3 o ho, sI_o ho], g4⟩
    rw [f_X12_readText_2, if_neg (show ¬ (122 : Int32) ≤ nI j from nI_ge (b := 122) (by omega) (by decide)), r_313_21 hW, q_325 hW (by omega), nI_1]
    exact g1
/-- where a text's lines begin: the class's rows, the reference's -/
def St (srt : Nat) (S T : GS) : Prop := Emp S ∧ (∀ i, i < 122 → T.1 325 i = tDef srt i) ∧ T.1 313 23 = -1 ∧ T.2.1 313 24 = 0
theorem St.tk (h : St srt S T) (h1 : FT S S') (h2 : FMt T T') : St srt S' T' := by
  obtain ⟨⟨a1, a2, a3, a4⟩, b, c, d⟩ := h
  refine ⟨⟨a1.tk h1, ?_, ?_, ?_⟩, ?_, ?_, ?_⟩
  · rw [h1.at (o := 210) (by decide), h1.at (o := 212) (by decide), h1.at (o := 214) (by decide), h1.at (o := 218) (by decide), h1.at (o := 220) (by decide), h1.at (o := 222) (by decide), h1.at (o := 224) (by decide), h1.at (o := 226) (by decide), h1.at (o := 228) (by decide)]
    exact a2
  · rw [h1.at (o := 209) (by decide)]
    exact a3
  · rw [h1.at (o := 216) (by decide)]
    exact a4
  · rw [h2.told]
    exact b
  · rw [h2.2.2 313 23 (by omega)]
    exact c
  · rw [h2.2.1 313 24 (by omega)]
    exact d
theorem rln_0 (h : RwR S o w m) (h3 : S.1 o 3 = 0) (hp : T.1 325 p = 0) : RLn S T o w m p q V 0 := by
  obtain ⟨a, b, -⟩ := h
  exact ⟨a, b, Nat.zero_le _, h3, hp, fun _ => ⟨fun k hk => absurd hk (Nat.not_lt_zero _), fun k hk => absurd hk (Nat.not_lt_zero _)⟩⟩
/-- what a text's reading comes to, from before it began -/
def RdF (srt : Nat) (R : GS → GS → Prop) (S T : GS) (C : Option GS) (M : Option (Int32 × GS)) : Prop := ∃ S' b T', C = some S' ∧ M = some (b, T') ∧ S'.2 = S.2 ∧ (∀ o, (o < 207 ∨ 230 ≤ o) → S'.1 o = S.1 o) ∧ FMy T T' ∧ Wr S' ∧ Wr T' ∧ RwD S' ∧ S'.1 207 11 = T'.1 316 0 ∧ S'.1 207 12 = T'.1 317 0 ∧ ((b = 1 ∧ ok S' ∧ ∃ T2, T2.1 325 = T'.1 325 ∧ R S' T2 ∧ (srt = 0 → CX S' T')) ∨ (b = 0 ∧ ¬ ok S'))
theorem read_g {CL : GS → Option GS} {ML : Int64 → Int32 → GS → Option (Int32 × GS)} (hs : srt < 6) (hH : ∀ L B, LineH L B srt R CL ML) (hst : ∀ S T, St srt S T → R S T) (hfin : ∀ L B S0 T0 S T, TB L B S T → Tk L B S T L L 0 → FA L S T → FCx S0 S → FMx T0 T → R S T → RdE srt R S0 T0 (f_X5_readAll_113 207 (nI srt) S) (endM (nI srt) 1 T))
    (hW : Wr S) (hT : Wr T) (hD : RwD S) (hl : S.1 1 8 = nI L) (hL : L ≤ 600) (hm : T.1 313 13 = nI L) (hb : ∀ i, i < 600 → S.1 2 i = T.1 314 i) : RdF srt R S T (f_X5_readAll 207 (nI srt) (some 1) S) (f_X12_readText 313 (nI srt) T) := by
  have hfu : fu = 4096 := rfl
  obtain ⟨S1, c1', c2', c3', c4', c5', c6', c7', c8', c9'⟩ := beg_C hW hD hl hL
  obtain ⟨T1, m1, m2, m3, m4⟩ := zero_l hs 122 0 fu T (by omega) (by omega) hT (fun i hi => absurd hi (Nat.not_lt_zero _))
  have hWs : Wr S1 := wr_2 (by rw [c2']) hW
  have hWt : Wr T1 := wr_2 (by rw [m2]) hT
  -- the reference's fields before the first token
  have hW1 : Wr (sI T1 313 23 (-1)) := hWt
  have hW2 : Wr (sJ (sI T1 313 23 (-1)) 313 24 0) := hWt
  have hW3 : Wr (sI (sJ (sI T1 313 23 (-1)) 313 24 0) 313 12 0) := hWt
  have hW4 : Wr (sI (sI (sJ (sI T1 313 23 (-1)) 313 24 0) 313 12 0) 313 19 0) := hWt
  have f2 : FMx T (sI (sI (sJ (sI T1 313 23 (-1)) 313 24 0) 313 12 0) 313 19 0) := ⟨by show T1.2.2 = T.2.2; rw [m2], fun o h1 h2 h3 => by
    rw [sI_o h1, sI_o h1]
    show (sI T1 313 23 (-1)).1 o = T.1 o
    rw [sI_o h1, m3 o h2]⟩
  have e13 : (sI (sI (sJ (sI T1 313 23 (-1)) 313 24 0) 313 12 0) 313 19 0).1 313 13 = nI L := by
    show T1.1 313 13 = nI L
    rw [m3 313 (by decide)]
    exact hm
  have e325 : ∀ i, i < 122 → (sI (sI (sJ (sI T1 313 23 (-1)) 313 24 0) 313 12 0) 313 19 0).1 325 i = tDef srt i := m4
  have e12 : (sI (sI (sJ (sI T1 313 23 (-1)) 313 24 0) 313 12 0) 313 19 0).1 313 12 = nI 0 := rfl
  have e19 : (sI (sI (sJ (sI T1 313 23 (-1)) 313 24 0) 313 12 0) 313 19 0).1 313 19 = 0 := rfl
  have e23 : (sI (sI (sJ (sI T1 313 23 (-1)) 313 24 0) 313 12 0) 313 19 0).1 313 23 = -1 := rfl
  have e24 : (sI (sI (sJ (sI T1 313 23 (-1)) 313 24 0) 313 12 0) 313 19 0).2.1 313 24 = 0 := rfl
  have hM : f_X12_readText 313 (nI srt) T = c1 (some 313) 12 (sI (sI (sJ (sI T1 313 23 (-1)) 313 24 0) 313 12 0) 313 19 0) (fun o' => f_X12_token o' (sI (sI (sJ (sI T1 313 23 (-1)) 313 24 0) 313 12 0) 313 19 0)) fun S6 => c2 (some 313) 12 S6 (fun o' => f_X12_lines o' (nI srt) S6) fun v7 S8 => endM (nI srt) v7 S8 := by
    unfold f_X12_readText
    rw [show f_X12_readText_2 313 fu (nI srt) 0 T = _ from m1]
    unfold f_X12_readText_71
    rw [p_313 hWt, pj_313 hW1, p_313 hW2, p_313 hW3]
    rfl
  generalize sI (sI (sJ (sI T1 313 23 (-1)) 313 24 0) 313 12 0) 313 19 0 = T2 at hW4 f2 e13 e325 e12 e19 e23 e24 hM
  have hTB : TB L (fun i => (S1.1 208 i &&& 255).toNatClampNeg) S1 T2 := ⟨hWs, hW4, hL, c4', e13, fun i hi => by
    obtain ⟨b, b1', b2'⟩ := and255 (S1.1 208 i)
    have e : T2.1 314 i = S1.1 208 i := by
      rw [f2.2 314 (by decide) (by decide) (by decide), ← hb i (by omega), c5' i (by omega)]
    have e2 : (S1.1 208 i &&& 255).toNatClampNeg = b := by rw [b2', nI_clamp (by omega)]
    show (S1.1 208 i &&& 255).toNatClampNeg < 256 ∧ S1.1 208 i &&& 255 = nI (S1.1 208 i &&& 255).toNatClampNeg ∧ T2.1 314 i &&& 255 = nI (S1.1 208 i &&& 255).toNatClampNeg
    rw [e2, e, b2']
    exact ⟨b1', rfl, rfl⟩⟩
  have hSt : St srt S1 T2 := ⟨c9', e325, e23, e24⟩
  obtain ⟨S2, T3, s, e, k, t1, t2, t3, t4, t5, t6, t7⟩ := tok_both hTB (Nat.zero_le _) c8' e12
  have hB3 := (hTB.ft t3).fm t4
  have hF3 : FA s S2 T3 := by
    unfold FA
    rw [t3.2 _ _ (by omega), t3.2 _ _ (by omega)]
    exact Or.inl ⟨c6', by rw [t4.2.2 _ _ (by omega)]; exact e19, c7'⟩
  have hR3 := hst _ _ (hSt.tk t3 t4)
  obtain ⟨S', T', l1, l2, l3, l4⟩ := lines_l (hH L _) hL 600 0 fu fu S2 T3 s e k (by omega) (Nat.zero_le _) (by omega) (by omega) hB3 t7 hF3 hR3
  have hC : f_X5_readAll 207 (nI srt) (some 1) S = f_X5_readAll_113 207 (nI srt) S' := by
    unfold f_X5_readAll
    rw [k_207 hW, c1', t1, b1_s]
    exact l1
  have fin : ∀ v, f_X12_lines 313 (nI srt) T3 = some (v, T') → f_X12_readText 313 (nI srt) T = endM (nI srt) v T' := fun v hv => by
    rw [hM, k_313 hW4, t2, b1_s, kk_313 hB3.2.1, hv, b2_s]
  have out : ∀ v, f_X12_lines 313 (nI srt) T3 = some (v, T') → RdE srt R S2 T3 (f_X5_readAll_113 207 (nI srt) S') (endM (nI srt) v T') → RdF srt R S T (f_X5_readAll 207 (nI srt) (some 1) S) (f_X12_readText 313 (nI srt) T) := fun v hv ⟨Sf, b, Tf, y1, y2, y3, y4, y5, y6, y7, y8, y9, y10⟩ => by
    rw [hC, fin v hv]
    refine ⟨Sf, b, Tf, y1, y2, y3.1.trans (t3.1.trans c2'), fun o ho => ?_, (f2.tr t4.fm.x).y.tr y4, y5, y6, y7, y8, y9, y10⟩
    rw [y3.2.1 o ho, t3.at (by omega), c3' o ho]
  rcases l4 with ⟨x1, x2, x3, x4, x5⟩ | ⟨x1, x2, x3, x4, x5, x6⟩
  · exact out 1 x1 (hfin L _ S2 T3 S' T' x2 x3 x4 l2 l3 x5)
  · exact out 0 x1 (fin_b x2 x3 l2 l3 hs x4 x5 x6)
end MF
