/-! texts: marks, both sides -/
section LO
variable {α : Type} {L : Nat} {B : Nat → Nat} {S S' T T' S0 T0 : GS} {s e k f c o w m p q n d e0 v : Nat} {V : (Nat → Int32) → Prop} {P P' : (Nat → Int32) → (Nat → Int32) → Prop} {R : GS → GS → Prop}
/-- a mark too many, where there was no fault: one of the number counts first -/
theorem mark_full (h : TB L B S T) (hk : Tk L B S T s e 2) (hF : FA s S T) (hG : GF S T) (hn : S.1 224 3 = nI 16) (ho : ok S) : ∃ S' T0 T1 s' e' k', f_X5_readMark 207 S = some S' ∧ f_X12_full 313 0 16 (nI s) T = some T0 ∧ f_X12_take 313 0 0 40 T0 = some (1, T1) ∧ f_X12_keep 313 0 1 1 16 T1 = some T1 ∧ Wr T0 ∧ Wr T1 ∧ FC 224 S S' ∧ FM T T1 ∧ TB L B S' T1 ∧ Tk L B S' T1 s' e' k' ∧ FA s' S' T1 ∧ e ≤ s' ∧ s' ≤ L ∧ GF S' T1 := by
  have hL := h.2.2.1
  have hle := hk.le
  have hlt := hk.2.2.2.2.2.2.2.2.1 (by decide)
  have heL := hk.2.2.2.2.2.2.1
  obtain ⟨hD, n, hR⟩ := id hG
  have hn16 : n = 16 := (nI_eq (by have := hR.2.2.1; omega) (by decide)).mp (hR.2.2.2.1.symm.trans hn)
  subst hn16
  obtain ⟨r0, r1, r2, r3, r4, r5⟩ := id hR
  obtain ⟨v1, v2, v3⟩ := val_v h hk
  have h16 : T.1 313 16 = nI (nv B s (e - s)) := v2
  generalize nv B s (e - s) = v at *
  have hnb := FAv.nb hF
  -- the reference: full
  have hW0 : Wr (sI (sI T 313 19 3) 313 20 (nI s)) := h.2.1
  have g1 : f_X12_full 313 0 16 (nI s) T = some (sI (sI T 313 19 3) 313 20 (nI s)) := by
    unfold f_X12_full
    rw [r_313_21 h.2.1, show yI (some 325) 14 0 T _ = _ from y_325 (k := 0) h.2.1 (by decide), r4, if_pos (show nI 16 = 16 from rfl), k_313 h.2.1, later_v h.2.1 hF (by omega), b1_s, if_pos (show S.1 207 11 = 0 from ho)]
  have hk0 : Tk L B S (sI (sI T 313 19 3) 313 20 (nI s)) s e 2 := hk.mv (fun _ _ _ => rfl) (fun i hi => by rw [sI_at, if_neg (by omega), sI_at, if_neg (by omega)]) rfl
  have f0 : FM T (sI (sI T 313 19 3) 313 20 (nI s)) := (FM.I (by omega)).tr (FM.I (by omega))
  have c0 : (sI (sI T 313 19 3) 313 20 (nI s)).1 313 19 = 3 := rfl
  have d0 : (sI (sI T 313 19 3) 313 20 (nI s)).1 313 20 = nI s := rfl
  have e0' : (sI (sI T 313 19 3) 313 20 (nI s)).1 313 16 = nI v := h16
  generalize sI (sI T 313 19 3) 313 20 (nI s) = T0 at g1 hk0 f0 c0 d0 e0' hW0
  -- the heads
  have two0 : ¬ (2 : Int32) = 0 := by decide
  have hC : f_X5_takeNumber 207 0 40 S = f_X5_takeNumber_45 207 (nI v) (if 40 < v then sI (sI S 207 11 2) 207 12 (nI s) else S) := by
    unfold f_X5_takeNumber f_X5_isBroken f_X5_takeNumber_36
    rw [i_207 h.1, hk.2.2.1, if_pos (show nI 2 = 2 from rfl), k_207 h.1, i_207 h.1, if_neg hnb, b1_s, if_pos rfl, k_207 h.1, v1, b1_s, if_neg (nI_pos (by omega))]
    by_cases q2 : 40 < v
    · rw [if_neg (show ¬ nI v ≤ 40 from nI_ge (a := 40) q2 (by omega)), if_pos q2, i_207 h.1, hk.1, k_207 h.1, note_v h.1, b1_s, if_pos (show S.1 207 11 = 0 from ho)]
    · rw [if_pos (show nI v ≤ 40 from nI_le (b := 40) (by omega) (by decide)), if_neg q2]
  have hW1 : Wr (sI T0 326 0 (nI v)) := hW0
  have hM : f_X12_takeBut 313 0 0 40 (-1) T0 = f_X12_takeBut_53 313 (if 40 < v then sI (sI (sI T0 326 0 (nI v)) 313 19 2) 313 20 (nI s) else sI T0 326 0 (nI v)) := by
    have e16 : (sI T0 326 0 (nI v)).1 313 16 = nI v := e0'
    have e14 : (sI T0 326 0 (nI v)).1 313 14 = nI s := hk0.2.2.2.1
    have e19 : (sI T0 326 0 (nI v)).1 313 19 = 3 := c0
    have e20 : (sI T0 326 0 (nI v)).1 313 20 = nI s := d0
    unfold f_X12_takeBut f_X12_takeBut_44 f_X12_later f_X12_later_31
    rw [i_313 hW0, hk0.2.2.2.2.2.1, if_pos (show nI (kM 2) = 3 from rfl), r_313_22 hW0, i_313 hW0, e0', show qI (some 326) 0 (nI v) T0 _ = _ from q_326 (k := 0) hW0 (by decide), i_313 hW1, e16]
    by_cases q : 40 < v
    · rw [show f_X12_in (nI v) 0 40 _ = some 0 from in_n (a := 0) (b := 40) (by omega) (by omega) (by decide), b1_s, if_pos rfl, if_pos q, i_313 hW1, e14, k_313 hW1, i_313 hW1, e19, if_neg (by decide), i_313 hW1, e20, if_neg (nI_nlt (Nat.le_refl _) (by omega)), i_313 hW1, e20, if_pos rfl, i_313 hW1, e19, if_neg (by decide), p_313 hW1, p_313 (S := sI (sI T0 326 0 (nI v)) 313 19 2) hW1, b1_s]
    · rw [show f_X12_in (nI v) 0 40 _ = some 1 from in_y (a := 0) (b := 40) (by omega) (by omega) (by decide), b1_s, if_neg n10, i_313 hW1, e16, if_neg (nI_neg1 _ (by omega)), if_neg q]
  -- after the faults: the next token
  have fS : FU S (if 40 < v then sI (sI S 207 11 2) 207 12 (nI s) else S) := by
    split
    · exact (FU.I (by decide) (by decide)).tr (FU.I (by decide) (by decide))
    · exact FU.rf _
  have fT : FM T0 (if 40 < v then sI (sI (sI T0 326 0 (nI v)) 313 19 2) 313 20 (nI s) else sI T0 326 0 (nI v)) := by
    split
    · exact FM.A.tr ((FM.I (by omega)).tr (FM.I (by omega)))
    · exact FM.A
  have aS : (if 40 < v then sI (sI S 207 11 2) 207 12 (nI s) else S).1 207 11 = (if 40 < v then 2 else 0) := by
    split
    · rfl
    · exact ho
  have bS : 40 < v → (if 40 < v then sI (sI S 207 11 2) 207 12 (nI s) else S).1 207 12 = nI s := fun q => by
    rw [if_pos q]
    rfl
  have kS : (if 40 < v then sI (sI S 207 11 2) 207 12 (nI s) else S).1 207 10 = nI e := by
    split
    · exact hk.2.1
    · exact hk.2.1
  have cT : (if 40 < v then sI (sI (sI T0 326 0 (nI v)) 313 19 2) 313 20 (nI s) else sI T0 326 0 (nI v)).1 313 19 = (if 40 < v then 2 else 3) := by
    split
    · rfl
    · exact c0
  have dT : (if 40 < v then sI (sI (sI T0 326 0 (nI v)) 313 19 2) 313 20 (nI s) else sI T0 326 0 (nI v)).1 313 20 = nI s := by
    split
    · rfl
    · exact d0
  have kT : (if 40 < v then sI (sI (sI T0 326 0 (nI v)) 313 19 2) 313 20 (nI s) else sI T0 326 0 (nI v)).1 313 12 = nI e := by
    split
    · exact hk0.2.2.2.2.1
    · exact hk0.2.2.2.2.1
  generalize (if 40 < v then sI (sI S 207 11 2) 207 12 (nI s) else S) = Sa at hC fS aS bS kS
  generalize (if 40 < v then sI (sI (sI T0 326 0 (nI v)) 313 19 2) 313 20 (nI s) else sI T0 326 0 (nI v)) = Ta at hM fT cT dT kT
  have hBa := (h.fu fS).fM (f0.tr fT)
  obtain ⟨S1, T1, s', e', k', t1, t2, t3, t4, t5, t6, t7⟩ := tok_both hBa heL kS kT
  have hC1 : f_X5_takeNumber 207 0 40 S = some (nI v, S1) := by
    rw [hC]
    unfold f_X5_takeNumber_45
    rw [k_207 hBa.1, t1, b1_s]
  have hM1 : f_X12_take 313 0 0 40 T0 = some (1, T1) := take_v _ _ _ (Or.inr rfl) hW0 (by
    rw [hM]
    unfold f_X12_takeBut_53
    rw [k_313 hBa.2.1, t2, b1_s])
  have fS1 : FU S S1 := fS.tr t3.fu
  have hB1 := (hBa.ft t3).fm t4
  have a24 : S1.1 224 = S.1 224 := fS1.at (by decide)
  have e11 : S1.1 207 11 = (if 40 < v then 2 else 0) := by rw [t3.2 _ _ (by omega), aS]
  obtain ⟨S2, S3, S4, x1, x2, x3, x4, x5, x6, x7, x8, x9⟩ := markC hB1.1 (by rw [a24]; exact r0) (by rw [a24]; exact r1) (by rw [a24]; exact r3) (by decide) (nI s) (nI v)
  have fm : FM T T1 := f0.tr (fT.tr t4.fm)
  have e25 : T1.1 325 = T.1 325 := fm.told
  have c1' : T1.1 313 19 = (if 40 < v then 2 else 3) := by rw [t4.2.2 _ _ (by omega), cT]
  have d1' : T1.1 313 20 = nI s := by rw [t4.2.2 _ _ (by omega), dT]
  have fS2 : FU S1 S2 := by
    rw [x3]
    split
    · exact (FU.I (by decide) (by decide)).tr (FU.I (by decide) (by decide))
    · exact FU.rf _
  have hFA : FA s' S4 T1 ∧ ¬ ok S4 := by
    have y11 : S4.1 207 11 = S2.1 207 11 := x5.2 _ _ (by omega) (by decide)
    have y12 : S4.1 207 12 = S2.1 207 12 := x5.2 _ _ (by omega) (by decide)
    unfold FA ok
    rw [y11, y12, x3]
    by_cases q : 40 < v
    · rw [if_pos q] at e11 c1'
      rw [if_neg (fun w => by rw [e11] at w; exact two0 w.2), e11]
      refine ⟨Or.inr ⟨2, s, Or.inl rfl, by omega, rfl, ?_, c1', d1'⟩, two0⟩
      rw [t3.2 _ _ (by omega)]
      exact bS q
    · rw [if_neg q] at e11 c1'
      rw [if_pos ⟨rfl, e11⟩]
      exact ⟨Or.inr ⟨3, s, Or.inr rfl, by omega, rfl, rfl, c1', d1'⟩, show ¬ (3 : Int32) = 0 by decide⟩
  have k207 : ∀ i, i ≤ 10 → S4.1 207 i = S1.1 207 i := fun i hi => by
    rw [x5.2 207 i (by omega) (by decide), x3]
    split
    · rw [sI_at, if_neg (by omega), sI_at, if_neg (by omega)]
    · rfl
  have fs : FC 224 S S4 := fS1.fc.tr (fS2.fc.tr x5.fc)
  refine ⟨S4, T0, T1, s', e', k', readMark_v h.1 hB1.1 (x4.wr (wr_2 (by rw [fS2.1]) hB1.1)) hk.1 hC1 x1 x2, g1, hM1, ?_, hW0, hB1.2.1, fs, fm, (hB1.fu fS2).fc x5.fc (by decide), t7.mv (fun i a b => k207 i b) (fun _ _ => rfl) rfl, hFA.1, t5, t6, hD.fc fs ro7 ⟨x6, x7, _, by split <;> omega, x8⟩, 16, x6, x7, Nat.le_refl _, x8, by rw [e25]; exact r4, fun z => absurd z hFA.2⟩
  unfold f_X12_keep
  rw [r_313_21 hB1.2.1, show yI (some 325) 14 0 T1 _ = _ from y_325 (k := 0) hB1.2.1 (by decide), e25, r4, if_pos (show nI 16 = 16 from rfl)]
/-- a mark -/
theorem mark_yes (h : TB L B S T) (hk : Tk L B S T s e 2) (hF : FA s S T) (hG : GF S T) : ∃ S' T0 T1 T' s' e' k', f_X5_readMark 207 S = some S' ∧ f_X12_full 313 0 16 (nI s) T = some T0 ∧ f_X12_take 313 0 0 40 T0 = some (1, T1) ∧ f_X12_keep 313 0 1 1 16 T1 = some T' ∧ Wr T0 ∧ Wr T1 ∧ FC 224 S S' ∧ FMx T T' ∧ TB L B S' T' ∧ Tk L B S' T' s' e' k' ∧ FA s' S' T' ∧ e ≤ s' ∧ s' ≤ L ∧ GF S' T' := by
  have hL := h.2.2.1
  have hle := hk.le
  have heL := hk.2.2.2.2.2.2.1
  obtain ⟨hD, n, hR⟩ := id hG
  obtain ⟨r0, r1, r2, r3, r4, r5⟩ := id hR
  by_cases hno : n = 16 ∧ ok S
  · obtain ⟨rfl, ho⟩ := hno
    obtain ⟨S', T0, T1, s', e', k', a1, a2, a3, a4, a5, a6, a7, a8, a9, a10, a11, a12, a13, a14⟩ := mark_full h hk hF hG r3 ho
    exact ⟨S', T0, T1, T1, s', e', k', a1, a2, a3, a4, a5, a6, a7, a8.x, a9, a10, a11, a12, a13, a14⟩
  · have g1 : f_X12_full 313 0 16 (nI s) T = some T := by
      unfold f_X12_full
      rw [r_313_21 h.2.1, show yI (some 325) 14 0 T _ = _ from y_325 (k := 0) h.2.1 (by decide), r4]
      by_cases q : n = 16
      · rw [if_pos (show nI n = 16 by rw [q]; rfl), k_313 h.2.1, later_v h.2.1 hF (by omega), b1_s, if_neg (show ¬ S.1 207 11 = 0 from fun z => hno ⟨q, z⟩)]
      · rw [if_neg (show ¬ nI n = 16 from fun z => q ((nI_eq (b := 16) (by omega) (by decide)).mp z))]
    rcases tk_both h hk hF (lo := 0) (hi := 40) (c := 0) (by decide) (by decide) (by decide) with ⟨-, v, S1, T1, s', e', k', t1, t2, f1, m1, hB1, hk1, hF1, l1, l2, u1, v1, o1⟩ | ⟨q2, -, -⟩
    · have a24 : S1.1 224 = S.1 224 := f1.at (by decide)
      have a25 : S1.1 225 = S.1 225 := f1.at (by decide)
      obtain ⟨S2, S3, S4, x1, x2, x3, x4, x5, x6, x7, x8, x9⟩ := markC hB1.1 (by rw [a24]; exact r0) (by rw [a24]; exact r1) (by rw [a24]; exact r3) r2 (nI s) (nI v)
      have hS2 : S2 = S1 := by rw [x3, if_neg (fun w => hno ⟨w.1, (o1 w.2).1⟩)]
      subst hS2
      have k207 : ∀ i, S4.1 207 i = S2.1 207 i := fun i => x5.2 207 i (by omega) (by decide)
      have hR4 : RO S4 T1 224 1 16 0 1 vMark n pMark := by
        refine ⟨x6, x7, r2, x8, by rw [m1.told]; exact r4, fun z => ?_⟩
        obtain ⟨z1, z2, z3⟩ := o1 ((ok_fc (k207 11)).mp z)
        have hlt : n < 16 := by
          have : ¬ n = 16 := fun w => hno ⟨w, z1⟩
          omega
        obtain ⟨y1, y2⟩ := x9 hlt
        obtain ⟨y3, y4⟩ := r5 z1
        refine ⟨hlt, fun k hk i hi => ?_, fun k hk => ?_, fun i hi => ?_, ?_⟩
        · rw [m1.told, ← y3 k hk i hi, ← a25]
          exact y2 _ (by omega)
        · rw [m1.told]
          exact y4 k hk
        · have : i = 0 := by omega
          subst this
          rw [u1, up_at]
          show S4.1 225 (1 * n + 0) = _
          rw [Nat.one_mul]
          exact y1
        · unfold vMark
          rw [u1, up_at]
          exact in_I z2 z3
      obtain ⟨T8, w1, w2, w3', w4, w5, w6, w7, w8, w9⟩ := lx_keep (P := pMark) (e := e) ro7 hD (hB1.fc x5.fc (by decide)) (hk1.mv (fun i _ _ => k207 i) (fun _ _ => rfl) rfl) (show FA s' S4 T1 by unfold FA; rw [k207, k207]; exact hF1) l1 l2 (f1.fc.tr x5.fc) m1.x hR4 (by decide) (by decide) (Or.inl (by decide)) (fun f g z => z) vMark_c
      exact ⟨S4, T, T1, T8, s', e', k', readMark_v h.1 hB1.1 (x4.wr hB1.1) hk.1 t1 x1 x2, g1, t2, w1, h.2.1, hB1.2.1, f1.fc.tr x5.fc, w2, w4, w5, w6, l1, l2, w7, w9⟩
    · exact absurd rfl q2
/-- further marks -/
theorem marks_l : ∀ (d j N M : Nat) (S T : GS) (s e k : Nat), L ≤ s + d → j ≤ s → d < N → d ≤ M → TB L B S T → Tk L B S T s e k → FA s S T → GF S T → ∃ S' T' s' e' k', f_X5_readForecastLine_24 207 N (nI j) S = some S' ∧ mLoop M T = some (1, T') ∧ FC 224 S S' ∧ FMx T T' ∧ TB L B S' T' ∧ Tk L B S' T' s' e' k' ∧ FA s' S' T' ∧ s ≤ s' ∧ s' ≤ L ∧ GF S' T'
  | _, _, 0, _, _, _, _, _, _, _, _, hN, _, _, _, _, _ => absurd hN (Nat.not_lt_zero _)
  | d, j, N + 1, M, S, T, s, e, k, hd, hj, hN, hM, h, hk, hF, hG => by
    have hL := h.2.2.1
    have hle := hk.le
    have heL := hk.2.2.2.2.2.2.1
    by_cases q2 : k = 2
    · subst q2
      have hlt := hk.2.2.2.2.2.2.2.2.1 (by decide)
      obtain ⟨d, rfl⟩ : ∃ d', d = d' + 1 := ⟨d - 1, by omega⟩
      obtain ⟨M, rfl⟩ : ∃ M', M = M' + 1 := ⟨M - 1, by omega⟩
      obtain ⟨S1, T0, T1, T2, s1, e1, k1, a1, a2, a3, a4, a5, a6, a7, a8, a9, a10, a11, a12, a13, a14⟩ := mark_yes h hk hF hG
      obtain ⟨S', T', s', e', k', b1', b2', b3', b4', b5', b6', b7', b8', b9', b10'⟩ := marks_l d (j + 1) N M S1 T2 s1 e1 k1 (by omega) (by omega) (by omega) (by omega) a9 a10 a11 a14
      refine ⟨S', T', s', e', k', ?_, ?_, a7.tr b3', a8.tr b4', b5', b6', b7', by omega, b9', b10'⟩
      · rw [f_X5_readForecastLine_24, if_neg (show ¬ (600 : Int32) ≤ nI j from nI_ge (b := 600) (by omega) (by decide)), i_207 h.1, hk.2.2.1, if_pos (show nI 2 = 2 from rfl), k_207 h.1, show f_X5_isBroken 207 S = some 0 by unfold f_X5_isBroken; rw [i_207 h.1, if_neg (FAv.nb hF)], b1_s, if_pos rfl, k_207 h.1, a1, b1_s, nI_1]
        exact b1'
      · unfold mLoop
        rw [i_313 h.2.1, hk.2.2.2.2.2.1, if_pos (show nI (kM 2) = 3 from rfl), f_X12_forecastLine_17, i_313 h.2.1, hk.2.2.2.1, k_313 h.2.1, a2, b1_s, kk_313 a5, a3, b2_s, if_neg n10, k_313 a6, a4, b1_s]
        exact b2'
    · refine ⟨S, T, s, e, k, ?_, ?_, FC.rf S, ⟨rfl, fun _ _ _ _ => rfl⟩, h, hk, hF, Nat.le_refl _, by omega, hG⟩
      · rw [f_X5_readForecastLine_24]
        split
        · rfl
        · rw [i_207 h.1, hk.2.2.1, if_neg (show ¬ nI k = 2 from fun z => q2 ((nI_eq (b := 2) (by have := hk.2.2.2.2.2.2.2.2.2.1; omega) (by decide)).mp z))]
      · unfold mLoop
        have e2 : ¬ nI (kM k) = 3 := by
          have := hk.2.2.2.2.2.2.2.2.2.1
          rcases (show k = 0 ∨ k = 1 ∨ k = 3 ∨ k = 4 by omega) with rfl | rfl | rfl | rfl <;> decide
        rw [i_313 h.2.1, hk.2.2.2.2.2.1, if_neg e2]
/-- a forecast's line -/
theorem line2 (h : TB L B S T) (hk : Tk L B S T s e k) (hk0 : k ≠ 0) (hF : FA s S T) (hG : GF S T) : LX L B GF S T e (f_X5_readForecastLine 207 S) (f_X12_forecastLine 313 (wd T) T) := by
  have hL := h.2.2.1
  have heL := hk.2.2.2.2.2.2.1
  have hlt := hk.2.2.2.2.2.2.2.2.1 hk0
  have hfu : fu = 4096 := rfl
  have hD := hG.1
  unfold f_X5_readForecastLine f_X12_forecastLine
  have hw : f_X5_isWord 207 (some 100015) S = some (if wd T = 1835102827 then 1 else 0) := isW h hk (j := 15) (by decide)
  rw [k_207 h.1, hw, b1_s]
  by_cases q : wd T = 1835102827
  · rw [if_pos q, if_neg n10, if_pos (lcp q)]
    obtain ⟨S1, T1, s1, e1, k1, t1, t2, t3, t4, t5, t6, t7⟩ := tok_both h heL hk.2.1 hk.2.2.2.2.1
    have hB1 := (h.ft t3).fm t4
    have hF1 : FA s1 S1 T1 := by
      unfold FA
      rw [t3.2 _ _ (by omega), t3.2 _ _ (by omega)]
      exact FAv.up hF (by omega) (t4.2.2 _ _ (by omega)) (t4.2.2 _ _ (by omega))
    have hG1 : GF S1 T1 := by
      obtain ⟨hD, n, hR⟩ := hG
      have e1 : ∀ o, o ≠ 207 → S1.1 o = S.1 o := fun o ho => t3.fu.at ho
      refine ⟨hD.fc t3.fc ro7 ?_, n, hR.mv (e1 _ (by decide)) (e1 _ (by decide)) (t4.2.2 _ _ (by omega)) (fun j _ _ => t4.2.2 _ _ (by omega)) (fun z => (ok_fc (t3.2 _ _ (by omega))).mp z) vMark_c.eq⟩
      exact hR.rwr.sm (e1 _ (by decide))
    rw [k_207 h.1, t1, b1_s, k_313 h.2.1, t2, b1_s]
    by_cases q2 : k1 = 2
    · subst q2
      obtain ⟨S2, T0', T2, T3, s2, e2, k2, a1, a2, a3, a4, a5, a6, a7, a8, a9, a10, a11, a12, a13, a14⟩ := mark_yes hB1 t7 hF1 hG1
      have hlt1 := t7.2.2.2.2.2.2.2.2.1 (by decide)
      obtain ⟨S', T', s', e', k', b1', b2', b3', b4', b5', b6', b7', b8', b9', b10'⟩ := marks_l (L := L) (B := B) L 0 fu 4095 S2 T3 s2 e2 k2 (by omega) (by omega) (by omega) (by omega) a9 a10 a11 a14
      refine Or.inl ⟨S', T', s', e', k', ?_, ?_, (t3.fc.tr (a7.tr b3')).x (by decide) (by decide), t4.fm.x.tr (a8.tr b4'), b5', b6', b7', by omega, b9', b10'⟩
      · rw [k_207 hB1.1, a1, b1_s]
        exact b1'
      · rw [show fu = 4095 + 1 from rfl, f_X12_forecastLine_17, i_313 hB1.2.1, t7.2.2.2.1, k_313 hB1.2.1, a2, b1_s, kk_313 a5, a3, b2_s, if_neg n10, k_313 a6, a4, b1_s]
        exact b2'
    · obtain ⟨S2, a1, a2, a3, -⟩ := mark_no hB1 t7 q2 hF1 hG1
      obtain ⟨T0, f1, f2, f3⟩ : ∃ T0, f_X12_full 313 0 16 (nI s1) T1 = some T0 ∧ FM T1 T0 ∧ ∀ i, i ≤ 18 → T0.1 313 i = T1.1 313 i := by
        obtain ⟨-, n, hR⟩ := hG1
        unfold f_X12_full
        rw [r_313_21 hB1.2.1, show yI (some 325) 14 0 T1 _ = _ from y_325 (k := 0) hB1.2.1 (by decide)]
        split
        · obtain ⟨Sn, Tn, n1, n2, n3, n4, n5, n6, n7, n8, n9, n10'⟩ := noteF hB1.1 hB1.2.1 hF1 (by omega) (Or.inr rfl) 3 rfl
          exact ⟨Tn, by rw [k_313 hB1.2.1, n2, b1_s], n4, n9⟩
        · exact ⟨T1, rfl, FM.rf _, fun _ _ => rfl⟩
      have hT0 := f2.wr hB1.2.1
      have e2 : ¬ nI (kM k1) = 3 := by
        have := t7.2.2.2.2.2.2.2.2.2.1
        rcases (show k1 = 0 ∨ k1 = 1 ∨ k1 = 3 ∨ k1 = 4 by omega) with rfl | rfl | rfl | rfl <;> decide
      have hM : f_X12_take 313 0 0 40 T0 = some (0, sI T0 313 18 (nI s1)) := take_v _ _ _ (Or.inl rfl) hT0 (by
        unfold f_X12_takeBut
        rw [i_313 hT0, f3 15 (by decide), t7.2.2.2.2.2.1, if_neg e2, kk_313 hT0, fails_v hT0 (by rw [f3 14 (by decide)]; exact t7.2.2.2.1), b2_s]
        rfl)
      refine lx_brk hD ro7 (S' := S2) (T' := sI T0 313 18 (nI s1)) ?_ ?_ (t3.fc.tr a3) (t4.fm.tr (f2.tr (FM.I (by omega)))).x h.2.1 a2
      · rw [k_207 hB1.1, a1, b1_s, show fu = 4095 + 1 from rfl, f_X5_readForecastLine_24, if_neg (by decide), i_207 a2.1]
        have hb : f_X5_isBroken 207 S2 = some 1 := by
          unfold f_X5_isBroken
          rw [i_207 a2.1, if_pos a2.2.1]
        split
        · rw [k_207 a2.1, hb, b1_s, if_neg n10]
        · rfl
      · rw [show fu = 4095 + 1 from rfl, f_X12_forecastLine_17, i_313 hB1.2.1, t7.2.2.2.1, k_313 hB1.2.1, f1, b1_s, kk_313 hT0, hM, b2_s, if_pos rfl]
  · rw [if_neg q, if_pos rfl, k_207 h.1, break_v h.1 hk.1 (FAv.nb hF), b1_s, if_neg (lcn q), kk_313 h.2.1, fails_v h.2.1 hk.2.2.2.1, b2_s]
    exact lx_no h hk hD
end LO
