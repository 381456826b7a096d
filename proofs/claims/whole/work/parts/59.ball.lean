/-! the ball: the class's deeds, play, what is told of a state -/
section BE
variable {S S' : GS} {co nl nro : Nat} {D : DSt} {B : BSt}
theorem cnt8 {q : Nat → Bool} {n : Nat} (hn : n ≤ 8) : countN (fun l => decide (l < n) && q l) 8 0 0 = countN q n 0 0 := by
  rw [show 8 = n + (8 - n) by omega, countN_add, countN_0 _ (8 - n) _ _ (fun j h1 h2 => by rw [decide_eq_false (by omega)]; rfl)]
  exact countN_c _ _ n 0 0 (fun j h1 h2 => by rw [decide_eq_true (by omega)]; rfl)
theorem HB.a (hI : BI nl nro D.2.2.2.2.2 B) (hB : HB S nl nro B) : ∀ l, l < nl → LaC S l (B.2.2 l) ∧ (B.2.2 l).2.2.1 ≤ 9 := fun l hl => ⟨hB.2.2.2 l hl, (hI.2 l hl).2.1⟩
/-- which deed -/
def dkOk (k : Int32) : Prop := k = 0 ∨ k = 1 ∨ k = 2 ∨ k = 3 ∨ k = 4 ∨ k = 5 ∨ k = 6 ∨ k = 7 ∨ k = 8
theorem vDeed_k {f : Nat → Int32} (h : vDeed f) : dkOk (f 0) := by
  unfold dkOk
  rcases h with h | ⟨h | h, -⟩ | h | ⟨h | h, -⟩ | h | h | h
  · exact Or.inl h.1
  · exact Or.inr (Or.inl h)
  · exact Or.inr (Or.inr (Or.inl h))
  · exact Or.inr (Or.inr (Or.inr (Or.inl h.1)))
  · exact Or.inr (Or.inr (Or.inr (Or.inr (Or.inl h))))
  · exact Or.inr (Or.inr (Or.inr (Or.inr (Or.inr (Or.inl h)))))
  · exact Or.inr (Or.inr (Or.inr (Or.inr (Or.inr (Or.inr (Or.inl h.1))))))
  · exact Or.inr (Or.inr (Or.inr (Or.inr (Or.inr (Or.inr (Or.inr (Or.inl h)))))))
  · exact Or.inr (Or.inr (Or.inr (Or.inr (Or.inr (Or.inr (Or.inr (Or.inr h)))))))
theorem deedC (h : Hx S co nl nro D) (hI : BI nl nro D.2.2.2.2.2 B) (hB : HB S nl nro B) {k : Int32} (hk : dkOk k) (x y : Int32) : ∃ S', f_X2_doDeed 230 k x y S = some (bi (deedB D nl nro k x y B).1, S') ∧ Hd S S' ∧ HB S' nl nro (deedB D nl nro k x y B).2 := by
  have hW := h.1
  have hn8 := h.2.2.2.2.2.2.2.2.2.1
  obtain ⟨f1, f2, f3, f4⟩ := id hB
  obtain ⟨b1', b2', b3', b4', b5', b6'⟩ := id f1
  unfold f_X2_doDeed deedB
  rcases hk with rfl | rfl | rfl | rfl | rfl | rfl | rfl | rfl | rfl
  · rw [tsw, if_pos rfl, if_pos rfl]
    have e : ∀ i, i ≠ 10 → (sI S 230 10 x).1 230 i = S.1 230 i := fun i hi => by rw [sI_at, if_neg hi]
    exact ⟨sI S 230 10 x, by rw [p_230 hW]; rfl, hd_I (by decide) (by decide) (by omega), ⟨by rw [sI_at, if_pos rfl], by rw [e 11 (by decide)]; exact b2', by rw [e 12 (by decide)]; exact b3', by rw [e 13 (by decide)]; exact b4', by rw [e 14 (by decide)]; exact b5', by rw [e 15 (by decide)]; exact b6'⟩, fun r hr => (f2 r hr).o (Or.inl (by decide)), fun r a b => by rw [sI_o (by decide)]; exact f3 r a b, fun l hl => (f4 l hl).o (Or.inl (by decide))⟩
  · obtain ⟨S', k1, k2, k3⟩ := turnC h hB x true
    rw [tsw, if_neg (by decide), tsw, if_pos (by decide), if_neg (by decide), if_pos rfl]
    exact ⟨S', by rw [kk_230 hW, show f_X2_turnDoor 230 x 1 S = _ from k1, b2_s, bi_tz], k2, k3⟩
  · obtain ⟨S', k1, k2, k3⟩ := turnC h hB x false
    rw [tsw, if_neg (by decide), tsw, if_neg (by decide), tsw, if_pos (by decide), if_neg (by decide), if_neg (by decide), if_pos rfl]
    exact ⟨S', by rw [kk_230 hW, show f_X2_turnDoor 230 x 0 S = _ from k1, b2_s, bi_tz], k2, k3⟩
  · obtain ⟨S', k1, k2, k3⟩ := sighC h hI hB x
    rw [tsw, if_neg (by decide), tsw, if_neg (by decide), tsw, if_neg (by decide), tsw, if_pos (by decide), if_neg (by decide), if_neg (by decide), if_neg (by decide), if_pos rfl]
    exact ⟨S', by rw [kk_230 hW, k1, b2_s, bi_tz], k2, k3⟩
  · obtain ⟨S', k1, k2, k3⟩ := knotC h hB x y
    rw [tsw, if_neg (by decide), tsw, if_neg (by decide), tsw, if_neg (by decide), tsw, if_neg (by decide), tsw, if_pos (by decide), if_neg (by decide), if_neg (by decide), if_neg (by decide), if_neg (by decide), if_pos rfl]
    exact ⟨S', by rw [kk_230 hW, k1, b2_s, bi_tz], k2, k3⟩
  · obtain ⟨S', k1, k2, k3⟩ := knotC h hB x (-y)
    rw [tsw, if_neg (by decide), tsw, if_neg (by decide), tsw, if_neg (by decide), tsw, if_neg (by decide), tsw, if_neg (by decide), tsw, if_pos (by decide), if_neg (by decide), if_neg (by decide), if_neg (by decide), if_neg (by decide), if_neg (by decide), if_pos rfl]
    exact ⟨S', by rw [kk_230 hW, k1, b2_s, bi_tz], k2, k3⟩
  · obtain ⟨S', k1, k2, k3⟩ := goC2 h hI hB x y
    rw [tsw, if_neg (by decide), tsw, if_neg (by decide), tsw, if_neg (by decide), tsw, if_neg (by decide), tsw, if_neg (by decide), tsw, if_neg (by decide), tsw, if_pos (by decide), if_neg (by decide), if_neg (by decide), if_neg (by decide), if_neg (by decide), if_neg (by decide), if_neg (by decide), if_pos rfl]
    exact ⟨S', by rw [kk_230 hW, k1, b2_s, bi_tz], k2, k3⟩
  · rw [tsw, if_neg (by decide), tsw, if_neg (by decide), tsw, if_neg (by decide), tsw, if_neg (by decide), tsw, if_neg (by decide), tsw, if_neg (by decide), tsw, if_neg (by decide), tsw, if_pos (by decide), if_neg (by decide), if_neg (by decide), if_neg (by decide), if_neg (by decide), if_neg (by decide), if_neg (by decide), if_neg (by decide), if_pos rfl]
    generalize hS1 : sI S 230 14 (B.1.2.2.2.2.1 + 1) = S1
    have o1 : Hd S S1 := by rw [← hS1]; exact hd_I (by decide) (by decide) (by omega)
    have hx1 := o1.1.hx (by decide) h
    have hA : ∀ l, l < nl → LaC S1 l (B.2.2 l) ∧ (B.2.2 l).2.2.1 ≤ 9 := fun l hl => ⟨by rw [← hS1]; exact (f4 l hl).o (Or.inl (by decide)), (hI.2 l hl).2.1⟩
    have hw := whoC hx1 hA (w := 0) (by decide)
    have hlt : setN (fun l => decide (l < nl) && whoL 0 (B.2.2 l)) 8 0 0 < 256 := setN_lt _ 8 0 0 (by decide)
    have hpop : popN (setN (fun l => decide (l < nl) && whoL 0 (B.2.2 l)) 8 0 0) = countN (fun l => upL (B.2.2 l)) nl 0 0 := by
      rw [pop_set _ 8 (by decide), cnt8 hn8]
      rfl
    refine ⟨sI S1 230 15 (nI (countN (fun l => upL (B.2.2 l)) nl 0 0)), ?_, o1.tr (hd_I (by decide) (by decide) (by omega)), ?_, fun r hr => ?_, fun r a b => ?_, fun l hl => ((hA l hl).1).o (Or.inl (by decide))⟩
    · rw [i_230 hW, b5', p_230 hW, hS1, k_230 hx1.1, show f_X2_ladiesWho 230 0 S1 = _ from hw, b1_s, bitCount_v S1 (by omega), b1_s, hpop, p_230 hx1.1]
      rfl
    · have e : ∀ i, i ≠ 14 → i ≠ 15 → (sI S1 230 15 (nI (countN (fun l => upL (B.2.2 l)) nl 0 0))).1 230 i = S.1 230 i := fun i h1 h2 => by rw [sI_at, if_neg h2, ← hS1, sI_at, if_neg h1]
      exact ⟨by rw [e 10 (by decide) (by decide)]; exact b1', by rw [e 11 (by decide) (by decide)]; exact b2', by rw [e 12 (by decide) (by decide)]; exact b3', by rw [e 13 (by decide) (by decide)]; exact b4', by rw [sI_at, if_neg (by decide), ← hS1, sI_at, if_pos rfl]; rfl, by rw [sI_at, if_pos rfl]; rfl⟩
    · rw [← hS1]
      exact ((f2 r hr).o (Or.inl (by decide))).o (Or.inl (by decide))
    · rw [sI_o (by decide), ← hS1, sI_o (by decide)]
      exact f3 r a b
  · obtain ⟨S', k1, k2, k3⟩ := minuteC h hI hB
    rw [tsw, if_neg (by decide), tsw, if_neg (by decide), tsw, if_neg (by decide), tsw, if_neg (by decide), tsw, if_neg (by decide), tsw, if_neg (by decide), tsw, if_neg (by decide), tsw, if_neg (by decide), tsw, if_pos (by decide), if_neg (by decide), if_neg (by decide), if_neg (by decide), if_neg (by decide), if_neg (by decide), if_neg (by decide), if_neg (by decide), if_neg (by decide)]
    exact ⟨S', by rw [k_230 hW, k1, b1_s]; rfl, k2, k3⟩
/-- the hall's numbers are written, a deed was counted -/
theorem play32 {bo nb : Nat} {dk dx dy : Nat → Int32} {n : Nat} (hn : n ≤ nb) (hnb : nb ≤ 40) (hk : ∀ j, j < nb → dkOk (dk j)) (hbo : bo + 1 < 230) : ∀ (d k nn : Nat) (S : GS) (B : BSt), Hx S co nl nro D → BI nl nro D.2.2.2.2.2 B → HB S nl nro B → (Rw S bo 40 3 ∧ nr S bo = nb ∧ ∀ j, j < nb → S.1 (bo + 1) (3 * j + 0) = dk j ∧ S.1 (bo + 1) (3 * j + 1) = dx j ∧ S.1 (bo + 1) (3 * j + 2) = dy j) → S.1 230 9 = nI k → k + d = n → d < nn → ∃ S', f_X2_play_32 230 nn (some bo) (nI n) S = some (bi (decide ((playB D nl nro dk dx dy d k B).1 = n)), S') ∧ OfA 230 247 S S' ∧ Hx S' co nl nro D ∧ HB S' nl nro (playB D nl nro dk dx dy d k B).2 ∧ S'.1 230 9 = nI (playB D nl nro dk dx dy d k B).1 ∧ BI nl nro D.2.2.2.2.2 (playB D nl nro dk dx dy d k B).2 ∧ (playB D nl nro dk dx dy d k B).1 ≤ n
  | _, _, 0, _, _, _, _, _, _, _, _, hn => absurd hn (Nat.not_lt_zero _)
  | 0, k, nn + 1, S, B, h, hI, hB, hR, h9, hkn, _ => by
    have hW := h.1
    refine ⟨S, ?_, OfA.rf _ _ _, h, hB, h9, hI, by show k ≤ n; omega⟩
    unfold f_X2_play_32 f_X2_play_87
    rw [i_230 hW, h9, if_pos (nI_le (by omega) (by omega)), i_230 hW, h9, if_pos (by rw [show k = n by omega]), show decide ((playB D nl nro dk dx dy 0 k B).1 = n) = true from decide_eq_true (by show k = n; omega)]
    rfl
  | d + 1, k, nn + 1, S, B, h, hI, hB, hR, h9, hkn, hnn => by
    have hW := h.1
    obtain ⟨r1, r2, r3⟩ := id hR
    obtain ⟨c0, c1', c2'⟩ := r3 k (by omega)
    obtain ⟨S1, g1, g2, g3⟩ := deedC h hI hB (hk k (by omega)) (dx k) (dy k)
    have hx1 := g2.1.hx (by decide) h
    have hW1 := hx1.1
    have hI1 := hI.deed (dk k) (dx k) (dy k)
    have e9 : S1.1 230 9 = nI k := by rw [g2.2]; exact h9
    have hhead : f_X2_play_32 230 (nn + 1) (some bo) (nI n) S = if bi (deedB D nl nro (dk k) (dx k) (dy k) B).1 = 0 then f_X2_play_87 230 (nI n) S1 else f_X2_play_32 230 nn (some bo) (nI n) (sI S1 230 9 (nI (k + 1))) := by
      rw [f_X2_play_32, i_230 hW, h9, if_neg (nI_ge (by omega) (by omega)), i_230 hW, h9, c1_s r1.1, r1.cellL 0 0 rfl (by omega) (by decide), b1_s, c0, i_230 hW, h9, c1_s r1.1, r1.cellL 1 1 rfl (by omega) (by decide), b1_s, c1', i_230 hW, h9, c1_s r1.1, r1.cellL 2 2 rfl (by omega) (by decide), b1_s, c2', kk_230 hW, g1, b2_s, i_230 hW1, e9, nI_1, p_230 hW1]
    rw [hhead]
    have hpl : playB D nl nro dk dx dy (d + 1) k B = if (deedB D nl nro (dk k) (dx k) (dy k) B).1 = true then playB D nl nro dk dx dy d (k + 1) (deedB D nl nro (dk k) (dx k) (dy k) B).2 else (k, (deedB D nl nro (dk k) (dx k) (dy k) B).2) := rfl
    rw [hpl]
    cases hd : (deedB D nl nro (dk k) (dx k) (dy k) B).1
    · rw [if_pos (show bi false = 0 from rfl), if_neg Bool.false_ne_true]
      refine ⟨S1, ?_, g2.1, hx1, g3, e9, hI1, by show k ≤ n; omega⟩
      unfold f_X2_play_87
      rw [i_230 hW1, e9, if_neg (by rw [nI_eq (by omega) (by omega)]; omega), show decide (k = n) = false from decide_eq_false (by omega)]
      rfl
    · rw [if_neg (show ¬ bi true = 0 by decide), if_pos rfl]
      have o2 : OfA 230 247 S1 (sI S1 230 9 (nI (k + 1))) := of_I.ra (by decide) (by decide)
      obtain ⟨f1, f2, f3, f4⟩ := g3
      have e : ∀ i, i ≠ 9 → (sI S1 230 9 (nI (k + 1))).1 230 i = S1.1 230 i := fun i hi => by rw [sI_at, if_neg hi]
      obtain ⟨b1', b2', b3', b4', b5', b6'⟩ := f1
      have hR2 : Rw (sI S1 230 9 (nI (k + 1))) bo 40 3 ∧ nr (sI S1 230 9 (nI (k + 1))) bo = nb ∧ ∀ j, j < nb → (sI S1 230 9 (nI (k + 1))).1 (bo + 1) (3 * j + 0) = dk j ∧ (sI S1 230 9 (nI (k + 1))).1 (bo + 1) (3 * j + 1) = dx j ∧ (sI S1 230 9 (nI (k + 1))).1 (bo + 1) (3 * j + 2) = dy j := by
        have ho := g2.1.tr o2
        have e1 : (sI S1 230 9 (nI (k + 1))).1 bo = S.1 bo := ho.2 bo (by omega)
        have e2 : (sI S1 230 9 (nI (k + 1))).1 (bo + 1) = S.1 (bo + 1) := ho.2 (bo + 1) (by omega)
        have hg : ∀ o, gk (sI S1 230 9 (nI (k + 1))) o = gk S o := fun o => by
          unfold gk
          rw [ho.1]
        refine ⟨?_, by unfold nr; rw [e1]; exact r2, by rw [e2]; exact r3⟩
        unfold Rw nr at r1 ⊢
        rw [hg, hg, e1, ho.1]
        exact r1
      obtain ⟨S', k1, k2, k3⟩ := play32 hn hnb hk hbo d (k + 1) nn (sI S1 230 9 (nI (k + 1))) _ (o2.hx (by decide) hx1) hI1 ⟨⟨by rw [e 10 (by decide)]; exact b1', by rw [e 11 (by decide)]; exact b2', by rw [e 12 (by decide)]; exact b3', by rw [e 13 (by decide)]; exact b4', by rw [e 14 (by decide)]; exact b5', by rw [e 15 (by decide)]; exact b6'⟩, fun r hr => (f2 r hr).o (Or.inl (by decide)), fun r a b => by rw [sI_o (by decide)]; exact f3 r a b, fun l hl => (f4 l hl).o (Or.inl (by decide))⟩ hR2 (by rw [sI_at, if_pos rfl]) (by omega) (by omega)
      exact ⟨S', k1, g2.1.tr (o2.tr k2), k3⟩
/-- the first state -/
def begB (gl : Int32) (rm : Nat → Nat) (lc : Nat → Int32) : BSt := ((gl, 0, 0, 0, 0, -1), (fun _ => (0, false)), fun l => (rm l, lc l, 0, false, 0, -1))
/-- all but the hall's own numbers and its court stays -/
def OfB (S S' : GS) : Prop := S'.2.1 = S.2.1 ∧ S'.2.2.2 = S.2.2.2 ∧ (∀ o i, ¬ (o = 230 ∧ i = 8) → S'.2.2.1 o i = S.2.2.1 o i) ∧ ∀ o, o < 230 ∨ 247 ≤ o → S'.1 o = S.1 o
theorem OfA.ob (h : OfA 230 247 S S') : OfB S S' := ⟨by rw [h.1], by rw [h.1], fun o i _ => by rw [h.1], h.2⟩
theorem OfB.tr {S S1 S2 : GS} (h : OfB S S1) (h2 : OfB S1 S2) : OfB S S2 := ⟨h2.1.trans h.1, h2.2.1.trans h.2.1, fun o i q => (h2.2.2.1 o i q).trans (h.2.2.1 o i q), fun o q => (h2.2.2.2 o q).trans (h.2.2.2 o q)⟩
theorem OfB.sm (h : OfB S S') : Sm S S' := ⟨h.2.1, h.2.2.1, fun o q => h.2.2.2 o (by
  refine Classical.byContradiction fun z => ?_
  unfold Pm at q
  simp only [Bool.or_eq_true, Bool.and_eq_true, Nat.blt_eq, Nat.ble_eq, Nat.beq_eq] at q
  omega)⟩
theorem beg92 {rm : Nat → Nat} {lc : Nat → Int32} (hrl : ∀ l, l < nl → S.1 (co + 3 + 1) (5 * l + 0) = nI (rm l) ∧ S.1 (co + 3 + 1) (5 * l + 1) = lc l) : ∀ (d l n : Nat) (S1 : GS), Hx S1 co nl nro D → OfA 230 247 S S1 → (∀ j, j < nl → S1.1 235 j = 0 ∧ S1.1 237 j = 0 ∧ S1.1 238 j = -1) → (∀ j, j < nl → j < l → S1.1 233 j = nI (rm j) ∧ S1.1 234 j = lc j ∧ S1.1 236 j = 0) → l + d = 8 → d < n → ∃ S', f_X2_begin_92 230 n (some co) (nI l) S1 = some S' ∧ OfA 230 247 S1 S' ∧ S'.1 230 = S1.1 230 ∧ S'.1 231 = S1.1 231 ∧ S'.1 232 = S1.1 232 ∧ ∀ j, j < nl → LaC S' j (rm j, lc j, 0, false, 0, -1)
  | _, _, 0, _, _, _, _, _, _, hn => absurd hn (Nat.not_lt_zero _)
  | 0, l, n + 1, S1, h, hO, h0, h1, hl, _ => by
    have hn8 := h.2.2.2.2.2.2.2.2.2.1
    refine ⟨S1, ?_, OfA.rf _ _ _, rfl, rfl, rfl, fun j hj => ?_⟩
    · rw [f_X2_begin_92, if_pos (show (8 : Int32) ≤ nI l from nI_le (a := 8) (by omega) (by omega))]
    · obtain ⟨a1, a2, a3⟩ := h0 j hj
      obtain ⟨b1', b2', b3'⟩ := h1 j hj (by omega)
      exact ⟨b1', b2', a1, b3', a2, a3⟩
  | d + 1, l, n + 1, S1, h, hO, h0, h1, hl, hn => by
    have hW := h.1
    obtain ⟨x1, x2, x3, x4, x5, x6, x7, x8, x9, x10, x11⟩ := id h
    have hcell : ∀ (T : GS), Hx T co nl nro D → OfA 230 247 S T → ∃ v w, f_X7_cell (co + 3) (nI l) 0 T = some v ∧ f_X7_cell (co + 3) (nI l) 1 T = some w ∧ (l < nl → v = nI (rm l) ∧ w = lc l) := fun T hT hOT => by
      by_cases q : l < nl
      · obtain ⟨t1, t2⟩ := hrl l q
        refine ⟨nI (rm l), lc l, ?_, ?_, fun _ => ⟨rfl, rfl⟩⟩
        · rw [hT.la.cellL 0 0 rfl (by rw [hT.2.2.2.2.2.1]; exact q) (by decide), hOT.2 (co + 3 + 1) (by omega), t1]
        · rw [hT.la.cellL 1 1 rfl (by rw [hT.2.2.2.2.2.1]; exact q) (by decide), hOT.2 (co + 3 + 1) (by omega), t2]
      · exact ⟨-1, -1, hT.la.cellO (by omega) (by rw [hT.2.2.2.2.2.1]; omega), hT.la.cellO (by omega) (by rw [hT.2.2.2.2.2.1]; omega), fun z => absurd z q⟩
    generalize hS2 : sI S1 236 l 0 = S2
    have o2 : OfA 230 247 S1 S2 := by rw [← hS2]; exact of_I.ra (by decide) (by decide)
    have hx2 := o2.hx (by decide) h
    obtain ⟨v, w, e1, e2, e3⟩ := hcell S2 hx2 (hO.tr o2)
    generalize hS3 : sI S2 233 l v = S3
    have o3 : OfA 230 247 S2 S3 := by rw [← hS3]; exact of_I.ra (by decide) (by decide)
    have hx3 := o3.hx (by decide) hx2
    obtain ⟨v2, w2, e4, e5, e6⟩ := hcell S3 hx3 (hO.tr (o2.tr o3))
    generalize hS4 : sI S3 234 l w2 = S4
    have o4 : OfA 230 247 S3 S4 := by rw [← hS4]; exact of_I.ra (by decide) (by decide)
    have o14 := o2.tr (o3.tr o4)
    have eo : ∀ a, a ≠ 233 → a ≠ 234 → a ≠ 236 → S4.1 a = S1.1 a := fun a q1 q2 q3 => by rw [← hS4, sI_o q2, ← hS3, sI_o q1, ← hS2, sI_o q3]
    obtain ⟨S', k1, k2, k3, k4, k5, k6⟩ := beg92 hrl d (l + 1) n S4 (o4.hx (by decide) hx3) (hO.tr o14) (fun j hj => by
      rw [eo 235 (by decide) (by decide) (by decide), eo 237 (by decide) (by decide) (by decide), eo 238 (by decide) (by decide) (by decide)]
      exact h0 j hj) (fun j hj hj2 => by
      have q33 : S4.1 233 j = if j = l then v else S1.1 233 j := by rw [← hS4, sI_o (by decide), ← hS3, sI_at, ← hS2, sI_o (by decide)]
      have q34 : S4.1 234 j = if j = l then w2 else S1.1 234 j := by rw [← hS4, sI_at, ← hS3, sI_o (by decide), ← hS2, sI_o (by decide)]
      have q36 : S4.1 236 j = if j = l then 0 else S1.1 236 j := by rw [← hS4, sI_o (by decide), ← hS3, sI_o (by decide), ← hS2, sI_at]
      rw [q33, q34, q36]
      by_cases z : j = l
      · subst z
        rw [if_pos rfl, if_pos rfl, if_pos rfl]
        exact ⟨(e3 hj).1, (e6 hj).2, rfl⟩
      · rw [if_neg z, if_neg z, if_neg z]
        exact h1 j hj (by omega)) (by omega) (by omega)
    refine ⟨S', ?_, o14.tr k2, ?_, ?_, ?_, k6⟩
    · rw [f_X2_begin_92, if_neg (show ¬ (8 : Int32) ≤ nI l from nI_ge (b := 8) (by omega) (by omega)), r_230_5 hW, q_236 hW (by omega), show (0 : Int32) &&& 1 = 0 from rfl, hS2, r_230_2 hx2.1, xR_s hx2.2.2.2.1.1, hx2.2.2.2.1.2.2.1, c1_s hx2.la.1, e1, b1_s, q_233 hx2.1 (by omega), hS3, r_230_3 hx3.1, xR_s hx3.2.2.2.1.1, hx3.2.2.2.1.2.2.1, c1_s hx3.la.1, e5, b1_s, q_234 hx3.1 (by omega), hS4, nI_1, k1]
    · exact k3.trans (eo 230 (by decide) (by decide) (by decide))
    · exact k4.trans (eo 231 (by decide) (by decide) (by decide))
    · exact k5.trans (eo 232 (by decide) (by decide) (by decide))
theorem beg72 {rm : Nat → Nat} {lc : Nat → Int32} (hrl : ∀ l, l < nl → S.1 (co + 3 + 1) (5 * l + 0) = nI (rm l) ∧ S.1 (co + 3 + 1) (5 * l + 1) = lc l) : ∀ (d r n : Nat) (S1 : GS), Hx S1 co nl nro D → OfA 230 247 S S1 → (∀ j, j < nl → S1.1 235 j = 0 ∧ S1.1 237 j = 0 ∧ S1.1 238 j = -1) → (∀ j, j < r → S1.1 232 j = 0) → r + d = 4 → d < n → ∃ S', f_X2_begin_72 230 n (some co) (nI r) S1 = some S' ∧ OfA 230 247 S1 S' ∧ S'.1 230 = S1.1 230 ∧ (∀ j, j < 4 → S'.1 232 j = 0) ∧ ∀ j, j < nl → LaC S' j (rm j, lc j, 0, false, 0, -1)
  | _, _, 0, _, _, _, _, _, _, hn => absurd hn (Nat.not_lt_zero _)
  | 0, r, n + 1, S1, h, hO, h0, h1, hr, _ => by
    obtain ⟨S', k1, k2, k3, k4, k5, k6⟩ := beg92 (D := D) hrl 8 0 fu S1 h hO h0 (fun j _ hj => absurd hj (Nat.not_lt_zero _)) (by omega) (by unfold fu; omega)
    refine ⟨S', ?_, k2, k3, fun j hj => by rw [k5]; exact h1 j (by omega), k6⟩
    rw [f_X2_begin_72, if_pos (show (4 : Int32) ≤ nI r from nI_le (a := 4) (by omega) (by omega))]
    exact k1
  | d + 1, r, n + 1, S1, h, hO, h0, h1, hr, hn => by
    have hW := h.1
    have o2 : OfA 230 247 S1 (sI S1 232 r 0) := of_I.ra (by decide) (by decide)
    obtain ⟨S', k1, k2, k3, k4, k5⟩ := beg72 hrl d (r + 1) n (sI S1 232 r 0) (o2.hx (by decide) h) (hO.tr o2) (fun j hj => by
      rw [sI_o (by decide), sI_o (by decide), sI_o (by decide)]
      exact h0 j hj) (fun j hj => by
      rw [sI_at]
      by_cases z : j = r
      · rw [if_pos z]
      · rw [if_neg z]
        exact h1 j (by omega)) (by omega) (by omega)
    refine ⟨S', ?_, o2.tr k2, k3.trans (sI_o (by decide)), k4, k5⟩
    rw [f_X2_begin_72, if_neg (show ¬ (4 : Int32) ≤ nI r from nI_ge (b := 4) (by omega) (by omega)), r_230_1 hW, q_232 hW (by omega), show (0 : Int32) &&& 1 = 0 from rfl, nI_1, k1]
end BE
