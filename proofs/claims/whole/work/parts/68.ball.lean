/-! the ball: the reference begins, plays -/
section BN
variable {S S' : GS} {c nl nro : Nat} {D : DSt} {B : BSt}
theorem beg70 {rm : Nat → Nat} {lc : Nat → Int32} (hrl : ∀ l, l < nl → S.1 319 (69 * c + (29 + 5 * l + 0)) = nI (rm l) ∧ S.1 319 (69 * c + (29 + 5 * l + 1)) = lc l) : ∀ (d l n : Nat) (S1 : GS), HxM S1 c nl nro D → OfM S S1 → (∀ j, j < l → LaM S1 j (rm j, lc j, 0, false, 0, -1)) → l + d = nl → d < n → ∃ S', f_X12_begin_70 313 n (nI l) S1 = some S' ∧ OfM S1 S' ∧ S'.1 313 = S1.1 313 ∧ ∀ j, j < nl → LaM S' j (rm j, lc j, 0, false, 0, -1)
  | _, _, 0, _, _, _, _, _, hn => absurd hn (Nat.not_lt_zero _)
  | 0, l, n + 1, S1, h, hO, hL, hl, _ => by
    have n8 := h.2.2.2.2.2.2.1
    refine ⟨S1, ?_, OfM.rf S1, rfl, fun j hj => hL j (by omega)⟩
    rw [f_X12_begin_70, i_313 h.1.1, h.n27, if_pos (nI_le (by omega) (by omega))]
  | d + 1, l, n + 1, S1, h, hO, hL, hl, hn => by
    have hW := h.1.1
    have n8 := h.2.2.2.2.2.2.1
    have e9 : ∀ T, OfM S T → T.1 319 = S.1 319 := fun T hT => hT.2.1 319 (by decide) (by decide)
    obtain ⟨r1, r2⟩ := hrl l (by omega)
    generalize hS2 : sI S1 328 l (nI (rm l)) = S2
    have o2 : OfM S1 S2 := by rw [← hS2]; exact om_a (by decide) (by decide)
    generalize hS3 : sI S2 329 l (lc l) = S3
    have o3 : OfM S2 S3 := by rw [← hS3]; exact om_a (by decide) (by decide)
    generalize hS4 : sI S3 330 l 0 = S4
    have o4 : OfM S3 S4 := by rw [← hS4]; exact om_a (by decide) (by decide)
    generalize hS5 : sI S4 331 l 0 = S5
    have o5 : OfM S4 S5 := by rw [← hS5]; exact om_a (by decide) (by decide)
    generalize hS6 : sI S5 332 l (-1) = S6
    have o6 : OfM S5 S6 := by rw [← hS6]; exact om_a (by decide) (by decide)
    have o16 : OfM S1 S6 := o2.tr (o3.tr (o4.tr (o5.tr o6)))
    obtain ⟨S', k1, k2, k3, k4⟩ := beg70 hrl d (l + 1) n S6 (o16.hx h) (hO.tr o16) (fun j hj => by
      rw [← hS6, ← hS5, ← hS4, ← hS3, ← hS2]
      by_cases z : j = l
      · subst z
        refine ⟨?_, ?_, fun w => absurd rfl w, ?_, ?_⟩
        · rw [sI_o (by decide), sI_o (by decide), sI_o (by decide), sI_o (by decide), sI_at, if_pos rfl]
        · rw [sI_o (by decide), sI_o (by decide), sI_o (by decide), sI_at, if_pos rfl]
        · rw [sI_o (by decide), sI_at, if_pos rfl]
        · rw [sI_at, if_pos rfl]
      · exact LaM.o (LaM.o (LaM.o (LaM.o (LaM.o (hL j (by omega)) (by omega)) (by omega)) (by omega)) (by omega)) (by omega)) (by omega) (by omega)
    refine ⟨S', ?_, o16.tr k2, k3.trans ?_, k4⟩
    · have hx2 := o2.hx h
      rw [f_X12_begin_70, i_313 hW, h.n27, if_neg (nI_ge (by omega) (by omega)), r_313_40 hW, k_313 hW, h.1.lady (by omega) 0 0 rfl (by decide), b1_s, e9 S1 hO, r1, q_328 hW (by omega), hS2, r_313_41 hx2.1.1, k_313 hx2.1.1, hx2.1.lady (by omega) 1 1 rfl (by decide), b1_s, e9 S2 (hO.tr o2), r2, q_329 hx2.1.1 (by omega), hS3, r_313_42 (o3.wr hx2.1.1), q_330 (o3.wr hx2.1.1) (by omega), hS4, r_313_43 (o4.wr (o3.wr hx2.1.1)), q_331 (o4.wr (o3.wr hx2.1.1)) (by omega), hS5, r_313_44 (o5.wr (o4.wr (o3.wr hx2.1.1))), q_332 (o5.wr (o4.wr (o3.wr hx2.1.1))) (by omega), hS6, nI_1, k1]
    · rw [← hS6, sI_o (by decide), ← hS5, sI_o (by decide), ← hS4, sI_o (by decide), ← hS3, sI_o (by decide), ← hS2, sI_o (by decide)]
theorem beginM {gl : Int32} {rm : Nat → Nat} {lc : Nat → Int32} (h : HxM S c nl nro D) (hg : S.1 319 (69 * c + 5) = gl) (hrl : ∀ l, l < nl → S.1 319 (69 * c + (29 + 5 * l + 0)) = nI (rm l) ∧ S.1 319 (69 * c + (29 + 5 * l + 1)) = lc l) : ∃ S', f_X12_begin 313 S = some S' ∧ OfM S S' ∧ HM S' nl nro (begB gl rm lc) := by
  have hW := h.1.1
  have n8 := h.2.2.2.2.2.2.1
  have n4 := h.2.2.2.2.2.2.2
  generalize hS1 : sI (sI S 313 29 gl) 313 30 0 = S1
  have om : ∀ {T : GS} {i : Nat} {v : Int32}, 29 ≤ i → i ≤ 38 → OfM T (sI T 313 i v) := fun {T i v} a b => om_p a b
  have o1 : OfM S S1 := by rw [← hS1]; exact (om (by decide) (by decide)).tr (om (by decide) (by decide))
  have hW1 := o1.wr hW
  generalize hS2 : sI (sI (sI (sI (sI (sI (sI S1 313 31 (jshl 1 (nI nl) - 1)) 313 32 0) 313 33 0) 313 34 0) 313 35 0) 313 36 0) 313 37 (-1) = S2
  have o2 : OfM S1 S2 := by
    rw [← hS2]
    exact (om (by decide) (by decide)).tr ((om (by decide) (by decide)).tr ((om (by decide) (by decide)).tr ((om (by decide) (by decide)).tr ((om (by decide) (by decide)).tr ((om (by decide) (by decide)).tr (om (by decide) (by decide)))))))
  have hW2 := o2.wr hW1
  generalize hS3 : sI S2 313 38 (jshl 1 (nI nro) - 1) = S3
  have o3 : OfM S2 S3 := by rw [← hS3]; exact om (by decide) (by decide)
  have hx1 := o1.hx h
  have hx2 := o2.hx hx1
  have hx3 := o3.hx hx2
  obtain ⟨S', k1, k2, k3, k4⟩ := beg70 (S := S) (rm := rm) (lc := lc) hrl nl 0 fu S3 hx3 (o1.tr (o2.tr o3)) (fun j hj => absurd hj (Nat.not_lt_zero _)) (by omega) (by unfold fu; omega)
  refine ⟨S', ?_, o1.tr (o2.tr (o3.tr k2)), ?_, ?_, ?_, fun r hr => ?_, k4⟩
  · unfold f_X12_begin
    rw [k_313 hW, h.1.of 5 5 rfl (by decide), b1_s, hg, p_313 hW, p_313 (S := sI S 313 29 gl) hW, hS1, i_313 hW1, hx1.n27, p_313 hW1, p_313 (S := sI S1 313 31 (jshl 1 (nI nl) - 1)) hW1, p_313 (S := sI (sI S1 313 31 (jshl 1 (nI nl) - 1)) 313 32 0) hW1, p_313 (S := sI (sI (sI S1 313 31 (jshl 1 (nI nl) - 1)) 313 32 0) 313 33 0) hW1, p_313 (S := sI (sI (sI (sI S1 313 31 (jshl 1 (nI nl) - 1)) 313 32 0) 313 33 0) 313 34 0) hW1, p_313 (S := sI (sI (sI (sI (sI S1 313 31 (jshl 1 (nI nl) - 1)) 313 32 0) 313 33 0) 313 34 0) 313 35 0) hW1, p_313 (S := sI (sI (sI (sI (sI (sI S1 313 31 (jshl 1 (nI nl) - 1)) 313 32 0) 313 33 0) 313 34 0) 313 35 0) 313 36 0) hW1, hS2, i_313 hW2, hx2.n26, p_313 hW2, hS3, show f_X12_begin_70 313 fu 0 S3 = _ from k1]
  · unfold FiM
    rw [k3, ← hS3, ← hS2, ← hS1]
    exact ⟨rfl, rfl, rfl, rfl, rfl, rfl⟩
  · unfold SeM
    rw [k3, ← hS3, ← hS2, ← hS1]
    refine ⟨?_, ?_, ?_⟩
    · show Bs (jshl 1 (nI nl) - 1) nl _
      exact all_k nl n8
    · show Bs 0 nl _
      exact none_k nl n8
    · show Bs 0 nl _
      exact none_k nl n8
  · unfold OpM
    rw [k3, ← hS3]
    show Bs (jshl 1 (nI nro) - 1) nro _
    exact all_k nro (by omega)
  · intro z
    exact absurd z Bool.false_ne_true
/-- a deed -/
theorem deedM (hr1 : 1 ≤ D.2.2.2.2.2) (h : HxM S c nl nro D) (hI : BI nl nro D.2.2.2.2.2 B) (hB : HM S nl nro B) {kb j : Nat} (hkb : kb < 2) (h28 : S.1 313 28 = nI kb) (hj : j < 40) {k x y : Int32} (hk : dkOk k) (ek : S.1 320 (121 * kb + 1 + (3 * j + 0)) = k) (ex : S.1 320 (121 * kb + 1 + (3 * j + 1)) = x) (ey : S.1 320 (121 * kb + 1 + (3 * j + 2)) = y) : ∃ S', f_X12_doesDeed 313 (nI j) S = some (bi (deedB D nl nro k x y B).1, S') ∧ OfM S S' ∧ HM S' nl nro (deedB D nl nro k x y B).2 := by
  have hW := h.1.1
  have n8 := h.2.2.2.2.2.2.1
  obtain ⟨f1, f2, f3, f4, f5⟩ := id hB
  obtain ⟨a1, a2, a3, a4, a5, a6⟩ := id f1
  unfold f_X12_doesDeed deedB
  rw [k_313 hW, deedOf_v (l := j) (c := 1) (i := 1) hW hkb h28 rfl rfl hj (by decide), b1_s, k_313 hW, deedOf_v (l := j) (c := 2) (i := 2) hW hkb h28 rfl rfl hj (by decide), b1_s, k_313 hW, deedOf_v (l := j) (c := 0) (i := 0) hW hkb h28 rfl rfl hj (by decide), b1_s, ek, ex, ey]
  rcases hk with rfl | rfl | rfl | rfl | rfl | rfl | rfl | rfl | rfl
  · rw [tsw, if_pos rfl, if_pos rfl]
    refine ⟨sI S 313 29 x, by rw [p_313 hW]; rfl, om_p (by decide) (by decide), ⟨?_, ?_, ?_, ?_, ?_, ?_⟩, SeM.o f2 (by omega), OpM.o f3 (by omega), fun r hr => RoM.o (f4 r hr) (by omega), fun l hl => LaM.o (f5 l hl) (by omega)⟩
    · rw [sI_at, if_pos rfl]
    · rw [sI_at, if_neg (by decide)]; exact a2
    · rw [sI_at, if_neg (by decide)]; exact a3
    · rw [sI_at, if_neg (by decide)]; exact a4
    · rw [sI_at, if_neg (by decide)]; exact a5
    · rw [sI_at, if_neg (by decide)]; exact a6
  · obtain ⟨S', k1, k2, k3⟩ := turnM h hB x true
    rw [tsw, if_neg (by decide), tsw, if_pos (by decide), if_neg (by decide), if_pos rfl]
    exact ⟨S', by rw [kk_313 hW, show f_X12_opensOr 313 x 1 S = _ from k1, b2_s, bi_tz], k2, k3⟩
  · obtain ⟨S', k1, k2, k3⟩ := turnM h hB x false
    rw [tsw, if_neg (by decide), tsw, if_neg (by decide), tsw, if_pos (by decide), if_neg (by decide), if_neg (by decide), if_pos rfl]
    exact ⟨S', by rw [kk_313 hW, show f_X12_opensOr 313 x 0 S = _ from k1, b2_s, bi_tz], k2, k3⟩
  · obtain ⟨S', k1, k2, k3⟩ := sighM h hI hB x
    rw [tsw, if_neg (by decide), tsw, if_neg (by decide), tsw, if_neg (by decide), tsw, if_pos (by decide), if_neg (by decide), if_neg (by decide), if_neg (by decide), if_pos rfl]
    exact ⟨S', by rw [kk_313 hW, k1, b2_s, bi_tz], k2, k3⟩
  · obtain ⟨S', k1, k2, k3⟩ := knotM h hB x y
    rw [tsw, if_neg (by decide), tsw, if_neg (by decide), tsw, if_neg (by decide), tsw, if_neg (by decide), tsw, if_pos (by decide), if_neg (by decide), if_neg (by decide), if_neg (by decide), if_neg (by decide), if_pos rfl]
    exact ⟨S', by rw [kk_313 hW, k1, b2_s, bi_tz], k2, k3⟩
  · obtain ⟨S', k1, k2, k3⟩ := knotM h hB x (-y)
    rw [tsw, if_neg (by decide), tsw, if_neg (by decide), tsw, if_neg (by decide), tsw, if_neg (by decide), tsw, if_neg (by decide), tsw, if_pos (by decide), if_neg (by decide), if_neg (by decide), if_neg (by decide), if_neg (by decide), if_neg (by decide), if_pos rfl]
    exact ⟨S', by rw [kk_313 hW, k1, b2_s, bi_tz], k2, k3⟩
  · obtain ⟨S', k1, k2, k3⟩ := goM h hB x y
    rw [tsw, if_neg (by decide), tsw, if_neg (by decide), tsw, if_neg (by decide), tsw, if_neg (by decide), tsw, if_neg (by decide), tsw, if_neg (by decide), tsw, if_pos (by decide), if_neg (by decide), if_neg (by decide), if_neg (by decide), if_neg (by decide), if_neg (by decide), if_neg (by decide), if_pos rfl]
    exact ⟨S', by rw [kk_313 hW, k1, b2_s, bi_tz], k2, k3⟩
  · rw [tsw, if_neg (by decide), tsw, if_neg (by decide), tsw, if_neg (by decide), tsw, if_neg (by decide), tsw, if_neg (by decide), tsw, if_neg (by decide), tsw, if_neg (by decide), tsw, if_pos (by decide), if_neg (by decide), if_neg (by decide), if_neg (by decide), if_neg (by decide), if_neg (by decide), if_neg (by decide), if_neg (by decide), if_pos rfl]
    generalize hS1 : sI S 313 36 (B.1.2.2.2.2.1 + 1) = S1
    have o1 : OfM S S1 := by rw [← hS1]; exact om_p (by decide) (by decide)
    have hW1 := o1.wr hW
    have e31 : S1.1 313 31 = setQ 8 nl (fun l => upL (B.2.2 l)) := by rw [← hS1, sI_at, if_neg (by decide)]; exact f2.1
    have ep : f_X12_countOf 313 (setQ 8 nl (fun l => upL (B.2.2 l))) S1 = some (nI (countN (fun l => upL (B.2.2 l)) nl 0 0)) := by
      unfold setQ
      rw [cntM (setN_lt _ 8 0 0 (by decide)), pop_set _ 8 (by decide), cnt8 n8]
    refine ⟨sI S1 313 37 (nI (countN (fun l => upL (B.2.2 l)) nl 0 0)), ?_, o1.tr (om_p (by decide) (by decide)), ⟨?_, ?_, ?_, ?_, ?_, ?_⟩, ?_, ?_, fun r hr => ?_, fun l hl => ?_⟩
    · rw [i_313 hW, a5, p_313 hW, hS1, i_313 hW1, k_313 hW1, e31, ep, b1_s, p_313 hW1]
      rfl
    · rw [sI_at, if_neg (by decide), ← hS1, sI_at, if_neg (by decide)]; exact a1
    · rw [sI_at, if_neg (by decide), ← hS1, sI_at, if_neg (by decide)]; exact a2
    · rw [sI_at, if_neg (by decide), ← hS1, sI_at, if_neg (by decide)]; exact a3
    · rw [sI_at, if_neg (by decide), ← hS1, sI_at, if_neg (by decide)]; exact a4
    · rw [sI_at, if_neg (by decide), ← hS1, sI_at, if_pos rfl]; rfl
    · rw [sI_at, if_pos rfl]; rfl
    · rw [← hS1]; exact SeM.o (SeM.o f2 (by omega)) (by omega)
    · rw [← hS1]; exact OpM.o (OpM.o f3 (by omega)) (by omega)
    · rw [← hS1]; exact RoM.o (RoM.o (f4 r hr) (by omega)) (by omega)
    · rw [← hS1]; exact LaM.o (LaM.o (f5 l hl) (by omega)) (by omega)
  · obtain ⟨S', k1, k2, k3⟩ := minuteM hr1 h hI hB
    rw [tsw, if_neg (by decide), tsw, if_neg (by decide), tsw, if_neg (by decide), tsw, if_neg (by decide), tsw, if_neg (by decide), tsw, if_neg (by decide), tsw, if_neg (by decide), tsw, if_neg (by decide), tsw, if_neg (by decide), if_neg (by decide), if_neg (by decide), if_neg (by decide), if_neg (by decide), if_neg (by decide), if_neg (by decide), if_neg (by decide)]
    exact ⟨S', by rw [k_313 hW, k1, b1_s]; rfl, k2, k3⟩
theorem play6M (hr1 : 1 ≤ D.2.2.2.2.2) {kb nb : Nat} {dk dx dy : Nat → Int32} {n : Nat} (hn : n ≤ nb) (hnb : nb ≤ 40) (hkb : kb < 2) (hk : ∀ j, j < nb → dkOk (dk j)) : ∀ (d k nn : Nat) (S : GS) (B : BSt), HxM S c nl nro D → BI nl nro D.2.2.2.2.2 B → HM S nl nro B → (S.1 313 28 = nI kb ∧ ∀ j, j < nb → S.1 320 (121 * kb + 1 + (3 * j + 0)) = dk j ∧ S.1 320 (121 * kb + 1 + (3 * j + 1)) = dx j ∧ S.1 320 (121 * kb + 1 + (3 * j + 2)) = dy j) → k + d = n → d < nn → ∃ S', f_X12_play_6 313 nn (nI n) (nI k) S = some (nI (playB D nl nro dk dx dy d k B).1, S') ∧ OfM S S' ∧ HM S' nl nro (playB D nl nro dk dx dy d k B).2
  | _, _, 0, _, _, _, _, _, _, _, hn => absurd hn (Nat.not_lt_zero _)
  | 0, k, nn + 1, S, B, h, hI, hB, hR, hkn, _ => by
    refine ⟨S, ?_, OfM.rf S, hB⟩
    rw [f_X12_play_6, if_pos (nI_le (by omega) (by omega))]
    rfl
  | d + 1, k, nn + 1, S, B, h, hI, hB, hR, hkn, hnn => by
    have hW := h.1.1
    obtain ⟨r1, r2⟩ := id hR
    obtain ⟨c0, c1', c2'⟩ := r2 k (by omega)
    obtain ⟨S1, g1, g2, g3⟩ := deedM hr1 h hI hB hkb r1 (by omega) (hk k (by omega)) c0 c1' c2'
    have hI1 := hI.deed (dk k) (dx k) (dy k)
    have hpl : playB D nl nro dk dx dy (d + 1) k B = if (deedB D nl nro (dk k) (dx k) (dy k) B).1 = true then playB D nl nro dk dx dy d (k + 1) (deedB D nl nro (dk k) (dx k) (dy k) B).2 else (k, (deedB D nl nro (dk k) (dx k) (dy k) B).2) := rfl
    rw [hpl, f_X12_play_6, if_neg (nI_ge (by omega) (by omega)), kk_313 hW, g1, b2_s]
    cases hd : (deedB D nl nro (dk k) (dx k) (dy k) B).1
    · rw [if_pos (show bi false = 0 from rfl), if_neg Bool.false_ne_true]
      exact ⟨S1, rfl, g2, g3⟩
    · rw [if_neg (show ¬ bi true = 0 by decide), if_pos rfl, nI_1]
      obtain ⟨S', k1, k2, k3⟩ := play6M hr1 hn hnb hkb hk d (k + 1) nn S1 _ (g2.hx h) hI1 g3 ⟨by rw [g2.2.2 28 (by decide)]; exact r1, fun j hj => by rw [g2.2.1 320 (by decide) (by decide)]; exact r2 j hj⟩ (by omega) (by omega)
      exact ⟨S', k1, g2.tr k2, k3⟩
end BN
