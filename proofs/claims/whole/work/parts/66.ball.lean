/-! the ball: the reference's minute, second half -/
section BL
variable {S S' : GS} {c nl nro : Nat} {D : DSt} {B : BSt}
theorem doesM (h : HxM S c nl nro D) {l : Nat} (hl : l < nl) (lace p : Int32) : f_X12_does 313 (nI l) lace p S = some (fate (D.2.2.1 l) (D.2.2.2.1 l) lace p) := by
  have n8 := h.2.2.2.2.2.2.1
  obtain ⟨e1, e2, e3⟩ := h.2.2.2.2.1 l hl
  unfold f_X12_does fate
  rw [k_313 h.1.1, h.1.lady (by omega) 3 3 rfl (by decide), b1_s, k_313 h.1.1, h.1.lady (by omega) 2 2 rfl (by decide), b1_s, e1, e2]
  split
  · split <;> rfl
  · rfl
/-- one lady meets her fate -/
theorem lookM (hr1 : 1 ≤ D.2.2.2.2.2) (h : HxM S c nl nro D) (hI : BI nl nro D.2.2.2.2.2 B) {l : Nat} (hl : l < nl) (hB : HM S nl nro (B.1, B.2.1, mixF l (fun l => lookL D l B.1.2.1 (prB D B.1.1 B.2.1 (B.2.2 l).1) (B.2.2 l)) B.2.2)) (hu : upL (B.2.2 l) = true) : ∃ S', f_X12_looksAt 313 (nI l) S = some S' ∧ OfM S S' ∧ HM S' nl nro (B.1, B.2.1, mixF (l + 1) (fun l => lookL D l B.1.2.1 (prB D B.1.1 B.2.1 (B.2.2 l).1) (B.2.2 l)) B.2.2) := by
  have hW := h.1.1
  have n8 := h.2.2.2.2.2.2.1
  obtain ⟨f1, f2, f3, f4, f5⟩ := id hB
  obtain ⟨i1, i2, i3⟩ := hI.2 l hl
  obtain ⟨u1, u2⟩ := upL_iff.mp hu
  have hl0 : LaM S l (mixF l (fun l => lookL D l B.1.2.1 (prB D B.1.1 B.2.1 (B.2.2 l).1) (B.2.2 l)) B.2.2 l) := f5 l hl
  rw [mix_ge (Nat.lt_irrefl l)] at hl0
  obtain ⟨a1, a2, a3, a4, a5⟩ := hl0
  have hm : ∀ j, j ≠ l → mixF (l + 1) (fun l => lookL D l B.1.2.1 (prB D B.1.1 B.2.1 (B.2.2 l).1) (B.2.2 l)) B.2.2 j = mixF l (fun l => lookL D l B.1.2.1 (prB D B.1.1 B.2.1 (B.2.2 l).1) (B.2.2 l)) B.2.2 j := fun j hj => mix_s hj
  have hml : mixF l (fun l => lookL D l B.1.2.1 (prB D B.1.1 B.2.1 (B.2.2 l).1) (B.2.2 l)) B.2.2 l = B.2.2 l := mix_ge (Nat.lt_irrefl l)
  have hmv : mixF (l + 1) (fun l => lookL D l B.1.2.1 (prB D B.1.1 B.2.1 (B.2.2 l).1) (B.2.2 l)) B.2.2 l = lookL D l B.1.2.1 (prB D B.1.1 B.2.1 (B.2.2 l).1) (B.2.2 l) := mix_lt (Nat.lt_succ_self l)
  generalize mixF (l + 1) (fun l => lookL D l B.1.2.1 (prB D B.1.1 B.2.1 (B.2.2 l).1) (B.2.2 l)) B.2.2 = A' at hm hmv ⊢
  generalize mixF l (fun l => lookL D l B.1.2.1 (prB D B.1.1 B.2.1 (B.2.2 l).1) (B.2.2 l)) B.2.2 = A at hm hml f1 f2 f3 f4 f5
  unfold lookL at hmv
  rw [if_pos hu] at hmv
  have hhead : f_X12_looksAt 313 (nI l) S = if fate (D.2.2.1 l) (D.2.2.2.1 l) (B.2.2 l).2.1 (prB D B.1.1 B.2.1 (B.2.2 l).1) = 0 then some S else (xI (some 313) 12 31 S fun v9 => (pI (some 313) 12 31 (v9 &&& ((jshl 1 (nI l)) ^^^ (-1))) S fun S10 => (xR (some 313) 12 44 S10 fun v11 => (xI (some 313) 12 30 S10 fun v12 => (qI v11 (nI l) v12 S10 fun S13 => (if fate (D.2.2.1 l) (D.2.2.2.1 l) (B.2.2 l).2.1 (prB D B.1.1 B.2.1 (B.2.2 l).1) = 2 then (xI (some 313) 12 33 S13 fun v14 => (pI (some 313) 12 33 (v14 ||| (jshl 1 (nI l))) S13 fun S15 => (some S15))) else (xI (some 313) 12 32 S13 fun v16 => (pI (some 313) 12 32 (v16 ||| (jshl 1 (nI l))) S13 fun S17 => (xR (some 313) 12 42 S17 fun v18 => (c1 (some 313) 12 S17 (fun o' => f_X12_ofCourt o' 4 S17) fun v19 => (qI v18 (nI l) v19 S17 fun S21 => (xR (some 313) 12 43 S21 fun v22 => (yI v22 14 (nI l) S21 fun v23 => (qI v22 (nI l) (v23 + 1) S21 fun S24 => (some S24))))))))))))))) := by
    unfold f_X12_looksAt
    rw [r_313_41 hW, y_329 hW (by omega), a2, r_313_40 hW, y_328 hW (by omega), a1, k_313 hW, airM h (B := B) f1.1 f3 i1 (f4 _ i1), b1_s, k_313 hW, doesM h hl, b1_s]
  rw [hhead]
  by_cases z : fate (D.2.2.1 l) (D.2.2.2.1 l) (B.2.2 l).2.1 (prB D B.1.1 B.2.1 (B.2.2 l).1) = 0
  · rw [if_pos z] at hmv ⊢
    have eA : A' = A := funext fun j => by
      by_cases y : j = l
      · rw [y, hmv, hml]
      · exact hm j y
    rw [eA]
    exact ⟨S, rfl, OfM.rf S, f1, f2, f3, f4, f5⟩
  · rw [if_neg z] at hmv ⊢
    generalize hS1 : sI S 313 31 (S.1 313 31 &&& (jshl 1 (nI l) ^^^ (-1))) = S1
    have o1 : OfM S S1 := by rw [← hS1]; exact om_p (by decide) (by decide)
    have hW1 := o1.wr hW
    have e30 : S1.1 313 30 = B.1.2.1 := by rw [← hS1, sI_at, if_neg (by decide)]; exact f1.2.1
    generalize hS2 : sI S1 332 l B.1.2.1 = S2
    have o2 : OfM S1 S2 := by rw [← hS2]; exact om_a (by decide) (by decide)
    have hW2 := o2.wr hW1
    have e2 : S2.1 313 = S1.1 313 := by rw [← hS2, sI_o (by decide)]
    rw [i_313 hW, p_313 hW, hS1, r_313_44 hW1, i_313 hW1, e30, q_332 hW1 (by omega), hS2]
    have x31 : S2.1 313 31 = S.1 313 31 &&& (jshl 1 (nI l) ^^^ (-1)) := by rw [e2, ← hS1, sI_at, if_pos rfl]
    have xo : ∀ i, i ≠ 31 → S2.1 313 i = S.1 313 i := fun i hi => by rw [e2, ← hS1, sI_at, if_neg hi]
    have hup : Bs (S2.1 313 31) nl (fun j => if j = l then false else upL (A j)) := by
      rw [x31]
      exact Bs.cl f2.1 hl n8 fun j _ => rfl
    by_cases y : fate (D.2.2.1 l) (D.2.2.2.1 l) (B.2.2 l).2.1 (prB D B.1.1 B.2.1 (B.2.2 l).1) = 2
    · rw [if_pos y] at hmv ⊢
      refine ⟨sI S2 313 33 (S2.1 313 33 ||| jshl 1 (nI l)), ?_, o1.tr (o2.tr (om_p (by decide) (by decide))), ?_, ⟨?_, ?_, ?_⟩, ?_, fun r hr => ?_, fun j hj => ?_⟩
      · rw [i_313 hW2, p_313 hW2]
      · have e : ∀ i, i ≠ 31 → i ≠ 33 → (sI S2 313 33 (S2.1 313 33 ||| jshl 1 (nI l))).1 313 i = S.1 313 i := fun i h1 h2 => by rw [sI_at, if_neg h2, xo i h1]
        unfold FiM
        rw [e 29 (by decide) (by decide), e 30 (by decide) (by decide), e 34 (by decide) (by decide), e 35 (by decide) (by decide), e 36 (by decide) (by decide), e 37 (by decide) (by decide)]
        exact f1
      · rw [sI_at, if_neg (by decide)]
        refine Bs.c hup fun j hj => ?_
        show upL (A' j) = _
        by_cases w : j = l
        · rw [if_pos w, w, hmv]
          rfl
        · rw [if_neg w, hm j w]
      · rw [sI_at, if_neg (by decide), xo 32 (by decide)]
        refine Bs.c f2.2.1 fun j hj => ?_
        show dnL (A' j) = dnL (A j)
        by_cases w : j = l
        · rw [w, hmv, hml]
          rfl
        · rw [hm j w]
      · rw [sI_at, if_pos rfl, xo 33 (by decide)]
        refine Bs.or f2.2.2 hl n8 fun j hj => ?_
        show buL (A' j) = if j = l then true else buL (A j)
        by_cases w : j = l
        · rw [if_pos w, w, hmv]
          rfl
        · rw [if_neg w, hm j w]
      · unfold OpM
        rw [sI_at, if_neg (by decide), xo 38 (by decide)]
        exact f3
      · rw [← hS2, ← hS1]
        exact RoM.o (RoM.o (RoM.o (f4 r hr) (by omega)) (by omega)) (by omega)
      · show LaM _ j (A' j)
        refine LaM.o ?_ (by omega)
        rw [← hS2, ← hS1]
        by_cases w : j = l
        · subst w
          rw [hmv]
          refine ⟨by rw [sI_o (by decide), sI_o (by decide)]; exact a1, by rw [sI_o (by decide), sI_o (by decide)]; exact a2, fun v => by rw [sI_o (by decide), sI_o (by decide)]; exact a3 v, by rw [sI_o (by decide), sI_o (by decide)]; exact a4, by rw [sI_at, if_pos rfl]⟩
        · rw [hm j w]
          exact LaM.o (LaM.o (f5 j hj) (by omega)) (by omega)
    · rw [if_neg y] at hmv ⊢
      generalize hS3 : sI S2 313 32 (S2.1 313 32 ||| jshl 1 (nI l)) = S3
      have o3 : OfM S2 S3 := by rw [← hS3]; exact om_p (by decide) (by decide)
      have hW3 := o3.wr hW2
      have hx3 := (o1.tr (o2.tr o3)).hx h
      generalize hS4 : sI S3 330 l (nI D.2.2.2.2.2) = S4
      have o4 : OfM S3 S4 := by rw [← hS4]; exact om_a (by decide) (by decide)
      have hW4 := o4.wr hW3
      have e4 : S4.1 313 = S3.1 313 := by rw [← hS4, sI_o (by decide)]
      have e31 : S4.1 331 l = (B.2.2 l).2.2.2.2.1 := by rw [← hS4, sI_o (by decide), ← hS3, sI_o (by decide), ← hS2, sI_o (by decide), ← hS1, sI_o (by decide)]; exact a4
      have x3 : ∀ i, i ≠ 31 → i ≠ 32 → (sI S4 331 l ((B.2.2 l).2.2.2.2.1 + 1)).1 313 i = S.1 313 i := fun i h1 h2 => by rw [sI_o (by decide), e4, ← hS3, sI_at, if_neg h2, xo i h1]
      have x31' : (sI S4 331 l ((B.2.2 l).2.2.2.2.1 + 1)).1 313 31 = S2.1 313 31 := by rw [sI_o (by decide), e4, ← hS3, sI_at, if_neg (by decide)]
      have x32 : (sI S4 331 l ((B.2.2 l).2.2.2.2.1 + 1)).1 313 32 = S.1 313 32 ||| jshl 1 (nI l) := by rw [sI_o (by decide), e4, ← hS3, sI_at, if_pos rfl, xo 32 (by decide)]
      refine ⟨sI S4 331 l ((B.2.2 l).2.2.2.2.1 + 1), ?_, o1.tr (o2.tr (o3.tr (o4.tr (om_a (by decide) (by decide))))), ?_, ⟨?_, ?_, ?_⟩, ?_, fun r hr => ?_, fun j hj => ?_⟩
      · rw [i_313 hW2, p_313 hW2, hS3, r_313_42 hW3, k_313 hW3, hx3.1.of 4 4 rfl (by decide), b1_s, hx3.2.2.2.2.2.1, q_330 hW3 (by omega), hS4, r_313_43 hW4, y_331 hW4 (by omega), e31, q_331 hW4 (by omega)]
      · unfold FiM
        rw [x3 29 (by decide) (by decide), x3 30 (by decide) (by decide), x3 34 (by decide) (by decide), x3 35 (by decide) (by decide), x3 36 (by decide) (by decide), x3 37 (by decide) (by decide)]
        exact f1
      · rw [x31']
        refine Bs.c hup fun j hj => ?_
        show upL (A' j) = _
        by_cases w : j = l
        · rw [if_pos w, w, hmv]
          unfold upL
          rw [show ((B.2.2 l).1, (B.2.2 l).2.1, D.2.2.2.2.2, (B.2.2 l).2.2.2.1, (B.2.2 l).2.2.2.2.1 + 1, B.1.2.1).2.2.1 = D.2.2.2.2.2 from rfl, decide_eq_false (show ¬ D.2.2.2.2.2 = 0 by omega), Bool.and_false]
        · rw [if_neg w, hm j w]
      · rw [x32]
        refine Bs.or f2.2.1 hl n8 fun j hj => ?_
        show dnL (A' j) = if j = l then true else dnL (A j)
        by_cases w : j = l
        · rw [if_pos w, w, hmv]
          exact decide_eq_true (show D.2.2.2.2.2 ≠ 0 by omega)
        · rw [if_neg w, hm j w]
      · rw [x3 33 (by decide) (by decide)]
        refine Bs.c f2.2.2 fun j hj => ?_
        show buL (A' j) = buL (A j)
        by_cases w : j = l
        · rw [w, hmv, hml]
          rfl
        · rw [hm j w]
      · unfold OpM
        rw [x3 38 (by decide) (by decide)]
        exact f3
      · rw [← hS4, ← hS3, ← hS2, ← hS1]
        exact RoM.o (RoM.o (RoM.o (RoM.o (RoM.o (f4 r hr) (by omega)) (by omega)) (by omega)) (by omega)) (by omega)
      · show LaM _ j (A' j)
        rw [← hS4, ← hS3, ← hS2, ← hS1]
        by_cases w : j = l
        · subst w
          rw [hmv]
          refine ⟨?_, ?_, fun _ => ?_, ?_, ?_⟩
          · rw [sI_o (by decide), sI_o (by decide), sI_o (by decide), sI_o (by decide), sI_o (by decide)]
            exact a1
          · rw [sI_o (by decide), sI_o (by decide), sI_o (by decide), sI_o (by decide), sI_o (by decide)]
            exact a2
          · rw [sI_o (by decide), sI_at, if_pos rfl]
          · rw [sI_at, if_pos rfl]
          · rw [sI_o (by decide), sI_o (by decide), sI_o (by decide), sI_at, if_pos rfl]
        · rw [hm j w]
          exact LaM.o (LaM.o (LaM.o (LaM.o (LaM.o (f5 j hj) (by omega)) (by omega)) (by omega)) (by omega)) (by omega)
end BL
