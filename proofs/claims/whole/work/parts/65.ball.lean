/-! the ball: the reference's minute -/
section BK
variable {S S' : GS} {c nl nro : Nat} {D : DSt} {B : BSt}
theorem driM (h : HxM S c nl nro D) (hf : S.1 313 29 = B.1.1) {r : Nat} (hr : r < nro) {R : Int32 × Bool} (hR : RoM S r R) (hs : R.2 = true) {n : Nat} (ho : f_X12_has (S.1 313 38) (nI r) S = some 0) : f_X12_minute_12 313 (n + 1) (nI r) S = f_X12_minute_12 313 n (nI (r + 1)) (sI S 327 r (R.1 + cmpI B.1.1 R.1)) := by
  have hW := h.1.1
  have n4 := h.2.2.2.2.2.2.2
  rw [f_X12_minute_12, i_313 hW, h.n26, if_neg (nI_ge (by omega) (by omega)), i_313 hW, ho, b1_s, if_pos rfl, r_313_39 hW, y_327 hW (by omega), r_313_39 hW, y_327 hW (by omega), i_313 hW, hR hs, hf]
  unfold f_X12_minute_73 f_X12_minute_75 cmpI
  by_cases q : B.1.1 ≤ R.1
  · rw [if_pos q, r_313_39 hW, y_327 hW (by omega), i_313 hW, hR hs, hf, if_neg (Int32.not_lt.mpr q)]
    by_cases z : R.1 ≤ B.1.1
    · rw [if_pos z, if_neg (Int32.not_lt.mpr z), q_327 hW (by omega), nI_1]
    · rw [if_neg z, if_pos (Int32.not_le.mp z), q_327 hW (by omega), nI_1]
  · rw [if_neg q, if_pos (Int32.not_le.mp q), q_327 hW (by omega), nI_1]
theorem pass12M : ∀ (d r n : Nat) (S : GS), HxM S c nl nro D → HM S nl nro (B.1, mixF r (fun r => driftR B.1.1 (B.2.1 r)) B.2.1, B.2.2) → r + d = nro → d < n → ∃ S', f_X12_minute_12 313 n (nI r) S = f_X12_minute_83 313 fu 0 S' ∧ OfM S S' ∧ HM S' nl nro (B.1, fun r => driftR B.1.1 (B.2.1 r), B.2.2)
  | _, _, 0, _, _, _, _, hn => absurd hn (Nat.not_lt_zero _)
  | 0, r, n + 1, S, h, hB, hr, _ => by
    have n4 := h.2.2.2.2.2.2.2
    obtain ⟨f1, f2, f3, f4, f5⟩ := hB
    refine ⟨S, ?_, OfM.rf S, f1, f2, ?_, fun r' hr' => ?_, f5⟩
    · rw [f_X12_minute_12, i_313 h.1.1, h.n26, if_pos (nI_le (by omega) (by omega))]
    · exact Bs.c f3 fun j hj => by
        show (!(driftR B.1.1 (B.2.1 j)).2) = !(mixF r (fun r => driftR B.1.1 (B.2.1 r)) B.2.1 j).2
        rw [mix_lt (by omega)]
    · have this : RoM S r' (mixF r (fun r => driftR B.1.1 (B.2.1 r)) B.2.1 r') := f4 r' hr'
      rw [mix_lt (show r' < r by omega)] at this
      exact this
  | d + 1, r, n + 1, S, h, hB, hr, hn => by
    obtain ⟨f1, f2, f3, f4, f5⟩ := id hB
    have hW := h.1.1
    have n4 := h.2.2.2.2.2.2.2
    have hrr : r < nro := by omega
    have hr0 : RoM S r (mixF r (fun r => driftR B.1.1 (B.2.1 r)) B.2.1 r) := f4 r hrr
    rw [mix_ge (Nat.lt_irrefl r)] at hr0
    have ho : f_X12_has (S.1 313 38) (nI r) S = some (bi (!(mixF r (fun r => driftR B.1.1 (B.2.1 r)) B.2.1 r).2)) := Bs.has f3 hrr (by omega)
    rw [mix_ge (Nat.lt_irrefl r)] at ho
    have hop : Bs (S.1 313 38) nro (fun j => !(mixF (r + 1) (fun r => driftR B.1.1 (B.2.1 r)) B.2.1 j).2) := Bs.c f3 fun j hj => by
      show (!(mixF (r + 1) (fun r => driftR B.1.1 (B.2.1 r)) B.2.1 j).2) = !(mixF r (fun r => driftR B.1.1 (B.2.1 r)) B.2.1 j).2
      by_cases z : j = r
      · rw [z, mix_lt (Nat.lt_succ_self r), mix_ge (Nat.lt_irrefl r), drift_2]
      · rw [mix_s z]
    cases hs : (B.2.1 r).2
    · obtain ⟨S', k1, k2, k3⟩ := pass12M d (r + 1) n S h ⟨f1, f2, hop, fun r' hr' => by
        have := f4 r' hr'
        show RoM S r' (mixF (r + 1) _ _ r')
        by_cases z : r' = r
        · rw [z, mix_lt (Nat.lt_succ_self r), drift_n hs]
          exact hr0
        · rw [mix_s z]
          exact this, f5⟩ (by omega) (by omega)
      refine ⟨S', ?_, k2, k3⟩
      rw [hs] at ho
      rw [f_X12_minute_12, i_313 hW, h.n26, if_neg (nI_ge (by omega) (by omega)), i_313 hW, ho, b1_s, if_neg (show ¬ bi (!false) = 0 by decide)]
      unfold f_X12_minute_75
      rw [nI_1]
      exact k1
    · generalize hS1 : sI S 327 r ((B.2.1 r).1 + cmpI B.1.1 (B.2.1 r).1) = S1
      have o1 : OfM S S1 := by rw [← hS1]; exact om_a (by decide) (by decide)
      obtain ⟨S', k1, k2, k3⟩ := pass12M d (r + 1) n S1 (o1.hx h) ⟨by rw [← hS1]; exact f1.o (by decide), by rw [← hS1]; exact f2.o (by omega), by
        rw [← hS1]
        exact OpM.o (R := mixF (r + 1) (fun r => driftR B.1.1 (B.2.1 r)) B.2.1) hop (by omega), fun r' hr' => by
        have := f4 r' hr'
        show RoM S1 r' (mixF (r + 1) _ _ r')
        rw [← hS1]
        by_cases z : r' = r
        · rw [z, mix_lt (Nat.lt_succ_self r)]
          intro _
          rw [sI_at, if_pos rfl]
          unfold driftR
          rw [hs, if_pos rfl]
        · rw [mix_s z]
          exact RoM.o this (Or.inr z), fun l hl => by rw [← hS1]; exact (f5 l hl).o (by omega)⟩ (by omega) (by omega)
      refine ⟨S', ?_, o1.tr k2, k3⟩
      rw [hs] at ho
      rw [driM h (B := B) f1.1 hrr hr0 hs ho, hS1, k1]
theorem restL_0 {L : BLs} (h : L.2.2.1 = 0) : restL L = L := by
  unfold restL
  rw [h, show 0 - 1 = L.2.2.1 by rw [h]]
theorem pass83M : ∀ (d l n : Nat) (S : GS), HxM S c nl nro D → BI nl nro D.2.2.2.2.2 B → HM S nl nro (B.1, B.2.1, mixF l (fun l => restL (B.2.2 l)) B.2.2) → l + d = nl → d < n → ∃ S', f_X12_minute_83 313 n (nI l) S = f_X12_minute_155 313 fu 0 S' ∧ OfM S S' ∧ HM S' nl nro (B.1, B.2.1, fun l => restL (B.2.2 l))
  | _, _, 0, _, _, _, _, _, hn => absurd hn (Nat.not_lt_zero _)
  | 0, l, n + 1, S, h, hI, hB, hl, _ => by
    have n8 := h.2.2.2.2.2.2.1
    obtain ⟨f1, f2, f3, f4, f5⟩ := hB
    have e : ∀ j, j < nl → mixF l (fun l => restL (B.2.2 l)) B.2.2 j = restL (B.2.2 j) := fun j hj => mix_lt (by omega)
    refine ⟨S, ?_, OfM.rf S, f1, ⟨Bs.c f2.1 fun j hj => ?_, Bs.c f2.2.1 fun j hj => ?_, Bs.c f2.2.2 fun j hj => ?_⟩, f3, f4, fun j hj => ?_⟩
    · rw [f_X12_minute_83, i_313 h.1.1, h.n27, if_pos (nI_le (by omega) (by omega))]
    · exact congrArg upL (e j hj).symm
    · exact congrArg dnL (e j hj).symm
    · exact congrArg buL (e j hj).symm
    · have := f5 j hj
      rw [show (B.1, B.2.1, mixF l (fun l => restL (B.2.2 l)) B.2.2).2.2 j = _ from e j hj] at this
      exact this
  | d + 1, l, n + 1, S, h, hI, hB, hl, hn => by
    obtain ⟨f1, f2, f3, f4, f5⟩ := id hB
    have hW := h.1.1
    have n8 := h.2.2.2.2.2.2.1
    have hll : l < nl := by omega
    obtain ⟨i1, i2, i3⟩ := hI.2 l hll
    have hl0 : LaM S l (mixF l (fun l => restL (B.2.2 l)) B.2.2 l) := f5 l hll
    rw [mix_ge (Nat.lt_irrefl l)] at hl0
    have hd : f_X12_has (S.1 313 32) (nI l) S = some (bi (dnL (mixF l (fun l => restL (B.2.2 l)) B.2.2 l))) := Bs.has f2.2.1 hll n8
    rw [mix_ge (Nat.lt_irrefl l)] at hd
    rw [f_X12_minute_83, i_313 hW, h.n27, if_neg (nI_ge (by omega) (by omega)), i_313 hW, hd, b1_s]
    unfold f_X12_minute_147
    rw [nI_1]
    by_cases q : (B.2.2 l).2.2.1 = 0
    · have em : mixF (l + 1) (fun l => restL (B.2.2 l)) B.2.2 = mixF l (fun l => restL (B.2.2 l)) B.2.2 := funext fun j => by
        by_cases z : j = l
        · rw [z, mix_lt (Nat.lt_succ_self l), mix_ge (Nat.lt_irrefl l), restL_0 q]
        · rw [mix_s z]
      obtain ⟨S', k1, k2, k3⟩ := pass83M d (l + 1) n S h hI (by rw [em]; exact hB) (by omega) (by omega)
      refine ⟨S', ?_, k2, k3⟩
      unfold dnL
      rw [decide_eq_false (fun z => z q), if_pos (show bi false = 0 from rfl), k1]
    · obtain ⟨a1, a2, a3, a4, a5⟩ := hl0
      have hbu : (B.2.2 l).2.2.2.1 = false := by
        cases z : (B.2.2 l).2.2.2.1
        · rfl
        · exact absurd (i3 z) q
      generalize hS1 : sI S 330 l (nI ((B.2.2 l).2.2.1 - 1)) = S1
      have o1 : OfM S S1 := by rw [← hS1]; exact om_a (by decide) (by decide)
      have e3 : S1.1 313 = S.1 313 := by rw [← hS1, sI_o (by decide)]
      have hW1 := o1.wr hW
      have hm1 : ∀ i, i < nl → LaM S1 i (mixF (l + 1) (fun l => restL (B.2.2 l)) B.2.2 i) := fun i hi => by
        have := f5 i hi
        rw [← hS1]
        by_cases z : i = l
        · rw [z, mix_lt (Nat.lt_succ_self l)]
          exact ⟨by rw [sI_o (by decide)]; exact a1, by rw [sI_o (by decide)]; exact a2, fun _ => by rw [sI_at, if_pos rfl]; rfl, by rw [sI_o (by decide)]; exact a4, by rw [sI_o (by decide)]; exact a5⟩
        · rw [mix_s z]
          exact LaM.o this (by omega)
      have g1 : FiM S1 B := by rw [← hS1]; exact FiM.o f1 (by decide)
      have g3 : OpM S1 nro B.2.1 := by rw [← hS1]; exact OpM.o f3 (by omega)
      have g4 : ∀ r, r < nro → RoM S1 r (B.2.1 r) := fun r hr => by rw [← hS1]; exact RoM.o (f4 r hr) (by omega)
      have hhead : ∀ {K : GS → Option GS}, (xR (some 313) 12 42 S fun v5 => yI v5 14 (nI l) S fun v6 => qI v5 (nI l) (v6 - 1) S fun S7 => K S7) = K S1 := fun {K} => by
        rw [r_313_42 hW, y_330 hW (by omega), q_330 hW (by omega), a3 q, show nI (B.2.2 l).2.2.1 - 1 = nI ((B.2.2 l).2.2.1 - 1) from nI_sub (b := 1) (by omega), hS1]
      unfold dnL
      rw [decide_eq_true q, if_neg (show ¬ bi true = 0 by decide), hhead, r_313_42 hW1, y_330 hW1 (by omega), show S1.1 330 l = nI ((B.2.2 l).2.2.1 - 1) by rw [← hS1, sI_at, if_pos rfl]]
      by_cases z : (B.2.2 l).2.2.1 = 1
      · generalize hS2 : sI S1 313 32 (S1.1 313 32 &&& (jshl 1 (nI l) ^^^ (-1))) = S2
        have o2 : OfM S1 S2 := by rw [← hS2]; exact om_p (by decide) (by decide)
        generalize hS3 : sI S2 313 31 (S2.1 313 31 ||| jshl 1 (nI l)) = S3
        have o3 : OfM S2 S3 := by rw [← hS3]; exact om_p (by decide) (by decide)
        have c31 : S2.1 313 31 = S.1 313 31 := by rw [← hS2, sI_at, if_neg (by decide), e3]
        have d31 : S3.1 313 31 = S.1 313 31 ||| jshl 1 (nI l) := by rw [← hS3, sI_at, if_pos rfl, c31]
        have d32 : S3.1 313 32 = S.1 313 32 &&& (jshl 1 (nI l) ^^^ (-1)) := by rw [← hS3, sI_at, if_neg (by decide), ← hS2, sI_at, if_pos rfl, e3]
        have d33 : S3.1 313 33 = S.1 313 33 := by rw [← hS3, sI_at, if_neg (by decide), ← hS2, sI_at, if_neg (by decide), e3]
        have dx : ∀ i, i < 31 ∨ 33 < i → S3.1 313 i = S1.1 313 i := fun i hi => by rw [← hS3, sI_at, if_neg (by omega), ← hS2, sI_at, if_neg (by omega)]
        obtain ⟨S', k1, k2, k3⟩ := pass83M d (l + 1) n S3 ((o1.tr (o2.tr o3)).hx h) hI ⟨by
          unfold FiM
          rw [dx 29 (by decide), dx 30 (by decide), dx 34 (by decide), dx 35 (by decide), dx 36 (by decide), dx 37 (by decide)]
          exact g1, ⟨by
            rw [d31]
            refine Bs.or f2.1 hll n8 fun j hj => ?_
            show upL (mixF (l + 1) _ _ j) = if j = l then true else upL (mixF l _ _ j)
            by_cases y : j = l
            · rw [if_pos y, y, mix_lt (Nat.lt_succ_self l)]
              exact upL_iff.mpr ⟨hbu, by show (B.2.2 l).2.2.1 - 1 = 0; omega⟩
            · rw [if_neg y, mix_s y], by
            rw [d32]
            refine Bs.cl f2.2.1 hll n8 fun j hj => ?_
            show dnL (mixF (l + 1) _ _ j) = if j = l then false else dnL (mixF l _ _ j)
            by_cases y : j = l
            · rw [if_pos y, y, mix_lt (Nat.lt_succ_self l)]
              exact decide_eq_false (fun w => w (by show (B.2.2 l).2.2.1 - 1 = 0; omega))
            · rw [if_neg y, mix_s y], by
            rw [d33]
            refine Bs.c f2.2.2 fun j hj => ?_
            show buL (mixF (l + 1) _ _ j) = buL (mixF l _ _ j)
            by_cases y : j = l
            · rw [y, mix_lt (Nat.lt_succ_self l), mix_ge (Nat.lt_irrefl l)]
              rfl
            · rw [mix_s y]⟩, by
          unfold OpM
          rw [dx 38 (by decide)]
          exact g3, fun r hr => by
          rw [← hS3, ← hS2]
          exact RoM.o (RoM.o (g4 r hr) (by omega)) (by omega), fun i hi => by
          rw [← hS3, ← hS2]
          exact LaM.o (LaM.o (hm1 i hi) (by omega)) (by omega)⟩ (by omega) (by omega)
        refine ⟨S', ?_, o1.tr (o2.tr (o3.tr k2)), k3⟩
        rw [if_pos (by rw [z]; rfl), i_313 hW1, p_313 hW1, hS2, i_313 (o2.wr hW1), p_313 (o2.wr hW1), hS3, k1]
      · have g2 : SeM S1 nl (mixF l (fun l => restL (B.2.2 l)) B.2.2) := by rw [← hS1]; exact SeM.o f2 (by omega)
        obtain ⟨S', k1, k2, k3⟩ := pass83M d (l + 1) n S1 (o1.hx h) hI ⟨g1, ⟨Bs.c g2.1 fun j hj => by
            show upL (mixF (l + 1) _ _ j) = upL (mixF l _ _ j)
            by_cases y : j = l
            · rw [y, mix_lt (Nat.lt_succ_self l), mix_ge (Nat.lt_irrefl l)]
              unfold upL
              rw [show (restL (B.2.2 l)).2.2.2.1 = (B.2.2 l).2.2.2.1 from rfl, hbu, decide_eq_false (show ¬ (restL (B.2.2 l)).2.2.1 = 0 by show ¬ (B.2.2 l).2.2.1 - 1 = 0; omega), decide_eq_false q]
            · rw [mix_s y], Bs.c g2.2.1 fun j hj => by
            show dnL (mixF (l + 1) _ _ j) = dnL (mixF l _ _ j)
            by_cases y : j = l
            · rw [y, mix_lt (Nat.lt_succ_self l), mix_ge (Nat.lt_irrefl l)]
              unfold dnL
              rw [decide_eq_true (show (restL (B.2.2 l)).2.2.1 ≠ 0 by show (B.2.2 l).2.2.1 - 1 ≠ 0; omega), decide_eq_true q]
            · rw [mix_s y], Bs.c g2.2.2 fun j hj => by
            show buL (mixF (l + 1) _ _ j) = buL (mixF l _ _ j)
            by_cases y : j = l
            · rw [y, mix_lt (Nat.lt_succ_self l), mix_ge (Nat.lt_irrefl l)]
              rfl
            · rw [mix_s y]⟩, g3, g4, hm1⟩ (by omega) (by omega)
        refine ⟨S', ?_, o1.tr k2, k3⟩
        rw [if_neg (nI_ne0 (by omega) (by omega)), k1]
end BK
