/-! the ball: the reference, deed by deed -/
section BJ
variable {S S' : GS} {c nl nro : Nat} {D : DSt} {B : BSt}
theorem inQ_t {x : Int32} {n : Nat} (h : inQ x n = true) : ∃ k, x = nI k ∧ k < n ∧ x.toNatClampNeg = k ∧ ¬ x < 0 := by
  obtain ⟨q1, q2⟩ := of_decide_eq_true h
  obtain ⟨k, hk, rfl⟩ := nI_of q1
  rw [nI_clamp hk] at q2
  exact ⟨k, rfl, q2, nI_clamp hk, q1⟩
theorem inQ_f {x : Int32} {n : Nat} (h : inQ x n = false) : x < 0 ∨ n ≤ x.toNatClampNeg := by
  have := of_decide_eq_false h
  by_cases q : x < 0
  · exact Or.inl q
  · exact Or.inr (Nat.not_lt.mp fun z => this ⟨q, z⟩)
theorem turnM (h : HxM S c nl nro D) (hB : HM S nl nro B) (x : Int32) (op : Bool) : ∃ S', f_X12_opensOr 313 x (bi op) S = some (bi (turnB nro x op B).1, S') ∧ OfM S S' ∧ HM S' nl nro (turnB nro x op B).2 := by
  have hW := h.1.1
  have n4 := h.2.2.2.2.2.2.2
  obtain ⟨f1, f2, f3, f4, f5⟩ := id hB
  unfold f_X12_opensOr turnB
  rw [k_313 hW, h.room, b1_s]
  cases q : inQ x nro
  · rw [if_pos (show bi false = 0 from rfl), if_pos (by rcases inQ_f q with z | z; exact Or.inl z; exact Or.inr (Or.inl z))]
    exact ⟨S, rfl, OfM.rf S, hB⟩
  · obtain ⟨k, rfl, hk, ek, hn⟩ := inQ_t q
    rw [if_neg (show ¬ bi true = 0 by decide), i_313 hW, f3.has hk (by omega), b1_s, ek]
    by_cases z : (B.2.1 k).2 = op
    · rw [if_neg (by rw [z, bool_eq]; cases op <;> decide), if_neg (by rintro (y | y | y); exact hn y; omega; exact y z)]
      generalize hS1 : sI S 327 k (S.1 313 29) = S1
      have o1 : OfM S S1 := by rw [← hS1]; exact om_a (by decide) (by decide)
      have e38 : S1.1 313 38 = S.1 313 38 := by rw [← hS1, sI_o (by decide)]
      refine ⟨sI S1 313 38 (S1.1 313 38 ^^^ jshl 1 (nI k)), ?_, o1.tr (om_p (by decide) (by decide)), ?_, ?_, ?_, fun r hr => ?_, fun l hl => ?_⟩
      · rw [r_313_39 hW, i_313 hW, q_327 hW (by omega), hS1, i_313 (o1.wr hW), p_313 (o1.wr hW)]
        rfl
      · have e : ∀ i, i ≠ 38 → (sI S1 313 38 (S1.1 313 38 ^^^ jshl 1 (nI k))).1 313 i = S.1 313 i := fun i hi => by rw [sI_at, if_neg hi, ← hS1, sI_o (by decide)]
        unfold FiM
        rw [e 29 (by decide), e 30 (by decide), e 34 (by decide), e 35 (by decide), e 36 (by decide), e 37 (by decide)]
        exact f1
      · refine SeM.o ?_ (by omega)
        rw [← hS1]
        exact f2.o (by omega)
      · unfold OpM
        rw [sI_at, if_pos rfl, e38]
        refine f3.fl hk (by omega) fun j hj => ?_
        show (!(updF B.2.1 k (B.1.1, !op) j).2) = _
        by_cases y : j = k
        · rw [y, updF_at, if_pos rfl, z]
        · rw [updF_o y, if_neg y]
      · refine RoM.o ?_ (by omega)
        rw [← hS1]
        show RoM _ r (updF B.2.1 k (B.1.1, !op) r)
        by_cases y : r = k
        · rw [y, updF_at]
          intro _
          rw [sI_at, if_pos rfl]
          exact f1.1
        · rw [updF_o y]
          exact (f4 r hr).o (Or.inr y)
      · refine LaM.o ?_ (by omega)
        rw [← hS1]
        exact (f5 l hl).o (by omega)
    · rw [if_pos (by rw [bool_eq]; revert z; cases (B.2.1 k).2 <;> cases op <;> decide), if_pos (Or.inr (Or.inr z))]
      exact ⟨S, rfl, OfM.rf S, hB⟩
theorem sighM (h : HxM S c nl nro D) (hI : BI nl nro D.2.2.2.2.2 B) (hB : HM S nl nro B) (x : Int32) : ∃ S', f_X12_sighs 313 x S = some (bi (sighB D nl x B).1, S') ∧ OfM S S' ∧ HM S' nl nro (sighB D nl x B).2 := by
  have hW := h.1.1
  have n4 := h.2.2.2.2.2.2.2
  have n8 := h.2.2.2.2.2.2.1
  obtain ⟨f1, f2, f3, f4, f5⟩ := id hB
  unfold f_X12_sighs sighB
  rw [k_313 hW, h.lady, b1_s]
  cases q : inQ x nl
  · rw [if_pos (show bi false = 0 from rfl), if_pos (by rcases inQ_f q with z | z; exact Or.inl z; exact Or.inr (Or.inl z))]
    exact ⟨S, rfl, OfM.rf S, hB⟩
  · obtain ⟨l, rfl, hl, ek, hn⟩ := inQ_t q
    obtain ⟨a1, a2, a3, a4, a5⟩ := f5 l hl
    obtain ⟨b1', b2', b3'⟩ := hI.2 l hl
    rw [if_neg (show ¬ bi true = 0 by decide), i_313 hW, f2.1.has hl n8, b1_s, ek]
    cases u : upL (B.2.2 l)
    · rw [if_pos (show bi false = 0 from rfl), if_pos (Or.inr (Or.inr rfl))]
      exact ⟨S, rfl, OfM.rf S, hB⟩
    · rw [if_neg (show ¬ bi true = 0 by decide), if_neg (by rintro (y | y | y); exact hn y; omega; exact absurd y (by decide)), r_313_40 hW, y_328 hW (by omega), a1, i_313 hW, f3.has b1' (by omega), b1_s]
      cases o : (B.2.1 (B.2.2 l).1).2
      · rw [if_neg (show ¬ bi (!false) = 0 by decide), if_neg (fun z => Bool.false_ne_true z.1)]
        exact ⟨S, rfl, OfM.rf S, hB⟩
      · rw [if_pos (show bi (!true) = 0 from rfl), k_313 hW, h.1.of _ (9 + 2 * (B.2.2 l).1) (by rw [← nI_add, ← nI_mul]; rfl) (by omega), b1_s, (h.2.2.2.1 _ b1').2]
        by_cases z : 3 < D.2.1 (B.2.2 l).1
        · rw [if_pos z, if_neg (fun y => y.2 z)]
          exact ⟨S, rfl, OfM.rf S, hB⟩
        · rw [if_neg z, if_pos ⟨rfl, z⟩]
          refine ⟨sI S 327 (B.2.2 l).1 (jmin 40 ((B.2.1 (B.2.2 l).1).1 + 1)), ?_, om_a (by decide) (by decide), f1.o (by decide), f2.o (by omega), ?_, fun r hr => ?_, fun l' hl' => (f5 l' hl').o (by omega)⟩
          · rw [r_313_39 hW, r_313_39 hW, y_327 hW (by omega), f4 _ b1' o, m_lesser, b1_s, q_327 hW (by omega)]
            rfl
          · refine OpM.o ?_ (by omega)
            refine f3.c fun j hj => ?_
            show (!(updF B.2.1 (B.2.2 l).1 _ j).2) = _
            by_cases y : j = (B.2.2 l).1
            · rw [y, updF_at, o]
            · rw [updF_o y]
          · show RoM _ r (updF B.2.1 (B.2.2 l).1 _ r)
            by_cases y : r = (B.2.2 l).1
            · rw [y, updF_at]
              intro _
              rw [sI_at, if_pos rfl]
            · rw [updF_o y]
              exact (f4 r hr).o (Or.inr y)
theorem knotM (h : HxM S c nl nro D) (hB : HM S nl nro B) (x y : Int32) : ∃ S', f_X12_laces 313 x y S = some (bi (knotB nl x y B).1, S') ∧ OfM S S' ∧ HM S' nl nro (knotB nl x y B).2 := by
  have hW := h.1.1
  have n8 := h.2.2.2.2.2.2.1
  obtain ⟨f1, f2, f3, f4, f5⟩ := id hB
  unfold f_X12_laces knotB
  rw [k_313 hW, h.lady, b1_s]
  cases q : inQ x nl
  · rw [if_pos (show bi false = 0 from rfl), if_pos (by rcases inQ_f q with z | z; exact Or.inl z; exact Or.inr (Or.inl z))]
    exact ⟨S, rfl, OfM.rf S, hB⟩
  · obtain ⟨l, rfl, hl, ek, hn⟩ := inQ_t q
    obtain ⟨a1, a2, a3, a4, a5⟩ := f5 l hl
    rw [if_neg (show ¬ bi true = 0 by decide), i_313 hW, f2.2.2.has hl n8, b1_s, ek]
    show ∃ S', (if bi (B.2.2 l).2.2.2.1 = 0 then _ else _) = _ ∧ _
    cases u : (B.2.2 l).2.2.2.1
    · rw [if_pos (show bi false = 0 from rfl), r_313_41 hW, y_329 hW (by omega), a2, m_in, b1_s]
      by_cases q1 : (B.2.2 l).2.1 + y < 0
      · rw [if_pos q1, if_pos rfl, if_pos (Or.inr (Or.inr (Or.inr (Or.inl q1))))]
        exact ⟨S, rfl, OfM.rf S, hB⟩
      · by_cases q2 : 30 < (B.2.2 l).2.1 + y
        · rw [if_neg q1, if_pos q2, if_pos rfl, if_pos (Or.inr (Or.inr (Or.inr (Or.inr q2))))]
          exact ⟨S, rfl, OfM.rf S, hB⟩
        · rw [if_neg q1, if_neg q2, if_neg n10, if_neg (by rintro (z | z | z | z | z); exact hn z; omega; exact absurd z (by decide); exact q1 z; exact q2 z)]
          generalize hS1 : sI S 329 l ((B.2.2 l).2.1 + y) = S1
          have o1 : OfM S S1 := by rw [← hS1]; exact om_a (by decide) (by decide)
          have e3 : S1.1 313 = S.1 313 := by rw [← hS1, sI_o (by decide)]
          refine ⟨sI S1 313 34 (S1.1 313 34 + jabs y), ?_, o1.tr (om_p (by decide) (by decide)), ?_, ?_, ?_, fun r hr => ?_, fun l' hl' => ?_⟩
          · rw [r_313_41 hW, y_329 hW (by omega), a2, q_329 hW (by omega), hS1, i_313 (o1.wr hW), m_size, b1_s, p_313 (o1.wr hW)]
            rfl
          · obtain ⟨b1', b2', b3', b4', b5', b6'⟩ := f1
            have e : ∀ i, i ≠ 34 → (sI S1 313 34 (S1.1 313 34 + jabs y)).1 313 i = S.1 313 i := fun i hi => by rw [sI_at, if_neg hi, e3]
            refine ⟨(e 29 (by decide)).trans b1', (e 30 (by decide)).trans b2', ?_, (e 35 (by decide)).trans b4', (e 36 (by decide)).trans b5', (e 37 (by decide)).trans b6'⟩
            rw [sI_at, if_pos rfl, e3, b3']
          · refine SeM.o (S := S1) ?_ (by omega)
            have g : SeM S1 nl B.2.2 := by rw [← hS1]; exact f2.o (by omega)
            have gg : ∀ j, (updF B.2.2 l ((B.2.2 l).1, (B.2.2 l).2.1 + y, (B.2.2 l).2.2) j).2.2 = (B.2.2 j).2.2 := fun j => by
              by_cases z : j = l
              · rw [z, updF_at]
              · rw [updF_o z]
            refine ⟨g.1.c fun j _ => ?_, g.2.1.c fun j _ => ?_, g.2.2.c fun j _ => ?_⟩
            · show upL (updF B.2.2 l _ j) = _
              unfold upL
              rw [gg]
            · show dnL (updF B.2.2 l _ j) = _
              unfold dnL
              rw [gg]
            · show buL (updF B.2.2 l _ j) = _
              unfold buL
              rw [gg]
          · refine OpM.o ?_ (by omega)
            rw [← hS1]
            exact f3.o (by omega)
          · refine RoM.o ?_ (by omega)
            rw [← hS1]
            exact (f4 r hr).o (by omega)
          · refine LaM.o ?_ (by omega)
            rw [← hS1]
            show LaM _ l' (updF B.2.2 l _ l')
            by_cases z : l' = l
            · subst z
              rw [updF_at]
              refine ⟨by rw [sI_o (by decide)]; exact a1, by rw [sI_at, if_pos rfl], fun w => by rw [sI_o (by decide)]; exact a3 w, by rw [sI_o (by decide)]; exact a4, by rw [sI_o (by decide)]; exact a5⟩
            · rw [updF_o z]
              exact (f5 l' hl').o (by omega)
    · rw [if_neg (show ¬ bi true = 0 by decide), if_pos (Or.inr (Or.inr (Or.inl rfl)))]
      exact ⟨S, rfl, OfM.rf S, hB⟩
theorem goM (h : HxM S c nl nro D) (hB : HM S nl nro B) (x y : Int32) : ∃ S', f_X12_goes 313 x y S = some (bi (goB nl nro x y B).1, S') ∧ OfM S S' ∧ HM S' nl nro (goB nl nro x y B).2 := by
  have hW := h.1.1
  have n8 := h.2.2.2.2.2.2.1
  obtain ⟨f1, f2, f3, f4, f5⟩ := id hB
  unfold f_X12_goes goB
  rw [k_313 hW, h.lady, b1_s]
  cases q : inQ x nl
  · rw [if_pos (show bi false = 0 from rfl), if_pos (by rcases inQ_f q with z | z; exact Or.inl z; exact Or.inr (Or.inl z))]
    exact ⟨S, rfl, OfM.rf S, hB⟩
  · obtain ⟨l, rfl, hl, ek, hn⟩ := inQ_t q
    obtain ⟨a1, a2, a3, a4, a5⟩ := f5 l hl
    rw [if_neg (show ¬ bi true = 0 by decide), k_313 hW, h.room, b1_s]
    cases q2 : inQ y nro
    · rw [if_pos (show bi false = 0 from rfl), if_pos (by rcases inQ_f q2 with z | z; exact Or.inr (Or.inr (Or.inl z)); exact Or.inr (Or.inr (Or.inr (Or.inl z))))]
      exact ⟨S, rfl, OfM.rf S, hB⟩
    · obtain ⟨r, rfl, hr, er, hn2⟩ := inQ_t q2
      rw [if_neg (show ¬ bi true = 0 by decide), i_313 hW, f2.1.has hl n8, b1_s, ek, er]
      cases u : upL (B.2.2 l)
      · rw [if_pos (show bi false = 0 from rfl), if_pos (Or.inr (Or.inr (Or.inr (Or.inr rfl))))]
        exact ⟨S, rfl, OfM.rf S, hB⟩
      · rw [if_neg (show ¬ bi true = 0 by decide), if_neg (by rintro (z | z | z | z | z); exact hn z; omega; exact hn2 z; omega; exact absurd z (by decide))]
        have gg : ∀ j, (updF B.2.2 l (r, (B.2.2 l).2) j).2 = (B.2.2 j).2 := fun j => by
          by_cases z : j = l
          · rw [z, updF_at]
          · rw [updF_o z]
        refine ⟨sI S 328 l (nI r), ?_, om_a (by decide) (by decide), f1.o (by decide), ?_, f3.o (by omega), fun r' hr' => (f4 r' hr').o (by omega), fun l' hl' => ?_⟩
        · rw [r_313_40 hW, q_328 hW (by omega)]
          rfl
        · have g : SeM (sI S 328 l (nI r)) nl B.2.2 := f2.o (by omega)
          refine ⟨g.1.c fun j _ => ?_, g.2.1.c fun j _ => ?_, g.2.2.c fun j _ => ?_⟩
          · show upL (updF B.2.2 l _ j) = _
            unfold upL
            rw [gg]
          · show dnL (updF B.2.2 l _ j) = _
            unfold dnL
            rw [gg]
          · show buL (updF B.2.2 l _ j) = _
            unfold buL
            rw [gg]
        · show LaM _ l' (updF B.2.2 l _ l')
          by_cases z : l' = l
          · subst z
            rw [updF_at]
            refine ⟨by rw [sI_at, if_pos rfl], by rw [sI_o (by decide)]; exact a2, fun w => by rw [sI_o (by decide)]; exact a3 w, by rw [sI_o (by decide)]; exact a4, by rw [sI_o (by decide)]; exact a5⟩
          · rw [updF_o z]
            exact (f5 l' hl').o (by omega)
end BJ
