/-! the ball: the class's minute, its deeds -/
theorem cmp_v {S : GS} (a b : Int32) : f_J6_compare_7cf53 a b S = some (cmpI a b) := by
  unfold f_J6_compare_7cf53 cmpI
  by_cases q : b ≤ a
  · rw [if_pos q]
    by_cases z : a = b
    · rw [if_pos z, z, if_neg Int32.lt_irrefl, if_neg Int32.lt_irrefl]
    · have h : b < a := Int32.lt_of_le_of_ne q (fun e => z e.symm)
      rw [if_neg z, if_pos h]
  · rw [if_neg q, if_neg (fun z => q (Int32.le_of_lt z)), if_pos (Int32.not_le.mp q)]
theorem c2_k : ∀ t, t < 9 → nI t * (nI t - 1) / 2 = nI (c2N t) := by decide +kernel
theorem drift_n {gl : Int32} {R : Int32 × Bool} (h : R.2 = false) : driftR gl R = R := by
  unfold driftR
  rw [h, if_neg Bool.false_ne_true, ← h]
theorem drift_2 {gl : Int32} {R : Int32 × Bool} : (driftR gl R).2 = R.2 := rfl
/-- some done, the others not yet -/
def mixF {α : Type} (n : Nat) (f g : Nat → α) : Nat → α := fun j => if j < n then f j else g j
theorem mix_lt {α : Type} {n j : Nat} {f g : Nat → α} (h : j < n) : mixF n f g j = f j := if_pos h
theorem mix_ge {α : Type} {n j : Nat} {f g : Nat → α} (h : ¬ j < n) : mixF n f g j = g j := if_neg h
theorem mix_s {α : Type} {n j : Nat} {f g : Nat → α} (h : j ≠ n) : mixF (n + 1) f g j = mixF n f g j := by
  by_cases q : j < n
  · rw [mix_lt q, mix_lt (by omega)]
  · rw [mix_ge q, mix_ge (by omega)]
section BD
variable {S S' : GS} {co nl nro : Nat} {D : DSt} {B : BSt}
theorem pass12 : ∀ (d r n : Nat) (S : GS), Hx S co nl nro D → HB S nl nro (B.1, mixF r (fun r => driftR B.1.1 (B.2.1 r)) B.2.1, B.2.2) → r + d = 4 → d < n → ∃ S', f_X2_passMinute_12 230 n (nI r) S = f_X2_passMinute_56 230 fu 0 S' ∧ Hd S S' ∧ HB S' nl nro (B.1, fun r => driftR B.1.1 (B.2.1 r), B.2.2)
  | _, _, 0, _, _, _, _, hn => absurd hn (Nat.not_lt_zero _)
  | 0, r, n + 1, S, h, hB, hr, _ => by
    obtain ⟨f1, f2, f3, f4⟩ := hB
    refine ⟨S, ?_, Hd.rf S, f1, fun r' hr' => ?_, f3, f4⟩
    · rw [f_X2_passMinute_12, if_pos (show (4 : Int32) ≤ nI r from nI_le (a := 4) (by omega) (by omega))]
    · have hn4 := h.2.2.2.2.2.2.2.2.2.2
      have this : RoC S r' (mixF r (fun r => driftR B.1.1 (B.2.1 r)) B.2.1 r') := f2 r' hr'
      rw [mix_lt (show r' < r by omega)] at this
      exact this
  | d + 1, r, n + 1, S, h, hB, hr, hn => by
    obtain ⟨f1, f2, f3, f4⟩ := id hB
    have hW := h.1
    rw [f_X2_passMinute_12, if_neg (show ¬ (4 : Int32) ≤ nI r from nI_ge (b := 4) (by omega) (by omega)), r_230_1 hW, y_232 hW (by omega)]
    unfold f_X2_passMinute_48
    rw [nI_1]
    by_cases q : r < nro
    · have hr0 : RoC S r (mixF r (fun r => driftR B.1.1 (B.2.1 r)) B.2.1 r) := f2 r q
      rw [mix_ge (Nat.lt_irrefl r)] at hr0
      obtain ⟨g1, g2⟩ := hr0
      rw [g1]
      cases hs : (B.2.1 r).2
      · obtain ⟨S', k1, k2, k3⟩ := pass12 d (r + 1) n S h ⟨f1, fun r' hr' => by
          have := f2 r' hr'
          show RoC S r' (mixF (r + 1) _ _ r')
          by_cases z : r' = r
          · rw [z, mix_lt (Nat.lt_succ_self r), drift_n hs]
            exact ⟨g1, g2⟩
          · rw [mix_s z]
            exact this, f3, f4⟩ (by omega) (by omega)
        exact ⟨S', by rw [if_pos (show bi false = 0 from rfl), k1], k2, k3⟩
      · generalize hS1 : sI S 231 r ((B.2.1 r).1 + cmpI B.1.1 (B.2.1 r).1) = S1
        have o1 : Hd S S1 := by rw [← hS1]; exact hd_I (by decide) (by decide) (by omega)
        obtain ⟨S', k1, k2, k3⟩ := pass12 d (r + 1) n S1 (o1.1.hx (by decide) h) ⟨by rw [← hS1]; exact f1.o (by decide), fun r' hr' => by
          have := f2 r' hr'
          show RoC S1 r' (mixF (r + 1) _ _ r')
          rw [← hS1]
          by_cases z : r' = r
          · rw [z, mix_lt (Nat.lt_succ_self r)]
            refine ⟨by rw [sI_o (by decide), g1]; rfl, fun _ => ?_⟩
            rw [sI_at, if_pos rfl]
            unfold driftR
            rw [hs, if_pos rfl]
          · rw [mix_s z]
            exact RoC.o this (Or.inr (Or.inr z)), fun r' a b => by rw [← hS1, sI_o (by decide)]; exact f3 r' a b, fun l hl => by rw [← hS1]; exact (f4 l hl).o (Or.inl (by decide))⟩ (by omega) (by omega)
        refine ⟨S', ?_, o1.tr k2, k3⟩
        rw [if_neg (show ¬ bi true = 0 by decide), r_230_0 hW, y_231 hW (by omega), g2 hs, i_230 hW, f1.1, r_230_0 hW, y_231 hW (by omega), g2 hs, cmp_v, b1_s, q_231 hW (by omega), hS1, k1]
    · obtain ⟨S', k1, k2, k3⟩ := pass12 d (r + 1) n S h ⟨f1, fun r' hr' => by
        have := f2 r' hr'
        show RoC S r' (mixF (r + 1) _ _ r')
        rw [mix_s (by omega)]
        exact this, f3, f4⟩ (by omega) (by omega)
      exact ⟨S', by rw [f3 r (by omega) (by omega), if_pos rfl, k1], k2, k3⟩
theorem pass56 : ∀ (d l n : Nat) (S : GS), Hx S co nl nro D → BI nl nro D.2.2.2.2.2 B → HB S nl nro (B.1, B.2.1, mixF l (fun l => restL (B.2.2 l)) B.2.2) → l + d = 8 → d < n → ∃ S', f_X2_passMinute_56 230 n (nI l) S = f_X2_passMinute_88 230 fu 0 S' ∧ Hd S S' ∧ HB S' nl nro (B.1, B.2.1, fun l => restL (B.2.2 l))
  | _, _, 0, _, _, _, _, _, hn => absurd hn (Nat.not_lt_zero _)
  | 0, l, n + 1, S, h, hI, hB, hl, _ => by
    obtain ⟨f1, f2, f3, f4⟩ := hB
    have hn8 := h.2.2.2.2.2.2.2.2.2.1
    refine ⟨S, ?_, Hd.rf S, f1, f2, f3, fun l' hl' => ?_⟩
    · rw [f_X2_passMinute_56, if_pos (show (8 : Int32) ≤ nI l from nI_le (a := 8) (by omega) (by omega))]
    · have this : LaC S l' (mixF l (fun l => restL (B.2.2 l)) B.2.2 l') := f4 l' hl'
      rw [mix_lt (show l' < l by omega)] at this
      exact this
  | d + 1, l, n + 1, S, h, hI, hB, hl, hn => by
    obtain ⟨f1, f2, f3, f4⟩ := id hB
    have hW := h.1
    generalize hS1 : sI S 235 l (jmax 0 (S.1 235 l - 1)) = S1
    have o1 : Hd S S1 := by rw [← hS1]; exact hd_I (by decide) (by decide) (by omega)
    obtain ⟨S', k1, k2, k3⟩ := pass56 d (l + 1) n S1 (o1.1.hx (by decide) h) hI ⟨by rw [← hS1]; exact f1.o (by decide), fun r' hr' => by rw [← hS1]; exact (f2 r' hr').o (Or.inr (Or.inl (by decide))), fun r' a b => by rw [← hS1, sI_o (by decide)]; exact f3 r' a b, fun l' hl' => by
      have this : LaC S l' (mixF l (fun l => restL (B.2.2 l)) B.2.2 l') := f4 l' hl'
      show LaC S1 l' (mixF (l + 1) _ _ l')
      rw [← hS1]
      by_cases z : l' = l
      · subst z
        rw [mix_ge (Nat.lt_irrefl l')] at this
        obtain ⟨a1, a2, a3, a4, a5, a6⟩ := this
        have hr := (hI.2 l' hl').2.1
        rw [mix_lt (Nat.lt_succ_self l')]
        exact ⟨by rw [sI_o (by decide)]; exact a1, by rw [sI_o (by decide)]; exact a2, by rw [sI_at, if_pos rfl, a3, (lo_k _ (by omega)).1]; rfl, by rw [sI_o (by decide)]; exact a4, by rw [sI_o (by decide)]; exact a5, by rw [sI_o (by decide)]; exact a6⟩
      · rw [mix_s z]
        exact LaC.o this (Or.inr (Or.inr z))⟩ (by omega) (by omega)
    refine ⟨S', ?_, o1.tr k2, k3⟩
    rw [f_X2_passMinute_56, if_neg (show ¬ (8 : Int32) ≤ nI l from nI_ge (b := 8) (by omega) (by omega)), r_230_4 hW, r_230_4 hW, y_235 hW (by omega), q_235 hW (by omega), hS1, nI_1, k1]
/-- one lady's numbers alone are written -/
def Fl (l : Nat) (S S' : GS) : Prop := Hd S S' ∧ S'.1 230 = S.1 230 ∧ S'.1 231 = S.1 231 ∧ S'.1 232 = S.1 232 ∧ ∀ a, 233 ≤ a → a ≤ 238 → ∀ j, j ≠ l → S'.1 a j = S.1 a j
theorem Fl.tr {l : Nat} {S S1 S2 : GS} (h : Fl l S S1) (h2 : Fl l S1 S2) : Fl l S S2 := ⟨h.1.tr h2.1, h2.2.1.trans h.2.1, h2.2.2.1.trans h.2.2.1, h2.2.2.2.1.trans h.2.2.2.1, fun a p q j z => (h2.2.2.2.2 a p q j z).trans (h.2.2.2.2 a p q j z)⟩
theorem Fl.rf (l : Nat) (S : GS) : Fl l S S := ⟨Hd.rf S, rfl, rfl, rfl, fun _ _ _ _ _ => rfl⟩
theorem fl_I {l a : Nat} {v : Int32} (h1 : 233 ≤ a) (h2 : a ≤ 238) : Fl l S (sI S a l v) := ⟨hd_I (by omega) (by omega) (by omega), sI_o (by omega), sI_o (by omega), sI_o (by omega), fun b p q j z => by
  by_cases e : b = a
  · rw [e, sI_at, if_neg z]
  · rw [sI_o e]⟩
theorem Fl.la {l l' : Nat} {L : BLs} (h : Fl l S S') (hl : l' ≠ l) (hL : LaC S l' L) : LaC S' l' L := by
  obtain ⟨a1, a2, a3, a4, a5, a6⟩ := hL
  have e := fun a p q => h.2.2.2.2 a p q l' hl
  exact ⟨by rw [e 233 (by decide) (by decide)]; exact a1, by rw [e 234 (by decide) (by decide)]; exact a2, by rw [e 235 (by decide) (by decide)]; exact a3, by rw [e 236 (by decide) (by decide)]; exact a4, by rw [e 237 (by decide) (by decide)]; exact a5, by rw [e 238 (by decide) (by decide)]; exact a6⟩
theorem Fl.fi {l : Nat} (h : Fl l S S') (hf : FiC S B) : FiC S' B := by
  unfold FiC
  rw [h.2.1]
  exact hf
theorem Fl.ro {l r : Nat} {R : Int32 × Bool} (h : Fl l S S') (hf : RoC S r R) : RoC S' r R := by
  unfold RoC
  rw [h.2.2.1, h.2.2.2.1]
  exact hf
theorem meetC (h : Hx S co nl nro D) {l : Nat} (hl : l < nl) {L : BLs} (hL : LaC S l L) (hu : upL L = true) (hf : FiC S B) (hro : L.1 < nro) (hR : RoC S L.1 (B.2.1 L.1)) (hrs : D.2.2.2.2.2 ≤ 9) : ∃ S', f_X2_meetFate 230 (nI l) S = some S' ∧ Fl l S S' ∧ LaC S' l (lookL D l B.1.2.1 (prB D B.1.1 B.2.1 L.1) L) := by
  obtain ⟨h1, h2, h3, h4, h5, h6, h7, h8, h9, h10, h11⟩ := id h
  obtain ⟨a1, a2, a3, a4, a5, a6⟩ := id hL
  have hW := h1
  have hfa : f_X0_fate co (nI l) L.2.1 (prB D B.1.1 B.2.1 L.1) S = some (fate (D.2.2.1 l) (D.2.2.2.1 l) L.2.1 (prB D B.1.1 B.2.1 L.1)) := by
    rw [h4.fateA (by rw [h6]; exact hl), (h8 l hl).1, (h8 l hl).2.1]
  unfold f_X2_meetFate lookL
  rw [if_neg (nI_pos (by omega)), if_pos (show nI l < (8 : Int32) from nI_lt (b := 8) (by omega) (by decide)), r_230_8 h, r_230_3 hW, y_234 hW (by omega), a2, r_230_2 hW, y_233 hW (by omega), a1, k_230 hW, pressC h hf.1 hR hro, b1_s, c1_s h4.1, hfa, b1_s, if_pos hu]
  generalize fate (D.2.2.1 l) (D.2.2.2.1 l) L.2.1 (prB D B.1.1 B.2.1 L.1) = f
  by_cases q : f = 0
  · rw [if_pos q, if_pos q]
    exact ⟨S, rfl, Fl.rf l S, hL⟩
  · rw [if_neg q, if_neg q, r_230_7 hW, i_230 hW, hf.2.1, q_238 hW (by omega)]
    generalize hS1 : sI S 238 l B.1.2.1 = S1
    have o1 : Fl l S S1 := by rw [← hS1]; exact fl_I (by decide) (by decide)
    have hx1 := o1.1.1.hx (by decide) h
    have hW1 := hx1.1
    have e1 : ∀ a, a ≠ 238 → S1.1 a = S.1 a := fun a z => by rw [← hS1, sI_o z]
    have e238 : S1.1 238 l = B.1.2.1 := by rw [← hS1, sI_at, if_pos rfl]
    by_cases z : f = 2
    · rw [if_pos z, if_pos z, r_230_5 hW1, q_236 hW1 (by omega)]
      refine ⟨_, rfl, o1.tr (fl_I (by decide) (by decide)), ?_, ?_, ?_, ?_, ?_, ?_⟩
      · rw [sI_o (by decide), e1 _ (by decide)]; exact a1
      · rw [sI_o (by decide), e1 _ (by decide)]; exact a2
      · rw [sI_o (by decide), e1 _ (by decide)]; exact a3
      · rw [sI_at, if_pos rfl]; rfl
      · rw [sI_o (by decide), e1 _ (by decide)]; exact a5
      · rw [sI_o (by decide)]; exact e238
    · rw [if_neg z, if_neg z, r_230_6 hW1, y_237 hW1 (by omega), e1 _ (by decide), a5, q_237 hW1 (by omega)]
      generalize hS2 : sI S1 237 l (L.2.2.2.2.1 + 1) = S2
      have o2 : Fl l S1 S2 := by rw [← hS2]; exact fl_I (by decide) (by decide)
      have hx2 := o2.1.1.hx (by decide) hx1
      have hW2 := hx2.1
      have e2 : ∀ a, a ≠ 237 → S2.1 a = S1.1 a := fun a z => by rw [← hS2, sI_o z]
      rw [r_230_4 hW2, r_230_8 hx2, xI_s hx2.2.2.2.1.1, hx2.2.2.2.2.2.2.2.2.1, q_235 hW2 (by omega)]
      refine ⟨_, rfl, (o1.tr o2).tr (fl_I (by decide) (by decide)), ?_, ?_, ?_, ?_, ?_, ?_⟩
      · rw [sI_o (by decide), e2 _ (by decide), e1 _ (by decide)]; exact a1
      · rw [sI_o (by decide), e2 _ (by decide), e1 _ (by decide)]; exact a2
      · rw [sI_at, if_pos rfl]
      · rw [sI_o (by decide), e2 _ (by decide), e1 _ (by decide)]; exact a4
      · rw [sI_o (by decide), ← hS2, sI_at, if_pos rfl]
      · rw [sI_o (by decide), e2 _ (by decide)]; exact e238
theorem pass88 : ∀ (d l n : Nat) (S : GS), Hx S co nl nro D → BI nl nro D.2.2.2.2.2 B → HB S nl nro (B.1, B.2.1, mixF l (fun l => lookL D l B.1.2.1 (prB D B.1.1 B.2.1 (B.2.2 l).1) (B.2.2 l)) B.2.2) → l + d = 8 → d < n → ∃ S', f_X2_passMinute_88 230 n (nI l) S = f_X2_passMinute_123 230 fu 0 S' ∧ Hd S S' ∧ HB S' nl nro (B.1, B.2.1, fun l => lookL D l B.1.2.1 (prB D B.1.1 B.2.1 (B.2.2 l).1) (B.2.2 l))
  | _, _, 0, _, _, _, _, _, hn => absurd hn (Nat.not_lt_zero _)
  | 0, l, n + 1, S, h, hI, hB, hl, _ => by
    obtain ⟨f1, f2, f3, f4⟩ := hB
    have hn8 := h.2.2.2.2.2.2.2.2.2.1
    refine ⟨S, ?_, Hd.rf S, f1, f2, f3, fun l' hl' => ?_⟩
    · rw [f_X2_passMinute_88, if_pos (show (8 : Int32) ≤ nI l from nI_le (a := 8) (by omega) (by omega))]
    · have this : LaC S l' (mixF l (fun l => lookL D l B.1.2.1 (prB D B.1.1 B.2.1 (B.2.2 l).1) (B.2.2 l)) B.2.2 l') := f4 l' hl'
      rw [mix_lt (show l' < l by omega)] at this
      exact this
  | d + 1, l, n + 1, S, h, hI, hB, hl, hn => by
    obtain ⟨f1, f2, f3, f4⟩ := id hB
    have hW := h.1
    have hn8 := h.2.2.2.2.2.2.2.2.2.1
    rw [f_X2_passMinute_88, if_neg (show ¬ (8 : Int32) ≤ nI l from nI_ge (b := 8) (by omega) (by omega)), k_230 hW, hasLadyC h, b1_s]
    unfold f_X2_passMinute_115
    rw [nI_1]
    by_cases q : l < nl
    · have hL : LaC S l (mixF l (fun l => lookL D l B.1.2.1 (prB D B.1.1 B.2.1 (B.2.2 l).1) (B.2.2 l)) B.2.2 l) := f4 l q
      rw [mix_ge (Nat.lt_irrefl l)] at hL
      obtain ⟨i1, i2, i3⟩ := hI.2 l q
      rw [inQ_y q (by omega), if_neg (show ¬ bi true = 0 by decide), k_230 hW, isUpC hW (by omega) hL i2, b1_s]
      have hstep : ∃ S1, (if bi (upL (B.2.2 l)) = 0 then f_X2_passMinute_88 230 n (nI (l + 1)) S else c1 (some 230) 2 S (fun o' => f_X2_meetFate o' (nI l) S) fun S6 => f_X2_passMinute_88 230 n (nI (l + 1)) S6) = f_X2_passMinute_88 230 n (nI (l + 1)) S1 ∧ Fl l S S1 ∧ LaC S1 l (lookL D l B.1.2.1 (prB D B.1.1 B.2.1 (B.2.2 l).1) (B.2.2 l)) := by
        cases hu : upL (B.2.2 l)
        · refine ⟨S, by rw [if_pos (show bi false = 0 from rfl)], Fl.rf l S, ?_⟩
          unfold lookL
          rw [hu, if_neg Bool.false_ne_true]
          exact hL
        · obtain ⟨S1, m1, m2, m3⟩ := meetC (B := B) h q hL hu f1 i1 (f2 _ i1) hI.1
          exact ⟨S1, by rw [if_neg (show ¬ bi true = 0 by decide), k_230 hW, m1, b1_s], m2, m3⟩
      obtain ⟨S1, s1, s2, s3⟩ := hstep
      obtain ⟨S', k1, k2, k3⟩ := pass88 d (l + 1) n S1 (s2.1.1.hx (by decide) h) hI ⟨s2.fi f1, fun r' hr' => s2.ro (f2 r' hr'), fun r' a b => by rw [s2.2.2.2.1]; exact f3 r' a b, fun l' hl' => by
        have := f4 l' hl'
        show LaC S1 l' (mixF (l + 1) _ _ l')
        by_cases z : l' = l
        · rw [z, mix_lt (Nat.lt_succ_self l)]
          exact s3
        · rw [mix_s z]
          exact s2.la z this⟩ (by omega) (by omega)
      exact ⟨S', by rw [s1, k1], s2.1.tr k2, k3⟩
    · obtain ⟨S', k1, k2, k3⟩ := pass88 d (l + 1) n S h hI ⟨f1, f2, f3, fun l' hl' => by
        have := f4 l' hl'
        show LaC S l' (mixF (l + 1) _ _ l')
        rw [mix_s (by omega)]
        exact this⟩ (by omega) (by omega)
      exact ⟨S', by rw [show inQ (nI l) nl = false from decide_eq_false (fun z => q (by have := z.2; rwa [nI_clamp (by omega)] at this)), if_pos (show bi false = 0 from rfl), k1], k2, k3⟩
theorem tellC_l (h : Hx S co nl nro D) (hI : BI nl nro D.2.2.2.2.2 B) (hB : HB S nl nro B) {r : Nat} (hr : r < 4) : ∀ (d l n : Nat), l + d = 8 → d < n → f_X2_tellersIn_4 230 S n (nI r) (nI (trN (tlB D B.1.1 B.2.1 B.2.2) (fun l => (B.2.2 l).1) r (min l nl))) (nI l) = some (nI (trN (tlB D B.1.1 B.2.1 B.2.2) (fun l => (B.2.2 l).1) r nl))
  | _, _, 0, _, hn => absurd hn (Nat.not_lt_zero _)
  | 0, l, n + 1, hl, _ => by
    have hn8 := h.2.2.2.2.2.2.2.2.2.1
    rw [f_X2_tellersIn_4, if_pos (show (8 : Int32) ≤ nI l from nI_le (a := 8) (by omega) (by omega)), show min l nl = nl by omega]
  | d + 1, l, n + 1, hl, hn => by
    obtain ⟨f1, f2, f3, f4⟩ := id hB
    obtain ⟨h1, h2, h3, h4, h5, h6, h7, h8, h9, h10, h11⟩ := id h
    have ih := tellC_l h hI hB hr d (l + 1) n (by omega) (by omega)
    rw [f_X2_tellersIn_4, if_neg (show ¬ (8 : Int32) ≤ nI l from nI_ge (b := 8) (by omega) (by omega)), k_230 h1, hasLadyC h, b1_s]
    unfold f_X2_tellersIn_59
    rw [nI_1, nI_1]
    by_cases q : l < nl
    · obtain ⟨i1, i2, i3⟩ := hI.2 l q
      have hL := f4 l q
      rw [show min l nl = l by omega]
      rw [show min (l + 1) nl = l + 1 by omega] at ih
      have e : trN (tlB D B.1.1 B.2.1 B.2.2) (fun l => (B.2.2 l).1) r (l + 1) = trN (tlB D B.1.1 B.2.1 B.2.2) (fun l => (B.2.2 l).1) r l + (if (tlB D B.1.1 B.2.1 B.2.2 l && decide ((B.2.2 l).1 = r)) = true then 1 else 0) := rfl
      rw [e] at ih
      have et : tlB D B.1.1 B.2.1 B.2.2 l = (upL (B.2.2 l) && !decide (prB D B.1.1 B.2.1 (B.2.2 l).1 < D.2.2.2.2.1 l)) := rfl
      rw [inQ_y q (by omega), if_neg (show ¬ bi true = 0 by decide), k_230 h1, isUpC h1 (by omega) hL i2, b1_s]
      cases hu : upL (B.2.2 l)
      · rw [et, hu, Bool.false_and, Bool.false_and, if_neg Bool.false_ne_true, Nat.add_zero] at ih
        rw [if_pos (show bi false = 0 from rfl)]
        exact ih
      · rw [if_neg (show ¬ bi true = 0 by decide), r_230_2 h1, y_233 h1 (by omega), hL.1]
        by_cases z : (B.2.2 l).1 = r
        · have hpr : f_X2_pressureIn 230 (nI r) S = some (prB D B.1.1 B.2.1 r) := pressC h f1.1 (f2 r (by omega)) (by omega)
          rw [if_pos (by rw [z]), r_230_8 h, xR_s h4.1, h4.2.2.1, c1_s h.la.1, h.la.cellL 4 4 rfl (by rw [h6]; exact q) (by decide), b1_s, (h8 l q).2.2, k_230 h1, hpr, b1_s]
          rw [et, hu, z, decide_eq_true rfl, Bool.true_and, Bool.and_true] at ih
          by_cases y : prB D B.1.1 B.2.1 r < D.2.2.2.2.1 l
          · rw [decide_eq_true y, Bool.not_true, if_neg Bool.false_ne_true, Nat.add_zero] at ih
            rw [if_pos y]
            exact ih
          · rw [decide_eq_false y, Bool.not_false, if_pos rfl] at ih
            rw [if_neg y]
            exact ih
        · rw [decide_eq_false z, Bool.and_false, if_neg Bool.false_ne_true, Nat.add_zero] at ih
          rw [if_neg (by rw [nI_eq (by omega) (by omega)]; exact z)]
          exact ih
    · rw [show min (l + 1) nl = nl by omega] at ih
      rw [show min l nl = nl by omega, show inQ (nI l) nl = false from decide_eq_false (fun z => q (by have := z.2; rwa [nI_clamp (by omega)] at this)), if_pos (show bi false = 0 from rfl)]
      exact ih
theorem pass123 {T : Int32} : ∀ (d r n : Nat) (S : GS), Hx S co nl nro D → BI nl nro D.2.2.2.2.2 B → HB S nl nro ((B.1.1, B.1.2.1, B.1.2.2.1, T + nI (sumN (fun r => c2N (trN (tlB D B.1.1 B.2.1 B.2.2) (fun l => (B.2.2 l).1) r nl)) r), B.1.2.2.2.2), B.2) → r + d = 4 → d < n → ∃ S', f_X2_passMinute_123 230 n (nI r) S = some S' ∧ Hd S S' ∧ HB S' nl nro ((B.1.1, B.1.2.1, B.1.2.2.1, T + nI (sumN (fun r => c2N (trN (tlB D B.1.1 B.2.1 B.2.2) (fun l => (B.2.2 l).1) r nl)) 4), B.1.2.2.2.2), B.2)
  | _, _, 0, _, _, _, _, _, hn => absurd hn (Nat.not_lt_zero _)
  | 0, r, n + 1, S, h, hI, hB, hr, _ => by
    refine ⟨S, ?_, Hd.rf S, ?_⟩
    · rw [f_X2_passMinute_123, if_pos (show (4 : Int32) ≤ nI r from nI_le (a := 4) (by omega) (by omega))]
    · rw [show r = 4 by omega] at hB
      exact hB
  | d + 1, r, n + 1, S, h, hI, hB, hr, hn => by
    obtain ⟨f1, f2, f3, f4⟩ := id hB
    have hW := h.1
    have hn8 := h.2.2.2.2.2.2.2.2.2.1
    have ht : f_X2_tellersIn 230 (nI r) S = some (nI (trN (tlB D B.1.1 B.2.1 B.2.2) (fun l => (B.2.2 l).1) r nl)) := by
      have := tellC_l (B := ((B.1.1, B.1.2.1, B.1.2.2.1, T + nI (sumN (fun r => c2N (trN (tlB D B.1.1 B.2.1 B.2.2) (fun l => (B.2.2 l).1) r nl)) r), B.1.2.2.2.2), B.2)) h hI hB (r := r) (by omega) 8 0 fu (by omega) (by unfold fu; omega)
      rw [Nat.zero_min] at this
      exact this
    have htl := tr_le (tlB D B.1.1 B.2.1 B.2.2) (fun l => (B.2.2 l).1) r nl
    obtain ⟨b1', b2', b3', b4', b5', b6'⟩ := f1
    generalize hS1 : sI S 230 13 (T + nI (sumN (fun r => c2N (trN (tlB D B.1.1 B.2.1 B.2.2) (fun l => (B.2.2 l).1) r nl)) (r + 1))) = S1
    have o1 : Hd S S1 := by rw [← hS1]; exact hd_I (by decide) (by decide) (by omega)
    have e : ∀ i, i ≠ 13 → S1.1 230 i = S.1 230 i := fun i hi => by rw [← hS1, sI_at, if_neg hi]
    obtain ⟨S', k1, k2, k3⟩ := pass123 d (r + 1) n S1 (o1.1.hx (by decide) h) hI ⟨⟨by rw [e 10 (by decide)]; exact b1', by rw [e 11 (by decide)]; exact b2', by rw [e 12 (by decide)]; exact b3', by rw [← hS1, sI_at, if_pos rfl], by rw [e 14 (by decide)]; exact b5', by rw [e 15 (by decide)]; exact b6'⟩, fun r' hr' => by rw [← hS1]; exact (f2 r' hr').o (Or.inl (by decide)), fun r' a b => by rw [← hS1, sI_o (by decide)]; exact f3 r' a b, fun l hl => by rw [← hS1]; exact (f4 l hl).o (Or.inl (by decide))⟩ (by omega) (by omega)
    refine ⟨S', ?_, o1.tr k2, k3⟩
    have es : sumN (fun r => c2N (trN (tlB D B.1.1 B.2.1 B.2.2) (fun l => (B.2.2 l).1) r nl)) (r + 1) = sumN (fun r => c2N (trN (tlB D B.1.1 B.2.1 B.2.2) (fun l => (B.2.2 l).1) r nl)) r + c2N (trN (tlB D B.1.1 B.2.1 B.2.2) (fun l => (B.2.2 l).1) r nl) := rfl
    rw [f_X2_passMinute_123, if_neg (show ¬ (4 : Int32) ≤ nI r from nI_ge (b := 4) (by omega) (by omega)), k_230 hW, ht, b1_s, i_230 hW, b4', dz, if_neg (by decide), c2_k _ (by omega), Int32.add_assoc, nI_add, ← es, p_230 hW, hS1, nI_1, k1]
theorem paN_c {p q : Nat → Bool} {ro ru : Nat → Nat} : ∀ n, (∀ l, l < n → p l = q l ∧ ro l = ru l) → paN p ro n = paN q ru n := by
  have hi : ∀ a b, (∀ l, l ≤ a → p l = q l ∧ ro l = ru l) → b ≤ a → paI p ro a b = paI q ru a b := by
    intro a b ha
    induction b with
    | zero => intro _; rfl
    | succ b ih =>
      intro hb
      show paI p ro a b + (if (p a && p b && decide (ro a = ro b)) = true then 1 else 0) = paI q ru a b + (if (q a && q b && decide (ru a = ru b)) = true then 1 else 0)
      rw [ih (by omega), (ha a (Nat.le_refl a)).1, (ha b (by omega)).1, (ha a (Nat.le_refl a)).2, (ha b (by omega)).2]
  intro n
  induction n with
  | zero => intro _; rfl
  | succ n ih =>
    intro h
    show paN p ro n + paI p ro n n = paN q ru n + paI q ru n n
    rw [ih (fun l hl => h l (by omega)), hi n n (fun l hl => h l (by omega)) (Nat.le_refl n)]
theorem minuteC (h : Hx S co nl nro D) (hI : BI nl nro D.2.2.2.2.2 B) (hB : HB S nl nro B) : ∃ S', f_X2_passMinute 230 S = some S' ∧ Hd S S' ∧ HB S' nl nro (minB D nl B) := by
  obtain ⟨f1, f2, f3, f4⟩ := id hB
  obtain ⟨b1', b2', b3', b4', b5', b6'⟩ := f1
  have hW := h.1
  have hn4 := h.2.2.2.2.2.2.2.2.2.2
  have hn8 := h.2.2.2.2.2.2.2.2.2.1
  generalize hS1 : sI S 230 11 (B.1.2.1 + 1) = S1
  have o1 : Hd S S1 := by rw [← hS1]; exact hd_I (by decide) (by decide) (by omega)
  have e : ∀ i, i ≠ 11 → S1.1 230 i = S.1 230 i := fun i hi => by rw [← hS1, sI_at, if_neg hi]
  obtain ⟨S2, g1, g2, g3⟩ := pass12 (B := ((B.1.1, B.1.2.1 + 1, B.1.2.2), B.2)) 4 0 fu S1 (o1.1.hx (by decide) h) ⟨⟨by rw [e 10 (by decide)]; exact b1', by rw [← hS1, sI_at, if_pos rfl], by rw [e 12 (by decide)]; exact b3', by rw [e 13 (by decide)]; exact b4', by rw [e 14 (by decide)]; exact b5', by rw [e 15 (by decide)]; exact b6'⟩, fun r' hr' => by rw [← hS1]; exact (f2 r' hr').o (Or.inl (by decide)), fun r' a b => by rw [← hS1, sI_o (by decide)]; exact f3 r' a b, fun l hl => by rw [← hS1]; exact (f4 l hl).o (Or.inl (by decide))⟩ (by omega) (by unfold fu; omega)
  have o2 := o1.tr g2
  obtain ⟨S3, p1, p2, p3⟩ := pass56 (D := D) (B := ((B.1.1, B.1.2.1 + 1, B.1.2.2), (fun r => driftR B.1.1 (B.2.1 r)), B.2.2)) 8 0 fu S2 (o2.1.hx (by decide) h) hI g3 (by omega) (by unfold fu; omega)
  have o3 := o2.tr p2
  have hI3 : BI nl nro D.2.2.2.2.2 ((B.1.1, B.1.2.1 + 1, B.1.2.2), (fun r => driftR B.1.1 (B.2.1 r)), fun l => restL (B.2.2 l)) := ⟨hI.1, fun l hl => by
    obtain ⟨i1, i2, i3⟩ := hI.2 l hl
    refine ⟨i1, ?_, fun z => ?_⟩
    · show (B.2.2 l).2.2.1 - 1 ≤ 9
      omega
    · have := i3 z
      show (B.2.2 l).2.2.1 - 1 = 0
      omega⟩
  obtain ⟨S4, q1, q2, q3⟩ := pass88 (B := ((B.1.1, B.1.2.1 + 1, B.1.2.2), (fun r => driftR B.1.1 (B.2.1 r)), fun l => restL (B.2.2 l))) 8 0 fu S3 (o3.1.hx (by decide) h) hI3 p3 (by omega) (by unfold fu; omega)
  have o4 := o3.tr q2
  have hI4 : BI nl nro D.2.2.2.2.2 ((B.1.1, B.1.2.1 + 1, B.1.2.2), (fun r => driftR B.1.1 (B.2.1 r)), fun l => lookL D l (B.1.2.1 + 1) (prB D B.1.1 (fun r => driftR B.1.1 (B.2.1 r)) (B.2.2 l).1) (restL (B.2.2 l))) := hI.min
  obtain ⟨S5, r1, r2, r3⟩ := pass123 (T := B.1.2.2.2.1) (B := ((B.1.1, B.1.2.1 + 1, B.1.2.2), (fun r => driftR B.1.1 (B.2.1 r)), fun l => lookL D l (B.1.2.1 + 1) (prB D B.1.1 (fun r => driftR B.1.1 (B.2.1 r)) (B.2.2 l).1) (restL (B.2.2 l)))) 4 0 fu S4 (o4.1.hx (by decide) h) hI4 (by
    show HB S4 nl nro ((B.1.1, B.1.2.1 + 1, B.1.2.2.1, B.1.2.2.2.1 + 0, B.1.2.2.2.2), _)
    rw [Int32.add_zero]
    exact q3) (by omega) (by unfold fu; omega)
  refine ⟨S5, ?_, o4.tr r2, ?_⟩
  · unfold f_X2_passMinute
    rw [i_230 hW, b2', p_230 hW, hS1, show f_X2_passMinute_12 230 fu 0 S1 = _ from g1, show f_X2_passMinute_56 230 fu 0 S2 = _ from p1, show f_X2_passMinute_88 230 fu 0 S3 = _ from q1]
    exact r1
  · have hp4 := pairs4 (tlB D B.1.1 (fun r => driftR B.1.1 (B.2.1 r)) (fun l => lookL D l (B.1.2.1 + 1) (prB D B.1.1 (fun r => driftR B.1.1 (B.2.1 r)) (B.2.2 l).1) (restL (B.2.2 l)))) (fun l => (lookL D l (B.1.2.1 + 1) (prB D B.1.1 (fun r => driftR B.1.1 (B.2.1 r)) (B.2.2 l).1) (restL (B.2.2 l))).1) nl hn8 (fun l hl => by
      have := (hI4.2 l hl).1
      have this : (lookL D l (B.1.2.1 + 1) (prB D B.1.1 (fun r => driftR B.1.1 (B.2.1 r)) (B.2.2 l).1) (restL (B.2.2 l))).1 < nro := this
      omega)
    have hp5 := hp4.trans (paN_c (q := tlB D B.1.1 (fun r => driftR B.1.1 (B.2.1 r)) (fun l => lookL D l (B.1.2.1 + 1) (prB D B.1.1 (fun r => driftR B.1.1 (B.2.1 r)) (B.2.2 l).1) (restL (B.2.2 l)))) (ru := fun l => (B.2.2 l).1) nl (fun l hl => ⟨rfl, look_ro D l _ _ _⟩))
    have e4 : ∀ F : Nat → Nat, sumN F 4 = F 0 + F 1 + F 2 + F 3 := fun F => by
      show 0 + F 0 + F 1 + F 2 + F 3 = _
      omega
    rw [e4, hp5] at r3
    exact r3
end BD
