/-! the ball: the reference's minute, as a whole -/
section BM
variable {S S' : GS} {c nl nro : Nat} {D : DSt} {B : BSt}
theorem HM.cg {A A' : Nat → BLs} {X : Int32 × Int32 × Int32 × Int32 × Int32 × Int32} {R : Nat → Int32 × Bool} (h : HM S nl nro (X, R, A)) (e : ∀ j, j < nl → A' j = A j) : HM S nl nro (X, R, A') := by
  obtain ⟨f1, f2, f3, f4, f5⟩ := h
  refine ⟨f1, ⟨Bs.c f2.1 fun j hj => congrArg upL (e j hj), Bs.c f2.2.1 fun j hj => congrArg dnL (e j hj), Bs.c f2.2.2 fun j hj => congrArg buL (e j hj)⟩, f3, f4, fun j hj => ?_⟩
  show LaM S j (A' j)
  rw [e j hj]
  exact f5 j hj
theorem pass155M (hr1 : 1 ≤ D.2.2.2.2.2) : ∀ (d l n : Nat) (S : GS), HxM S c nl nro D → BI nl nro D.2.2.2.2.2 B → HM S nl nro (B.1, B.2.1, mixF l (fun l => lookL D l B.1.2.1 (prB D B.1.1 B.2.1 (B.2.2 l).1) (B.2.2 l)) B.2.2) → l + d = nl → d < n → ∃ S', f_X12_minute_155 313 n (nI l) S = f_X12_minute_187 313 fu 0 S' ∧ OfM S S' ∧ HM S' nl nro (B.1, B.2.1, fun l => lookL D l B.1.2.1 (prB D B.1.1 B.2.1 (B.2.2 l).1) (B.2.2 l))
  | _, _, 0, _, _, _, _, _, hn => absurd hn (Nat.not_lt_zero _)
  | 0, l, n + 1, S, h, hI, hB, hl, _ => by
    have n8 := h.2.2.2.2.2.2.1
    refine ⟨S, ?_, OfM.rf S, hB.cg fun j hj => (mix_lt (n := l) (f := (fun l => lookL D l B.1.2.1 (prB D B.1.1 B.2.1 (B.2.2 l).1) (B.2.2 l))) (g := B.2.2) (show j < l by omega)).symm⟩
    rw [f_X12_minute_155, i_313 h.1.1, h.n27, if_pos (nI_le (by omega) (by omega))]
  | d + 1, l, n + 1, S, h, hI, hB, hl, hn => by
    have hW := h.1.1
    have n8 := h.2.2.2.2.2.2.1
    have hll : l < nl := by omega
    have hu : f_X12_has (S.1 313 31) (nI l) S = some (bi (upL (mixF l (fun l => lookL D l B.1.2.1 (prB D B.1.1 B.2.1 (B.2.2 l).1) (B.2.2 l)) B.2.2 l))) := Bs.has hB.2.1.1 hll n8
    rw [mix_ge (Nat.lt_irrefl l)] at hu
    rw [f_X12_minute_155, i_313 hW, h.n27, if_neg (nI_ge (by omega) (by omega)), i_313 hW, hu, b1_s]
    unfold f_X12_minute_179
    rw [nI_1]
    cases q : upL (B.2.2 l)
    · obtain ⟨S', k1, k2, k3⟩ := pass155M hr1 d (l + 1) n S h hI (hB.cg fun j hj => by
        by_cases z : j = l
        · rw [z, mix_lt (Nat.lt_succ_self l), mix_ge (Nat.lt_irrefl l)]
          unfold lookL
          rw [if_neg (by rw [q]; exact Bool.false_ne_true)]
        · rw [mix_s z]) (by omega) (by omega)
      exact ⟨S', by rw [if_pos (show bi false = 0 from rfl), k1], k2, k3⟩
    · obtain ⟨S1, g1, g2, g3⟩ := lookM hr1 h hI hll hB q
      obtain ⟨S', k1, k2, k3⟩ := pass155M hr1 d (l + 1) n S1 (g2.hx h) hI g3 (by omega) (by omega)
      exact ⟨S', by rw [if_neg (show ¬ bi true = 0 by decide), k_313 hW, g1, b1_s, k1], g2.tr k2, k3⟩
theorem tellsM (h : HxM S c nl nro D) (hro : ∀ l, l < nl → (B.2.2 l).1 < nro) {T : Int32} (hB : HM S nl nro ((B.1.1, B.1.2.1, B.1.2.2.1, T, B.1.2.2.2.2), B.2)) {l : Nat} (hl : l < nl) : f_X12_tells 313 (nI l) S = some (bi (tlB D B.1.1 B.2.1 B.2.2 l)) := by
  have hW := h.1.1
  have n8 := h.2.2.2.2.2.2.1
  obtain ⟨f1, f2, f3, f4, f5⟩ := hB
  obtain ⟨a1, a2, a3, a4, a5⟩ := f5 l hl
  have hu : f_X12_has (S.1 313 31) (nI l) S = some (bi (upL (B.2.2 l))) := Bs.has f2.1 hl n8
  have hp : f_X12_pressureOf 313 (nI (B.2.2 l).1) S = some (prB D B.1.1 B.2.1 (B.2.2 l).1) := airM h (B := ((B.1.1, B.1.2.1, B.1.2.2.1, T, B.1.2.2.2.2), B.2)) f1.1 f3 (hro l hl) (f4 _ (hro l hl))
  unfold f_X12_tells tlB
  rw [i_313 hW, hu, b1_s]
  cases upL (B.2.2 l)
  · rw [if_pos (show bi false = 0 from rfl)]
    rfl
  · rw [if_neg (show ¬ bi true = 0 by decide), k_313 hW, h.1.lady (by omega) 4 4 rfl (by decide), b1_s, (h.2.2.2.2.1 l hl).2.2, r_313_40 hW, y_328 hW (by omega), show S.1 328 l = nI (B.2.2 l).1 from a1, k_313 hW, hp, b1_s, Bool.true_and]
    by_cases z : prB D B.1.1 B.2.1 (B.2.2 l).1 < D.2.2.2.2.1 l
    · rw [if_pos z, decide_eq_true z]
      rfl
    · rw [if_neg z, decide_eq_false z]
      rfl
theorem HM.tale {v T : Int32} (hB : HM S nl nro ((B.1.1, B.1.2.1, B.1.2.2.1, T, B.1.2.2.2.2), B.2)) : HM (sI S 313 35 v) nl nro ((B.1.1, B.1.2.1, B.1.2.2.1, v, B.1.2.2.2.2), B.2) := by
  obtain ⟨⟨a1, a2, a3, a4, a5, a6⟩, f2, f3, f4, f5⟩ := hB
  refine ⟨⟨?_, ?_, ?_, ?_, ?_, ?_⟩, SeM.o f2 (by omega), OpM.o f3 (by omega), fun r hr => RoM.o (f4 r hr) (by omega), fun l hl => LaM.o (f5 l hl) (by omega)⟩
  · rw [sI_at, if_neg (by decide)]; exact a1
  · rw [sI_at, if_neg (by decide)]; exact a2
  · rw [sI_at, if_neg (by decide)]; exact a3
  · rw [sI_at, if_pos rfl]
  · rw [sI_at, if_neg (by decide)]; exact a5
  · rw [sI_at, if_neg (by decide)]; exact a6
theorem pairsM {K : Int32 → GS → Option GS} (hro : ∀ l, l < nl → (B.2.2 l).1 < nro) {a : Nat} (ha : a < nl) (T : Int32) (m : Nat) : ∀ (d b n : Nat) (S : GS), HxM S c nl nro D → HM S nl nro ((B.1.1, B.1.2.1, B.1.2.2.1, T + nI (m + paI (tlB D B.1.1 B.2.1 B.2.2) (fun l => (B.2.2 l).1) a b), B.1.2.2.2.2), B.2) → b + d = a → d < n → ∃ S', f_X12_minute_197 K 313 n (nI a) (nI b) S = K (nI (a + 1)) S' ∧ OfM S S' ∧ HM S' nl nro ((B.1.1, B.1.2.1, B.1.2.2.1, T + nI (m + paI (tlB D B.1.1 B.2.1 B.2.2) (fun l => (B.2.2 l).1) a a), B.1.2.2.2.2), B.2)
  | _, _, 0, _, _, _, _, hn => absurd hn (Nat.not_lt_zero _)
  | 0, b, n + 1, S, h, hB, hb, _ => by
    have n8 := h.2.2.2.2.2.2.1
    have e : b = a := by omega
    subst e
    refine ⟨S, ?_, OfM.rf S, hB⟩
    rw [f_X12_minute_197, if_pos (nI_le (Nat.le_refl _) (by omega)), nI_1]
  | d + 1, b, n + 1, S, h, hB, hb, hn => by
    have hW := h.1.1
    have n8 := h.2.2.2.2.2.2.1
    have r4 := h.2.2.2.2.2.2.2
    have hra := hro a ha
    have hrb := hro b (by omega)
    have e35 : S.1 313 35 = T + nI (m + paI (tlB D B.1.1 B.2.1 B.2.2) (fun l => (B.2.2 l).1) a b) := hB.1.2.2.2.1
    have go : ∀ y : Bool, y = (tlB D B.1.1 B.2.1 B.2.2 a && tlB D B.1.1 B.2.1 B.2.2 b && decide ((B.2.2 a).1 = (B.2.2 b).1)) → ∃ S', f_X12_minute_197 K 313 n (nI a) (nI (b + 1)) (sI S 313 35 (T + nI (m + paI (tlB D B.1.1 B.2.1 B.2.2) (fun l => (B.2.2 l).1) a b) + bi y)) = K (nI (a + 1)) S' ∧ OfM S S' ∧ HM S' nl nro ((B.1.1, B.1.2.1, B.1.2.2.1, T + nI (m + paI (tlB D B.1.1 B.2.1 B.2.2) (fun l => (B.2.2 l).1) a a), B.1.2.2.2.2), B.2) := fun y hy => by
      have o1 : OfM S (sI S 313 35 (T + nI (m + paI (tlB D B.1.1 B.2.1 B.2.2) (fun l => (B.2.2 l).1) a b) + bi y)) := om_p (by decide) (by decide)
      have ey : T + nI (m + paI (tlB D B.1.1 B.2.1 B.2.2) (fun l => (B.2.2 l).1) a b) + bi y = T + nI (m + paI (tlB D B.1.1 B.2.1 B.2.2) (fun l => (B.2.2 l).1) a (b + 1)) := by
        show _ = T + nI (m + (paI _ _ a b + (if (tlB D B.1.1 B.2.1 B.2.2 a && tlB D B.1.1 B.2.1 B.2.2 b && decide ((B.2.2 a).1 = (B.2.2 b).1)) = true then 1 else 0)))
        rw [← hy, Int32.add_assoc]
        congr 1
        cases y
        · show _ + nI 0 = _
          rw [nI_add, if_neg Bool.false_ne_true]
          congr 1
        · show _ + nI 1 = _
          rw [nI_add, if_pos rfl]
          congr 1
      obtain ⟨S', k1, k2, k3⟩ := pairsM hro ha T m d (b + 1) n _ (o1.hx h) (by
        have := HM.tale (v := T + nI (m + paI (tlB D B.1.1 B.2.1 B.2.2) (fun l => (B.2.2 l).1) a b) + bi y) hB
        rw [← ey]
        exact this) (by omega) (by omega)
      exact ⟨S', k1, o1.tr k2, k3⟩
    rw [f_X12_minute_197, if_neg (nI_ge (by omega) (by omega)), i_313 hW, e35, k_313 hW, tellsM h hro hB ha, b1_s]
    unfold f_X12_minute_242 f_X12_minute_243
    rw [p_313 hW, nI_1]
    cases qa : tlB D B.1.1 B.2.1 B.2.2 a
    · rw [if_pos (show bi false = 0 from rfl)]
      exact go false (by rw [qa]; rfl)
    · rw [if_neg (show ¬ bi true = 0 by decide), k_313 hW, tellsM h hro hB (show b < nl by omega), b1_s]
      cases qb : tlB D B.1.1 B.2.1 B.2.2 b
      · rw [if_pos (show bi false = 0 from rfl)]
        exact go false (by rw [qa, qb]; rfl)
      · have ga : S.1 328 a = nI (B.2.2 a).1 := (hB.2.2.2.2 a ha).1
        have gb : S.1 328 b = nI (B.2.2 b).1 := (hB.2.2.2.2 b (by omega)).1
        rw [if_neg (show ¬ bi true = 0 by decide), r_313_40 hW, y_328 hW (by omega), ga, r_313_40 hW, y_328 hW (by omega), gb]
        by_cases z : (B.2.2 a).1 = (B.2.2 b).1
        · rw [if_pos (by rw [z]), p_313 hW]
          exact go true (by rw [qa, qb, decide_eq_true z]; rfl)
        · rw [if_neg (by rw [nI_eq (by omega) (by omega)]; exact z)]
          exact go false (by rw [qa, qb, decide_eq_false z]; rfl)
theorem pass187M (hro : ∀ l, l < nl → (B.2.2 l).1 < nro) (T : Int32) : ∀ (d a n : Nat) (S : GS), HxM S c nl nro D → HM S nl nro ((B.1.1, B.1.2.1, B.1.2.2.1, T + nI (paN (tlB D B.1.1 B.2.1 B.2.2) (fun l => (B.2.2 l).1) a), B.1.2.2.2.2), B.2) → a + d = nl → d < n → ∃ S', f_X12_minute_187 313 n (nI a) S = some S' ∧ OfM S S' ∧ HM S' nl nro ((B.1.1, B.1.2.1, B.1.2.2.1, T + nI (paN (tlB D B.1.1 B.2.1 B.2.2) (fun l => (B.2.2 l).1) nl), B.1.2.2.2.2), B.2)
  | _, _, 0, _, _, _, _, hn => absurd hn (Nat.not_lt_zero _)
  | 0, a, n + 1, S, h, hB, ha, _ => by
    have n8 := h.2.2.2.2.2.2.1
    have e : a = nl := by omega
    subst e
    refine ⟨S, ?_, OfM.rf S, hB⟩
    rw [f_X12_minute_187, i_313 h.1.1, h.n27, if_pos (nI_le (Nat.le_refl _) (by omega))]
  | d + 1, a, n + 1, S, h, hB, ha, hn => by
    have n8 := h.2.2.2.2.2.2.1
    obtain ⟨S1, g1, g2, g3⟩ := pairsM (K := f_X12_minute_187 313 n) hro (show a < nl by omega) T (paN (tlB D B.1.1 B.2.1 B.2.2) (fun l => (B.2.2 l).1) a) a 0 fu S h hB (by omega) (by unfold fu; omega)
    obtain ⟨S', k1, k2, k3⟩ := pass187M hro T d (a + 1) n S1 (g2.hx h) g3 (by omega) (by omega)
    refine ⟨S', ?_, g2.tr k2, k3⟩
    rw [f_X12_minute_187, i_313 h.1.1, h.n27, if_neg (nI_ge (by omega) (by omega)), show f_X12_minute_197 (f_X12_minute_187 313 n) 313 fu (nI a) 0 S = _ from g1, k1]
theorem minuteM (hr1 : 1 ≤ D.2.2.2.2.2) (h : HxM S c nl nro D) (hI : BI nl nro D.2.2.2.2.2 B) (hB : HM S nl nro B) : ∃ S', f_X12_minute 313 S = some S' ∧ OfM S S' ∧ HM S' nl nro (minB D nl B) := by
  have hW := h.1.1
  have n8 := h.2.2.2.2.2.2.1
  have n4 := h.2.2.2.2.2.2.2
  obtain ⟨f1, f2, f3, f4, f5⟩ := id hB
  obtain ⟨a1, a2, a3, a4, a5, a6⟩ := id f1
  generalize hS1 : sI S 313 30 (B.1.2.1 + 1) = S1
  have o1 : OfM S S1 := by rw [← hS1]; exact om_p (by decide) (by decide)
  have hB1 : HM S1 nl nro ((B.1.1, B.1.2.1 + 1, B.1.2.2), B.2) := by
    rw [← hS1]
    refine ⟨⟨?_, ?_, ?_, ?_, ?_, ?_⟩, SeM.o f2 (by omega), OpM.o f3 (by omega), fun r hr => RoM.o (f4 r hr) (by omega), fun l hl => LaM.o (f5 l hl) (by omega)⟩
    · rw [sI_at, if_neg (by decide)]; exact a1
    · rw [sI_at, if_pos rfl]
    · rw [sI_at, if_neg (by decide)]; exact a3
    · rw [sI_at, if_neg (by decide)]; exact a4
    · rw [sI_at, if_neg (by decide)]; exact a5
    · rw [sI_at, if_neg (by decide)]; exact a6
  have em0 : ∀ {α : Type} {f g : Nat → α}, mixF 0 f g = g := fun {α f g} => funext fun j => mix_ge (Nat.not_lt_zero j)
  obtain ⟨S2, g1, g2, g3⟩ := pass12M (B := ((B.1.1, B.1.2.1 + 1, B.1.2.2), B.2)) nro 0 fu S1 (o1.hx h) (by rw [em0]; exact hB1) (by omega) (by unfold fu; omega)
  have hI2 : BI nl nro D.2.2.2.2.2 ((B.1.1, B.1.2.1 + 1, B.1.2.2), (fun r => driftR B.1.1 (B.2.1 r)), B.2.2) := hI
  obtain ⟨S3, j1, j2, j3⟩ := pass83M (D := D) (B := ((B.1.1, B.1.2.1 + 1, B.1.2.2), (fun r => driftR B.1.1 (B.2.1 r)), B.2.2)) nl 0 fu S2 ((o1.tr g2).hx h) hI2 (by rw [em0]; exact g3) (by omega) (by unfold fu; omega)
  have hI3 : BI nl nro D.2.2.2.2.2 ((B.1.1, B.1.2.1 + 1, B.1.2.2), (fun r => driftR B.1.1 (B.2.1 r)), fun l => restL (B.2.2 l)) := ⟨hI.1, fun l hl => by
    obtain ⟨i1, i2, i3⟩ := hI.2 l hl
    refine ⟨i1, ?_, fun z => ?_⟩
    · show (B.2.2 l).2.2.1 - 1 ≤ 9
      omega
    · have := i3 z
      show (B.2.2 l).2.2.1 - 1 = 0
      omega⟩
  obtain ⟨S4, m1, m2, m3⟩ := pass155M (B := ((B.1.1, B.1.2.1 + 1, B.1.2.2), (fun r => driftR B.1.1 (B.2.1 r)), fun l => restL (B.2.2 l))) hr1 nl 0 fu S3 ((o1.tr (g2.tr j2)).hx h) hI3 (by rw [em0]; exact j3) (by omega) (by unfold fu; omega)
  obtain ⟨S5, p1, p2, p3⟩ := pass187M (D := D) (B := ((B.1.1, B.1.2.1 + 1, B.1.2.2), (fun r => driftR B.1.1 (B.2.1 r)), fun l => lookL D l (B.1.2.1 + 1) (prB D B.1.1 (fun r => driftR B.1.1 (B.2.1 r)) (B.2.2 l).1) (restL (B.2.2 l)))) (fun l hl => by
    show (lookL D l _ _ (restL (B.2.2 l))).1 < nro
    rw [look_ro]
    exact (hI.2 l hl).1) B.1.2.2.2.1 nl 0 fu S4 ((o1.tr (g2.tr (j2.tr m2))).hx h) (by
    rw [show B.1.2.2.2.1 + nI (paN (tlB D B.1.1 (fun r => driftR B.1.1 (B.2.1 r)) (fun l => lookL D l (B.1.2.1 + 1) (prB D B.1.1 (fun r => driftR B.1.1 (B.2.1 r)) (B.2.2 l).1) (restL (B.2.2 l)))) _ 0) = B.1.2.2.2.1 from Int32.add_zero _]
    exact m3) (by omega) (by unfold fu; omega)
  refine ⟨S5, ?_, o1.tr (g2.tr (j2.tr (m2.tr p2))), ?_⟩
  · unfold f_X12_minute
    rw [i_313 hW, a2, p_313 hW, hS1, show f_X12_minute_12 313 fu 0 S1 = _ from g1, show f_X12_minute_83 313 fu 0 S2 = _ from j1, show f_X12_minute_155 313 fu 0 S3 = _ from m1, show f_X12_minute_187 313 fu 0 S4 = _ from p1]
  · unfold minB
    have e : (fun l => (lookL D l (B.1.2.1 + 1) (prB D B.1.1 (fun r => driftR B.1.1 (B.2.1 r)) (B.2.2 l).1) (restL (B.2.2 l))).1) = fun l => (B.2.2 l).1 := funext fun l => look_ro _ _ _ _ _
    rw [← e]
    exact p3
end BM
