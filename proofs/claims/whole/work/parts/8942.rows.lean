/-! texts: a row opened, set, kept -/
def FK (p q N : Nat) (T T' : GS) : Prop := T'.2 = T.2 ∧ (∀ a, a ≠ 325 → T'.1 a = T.1 a) ∧ ∀ j, j ≠ p → ¬ (q ≤ j ∧ j < q + N) → T'.1 325 j = T.1 325 j
section RT
variable {α : Type} {L : Nat} {B : Nat → Nat} {S S' T T' : GS} {s e k f c o w m p q n : Nat} {V : (Nat → Int32) → Prop} {P P' : (Nat → Int32) → (Nat → Int32) → Prop}
theorem noteF (hS : Wr S) (hT : Wr T) (hF : FA s S T) (hs : s ≤ 600) (hf : f = 2 ∨ f = 3) (x : Int32) (hx : x = nI f) : ∃ S1 T1, f_X5_noteFault 207 x (nI s) S = some S1 ∧ f_X12_later 313 x (nI s) T = some T1 ∧ FU S S1 ∧ FM T T1 ∧ T1.1 326 = T.1 326 ∧ FA (s + 1) S1 T1 ∧ ¬ ok S1 ∧ (∀ i, i ≤ 10 → S1.1 207 i = S.1 207 i) ∧ (∀ i, i ≤ 18 → T1.1 313 i = T.1 313 i) ∧ T1.2 = T.2 := by
  have hx0 : ¬ x = 0 := by
    rw [hx]
    rcases hf with rfl | rfl <;> decide
  refine ⟨_, _, note_v hS x (nI s), later_v hT hF hs x, ?_, ?_, ?_, ?_, ?_, ?_, ?_, ?_⟩
  · split
    · exact (FU.I (by decide) (by decide)).tr (FU.I (by decide) (by decide))
    · exact FU.rf _
  · split
    · exact (FM.I (by omega)).tr (FM.I (by omega))
    · exact FM.rf _
  · split <;> rfl
  · by_cases z : S.1 207 11 = 0
    · rw [if_pos z, if_pos z]
      exact Or.inr ⟨f, s, hf, by omega, hx, rfl, hx, rfl⟩
    · rw [if_neg z, if_neg z]
      exact FAv.up hF (by omega) rfl rfl
  · by_cases z : S.1 207 11 = 0
    · rw [if_pos z]
      exact hx0
    · rw [if_neg z]
      exact z
  · intro i hi
    split
    · rw [sI_at, if_neg (by omega), sI_at, if_neg (by omega)]
    · rfl
  · intro i hi
    split
    · rw [sI_at, if_neg (by omega), sI_at, if_neg (by omega)]
    · rfl
  · split <;> rfl
/-- a row is opened -/
theorem open_both (hK : RK o m w) (h : TB L B S T) (hk : Tk L B S T s e k) (hk0 : k ≠ 0) (hF : FA s S T) (hR : RLn S T o w m p q V n) (hp : p < 122) :
    ∃ S' T1 T' s' e' k', f_X5_openLine 207 (some o) S = some S' ∧ f_X12_full 313 (nI p) (nI m) (nI s) T = some T1 ∧ f_X12_token 313 T1 = some T' ∧ Wr T1 ∧ FC o S S' ∧ FM T T' ∧ T'.1 326 = T.1 326 ∧ TB L B S' T' ∧ Tk L B S' T' s' e' k' ∧ FA s' S' T' ∧ e ≤ s' ∧ s' ≤ L ∧ (ok S' → ok S) ∧ RO S' T' o w m p q V n (fun f _ => ∀ i, i < w → f i = -1) := by
  obtain ⟨k1, k2, k3, k4, k5, k6, k7, k8, k9, k10⟩ := id hK
  obtain ⟨r0, r1, r2, r3, r4, r5⟩ := id hR
  have hL := h.2.2.1
  have hlt := hk.2.2.2.2.2.2.2.2.1 hk0
  have hle := hk.2.2.2.2.2.2.1
  have hfull : ∀ T1, f_X12_later 313 3 (nI s) T = some T1 → f_X12_full 313 (nI p) (nI m) (nI s) T = some (if n = m then T1 else T) := fun T1 g => by
    unfold f_X12_full
    rw [r_313_21 h.2.1, y_325 h.2.1 hp, r4]
    have e1 : nI n = nI m ↔ n = m := nI_eq (by omega) (by omega)
    by_cases z : n = m
    · rw [if_pos (e1.mpr z), k_313 h.2.1, g, b1_s, if_pos z]
    · rw [if_neg (fun y => z (e1.mp y)), if_neg z]
  obtain ⟨Sn, Tn, n1, n2, n3, n4, n5, n6, n7, n8, n9, n10'⟩ := noteF h.1 h.2.1 hF (by omega) (Or.inr rfl) 3 rfl
  have hf1 := hfull Tn n2
  -- the class's row
  have hC : ∃ S1, FC o S S1 ∧ (∀ i, i ≤ 10 → S1.1 207 i = S.1 207 i) ∧ f_X5_openLine 207 (some o) S = f_X5_nextToken 207 S1 ∧ FA (s + 1) S1 (if n = m then Tn else T) ∧ S1.1 o 0 = nI m ∧ S1.1 o 1 = nI w ∧ S1.1 o 3 = nI (if n = m then n else n + 1) ∧ (ok S1 → ok S ∧ n < m ∧ (∀ j, j < w → S1.1 (o + 1) (w * n + j) = -1) ∧ ∀ j, j < w * n → S1.1 (o + 1) j = S.1 (o + 1) j) := by
    by_cases z : n = m
    · have e0 : Sn.1 o = S.1 o := by
        funext i
        exact n3.2 o i (by omega)
      have hWn : Wr Sn := wr_2 (by rw [n3.1]) h.1
      obtain ⟨S1, g1, g2, g3, g4⟩ := addRow_v hK hWn (by rw [e0]; exact r0) (by rw [e0]; exact r1) (by rw [e0]; exact r3) r2
      have ea : ∀ i, S1.1 207 i = Sn.1 207 i := fun i => g2.2 207 i (by omega) (by omega)
      refine ⟨S1, n3.fc.tr g2.fc, fun i hi => by rw [ea, n8 i hi], ?_, ?_, ?_, ?_, g3, fun y => absurd ((ok_fc (ea 11)).mp y) n7⟩
      · unfold f_X5_openLine f_X5_addRowAt f_X5_addRowAt_17
        rw [i_207 h.1, hk.1, k_207 h.1, xI_w h.1 (by omega) k3, r3, xI_w h.1 (by omega) k3, r0, if_neg (nI_nlt (by omega) (by omega)), k_207 h.1, n1, b1_s, c1_w hWn (by omega) k3, g1, b1_s, b1_s, k_207 (g2.wr hWn)]
        cases f_X5_nextToken 207 S1 <;> rfl
      · rw [if_pos z]
        unfold FA
        rw [ea, ea]
        exact n6
      · rw [g2.2 o 0 (by omega) (by omega), e0]
        exact r0
      · rw [g2.2 o 1 (by omega) (by omega), e0]
        exact r1
    · obtain ⟨S1, g1, g2, g3, g4⟩ := addRow_v hK h.1 r0 r1 r3 r2
      have ea : ∀ i, S1.1 207 i = S.1 207 i := fun i => g2.2 207 i (by omega) (by omega)
      refine ⟨S1, g2.fc, fun i hi => ea i, ?_, ?_, ?_, ?_, g3, fun y => ⟨(ok_fc (ea 11)).mp y, by omega, g4 (by omega)⟩⟩
      · unfold f_X5_openLine f_X5_addRowAt f_X5_addRowAt_17
        rw [i_207 h.1, hk.1, k_207 h.1, xI_w h.1 (by omega) k3, r3, xI_w h.1 (by omega) k3, r0, if_pos (nI_lt (by omega) (by omega)), c1_w h.1 (by omega) k3, g1, b1_s, b1_s, k_207 (g2.wr h.1)]
        cases f_X5_nextToken 207 S1 <;> rfl
      · rw [if_neg z]
        unfold FA
        rw [ea, ea]
        exact FAv.up hF (by omega) rfl rfl
      · rw [g2.2 o 0 (by omega) (by omega)]
        exact r0
      · rw [g2.2 o 1 (by omega) (by omega)]
        exact r1
  obtain ⟨S1, p1, p2, p3, p4, p5, p6, p7, p8⟩ := hC
  have fT : FM T (if n = m then Tn else T) := by
    split
    · exact n4
    · exact FM.rf _
  have a26 : (if n = m then Tn else T).1 326 = T.1 326 := by
    split
    · exact n5
    · rfl
  have a18 : ∀ i, i ≤ 18 → (if n = m then Tn else T).1 313 i = T.1 313 i := fun i hi => by
    split
    · exact n9 i hi
    · rfl
  generalize (if n = m then Tn else T) = T1 at p4 fT a26 a18 hf1
  have hB1 := (h.fc p1 k1).fM fT
  obtain ⟨S', T', s', e', k', t1, t2, t3, t4, t5, t6, t7⟩ := tok_both hB1 hle (by rw [p2 10 (by decide)]; exact hk.2.1) (by rw [a18 12 (by decide)]; exact hk.2.2.2.2.1)
  have eo : S'.1 o = S1.1 o := by
    funext i
    exact t3.2 o i (by omega)
  have eo1 : S'.1 (o + 1) = S1.1 (o + 1) := by
    funext i
    exact t3.2 (o + 1) i (by omega)
  have e11 : S'.1 207 11 = S1.1 207 11 := t3.2 207 11 (by omega)
  have e12 : S'.1 207 12 = S1.1 207 12 := t3.2 207 12 (by omega)
  have e25 : T'.1 325 = T.1 325 := by
    funext i
    rw [t4.2.2 325 i (by omega)]
    exact fT.2.2 325 i (by omega) (by decide)
  have e26 : T'.1 326 = T.1 326 := by
    rw [← a26]
    funext i
    exact t4.2.2 326 i (by omega)
  refine ⟨S', T1, T', s', e', k', by rw [p3, t1], hf1, t2, fT.wr h.2.1, p1.tr t3.fc, fT.tr t4.fm, e26, (hB1.ft t3).fm t4, t7, ?_, t5, t6, fun z => (p8 ((ok_fc e11).mp z)).1, by rw [eo]; exact p5, by rw [eo]; exact p6, r2, by rw [eo]; exact p7, by rw [e25]; exact r4, fun z => ?_⟩
  · unfold FA
    rw [e11, e12]
    exact FAv.up p4 (by omega) (t4.2.2 _ _ (by omega)) (t4.2.2 _ _ (by omega))
  · obtain ⟨z1, z2, z3, z4⟩ := p8 ((ok_fc e11).mp z)
    obtain ⟨y1, y2⟩ := r5 z1
    refine ⟨z2, fun k hk i hi => ?_, fun k hk => ?_, fun i hi => ?_⟩
    · have := rc_lt hk hi (Nat.le_refl n)
      rw [eo1, z4 _ (by rw [Nat.mul_comm n w] at this; exact this), e25]
      exact y1 k hk i hi
    · rw [e25]
      exact y2 k hk
    · rw [eo1]
      exact z3 i hi
/-- the class sets a number of its own in the row, the reference too -/
theorem set_both (hK : RK o m w) (hW : Wr S) (hR : RO S T o w m p q V n P) (hc : c < w) (v : Int32) (h25 : T'.1 325 = T.1 325) (hP : ∀ f, P f (T.1 326) → P' (up f c v) (T'.1 326)) : ∃ S', f_X7_setLast o (nI c) v S = some S' ∧ FR o S S' ∧ RO S' T' o w m p q V n P' := by
  obtain ⟨r0, r1, r2, r3, r4, r5⟩ := id hR
  have hcnt : (if n = m then n else n + 1) ≤ m := by split <;> omega
  have hk1 := hK.1
  obtain ⟨S', g1, g2, g3, g4⟩ := setLast_v hK hW r1 r3 hcnt hc v
  have e11 : S'.1 207 11 = S.1 207 11 := g2.2 _ _ (by omega) (by omega)
  refine ⟨S', g1, g2, by rw [g3]; exact r0, by rw [g3]; exact r1, r2, by rw [g3]; exact r3, by rw [h25]; exact r4, fun z => ?_⟩
  obtain ⟨y1, y2, y3, y4⟩ := r5 ((ok_fc e11).mp z)
  have hS := g4 n (by rw [if_neg (by omega)])
  subst hS
  refine ⟨y1, fun k hk i hi => ?_, fun k hk => ?_, ?_⟩
  · rw [sI_at, if_neg, h25]
    · exact y2 k hk i hi
    · have := rc_lt hk hi (Nat.le_refl n)
      rw [Nat.mul_comm n w] at this
      omega
  · rw [h25]
    exact y3 k hk
  · have := hP _ y4
    rw [show (fun i => (sI S (o + 1) (w * n + c) v).1 (o + 1) (w * n + i)) = up (fun i => S.1 (o + 1) (w * n + i)) c v from ?_]
    · exact this
    · funext i
      rw [sI_at]
      unfold up
      by_cases z : i = c
      · rw [if_pos z, if_pos (by rw [z])]
      · rw [if_neg z, if_neg (by omega)]
theorem keep_l (hn : n < m) (hq : q + m * w ≤ 122) (hp : p < 122) (hpq : p < q ∨ q + m * w ≤ p) (hw : w ≤ 5) : ∀ (d i N : Nat) (T : GS), Wr T → T.1 325 p = nI n → i + d = w → d < N → ∃ T', f_X12_keep_19 313 N (nI p) (nI q) (nI w) (nI n) (nI i) T = some T' ∧ T'.2 = T.2 ∧ (∀ a, a ≠ 325 → T'.1 a = T.1 a) ∧ T'.1 325 p = nI (n + 1) ∧ (∀ j, i ≤ j → j < w → T'.1 325 (q + (w * n + j)) = T.1 326 j) ∧ ∀ j, j ≠ p → ¬ (q + w * n + i ≤ j ∧ j < q + w * n + w) → T'.1 325 j = T.1 325 j
  | _, _, 0, _, _, _, _, hN => absurd hN (Nat.not_lt_zero _)
  | 0, i, N + 1, T, hW, h1, hi, _ => by
    refine ⟨sI T 325 p (nI (n + 1)), ?_, rfl, fun a ha => sI_o ha, by rw [sI_at, if_pos rfl], fun j a b => absurd b (by omega), fun j a _ => by rw [sI_at, if_neg a]⟩
    rw [f_X12_keep_19, if_pos (nI_le (by omega) (by omega)), r_313_21 hW, y_325 hW hp, h1, nI_1, q_325 hW hp]
  | d + 1, i, N + 1, T, hW, h1, hi, hN => by
    have hlt : w * n + i < m * w := rc_lt hn (by omega) (Nat.le_refl _)
    have hW1 : Wr (sI T 325 (q + w * n + i) (T.1 326 i)) := hW
    obtain ⟨T', g1, g2, g3, g4, g5, g6⟩ := keep_l hn hq hp hpq hw d (i + 1) N (sI T 325 (q + w * n + i) (T.1 326 i)) hW1 (by rw [sI_at, if_neg (by omega)]; exact h1) (by omega) (by omega)
    refine ⟨T', ?_, g2, fun a ha => by rw [g3 a ha, sI_o ha], g4, fun j a b => ?_, fun j a b => ?_⟩
    · rw [f_X12_keep_19, if_neg (nI_ge (by omega) (by omega)), r_313_21 hW, r_313_22 hW, y_326 hW (by omega), nI_mul, nI_add, nI_add, q_325 hW (by omega), nI_1]
      exact g1
    · by_cases z : j = i
      · subst z
        rw [g6 _ (by omega) (by omega), sI_at, if_pos (by omega)]
      · exact g5 j (by omega) b
    · rw [g6 j a (by omega), sI_at, if_neg (by omega)]
/-- a row is kept -/
theorem keep_both (hK : RK o m w) (hW : Wr T) (hR : RO S T o w m p q V n P) (hq : q + m * w ≤ 122) (hp : p < 122) (hpq : p < q ∨ q + m * w ≤ p) (hP : ∀ f g, P f g → (∀ i, i < w → f i = g i) ∧ V g) (hV : ∀ f g, (∀ i, i < w → f i = g i) → V f → V g) : ∃ T', f_X12_keep 313 (nI p) (nI q) (nI w) (nI m) T = some T' ∧ FK p q (m * w) T T' ∧ RLn S T' o w m p q V (if n = m then n else n + 1) := by
  obtain ⟨r0, r1, r2, r3, r4, r5⟩ := id hR
  obtain ⟨k1, k2, k3, k4, k5, k6, k7, k8, k9, k10⟩ := id hK
  have e1 : nI n = nI m ↔ n = m := nI_eq (by omega) (by omega)
  have hfu : fu = 4096 := rfl
  unfold f_X12_keep
  rw [r_313_21 hW, y_325 hW hp, r4]
  by_cases z : n = m
  · refine ⟨T, by rw [if_pos (e1.mpr z)], ⟨rfl, fun _ _ => rfl, fun _ _ _ => rfl⟩, r0, r1, by rw [if_pos z]; exact r2, r3, by rw [if_pos z]; exact r4, fun y => absurd (r5 y).1 (by omega)⟩
  · obtain ⟨T', g1, g2, g3, g4, g5, g6⟩ := keep_l (n := n) (m := m) (by omega) hq hp hpq k10 w 0 fu T hW r4 (by omega) (by omega)
    refine ⟨T', by rw [if_neg (fun y => z (e1.mp y))]; exact g1, ⟨g2, g3, fun j a b => g6 j a (fun y => ?_)⟩, r0, r1, by split <;> omega, r3, by rw [if_neg z]; exact g4, fun y => ?_⟩
    · have := rc_lt (n := m) (m := m) (w := w) (k := n) (i := j - (q + w * n)) (by omega) (by omega) (Nat.le_refl _)
      omega
    · obtain ⟨y1, y2, y3, y4⟩ := r5 y
      obtain ⟨y5, y6⟩ := hP _ _ y4
      have old : ∀ k, k < n → ∀ i, i < w → T'.1 325 (q + (w * k + i)) = T.1 325 (q + (w * k + i)) := fun k hk i hi => by
        have a1 := rc_lt hk hi (Nat.le_refl n)
        have a2 := rc_lt hk hi (show n ≤ m by omega)
        rw [Nat.mul_comm n w] at a1
        exact g6 _ (by omega) (by omega)
      rw [if_neg z]
      refine ⟨fun k hk i hi => ?_, fun k hk => ?_⟩
      · by_cases x : k = n
        · subst x
          rw [g5 i (by omega) hi]
          exact y5 i hi
        · rw [old k (by omega) i hi]
          exact y2 k (by omega) i hi
      · by_cases x : k = n
        · subst x
          exact hV _ _ (fun i hi => (g5 i (by omega) hi).symm) y6
        · exact hV _ _ (fun i hi => (old k (by omega) i hi).symm) (y3 k (by omega))
/-- what else was told stays -/
theorem RLn.mv (h : RLn S T o w m p q V n) (h1 : S'.1 o = S.1 o) (h2 : S'.1 (o + 1) = S.1 (o + 1)) (h3 : T'.1 325 p = T.1 325 p) (h4 : ∀ j, q ≤ j → j < q + m * w → T'.1 325 j = T.1 325 j) (h5 : ok S' → ok S) (hV : ∀ f g, (∀ i, i < w → f i = g i) → V f → V g) : RLn S' T' o w m p q V n := by
  obtain ⟨r0, r1, r2, r3, r4, r5⟩ := id h
  have old : ∀ k, k < n → ∀ i, i < w → T'.1 325 (q + (w * k + i)) = T.1 325 (q + (w * k + i)) := fun k hk i hi => by
    have a2 := rc_lt hk hi r2
    exact h4 _ (by omega) (by omega)
  refine ⟨by rw [h1]; exact r0, by rw [h1]; exact r1, r2, by rw [h1]; exact r3, by rw [h3]; exact r4, fun y => ?_⟩
  obtain ⟨y1, y2⟩ := r5 (h5 y)
  exact ⟨fun k hk i hi => by rw [h2, old k hk i hi]; exact y1 k hk i hi, fun k hk => hV _ _ (fun i hi => (old k hk i hi).symm) (y2 k hk)⟩
end RT
