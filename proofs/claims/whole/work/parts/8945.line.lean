/-! texts: maids -/
def vMaidP (f g : Nat → Int32) : Prop := (∀ i, i < 2 → f i = g i) ∧ vMaid g
section LK
variable {α : Type} {L : Nat} {B : Nat → Nat} {S S' T T' : GS} {s e k f c o w m p q n : Nat} {V : (Nat → Int32) → Prop} {P P' : (Nat → Int32) → (Nat → Int32) → Prop} {R : GS → GS → Prop}
/-- a line's row was kept -/
theorem lx_keep (hK : RO9 o w m) (hD : RwD S) (hB : TB L B S' T') {s' e' k' : Nat} (hk : Tk L B S' T' s' e' k') (hF : FA s' S' T') (l1 : e ≤ s') (l2 : s' ≤ L) (f1 : FC o S S') (f2 : FMx T T') (hR : RO S' T' o w m p q V n P) (hq : q + m * w ≤ 122) (hp : p < 122) (hpq : p < q ∨ q + m * w ≤ p) (hP : ∀ f g, P f g → (∀ i, i < w → f i = g i) ∧ V g) (hV : Vc w V V) :
    ∃ T2, f_X12_keep 313 (nI p) (nI q) (nI w) (nI m) T' = some T2 ∧ FMx T T2 ∧ FK p q (m * w) T' T2 ∧ TB L B S' T2 ∧ Tk L B S' T2 s' e' k' ∧ FA s' S' T2 ∧ RwD S' ∧ FCx S S' ∧ ∃ n, RLn S' T2 o w m p q V n := by
  obtain ⟨T8, w1, w2, w3⟩ := keep_both hK.rk hB.2.1 hR hq hp hpq hP hV.eq
  exact ⟨T8, w1, f2.tr w2.x, w2, hB.cm (by rw [w2.1]) (by rw [w2.2.1 313 (by decide)]) (fun i => by rw [w2.2.1 314 (by decide)]), hk.mv (fun _ _ _ => rfl) (fun i _ => by rw [w2.2.1 313 (by decide)]) (by rw [w2.1]), FAv.up hF (Nat.le_refl _) (by rw [w2.2.1 313 (by decide)]) (by rw [w2.2.1 313 (by decide)]), hD.fc f1 hK w3.rwr, f1.x hK.lo.1 hK.lo.2, _, w3⟩
/-- a maid -/
theorem line5 (h : TB L B S T) (hk : Tk L B S T s e k) (hk0 : k ≠ 0) (hF : FA s S T) (hD : RwD S) (hR : RLn S T 228 2 10 0 1 vMaid n) : LX L B (fun S T => RwD S ∧ ∃ n, RLn S T 228 2 10 0 1 vMaid n) S T e (f_X5_readShiftsLine 207 S) (f_X12_shiftLine 313 (wd T) (nI s) T) := by
  unfold f_X5_readShiftsLine f_X12_shiftLine
  have hw : f_X5_isWord 207 (some 100020) S = some (if wd T = 1835100516 then 1 else 0) := isW h hk (j := 20) (by decide)
  rw [k_207 h.1, hw, b1_s]
  by_cases q : wd T = 1835100516
  · rw [if_pos q, if_neg n10, r_207_6 h.1, if_pos (lcp q)]
    obtain ⟨S1, T0, T1, s1, e1, k1, g1, g2, g3, hT0, c1', m1, r26, hB1, hk1, hF1, l1, l2, o1, hR1⟩ := open_both ro9.rk h hk hk0 hF hR (by decide)
    rw [k_207 h.1, g1, b1_s, k_313 h.2.1, show f_X12_full 313 0 10 (nI s) T = some T0 from g2, b1_s, k_313 hT0, g3, b1_s]
    have hse := hk1.le
    -- the rest of the line, once broken
    have rest : ∀ (x : Int32) (S3 : GS) (a b y : Int32), BR 228 2 10 x S3 → ∃ S4, (xR (some 207) 5 6 S3 fun v13 => (c1 v13 7 S3 (fun o' => f_X7_setLast o' 0 a S3) fun S15 => (xR (some 207) 5 6 S15 fun v16 => (c1 v16 7 S15 (fun o' => f_X7_setLast o' 1 b S15) fun S18 => (if a ≤ b then (some S18) else (c1 (some 207) 5 S18 (fun o' => f_X5_noteFault o' 2 y S18) fun S20 => (some S20))))))) = some S4 ∧ BR 228 2 10 x S4 ∧ FC 228 S3 S4 := fun x S3 a b y hb => by
      obtain ⟨S4, x1, x2, x3⟩ := brk_set ro9.rk hb (c := 0) (by decide) a
      obtain ⟨S5, y1, y2, y3⟩ := brk_set ro9.rk x2 (c := 1) (by decide) b
      refine ⟨S5, ?_, y2, x3.tr y3⟩
      rw [r_207_6 hb.1, kr ro9.rk hb.1, show f_X7_setLast 228 0 a S3 = some S4 from x1, b1_s, r_207_6 x2.1, kr ro9.rk x2.1, show f_X7_setLast 228 1 b S4 = some S5 from y1, b1_s]
      split
      · rfl
      · rw [k_207 y2.1, brk_note y2, b1_s]
    rcases tk_both hB1 hk1 hF1 (lo := 0) (hi := 30) (c := 0) (by decide) (by decide) (by decide) with ⟨rfl, v, S2, T2, s2, e2, k2, t1, t2, f2, m2, hB2, hk2, hF2, l3, l4, u2, v2, o2⟩ | ⟨q2, t1, t2⟩
    · rw [kk_207 hB1.1, show f_X5_takeNumber 207 0 30 S1 = some (nI v, S2) from t1, b2_s, i_207 hB2.1, hk2.1, kk_313 hB1.2.1, show f_X12_take 313 0 0 30 T1 = some (1, T2) from t2, b2_s, if_neg n10, r_313_22 hB2.2.1, show yI (some 326) 14 0 T2 _ = _ from y_326 (k := 0) hB2.2.1 (by decide), u2, up_at]
      have hle2 := hk2.le
      by_cases q2 : k2 = 2
      · subst q2
        have w3 := (val_v hB2 hk2).2.2
        obtain ⟨S3, T3, s3, e3, k3, t3, t4, f3, m3, hB3, hk3, l5, l6, u3, F1, F2, o3⟩ := take_core (lo' := v) (hi' := 30) (but := -1) hB2 hk2 hF2 (lo := 0) (hi := 30) (c := 1) (by decide) (by decide) (by decide) (by omega) (by decide) (fun z => by omega)
        generalize hx : nv B s2 (e2 - s2) = x at *
        have hR3 : RO S3 T3 228 2 10 0 1 vMaid n (fun f g => (∀ i, i < 2 → f i = -1) ∧ g 0 = nI v ∧ g 1 = nI x ∧ v ≤ 30 ∧ x ≤ 30) := by
          refine hR1.mv (by rw [f3.at (by decide), f2.at (by decide)]) (by show S3.1 229 = S1.1 229; rw [f3.at (by decide), f2.at (by decide)]) (by rw [m3.told, m2.told]) (fun z => (o2 (o3 z).1).1) (fun z f y => ?_)
          have z3 := o3 z
          have z4 := o2 z3.1
          refine ⟨y, ?_, ?_, z4.2.2, z3.2.2⟩
          · rw [u3, u2]
            rfl
          · rw [u3]
            rfl
        obtain ⟨S5, x1, x2, x3⟩ := set_both (P' := fun f g => (f 0 = nI v ∧ f 1 = -1) ∧ g 0 = nI v ∧ g 1 = nI x ∧ v ≤ 30 ∧ x ≤ 30) (T' := T3) ro9.rk hB3.1 hR3 (c := 0) (by decide) (nI v) rfl (fun f z => ⟨⟨up_at, by rw [up_o (by decide)]; exact z.1 1 (by decide)⟩, z.2⟩)
        have hW5 := x2.wr hB3.1
        obtain ⟨S6, x4, x5, x6⟩ := set_both (P' := vMaidP) (T' := T3) ro9.rk hW5 x3 (c := 1) (by decide) (nI x) rfl (fun f z => by
          refine ⟨fun i hi => ?_, ?_⟩
          · rcases (show i = 0 ∨ i = 1 by omega) with rfl | rfl
            · rw [up_o (by decide), z.1.1, z.2.1]
            · rw [up_at, z.2.2.1]
          · unfold vMaid
            rw [z.2.1, z.2.2.1]
            exact ⟨in_I (Nat.zero_le _) z.2.2.2.1, in_I (Nat.zero_le _) z.2.2.2.2⟩)
        have hW6 := x5.wr hW5
        have f36 : FC 228 S3 S6 := x2.fc.tr x5.fc
        have k207 : ∀ i, S6.1 207 i = S3.1 207 i := fun i => by rw [x5.2 207 i (by omega) (by omega), x2.2 207 i (by omega) (by omega)]
        have hB6 : TB L B S6 T3 := hB3.fc f36 (by decide)
        have hk6 : Tk L B S6 T3 s3 e3 k3 := hk3.mv (fun i a b => by rw [k207]) (fun _ _ => rfl) rfl
        have fs : FC 228 S S6 := c1'.tr (f2.fc.tr (f3.fc.tr f36))
        have fm : FM T T3 := m1.tr (m2.tr m3)
        rw [kk_313 hB2.2.1, show f_X12_take 313 1 (nI v) 30 T2 = some (1, T3) from take_v _ _ _ (Or.inr rfl) hB2.2.1 t4, b2_s, if_neg n10, kk_207 hB2.1, show f_X5_takeNumber 207 0 30 S2 = some (nI x, S3) from t3, b2_s, r_207_6 hB3.1, kr ro9.rk hB3.1, show f_X7_setLast 228 0 (nI v) S3 = some S5 from x1, b1_s, r_207_6 hW5, kr ro9.rk hW5, show f_X7_setLast 228 1 (nI x) S5 = some S6 from x4, b1_s]
        have fin : ∀ S7 : GS, FU S6 S7 → (∀ i, i ≤ 10 → S7.1 207 i = S6.1 207 i) → FA s3 S7 T3 → (ok S7 → ok S6) → LX L B (fun S T => RwD S ∧ ∃ n, RLn S T 228 2 10 0 1 vMaid n) S T e (some S7) (c1 (some 313) 12 T3 (fun o' => f_X12_keep o' 0 1 2 10 T3) fun S12 => (some (1, S12))) := by
          intro S7 f7 e7 hF7 o7
          have hR7 : RO S7 T3 228 2 10 0 1 vMaid n vMaidP := x6.mv (f7.at (by decide)) (f7.at (by decide)) rfl o7 (fun _ f y => y)
          obtain ⟨T8, w1, w2, w3', w4, w5, w6, w7, w8, w9⟩ := lx_keep (P := vMaidP) ro9 hD (hB6.fu f7) (hk6.mv (fun i a b => e7 i b) (fun _ _ => rfl) rfl) hF7 (show e ≤ s3 by omega) l6 (fs.tr f7.fc) fm.x hR7 (by decide) (by decide) (Or.inl (by decide)) (fun f g z => z) vMaid_c
          refine Or.inl ⟨S7, T8, s3, e3, k3, rfl, ?_, w8, w2, w4, w5, w6, by omega, l6, w7, w9⟩
          rw [k_313 hB3.2.1, show f_X12_keep 313 0 1 2 10 T3 = some T8 from w1, b1_s]
        by_cases z : x < v
        · rw [if_neg (nI_ge z (by omega)), k_207 hW6, note_v hW6, b1_s]
          refine fin _ ?_ ?_ ?_ ?_
          · split
            · exact (FU.I (by decide) (by decide)).tr (FU.I (by decide) (by decide))
            · exact FU.rf _
          · intro i hi
            split
            · rw [sI_at, if_neg (by omega), sI_at, if_neg (by omega)]
            · rfl
          · have := F2 (Or.inl z)
            unfold FA
            rw [← k207 11, ← k207 12] at this
            by_cases y : S6.1 207 11 = 0
            · rw [if_pos y, if_pos y] at this
              rw [if_pos y]
              exact this
            · rw [if_neg y, if_neg y] at this
              rw [if_neg y]
              exact this
          · intro y
            by_cases w : S6.1 207 11 = 0
            · exact w
            · rw [if_neg w] at y
              exact y
        · rw [if_pos (nI_le (by omega) (by omega))]
          refine fin S6 (FU.rf _) (fun _ _ => rfl) ?_ (fun y => y)
          have := F1 (fun y => by
            rcases y with y | y | y
            · exact absurd y z
            · exact Or.inr y
            · exact absurd y (nI_neg1 _ (by omega)))
          unfold FA
          rw [k207, k207]
          exact this
      · obtain ⟨t3, t4⟩ := take_no hB2 hk2 q2 hF2 0 30 (nI 1) (nI v) 30 (-1)
        have hb := brk_S (s := s2) hB2.1 (hR1.rwr.sm (f2.at (by decide))) (by decide)
        have hfb := (c1'.tr f2.fc).tr (brk_F (S := S2) (s := s2)).fc
        rw [kk_313 hB2.2.1, show f_X12_take 313 1 (nI v) 30 T2 = _ from take_v _ _ _ (Or.inl rfl) hB2.2.1 t4, b2_s, if_pos rfl, kk_207 hB2.1, t3, b2_s]
        obtain ⟨S4, x1, x2, x3⟩ := rest _ _ (nI v) 0 (nI s2) hb
        exact lx_brk hD ro9 x1 rfl (hfb.tr x3) ((m1.tr m2).tr (FM.I (by omega))).x h.2.1 x2
    · have hb := brk_S (s := s1) hB1.1 hR1.rwr (by decide)
      have hfb := c1'.tr (brk_F (S := S1) (s := s1)).fc
      rw [kk_313 hB1.2.1, show f_X12_take 313 0 0 30 T1 = _ from t2, b2_s, if_pos rfl, kk_207 hB1.1, show f_X5_takeNumber 207 0 30 S1 = _ from t1, b2_s]
      generalize sI (sI S1 207 11 1) 207 12 (nI s1) = S3 at hb hfb ⊢
      obtain ⟨S4, x1, x2, x3⟩ := rest _ _ 0 0 (S3.1 207 9) hb
      refine lx_brk hD ro9 ?_ rfl (hfb.tr x3) (m1.tr (FM.I (by omega))).x h.2.1 x2
      rw [i_207 hb.1, kk_207 hb.1, brk_take hb.1 hb.2.1, b2_s]
      exact x1
  · rw [if_neg q, if_pos rfl, k_207 h.1, break_v h.1 hk.1 (FAv.nb hF), b1_s, if_neg (lcn q), kk_313 h.2.1, fails_v h.2.1 hk.2.2.2.1, b2_s]
    exact lx_no h hk hD
end LK
