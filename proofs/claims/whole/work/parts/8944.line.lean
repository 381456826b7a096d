/-! texts: pawns, maids -/
def vPawnP (f g : Nat → Int32) : Prop := (∀ i, i < 3 → f i = g i) ∧ vPawn g
section LJ
variable {α : Type} {L : Nat} {B : Nat → Nat} {S S' T T' : GS} {s e k f c o w m p q n : Nat} {V : (Nat → Int32) → Prop} {P P' : (Nat → Int32) → (Nat → Int32) → Prop} {R : GS → GS → Prop}
theorem Vc.eq {w : Nat} {V : (Nat → Int32) → Prop} (h : Vc w V V) : ∀ f g, (∀ i, i < w → f i = g i) → V f → V g := fun f g e v => h f g (fun i hi => (e i hi).symm) v
theorem kr {β : Type} {f : Nat → Option β} {g : β → Option α} (hK : RK o m w) (hW : Wr S) : c1 (some o) 7 S f g = b1 (f o) g := c1_w hW (by have := hK.2.1; omega) hK.2.2.1
theorem up_at {f : Nat → Int32} {c : Nat} {v : Int32} : up f c v c = v := if_pos rfl
theorem up_o {f : Nat → Int32} {c i : Nat} {v : Int32} (h : i ≠ c) : up f c v i = f i := if_neg h
theorem ro8 : RO9 226 3 30 := Or.inr (Or.inr (Or.inr (Or.inr (Or.inr (Or.inr (Or.inr (Or.inl ⟨rfl, rfl, rfl⟩)))))))
theorem ro9 : RO9 228 2 10 := Or.inr (Or.inr (Or.inr (Or.inr (Or.inr (Or.inr (Or.inr (Or.inr ⟨rfl, rfl, rfl⟩)))))))
theorem brkL54 {x : Int32} (h : BR 226 3 30 x S) (a b : Int32) : ∃ S', f_X5_readLedgerLine_54 207 a b S = some S' ∧ BR 226 3 30 x S' ∧ FC 226 S S' := by
  obtain ⟨S1, g1, h1, f1⟩ := brk_set ro8.rk h (c := 0) (by decide) a
  obtain ⟨S2, g2, h2, f2⟩ := brk_set ro8.rk h1 (c := 1) (by decide) b
  obtain ⟨S3, g3, h3, f3⟩ := brk_ts ro8.rk h2 (c := 2) (by decide) 1 99
  refine ⟨S3, ?_, h3, (f1.tr f2).tr f3⟩
  unfold f_X5_readLedgerLine_54
  rw [r_207_5 h.1, kr ro8.rk h.1, show f_X7_setLast 226 0 a S = some S1 from g1, b1_s, r_207_5 h1.1, kr ro8.rk h1.1, show f_X7_setLast 226 1 b S1 = some S2 from g2, b1_s, r_207_5 h2.1]
  exact g3 (fun S => some S)
/-- a pawn -/
theorem line4 (h : TB L B S T) (hk : Tk L B S T s e k) (hk0 : k ≠ 0) (hF : FA s S T) (hD : RwD S) (hR : RLn S T 226 3 30 0 1 vPawn n) : LX L B (fun S T => RwD S ∧ ∃ n, RLn S T 226 3 30 0 1 vPawn n) S T e (f_X5_readLedgerLine 207 S) (f_X12_ledgerLine 313 (wd T) (nI s) T) := by
  unfold f_X5_readLedgerLine f_X12_ledgerLine
  have hw : f_X5_isWord 207 (some 100019) S = some (if wd T = 1870095731 then 1 else 0) := isW h hk (j := 19) (by decide)
  rw [k_207 h.1, hw, b1_s]
  by_cases q : wd T = 1870095731
  · rw [if_pos q, if_neg n10, r_207_5 h.1, if_pos (lcp q)]
    obtain ⟨S1, T0, T1, s1, e1, k1, g1, g2, g3, hT0, c1', m1, r26, hB1, hk1, hF1, l1, l2, o1, hR1⟩ := open_both ro8.rk h hk hk0 hF hR (by decide)
    rw [k_207 h.1, g1, b1_s, k_313 h.2.1, show f_X12_full 313 0 30 (nI s) T = some T0 from g2, b1_s, k_313 hT0, g3, b1_s]
    have hse := hk1.le
    rcases tk_both hB1 hk1 hF1 (lo := 0) (hi := 7) (c := 0) (by decide) (by decide) (by decide) with ⟨rfl, v, S2, T2, s2, e2, k2, t1, t2, f2, m2, hB2, hk2, hF2, l3, l4, u2, v2, o2⟩ | ⟨q2, t1, t2⟩
    · rw [kk_207 hB1.1, show f_X5_takeNumber 207 0 7 S1 = some (nI v, S2) from t1, b2_s, i_207 hB2.1, hk2.1, kk_313 hB1.2.1, show f_X12_take 313 0 0 7 T1 = some (1, T2) from t2, b2_s, if_neg n10, r_313_22 hB2.2.1, show yI (some 326) 14 0 T2 _ = _ from y_326 (k := 0) hB2.2.1 (by decide), u2, up_at]
      have hle2 := hk2.le
      by_cases q2 : k2 = 2
      · subst q2
        have w3 := (val_v hB2 hk2).2.2
        obtain ⟨S3, T3, s3, e3, k3, t3, t4, f3, m3, hB3, hk3, l5, l6, u3, F1, F2, o3⟩ := take_core (lo' := 0) (hi' := 7) (but := nI v) hB2 hk2 hF2 (lo := 0) (hi := 7) (c := 1) (by decide) (by decide) (by decide) (by decide) (by decide) (fun z => by omega)
        generalize hx : nv B s2 (e2 - s2) = x at *
        have evx : nI x = nI v ↔ x = v := nI_eq (by omega) (by omega)
        -- the row as it stands: the class holds both numbers in hand
        have hRO : ∀ S4 : GS, S4.1 226 = S3.1 226 → S4.1 227 = S3.1 227 → (ok S4 → ok S3 ∧ x ≠ v) → RO S4 T3 226 3 30 0 1 vPawn n (fun f g => (∀ i, i < 3 → f i = -1) ∧ g 0 = nI v ∧ g 1 = nI x ∧ v ≤ 7 ∧ x ≤ 7) := fun S4 y1 y2 y3 => by
          refine hR1.mv (by rw [y1, f3.at (by decide), f2.at (by decide)]) (by show S4.1 227 = S1.1 227; rw [y2, f3.at (by decide), f2.at (by decide)]) (by rw [m3.told, m2.told]) (fun z => (o2 (o3 (y3 z).1).1).1) (fun z f y => ?_)
          obtain ⟨z1, z2⟩ := y3 z
          have z3 := o3 z1
          have z4 := o2 z3.1
          refine ⟨y, ?_, ?_, z4.2.2, z3.2.2⟩
          · rw [u3, u2]
            rfl
          · rw [u3]
            rfl
        -- both go on with the same row
        have go : ∀ S4 : GS, Wr S4 → FU S3 S4 → FA s3 S4 T3 → (ok S4 → ok S3 ∧ x ≠ v) → (∀ i, i ≤ 10 → S4.1 207 i = S3.1 207 i) → LX L B (fun S T => RwD S ∧ ∃ n, RLn S T 226 3 30 0 1 vPawn n) S T e (f_X5_readLedgerLine_54 207 (nI v) (nI x) S4) (c2 (some 313) 12 T3 (fun o' => f_X12_take o' 2 1 99 T3) fun v11 S12 => (if v11 = 0 then (some (0, S12)) else (c1 (some 313) 12 S12 (fun o' => f_X12_keep o' 0 1 3 30 S12) fun S14 => (some (1, S14))))) := by
          intro S4 hW4 f4 hF4 ho4 e4
          have hR4 := hRO S4 (f4.at (by decide)) (f4.at (by decide)) ho4
          obtain ⟨S5, x1, x2, x3⟩ := set_both (P' := fun f g => (f 0 = nI v ∧ f 1 = -1) ∧ g 0 = nI v ∧ g 1 = nI x ∧ v ≤ 7 ∧ x ≤ 7) (T' := T3) ro8.rk hW4 hR4 (c := 0) (by decide) (nI v) rfl (fun f z => ⟨⟨up_at, by rw [up_o (by decide)]; exact z.1 1 (by decide)⟩, z.2⟩)
          have hW5 := x2.wr hW4
          obtain ⟨S6, x4, x5, x6⟩ := set_both (P' := fun f g => (f 0 = nI v ∧ f 1 = nI x) ∧ g 0 = nI v ∧ g 1 = nI x ∧ v ≤ 7 ∧ x ≤ 7) (T' := T3) ro8.rk hW5 x3 (c := 1) (by decide) (nI x) rfl (fun f z => ⟨⟨by rw [up_o (by decide)]; exact z.1.1, up_at⟩, z.2⟩)
          have hW6 := x5.wr hW5
          have f46 : FC 226 S3 S6 := f4.fc.tr (x2.fc.tr x5.fc)
          have k207 : ∀ i, S6.1 207 i = S4.1 207 i := fun i => by rw [x5.2 207 i (by omega) (by omega), x2.2 207 i (by omega) (by omega)]
          have hB6 : TB L B S6 T3 := (hB3.fu f4).fc (x2.fc.tr x5.fc) (by decide)
          have hk6 : Tk L B S6 T3 s3 e3 k3 := hk3.mv (fun i a b => by rw [k207, e4 i b]) (fun _ _ => rfl) rfl
          have hF6 : FA s3 S6 T3 := by
            unfold FA
            rw [k207, k207]
            exact hF4
          have hle3 := hk3.le
          unfold f_X5_readLedgerLine_54
          rw [r_207_5 hW4, kr ro8.rk hW4, show f_X7_setLast 226 0 (nI v) S4 = some S5 from x1, b1_s, r_207_5 hW5, kr ro8.rk hW5, show f_X7_setLast 226 1 (nI x) S5 = some S6 from x4, b1_s, r_207_5 hW6]
          have fs : FC 226 S S6 := c1'.tr (f2.fc.tr (f3.fc.tr f46))
          have fm : FM T T3 := m1.tr (m2.tr m3)
          have hPP : ∀ (f g : Nat → Int32) (y : Nat), ((f 0 = nI v ∧ f 1 = nI x) ∧ g 0 = nI v ∧ g 1 = nI x ∧ v ≤ 7 ∧ x ≤ 7) → 1 ≤ y → y ≤ 99 → vPawnP (up f 2 (nI y)) (up g 2 (nI y)) := fun f g y a b c => by
            refine ⟨fun i hi => ?_, ?_⟩
            · rcases (show i = 0 ∨ i = 1 ∨ i = 2 by omega) with rfl | rfl | rfl
              · rw [up_o (by decide), up_o (by decide), a.1.1, a.2.1]
              · rw [up_o (by decide), up_o (by decide), a.1.2, a.2.2.1]
              · rw [up_at, up_at]
            · unfold vPawn
              rw [up_o (by decide), up_o (by decide), up_at, a.2.1, a.2.2.1]
              exact ⟨in_I (Nat.zero_le _) a.2.2.2.1, in_I (Nat.zero_le _) a.2.2.2.2, in_I b c⟩
          rcases ts_both (P' := vPawnP) ro8.rk hB6 hk6 hF6 x6 (lo := 1) (hi := 99) (c := 2) (by decide) (by decide) (by decide) hPP with ⟨rfl, y, S7, T7, s7, e7, k7, y1, y2, y3, y4, y5, y6, y7, y8, y9, y10, y11, y12, y13⟩ | ⟨z, S7, T7, y1, y2, y3, y4, y5⟩
          · obtain ⟨T8, w1, w2, w3'⟩ := keep_both ro8.rk y5.2.1 y13 (by decide) (by decide) (Or.inl (by decide)) (fun f g z => z) vPawn_c.eq
            refine Or.inl ⟨S7, T8, s7, e7, k7, y1 (fun S => some S), ?_, (fs.tr y3).x (by decide) (by decide), ((fm.tr y4).x).tr w2.x, y5.cm (by rw [w2.1]) (by rw [w2.2.1 313 (by decide)]) (fun i => by rw [w2.2.1 314 (by decide)]), y6.mv (fun _ _ _ => rfl) (fun i _ => by rw [w2.2.1 313 (by decide)]) (by rw [w2.1]), FAv.up y7 (Nat.le_refl _) (by rw [w2.2.1 313 (by decide)]) (by rw [w2.2.1 313 (by decide)]), by omega, y9, hD.fc (fs.tr y3) ro8 w3'.rwr, _, w3'⟩
            rw [kk_313 hB3.2.1, show f_X12_take 313 2 1 99 T3 = some (1, T7) from y2, b2_s, if_neg n10, k_313 y5.2.1, show f_X12_keep 313 0 1 3 30 T7 = some T8 from w1, b1_s]
          · refine lx_brk hD ro8 (y1 (fun S => some S)) ?_ (fs.tr y3) (fm.tr y4).x h.2.1 y5
            rw [kk_313 hB3.2.1, show f_X12_take 313 2 1 99 T3 = some (0, T7) from y2, b2_s, if_pos rfl]
        rw [kk_313 hB2.2.1, show f_X12_takeBut 313 1 0 7 (nI v) T2 = some (1, T3) from t4, b2_s, if_neg n10, kk_207 hB2.1, show f_X5_takeNumber 207 0 7 S2 = some (nI x, S3) from t3, b2_s]
        by_cases z : x = v
        · rw [if_pos (evx.mpr z), k_207 hB3.1, note_v hB3.1, b1_s]
          refine go _ ?_ ?_ ?_ ?_ ?_
          · split <;> exact hB3.1
          · split
            · exact (FU.I (by decide) (by decide)).tr (FU.I (by decide) (by decide))
            · exact FU.rf _
          · have := F2 (Or.inr (Or.inr (evx.mpr z)))
            unfold FA
            by_cases y : S3.1 207 11 = 0
            · rw [if_pos y, if_pos y] at this
              rw [if_pos y]
              exact this
            · rw [if_neg y, if_neg y] at this
              rw [if_neg y]
              exact this
          · intro y
            by_cases w : S3.1 207 11 = 0
            · rw [if_pos w] at y
              exact absurd (show (2 : Int32) = 0 from y) (by decide)
            · rw [if_neg w] at y
              exact absurd y w
          · intro i hi
            split
            · rw [sI_at, if_neg (by omega), sI_at, if_neg (by omega)]
            · rfl
        · rw [if_neg (fun y => z (evx.mp y))]
          exact go S3 hB3.1 (FU.rf _) (F1 (fun y => by
            rcases y with y | y | y
            · exact Or.inl y
            · exact Or.inr y
            · exact absurd (evx.mp y) z)) (fun y => ⟨y, z⟩) (fun _ _ => rfl)
      · obtain ⟨t3, t4⟩ := take_no hB2 hk2 q2 hF2 0 7 (nI 1) 0 7 (nI v)
        have hb := brk_S (s := s2) hB2.1 (hR1.rwr.sm (f2.at (by decide))) (by decide)
        have hfb := (c1'.tr f2.fc).tr (brk_F (S := S2) (s := s2)).fc
        rw [kk_313 hB2.2.1, show f_X12_takeBut 313 1 0 7 (nI v) T2 = _ from t4, b2_s, if_pos rfl, kk_207 hB2.1, t3, b2_s]
        generalize sI (sI S2 207 11 1) 207 12 (nI s2) = S3 at hb hfb ⊢
        obtain ⟨S4, x1, x2, x3⟩ := brkL54 hb (nI v) 0
        have : (if (0 : Int32) = nI v then c1 (some 207) 5 S3 (fun o' => f_X5_noteFault o' 2 (nI s2) S3) fun S14 => f_X5_readLedgerLine_54 207 (nI v) 0 S14 else f_X5_readLedgerLine_54 207 (nI v) 0 S3) = some S4 := by
          split
          · rw [k_207 hb.1, brk_note hb, b1_s, x1]
          · exact x1
        exact lx_brk hD ro8 this rfl (hfb.tr x3) ((m1.tr m2).tr (FM.I (by omega))).x h.2.1 x2
    · have hb := brk_S (s := s1) hB1.1 hR1.rwr (by decide)
      have hfb := c1'.tr (brk_F (S := S1) (s := s1)).fc
      rw [kk_313 hB1.2.1, show f_X12_take 313 0 0 7 T1 = _ from t2, b2_s, if_pos rfl, kk_207 hB1.1, show f_X5_takeNumber 207 0 7 S1 = _ from t1, b2_s]
      generalize sI (sI S1 207 11 1) 207 12 (nI s1) = S3 at hb hfb ⊢
      obtain ⟨S4, x1, x2, x3⟩ := brkL54 hb 0 0
      refine lx_brk hD ro8 ?_ rfl (hfb.tr x3) (m1.tr (FM.I (by omega))).x h.2.1 x2
      rw [i_207 hb.1, kk_207 hb.1, brk_take hb.1 hb.2.1, b2_s, if_pos (show (0 : Int32) = nI 0 from rfl), k_207 hb.1, brk_note hb, b1_s]
      exact x1
  · rw [if_neg q, if_pos rfl, k_207 h.1, break_v h.1 hk.1 (FAv.nb hF), b1_s, if_neg (lcn q), kk_313 h.2.1, fails_v h.2.1 hk.2.2.2.1, b2_s]
    exact lx_no h hk hD
end LJ
