/-! texts: a sight's line -/
section LQ
variable {α : Type} {L : Nat} {B : Nat → Nat} {S S' T T' S0 T0 : GS} {s e k f c o w m p q n d e0 v : Nat} {V : (Nat → Int32) → Prop} {P P' : (Nat → Int32) → (Nat → Int32) → Prop} {R : GS → GS → Prop}
/-- the token stays where the text is broken -/
theorem tok_same (hK : RK o m w) (h : TB L B S T) (hk : Tk L B S T s e k) (h2 : k ≠ 2) (hF : FA s S T) (hR : RwR S o w m) (hc : c < w) {lo hi : Int32} (hS : cT o lo hi (nI c) S some = some S') : TB L B S' T ∧ Tk L B S' T s e k := by
  obtain ⟨g1, -⟩ := take_no h hk h2 hF lo hi 0 0 0 0
  have hb := brk_S (s := s) h.1 hR hK.1
  obtain ⟨b1', b2', b3', b4', b5', n', b6', b7'⟩ := hb
  obtain ⟨S2, x1, x2, x3, x4⟩ := setLast_v hK b1' b5' b7' b6' hc lo
  have hk1 := hK.1
  unfold cT at hS
  rw [kk_207 h.1, g1, b2_s, kr hK b1', x1, b1_s] at hS
  have hS := Option.some.inj hS
  subst hS
  refine ⟨((h.fu brk_F).fc x2.fc hK.1), hk.mv (fun i a b => ?_) (fun _ _ => rfl) rfl⟩
  rw [x2.2 207 i (by omega) (by omega), sI_at, if_neg (by omega), sI_at, if_neg (by omega)]
theorem tok_same2 (hK : RK o m w) (h : TB L B S T) (hk : Tk L B S T s e k) {x : Int32} (hb : BR o w m x S) (hc : c < w) {lo hi : Int32} (hS : cT o lo hi (nI c) S some = some S') : TB L B S' T ∧ Tk L B S' T s e k := by
  obtain ⟨b1', b2', b3', b4', b5', n', b6', b7'⟩ := id hb
  obtain ⟨S2, x1, x2, x3, x4⟩ := setLast_v hK b1' b5' b7' b6' hc lo
  have hk1 := hK.1
  unfold cT at hS
  rw [kk_207 h.1, brk_take b1' b2', b2_s, kr hK b1', x1, b1_s] at hS
  have hS := Option.some.inj hS
  subst hS
  exact ⟨h.fc x2.fc hK.1, hk.mv (fun i a b => x2.2 207 i (by omega) (by omega)) (fun _ _ => rfl) rfl⟩
/-- fell or stood, once broken -/
theorem b168 (h : TB L B S T) (hk : Tk L B S T s e k) {x : Int32} (hb : BR 220 3 20 x S) (y : Int32) : ∃ S', f_X5_readSightLine_168 207 (some 220) 2 y S = some S' ∧ BR 220 3 20 x S' ∧ FC 220 S S' := by
  obtain ⟨b1', b2', b3', b4', b5', n', b6', b7'⟩ := id hb
  obtain ⟨S2, x1, x2, x3, x4⟩ := setLast_v ro5.rk b1' b5' b7' b6' (c := 2) (by decide) y
  have hB2 : TB L B S2 T := h.fc x2.fc (by decide)
  have k207 : ∀ i, S2.1 207 i = S.1 207 i := fun i => x2.2 207 i (by omega) (by decide)
  have hk2 : Tk L B S2 T s e k := hk.mv (fun i _ _ => k207 i) (fun _ _ => rfl) rfl
  have hb2 : BR 220 3 20 x S2 := ⟨hB2.1, by rw [k207]; exact b2', by rw [k207]; exact b3', by rw [x3]; exact b4', by rw [x3]; exact b5', n', b6', by rw [x3]; exact b7'⟩
  obtain ⟨S5, T5, s5, e5, k5, t1, t2, t3, t4, t5, t6, t7⟩ := tok_both hB2 hk2.2.2.2.2.2.2.1 hk2.2.1 hk2.2.2.2.2.1
  have hb5 : BR 220 3 20 x S5 := ⟨(hB2.ft t3).1, by rw [t3.2 _ _ (by omega)]; exact hb2.2.1, by rw [t3.2 _ _ (by omega)]; exact hb2.2.2.1, hb2.2.2.2.sm (t3.fu.at (by decide))⟩
  have h189 : f_X5_readSightLine_189 207 S2 = some S5 := by
    unfold f_X5_readSightLine_189
    rw [k_207 hB2.1, t1, b1_s]
  have hbr : f_X5_breakHere 207 S2 = some S2 := by
    unfold f_X5_breakHere f_X5_isBroken
    rw [k_207 hB2.1, i_207 hB2.1, if_pos hb2.2.1, b1_s, if_neg n10]
  unfold f_X5_readSightLine_168
  rw [kr ro5.rk h.1, show f_X7_setLast 220 2 y S = some S2 from x1, b1_s, k_207 hB2.1, show f_X5_isWord 207 (some 100016) S2 = _ from isW hB2 hk2 (j := 16) (by decide), b1_s]
  by_cases q1 : wd T = WJ 16
  · rw [if_pos q1, if_neg n10, h189]
    exact ⟨S5, rfl, hb5, x2.fc.tr t3.fc⟩
  · rw [if_neg q1, if_pos rfl, k_207 hB2.1, show f_X5_isWord 207 (some 100017) S2 = _ from isW hB2 hk2 (j := 17) (by decide), b1_s]
    by_cases q2 : wd T = WJ 17
    · rw [if_pos q2, if_neg n10, h189]
      exact ⟨S5, rfl, hb5, x2.fc.tr t3.fc⟩
    · rw [if_neg q2, if_pos rfl, k_207 hB2.1, hbr, b1_s]
      exact ⟨S2, rfl, hb2, x2.fc⟩
theorem brk9 (h : TB L B S T) (hk : Tk L B S T s e k) {x : Int32} (hb : BR 220 3 20 x S) : ∃ S', (xR (some 207) 5 2 S fun v25 => (xR v25 8 1 S fun v26 => (c1 (some 207) 5 S (fun o' => f_X5_isWord o' (some 100016) S) fun v27 => (if v27 = 0 then (f_X5_readSightLine_168 207 v26 2 0 S) else (f_X5_readSightLine_168 207 v26 2 1 S))))) = some S' ∧ BR 220 3 20 x S' ∧ FC 220 S S' := by
  rw [r_207_2 h.1, r_217_1 h.1, k_207 h.1, show f_X5_isWord 207 (some 100016) S = _ from isW h hk (j := 16) (by decide), b1_s]
  split
  · rw [if_neg n10]
    exact b168 h hk hb 1
  · rw [if_pos rfl]
    exact b168 h hk hb 0
theorem line3 (h : TB L B S T) (hk : Tk L B S T s e k) (hk0 : k ≠ 0) (hF : FA s S T) (hG : GV S T) : LX L B GV S T e (f_X5_readSightLine 207 S) (f_X12_sightLine 313 (wd T) (nI s) T) := by
  have hw16 : f_X5_isWord 207 (some 100016) S = some (if wd T = 1717922924 then 1 else 0) := isW h hk (j := 16) (by decide)
  have hw17 : f_X5_isWord 207 (some 100017) S = some (if wd T = 495874699108 then 1 else 0) := isW h hk (j := 17) (by decide)
  have hw18 : f_X5_isWord 207 (some 100018) S = some (if wd T = 1936224116 then 1 else 0) := isW h hk (j := 18) (by decide)
  have e0t : ∀ X Y : Option (Int32 × GS), (if (0 : Int32) = 0 then X else Y) = X := fun X Y => if_pos rfl
  have e1t : ∀ X Y : Option (Int32 × GS), (if (1 : Int32) = 0 then X else Y) = Y := fun X Y => if_neg n10
  unfold f_X5_readSightLine f_X12_sightLine f_X12_sightLine_29 f_X12_sightLine_42 f_X12_sightLine_55
  rw [k_207 h.1, hw16, b1_s, e0t, e0t, e1t, e1t]
  by_cases q16 : wd T = 1717922924
  · rw [if_pos q16, if_neg n10, if_pos (lcp q16), if_neg (lcn (by rw [q16]; decide))]
    exact seen_y h hk hk0 hF hG (Or.inr rfl) (Or.inl ⟨rfl, q16⟩)
  rw [if_neg q16, if_pos rfl, if_neg (lcn q16), k_207 h.1, hw17, b1_s]
  by_cases q17 : wd T = 495874699108
  · rw [if_pos q17, if_neg n10, if_pos (lcp q17), if_neg (lcn (by rw [q17]; decide))]
    exact seen_y h hk hk0 hF hG (Or.inl rfl) (Or.inr ⟨rfl, q16⟩)
  rw [if_neg q17, if_pos rfl, if_neg (lcn q17), k_207 h.1, hw18, b1_s]
  by_cases q18 : wd T = 1936224116
  · rw [if_pos q18, if_neg n10, if_pos (lcp q18), if_pos (lcp q18)]
    obtain ⟨hD, ⟨n', hR'⟩, n, hR⟩ := hG
    obtain ⟨S1, T0, T1, s1, e1, k1, g1, g2, g3, hT0, c1', m1, r26, hB1, hk1, hF1, l1, l2, o1, hR1⟩ := open_both ro5.rk h hk hk0 hF hR (by decide)
    have hse := hk1.le
    unfold f_X12_sightLine_67
    rw [r_207_2 h.1, r_217_1 h.1, k_207 h.1, g1, b1_s, r_207_2 hB1.1, r_217_1 hB1.1, k_313 h.2.1, show f_X12_full 313 1 20 (nI s) T = some T0 from g2, b1_s, k_313 hT0, g3, b1_s]
    rcases ts_both (P' := fun f g => f 0 = g 0 ∧ In (g 0) 0 7) ro5.rk hB1 hk1 hF1 hR1 (lo := 0) (hi := 7) (c := 0) (by decide) (by decide) (by decide) (fun f g v y a b => ⟨by rw [up_at, up_at], by rw [up_at]; exact in_I a b⟩) with ⟨rfl, y, S2, T2, s2, e2, k2, y1, y2, y3, y4, y5, y6, y7, y8, y9, y10, y11, y12, y13⟩ | ⟨z, S2, T2, y1, y2, y3, y4, y5⟩
    · have hs2 := y6.le
      have z1 : ∀ K : GS → Option GS, (c2 (some 207) 5 S1 (fun o' => f_X5_takeNumber o' 0 7 S1) fun v S9 => c1 (some 220) 7 S9 (fun o' => f_X7_setLast o' 0 v S9) fun S8 => K S8) = K S2 := fun K => y1 K
      rw [z1, r_207_2 y5.1, r_217_1 y5.1, kk_313 hB1.2.1, show f_X12_take 313 0 0 7 T1 = some (1, T2) from y2, b2_s, if_neg n10, e1t]
      unfold f_X12_sightLine_98 f_X12_sightLine_110
      rw [e1t, kk_313 y5.2.1]
      rcases ts_both (P' := pSeen1 0 60) ro5.rk y5 y6 y7 y13 (lo := 0) (hi := 60) (c := 1) (by decide) (by decide) (by decide) (fun f g v y a b => ⟨⟨by rw [up_o (by decide), up_o (by decide)]; exact y.1, by rw [up_at, up_at]⟩, by rw [up_o (by decide)]; exact y.2, by rw [up_at]; exact in_I a b⟩) with ⟨rfl, x, S3, T3, s3, e3, k3, x1, x2, x3, x4, x5, x6, x7, x8, x9, x10, x11, x12, x13⟩ | ⟨z, S3, T3, x1, x2, x3, x4, x5⟩
      · have hs3 := x6.le
        have z2 : ∀ K : GS → Option GS, (c2 (some 207) 5 S2 (fun o' => f_X5_takeNumber o' 0 60 S2) fun v S9 => c1 (some 220) 7 S9 (fun o' => f_X7_setLast o' 1 v S9) fun S8 => K S8) = K S3 := fun K => x1 K
        have fs3 : FC 220 S S3 := (c1'.tr y3).tr x3
        have fm3 : FM T T3 := (m1.tr y4).tr x4
        rw [z2, r_207_2 x5.1, r_217_1 x5.1, show f_X12_take 313 1 0 60 T2 = some (1, T3) from x2, b2_s, if_neg n10, e1t, k_207 x5.1, show f_X5_isWord 207 (some 100016) S3 = some (if wd T3 = 1717922924 then 1 else 0) from isW x5 x6 (j := 16) (by decide), b1_s, i_313 x5.2.1]
        have hwd : ∀ F : Int64 → Option (Int32 × GS), (if T3.1 313 15 = 2 then xJ (some 313) 12 17 T3 fun v4 => F v4 else F 0) = F (wd T3) := fun F => by
          unfold wd
          by_cases z : T3.1 313 15 = 2
          · rw [if_pos z, if_pos z, j_313 x5.2.1]
          · rw [if_neg z, if_neg z]
        rw [hwd]
        obtain ⟨a, ha, hIn⟩ : ∃ a : Int32, (if wd T3 = 1717922924 then (1 : Int32) else 0) = a ∧ In a 0 1 := by
          by_cases z : wd T3 = 1717922924
          · exact ⟨1, by rw [if_pos z], 1, by decide, by decide, rfl⟩
          · exact ⟨0, by rw [if_neg z], 0, by decide, by decide, rfl⟩
        have h01 : a = 0 ∨ a = 1 := by
          rw [← ha]
          split
          · exact Or.inr rfl
          · exact Or.inl rfl
        have e168 : (if (if wd T3 = 1717922924 then (1 : Int32) else 0) = 0 then f_X5_readSightLine_168 207 (some 220) 2 0 S3 else f_X5_readSightLine_168 207 (some 220) 2 1 S3) = f_X5_readSightLine_168 207 (some 220) 2 a S3 := by
          rw [ha]
          rcases h01 with rfl | rfl
          · rw [if_pos rfl]
          · rw [if_neg n10]
        rw [e168]
        obtain ⟨S4, w1, w2, w3⟩ := set_both (P' := pSeen vShot) (T' := sI T3 326 2 a) ro5.rk x5.1 x13 (c := 2) (by decide) a (by rw [sI_o (by decide)]) (fun f z => by
          rw [up_f]
          exact pSeen_set hIn (fun g y1 y2 y3 => ⟨y1, y2, y3⟩) f _ z)
        have k207 : ∀ i, S4.1 207 i = S3.1 207 i := fun i => w2.2 207 i (by omega) (by omega)
        have hB4 : TB L B S4 T3 := x5.fc w2.fc (by decide)
        have hk4 : Tk L B S4 T3 s3 e3 k3 := x6.mv (fun i _ _ => k207 i) (fun _ _ => rfl) rfl
        have hF4 : FA s3 S4 T3 := by
          unfold FA
          rw [k207, k207]
          exact x7
        -- both go on behind fell, stood
        have go : ∀ W : Int64, ((a = 1 ∧ W = 1717922924) ∨ (a = 0 ∧ ¬ W = 1717922924)) → LX L B GV S T e (f_X5_readSightLine_189 207 S4) (f_X12_sightLine_167 313 1 W T3) := fun W hW => by
          obtain ⟨S5, T5, s5, e5, k5, t1, t2, t3, t4, t5, t6, t7⟩ := tok_both hB4 hk4.2.2.2.2.2.2.1 hk4.2.1 hk4.2.2.2.2.1
          have hB5 := (hB4.ft t3).fm t4
          have t26 : T5.1 326 = T3.1 326 := by
            funext i
            exact t4.2.2 326 i (by omega)
          have t25 : T5.1 325 = T3.1 325 := by
            funext i
            exact t4.2.2 325 i (by omega)
          have hR5 : RO S5 (sI T5 326 2 a) 220 3 20 1 62 vShot n (pSeen vShot) := w3.mv (t3.fu.at (by decide)) (t3.fu.at (by decide)) (by rw [sI_o (by decide), sI_o (by decide), t25]) (fun z => (ok_fc (t3.2 _ _ (by omega))).mp z) (fun _ f z => by
            rw [up_f, t26]
            rw [up_f] at z
            exact z)
          have fs : FC 220 S S5 := (fs3.tr w2.fc).tr t3.fc
          have fm : FM T (sI T5 326 2 a) := fm3.tr (t4.fm.tr FM.A)
          have hle3 := hk4.2.2.2.2.2.2.1
          obtain ⟨T8, u1, u2, u3, u4, u5, u6, u7, u8, u9⟩ := lx_keep (e := e) (s' := s5) (e' := e5) (k' := k5) ro5 hD (hB5.fM FM.A) (t7.mv (fun _ _ _ => rfl) (fun i _ => by rw [sI_o (by decide)]) rfl) (show FA s5 S5 (sI T5 326 2 a) by
            unfold FA
            rw [t3.2 _ _ (by omega), t3.2 _ _ (by omega)]
            exact FAv.up hF4 (by omega) (t4.2.2 _ _ (by omega)) (t4.2.2 _ _ (by omega))) (by omega) t6 fs fm.x hR5 (by decide) (by decide) (Or.inl (by decide)) (fun f g z => z) vShot_c
          have ew : ∀ (X : Option Nat → Int32 → Int32 → Option (Int32 × GS)), (if lg_cmp W 1717922924 = 0 then X (some 326) 2 1 else X (some 326) 2 0) = X (some 326) 2 a := fun X => by
            rcases hW with ⟨w1, w2⟩ | ⟨w1, w2⟩
            · rw [if_pos (lcp w2), w1]
            · rw [if_neg (lcn w2), w1]
          have hW5 : Wr (sI T5 326 2 a) := hB5.2.1
          unfold f_X5_readSightLine_189 f_X12_sightLine_167 f_X12_sightLine_171 f_X12_sightLine_190
          rw [k_207 hB4.1, t1, b1_s, k_313 hB4.2.1, t2, b1_s, r_313_22 hB5.2.1, ew (fun y0 y1 y2 => qI y0 y1 y2 T5 fun S1 => if (1 : Int32) = 0 then c1 (some 313) 12 S1 (fun o' => f_X12_keep o' 0 2 3 20 S1) fun S3 => some (1, S3) else c1 (some 313) 12 S1 (fun o' => f_X12_keep o' 1 62 3 20 S1) fun S5 => some (1, S5))]
          rw [show qI (some 326) 2 a T5 _ = _ from q_326 (k := 2) hB5.2.1 (by decide), e1t, k_313 hW5, show f_X12_keep 313 1 62 3 20 (sI T5 326 2 a) = some T8 from u1, b1_s]
          refine Or.inl ⟨S5, T8, s5, e5, k5, rfl, rfl, u8, u2, u4, u5, u6, by omega, t6, u7, ⟨n', hR'.mv ?_ ?_ ?_ ?_ (fun z => o1 (y10 (x10 ((ok_fc (by rw [t3.2 _ _ (by omega), k207])).mp z)))) vSeen_c.eq⟩, u9⟩
          · funext i
            exact fs.2 218 i (by omega) (by omega) (by decide)
          · funext i
            exact fs.2 219 i (by omega) (by omega) (by decide)
          · rw [u3.2.2 0 (by decide) (by omega), fm.told]
          · intro j a1 a2
            rw [u3.2.2 j (by omega) (by omega), fm.told]
        unfold f_X5_readSightLine_168 f_X12_sightLine_142
        rw [kr ro5.rk x5.1, show f_X7_setLast 220 2 a S3 = some S4 from w1, b1_s, k_207 hB4.1, show f_X5_isWord 207 (some 100016) S4 = some (if wd T3 = 1717922924 then 1 else 0) from isW hB4 hk4 (j := 16) (by decide), b1_s]
        by_cases q1 : wd T3 = 1717922924
        · rw [if_pos q1] at ha
          rw [if_pos q1, if_neg n10, if_pos (lcp q1)]
          exact go _ (Or.inl ⟨ha.symm, q1⟩)
        · rw [if_neg q1] at ha
          rw [if_neg q1, if_pos rfl, if_neg (lcn q1), k_207 hB4.1, show f_X5_isWord 207 (some 100017) S4 = some (if wd T3 = 495874699108 then 1 else 0) from isW hB4 hk4 (j := 17) (by decide), b1_s]
          by_cases q2 : wd T3 = 495874699108
          · rw [if_pos q2, if_neg n10, if_pos (lcp q2)]
            exact go _ (Or.inr ⟨ha.symm, q1⟩)
          · rw [if_neg q2, if_pos rfl, if_neg (lcn q2), k_207 hB4.1, break_v hB4.1 hk4.1 (FAv.nb hF4), b1_s, kk_313 hB4.2.1, fails_v hB4.2.1 hk4.2.2.2.1, b2_s]
            exact lx_brk hD ro5 rfl rfl ((fs3.tr w2.fc).tr brk_F.fc) (fm3.tr (FM.I (by omega))).x h.2.1 (brk_S hB4.1 w3.rwr (by decide))
      · have z2 : ∀ K : GS → Option GS, (c2 (some 207) 5 S2 (fun o' => f_X5_takeNumber o' 0 60 S2) fun v S9 => c1 (some 220) 7 S9 (fun o' => f_X7_setLast o' 1 v S9) fun S8 => K S8) = K S3 := fun K => x1 K
        obtain ⟨hB3, hk3⟩ := tok_same ro5.rk y5 y6 z y7 y13.rwr (c := 1) (by decide) (x1 some)
        obtain ⟨S9, w1, w2, w3⟩ := brk9 hB3 hk3 x5
        rw [z2, w1, show f_X12_take 313 1 0 60 T2 = some (0, T3) from x2, b2_s, if_pos rfl]
        exact lx_brk hD ro5 rfl rfl (((c1'.tr y3).tr x3).tr w3) ((m1.tr y4).tr x4).x h.2.1 w2
    · have z1 : ∀ K : GS → Option GS, (c2 (some 207) 5 S1 (fun o' => f_X5_takeNumber o' 0 7 S1) fun v S9 => c1 (some 220) 7 S9 (fun o' => f_X7_setLast o' 0 v S9) fun S8 => K S8) = K S2 := fun K => y1 K
      obtain ⟨S3, x1, x2, x3⟩ := brk_ts ro5.rk y5 (c := 1) (by decide) 0 60
      obtain ⟨hB2, hk2⟩ := tok_same ro5.rk hB1 hk1 z hF1 hR1.rwr (c := 0) (by decide) (y1 some)
      obtain ⟨hB3, hk3⟩ := tok_same2 ro5.rk hB2 hk2 y5 (c := 1) (by decide) (x1 some)
      obtain ⟨S9, w1, w2, w3⟩ := brk9 hB3 hk3 x2
      have z2 : ∀ K : GS → Option GS, (c2 (some 207) 5 S2 (fun o' => f_X5_takeNumber o' 0 60 S2) fun v S9 => c1 (some 220) 7 S9 (fun o' => f_X7_setLast o' 1 v S9) fun S8 => K S8) = K S3 := fun K => x1 K
      rw [z1, r_207_2 y5.1, r_217_1 y5.1, z2, w1, kk_313 hB1.2.1, show f_X12_take 313 0 0 7 T1 = some (0, T2) from y2, b2_s, if_pos rfl]
      exact lx_brk hD ro5 rfl rfl (((c1'.tr y3).tr x3).tr w3) (m1.tr y4).x h.2.1 w2
  · rw [if_neg q18, if_pos rfl, if_neg (lcn q18), k_207 h.1, break_v h.1 hk.1 (FAv.nb hF), b1_s, kk_313 h.2.1, fails_v h.2.1 hk.2.2.2.1, b2_s]
    exact lx_no h hk hG.1
end LQ
