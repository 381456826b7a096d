/-! texts: seen ones, shots -/
def GV (S T : GS) : Prop := RwD S ∧ (∃ n, RLn S T 218 3 20 0 2 vSeen n) ∧ ∃ n, RLn S T 220 3 20 1 62 vShot n
def pSeen1 (lo hi : Nat) (f g : Nat → Int32) : Prop := (f 0 = g 0 ∧ f 1 = g 1) ∧ In (g 0) 0 7 ∧ In (g 1) lo hi
def pSeen (V : (Nat → Int32) → Prop) (f g : Nat → Int32) : Prop := (∀ i, i < 3 → f i = g i) ∧ V g
section LP
variable {α : Type} {L : Nat} {B : Nat → Nat} {S S' T T' S0 T0 : GS} {s e k f c o w m p q n d e0 v : Nat} {V : (Nat → Int32) → Prop} {P P' : (Nat → Int32) → (Nat → Int32) → Prop} {R : GS → GS → Prop}
theorem ro4 : RO9 218 3 20 := Or.inr (Or.inr (Or.inr (Or.inl ⟨rfl, rfl, rfl⟩)))
theorem ro5 : RO9 220 3 20 := Or.inr (Or.inr (Or.inr (Or.inr (Or.inl ⟨rfl, rfl, rfl⟩))))
theorem r_217_0 (hW : Wr S) {g : Option Nat → Option α} : xR (some 217) 8 0 S g = g (some 218) := xR_w hW (by decide) rfl (by decide) rfl
theorem r_217_1 (hW : Wr S) {g : Option Nat → Option α} : xR (some 217) 8 1 S g = g (some 220) := xR_w hW (by decide) rfl (by decide) rfl
theorem pSeen_set {lo hi : Nat} {x : Int32} (hx : In x 0 1) (hV : ∀ g : Nat → Int32, In (g 0) 0 7 → In (g 1) lo hi → In (g 2) 0 1 → V g) (f g : Nat → Int32) (h : pSeen1 lo hi f g) : pSeen V (up f 2 x) (up g 2 x) := by
  obtain ⟨⟨h0, h1⟩, h2, h3⟩ := h
  refine ⟨fun i hi => ?_, hV _ (by rw [up_o (by decide)]; exact h2) (by rw [up_o (by decide)]; exact h3) (by rw [up_at]; exact hx)⟩
  rcases (show i = 0 ∨ i = 1 ∨ i = 2 by omega) with rfl | rfl | rfl
  · rw [up_o (by decide), up_o (by decide), h0]
  · rw [up_o (by decide), up_o (by decide), h1]
  · rw [up_at, up_at]
/-- one seen -/
theorem seen_y (h : TB L B S T) (hk : Tk L B S T s e k) (hk0 : k ≠ 0) (hF : FA s S T) (hG : GV S T) {a : Int32} (ha : a = 0 ∨ a = 1) {W : Int64} (hW : (a = 1 ∧ W = 1717922924) ∨ (a = 0 ∧ ¬ W = 1717922924)) : LX L B GV S T e (f_X5_readSightLine_20 207 a S) (f_X12_sightLine_67 313 W (nI s) 0 (some 313) 0 20 T) := by
  obtain ⟨hD, ⟨n, hR⟩, n', hR'⟩ := hG
  have hIn : In a 0 1 := by
    rcases ha with rfl | rfl
    · exact ⟨0, by decide, by decide, rfl⟩
    · exact ⟨1, by decide, by decide, rfl⟩
  obtain ⟨S1, T0, T1, s1, e1, k1, g1, g2, g3, hT0, c1', m1, r26, hB1, hk1, hF1, l1, l2, o1, hR1⟩ := open_both ro4.rk h hk hk0 hF hR (by decide)
  have hse := hk1.le
  unfold f_X5_readSightLine_20 f_X12_sightLine_67
  rw [r_207_2 h.1, r_217_0 h.1, k_207 h.1, g1, b1_s, r_207_2 hB1.1, r_217_0 hB1.1, k_313 h.2.1, show f_X12_full 313 0 20 (nI s) T = some T0 from g2, b1_s, k_313 hT0, g3, b1_s]
  have e84 : ∀ S9 : GS, (if a = 0 then (f_X5_readSightLine_84 207 (some 218) 2 0 S9) else (f_X5_readSightLine_84 207 (some 218) 2 1 S9)) = f_X5_readSightLine_84 207 (some 218) 2 a S9 := fun S9 => by
    rcases ha with rfl | rfl
    · rw [if_pos rfl]
    · rw [if_neg n10]
  have brk9 : ∀ (x : Int32) (S9 : GS), BR 218 3 20 x S9 → ∃ S', (xR (some 207) 5 2 S9 fun v17 => (xR v17 8 0 S9 fun v18 => (if a = 0 then (f_X5_readSightLine_84 207 v18 2 0 S9) else (f_X5_readSightLine_84 207 v18 2 1 S9)))) = some S' ∧ BR 218 3 20 x S' ∧ FC 218 S9 S' := fun x S9 hb => by
    obtain ⟨S', y1, y2, y3⟩ := brk_set ro4.rk hb (c := 2) (by decide) a
    refine ⟨S', ?_, y2, y3⟩
    rw [r_207_2 hb.1, r_217_0 hb.1, e84]
    unfold f_X5_readSightLine_84
    rw [kr ro4.rk hb.1, show f_X7_setLast 218 2 a S9 = some S' from y1, b1_s]
  have e42 : ∀ X Y : Option (Int32 × GS), (if (0 : Int32) = 0 then X else Y) = X := fun X Y => if_pos rfl
  rcases ts_both (P' := fun f g => f 0 = g 0 ∧ In (g 0) 0 7) ro4.rk hB1 hk1 hF1 hR1 (lo := 0) (hi := 7) (c := 0) (by decide) (by decide) (by decide) (fun f g v y a b => ⟨by rw [up_at, up_at], by rw [up_at]; exact in_I a b⟩) with ⟨rfl, y, S2, T2, s2, e2, k2, y1, y2, y3, y4, y5, y6, y7, y8, y9, y10, y11, y12, y13⟩ | ⟨z, S2, T2, y1, y2, y3, y4, y5⟩
  · have hs2 := y6.le
    have z1 : ∀ K : GS → Option GS, (c2 (some 207) 5 S1 (fun o' => f_X5_takeNumber o' 0 7 S1) fun v S9 => c1 (some 218) 7 S9 (fun o' => f_X7_setLast o' 0 v S9) fun S8 => K S8) = K S2 := fun K => y1 K
    rw [z1, r_207_2 y5.1, r_217_0 y5.1, kk_313 hB1.2.1, show f_X12_take 313 0 0 7 T1 = some (1, T2) from y2, b2_s, if_neg n10, e42]
    unfold f_X12_sightLine_98 f_X12_sightLine_110
    rw [e42, kk_313 y5.2.1]
    rcases ts_both (P' := pSeen1 1 16) ro4.rk y5 y6 y7 y13 (lo := 1) (hi := 16) (c := 1) (by decide) (by decide) (by decide) (fun f g v y a b => ⟨⟨by rw [up_o (by decide), up_o (by decide)]; exact y.1, by rw [up_at, up_at]⟩, by rw [up_o (by decide)]; exact y.2, by rw [up_at]; exact in_I a b⟩) with ⟨rfl, x, S3, T3, s3, e3, k3, x1, x2, x3, x4, x5, x6, x7, x8, x9, x10, x11, x12, x13⟩ | ⟨z, S3, T3, x1, x2, x3, x4, x5⟩
    · have hs3 := x6.le
      have z2 : ∀ K : GS → Option GS, (c2 (some 207) 5 S2 (fun o' => f_X5_takeNumber o' 1 16 S2) fun v S9 => c1 (some 218) 7 S9 (fun o' => f_X7_setLast o' 1 v S9) fun S8 => K S8) = K S3 := fun K => x1 K
      rw [z2, r_207_2 x5.1, r_217_0 x5.1, e84, show f_X12_take 313 1 1 16 T2 = some (1, T3) from x2, b2_s, if_neg n10, e42]
      unfold f_X5_readSightLine_84 f_X12_sightLine_171 f_X12_sightLine_190
      have ew : ∀ (X : Option Nat → Int32 → Int32 → Option (Int32 × GS)), (if lg_cmp W 1717922924 = 0 then X (some 326) 2 1 else X (some 326) 2 0) = X (some 326) 2 a := fun X => by
        rcases hW with ⟨w1, w2⟩ | ⟨w1, w2⟩
        · rw [if_pos (lcp w2), w1]
        · rw [if_neg (lcn w2), w1]
      have hW4 : Wr (sI T3 326 2 a) := x5.2.1
      obtain ⟨S4, w1, w2, w3⟩ := set_both (P' := pSeen vSeen) (T' := sI T3 326 2 a) ro4.rk x5.1 x13 (c := 2) (by decide) a (by rw [sI_o (by decide)]) (fun f z => by
        rw [up_f]
        exact pSeen_set hIn (fun g y1 y2 y3 => ⟨y1, y2, y3⟩) f _ z)
      have k207 : ∀ i, S4.1 207 i = S3.1 207 i := fun i => w2.2 207 i (by omega) (by omega)
      have fs : FC 218 S S4 := (c1'.tr y3).tr (x3.tr w2.fc)
      have fm : FM T (sI T3 326 2 a) := (m1.tr y4).tr (x4.tr FM.A)
      obtain ⟨T8, u1, u2, u3, u4, u5, u6, u7, u8, u9⟩ := lx_keep (e := e) ro4 hD ((x5.fc w2.fc (by decide)).fM FM.A) (x6.mv (fun i _ _ => k207 i) (fun i _ => by rw [sI_o (by decide)]) rfl) (show FA s3 S4 (sI T3 326 2 a) by unfold FA; rw [k207, k207]; exact FAv.up x7 (Nat.le_refl _) rfl rfl) (by omega) x9 fs fm.x w3 (by decide) (by decide) (Or.inl (by decide)) (fun f g z => z) vSeen_c
      rw [kr ro4.rk x5.1, show f_X7_setLast 218 2 a S3 = some S4 from w1, b1_s, r_313_22 x5.2.1, ew (fun y0 y1 y2 => qI y0 y1 y2 T3 fun S1 => if (0 : Int32) = 0 then c1 (some 313) 12 S1 (fun o' => f_X12_keep o' 0 2 3 20 S1) fun S3 => some (1, S3) else c1 (some 313) 12 S1 (fun o' => f_X12_keep o' 1 62 3 20 S1) fun S5 => some (1, S5))]
      rw [show qI (some 326) 2 a T3 _ = _ from q_326 (k := 2) x5.2.1 (by decide), e42, k_313 hW4, show f_X12_keep 313 0 2 3 20 (sI T3 326 2 a) = some T8 from u1, b1_s]
      refine Or.inl ⟨S4, T8, s3, e3, k3, rfl, rfl, u8, u2, u4, u5, u6, by omega, x9, u7, u9, n', hR'.mv ?_ ?_ ?_ ?_ (fun z => o1 (y10 (x10 ((ok_fc (k207 11)).mp z)))) vShot_c.eq⟩
      · funext i
        exact fs.2 220 i (by omega) (by omega) (by decide)
      · funext i
        exact fs.2 221 i (by omega) (by omega) (by decide)
      · rw [u3.2.2 1 (by decide) (by omega), fm.told]
      · intro j a1 a2
        rw [u3.2.2 j (by omega) (by omega), fm.told]
    · obtain ⟨S9, w1, w2, w3⟩ := brk9 _ _ x5
      have z2 : ∀ K : GS → Option GS, (c2 (some 207) 5 S2 (fun o' => f_X5_takeNumber o' 1 16 S2) fun v S9 => c1 (some 218) 7 S9 (fun o' => f_X7_setLast o' 1 v S9) fun S8 => K S8) = K S3 := fun K => x1 K
      rw [z2, w1, show f_X12_take 313 1 1 16 T2 = some (0, T3) from x2, b2_s, if_pos rfl]
      exact lx_brk hD ro4 rfl rfl (((c1'.tr y3).tr x3).tr w3) ((m1.tr y4).tr x4).x h.2.1 w2
  · have z1 : ∀ K : GS → Option GS, (c2 (some 207) 5 S1 (fun o' => f_X5_takeNumber o' 0 7 S1) fun v S9 => c1 (some 218) 7 S9 (fun o' => f_X7_setLast o' 0 v S9) fun S8 => K S8) = K S2 := fun K => y1 K
    obtain ⟨S3, x1, x2, x3⟩ := brk_ts ro4.rk y5 (c := 1) (by decide) 1 16
    obtain ⟨S9, w1, w2, w3⟩ := brk9 _ _ x2
    have z2 : ∀ K : GS → Option GS, (c2 (some 207) 5 S2 (fun o' => f_X5_takeNumber o' 1 16 S2) fun v S9 => c1 (some 218) 7 S9 (fun o' => f_X7_setLast o' 1 v S9) fun S8 => K S8) = K S3 := fun K => x1 K
    rw [z1, r_207_2 y5.1, r_217_0 y5.1, z2, w1, kk_313 hB1.2.1, show f_X12_take 313 0 0 7 T1 = some (0, T2) from y2, b2_s, if_pos rfl]
    exact lx_brk hD ro4 rfl rfl (((c1'.tr y3).tr x3).tr w3) (m1.tr y4).x h.2.1 w2
end LP
