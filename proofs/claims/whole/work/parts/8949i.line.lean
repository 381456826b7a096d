/-! texts: wind; a court's line as a whole -/
section LY
variable {α : Type} {L : Nat} {B : Nat → Nat} {S S' T T' S0 T0 : GS} {s e k f c o w m p q n d e0 v sl : Nat} {V : (Nat → Int32) → Prop} {P P' : (Nat → Int32) → (Nat → Int32) → Prop} {R : GS → GS → Prop}
theorem wind_y (h : TB L B S T) (hk : Tk L B S T s e k) (hF : FA s S T) (hG : GQ S T) : LX L B GQ S T e (c1 (some 207) 5 S (fun o' => f_X5_nextToken o' S) fun S12 => wCl [0, 1, 2] S12) (c1 (some 313) 12 T (fun o' => f_X12_token o' T) fun S3 => wMd [0, 1, 2] (fun S18 => f_X12_courtLine_254 313 fu 0 S18) S3) := by
  have hL := h.2.2.1
  have heL := hk.2.2.2.2.2.2.1
  have hle := hk.le
  have hD := hG.1
  obtain ⟨S1, T1, s1, e1, k1, t1, t2, t3, t4, t5, t6, t7⟩ := tok_both h heL hk.2.1 hk.2.2.2.2.1
  have hB1 := (h.ft t3).fm t4
  have hF1 : FA s1 S1 T1 := by
    unfold FA
    rw [t3.2 _ _ (by omega), t3.2 _ _ (by omega)]
    exact FAv.up hF (by omega) (t4.2.2 _ _ (by omega)) (t4.2.2 _ _ (by omega))
  rw [k_207 h.1, t1, b1_s, k_313 h.2.1, t2, b1_s]
  have fcx : ∀ {S' : GS}, (S'.2 = S1.2 ∧ (∀ o, o ≠ 216 → o ≠ 207 → S'.1 o = S1.1 o) ∧ S'.1 207 7 = S1.1 207 7) → FCx S S' := fun z => ⟨z.1.trans t3.1, fun o ho => by rw [z.2.1 o (by omega) (by omega), t3.fu.at (by omega)], by rw [z.2.2, t3.2 _ _ (by omega)]⟩
  rcases wind_l [0, 1, 2] S1 T1 s1 e1 k1 (fun _ => False) hB1 t7 hF1 (by decide) (fun i hi => hi.elim) with ⟨S', T', s', e', k', a1, a2, a3, a4, a5, a6, a7, a8, a9, a10, a11⟩ | ⟨S', T', a1, a2, a3, a4, a5, a6⟩
  · have fT : FM T T' := t4.fm.tr a4
    have oS : ok S' → ok S := fun z => (ok_fc (t3.2 _ _ (by omega))).mp (a10 z)
    have hW1 : Wr (sI T' 325 6 (T'.1 326 0)) := a5.2.1
    have hW2 : Wr (sI (sI T' 325 6 (T'.1 326 0)) 325 7 (T'.1 326 1)) := a5.2.1
    have hW3 : Wr (sI (sI (sI T' 325 6 (T'.1 326 0)) 325 7 (T'.1 326 1)) 325 8 (T'.1 326 2)) := a5.2.1
    have h254 : f_X12_courtLine_254 313 fu 0 T' = some (1, sI (sI (sI T' 325 6 (T'.1 326 0)) 325 7 (T'.1 326 1)) 325 8 (T'.1 326 2)) := by
      rw [show fu = 4092 + 1 + 1 + 1 + 1 from rfl, f_X12_courtLine_254, if_neg (by decide), r_313_21 a5.2.1, r_313_22 a5.2.1, show yI (some 326) 14 0 T' _ = _ from y_326 (k := 0) a5.2.1 (by decide), show qI (some 325) (6 + 0) (T'.1 326 0) T' _ = _ from q_325 (k := 6) a5.2.1 (by decide)]
      rw [f_X12_courtLine_254, if_neg (by decide), r_313_21 hW1, r_313_22 hW1, show yI (some 326) 14 (0 + 1) (sI T' 325 6 (T'.1 326 0)) _ = _ from y_326 (k := 1) hW1 (by decide), show qI (some 325) (6 + (0 + 1)) ((sI T' 325 6 (T'.1 326 0)).1 326 1) (sI T' 325 6 (T'.1 326 0)) _ = _ from q_325 (k := 7) hW1 (by decide)]
      rw [show (sI T' 325 6 (T'.1 326 0)).1 326 1 = T'.1 326 1 from rfl]
      rw [f_X12_courtLine_254, if_neg (by decide), r_313_21 hW2, r_313_22 hW2, show yI (some 326) 14 (0 + 1 + 1) (sI (sI T' 325 6 (T'.1 326 0)) 325 7 (T'.1 326 1)) _ = _ from y_326 (k := 2) hW2 (by decide), show qI (some 325) (6 + (0 + 1 + 1)) ((sI (sI T' 325 6 (T'.1 326 0)) 325 7 (T'.1 326 1)).1 326 2) (sI (sI T' 325 6 (T'.1 326 0)) 325 7 (T'.1 326 1)) _ = _ from q_325 (k := 8) hW2 (by decide)]
      rw [show (sI (sI T' 325 6 (T'.1 326 0)) 325 7 (T'.1 326 1)).1 326 2 = T'.1 326 2 from rfl, f_X12_courtLine_254, if_pos (by decide)]
    rw [a1, a2, h254]
    have told : ∀ j, j < 6 ∨ 9 ≤ j → (sI (sI (sI T' 325 6 (T'.1 326 0)) 325 7 (T'.1 326 1)) 325 8 (T'.1 326 2)).1 325 j = T.1 325 j := fun j hj => by
      rw [sI_at, if_neg (by omega), sI_at, if_neg (by omega), sI_at, if_neg (by omega), fT.told]
    refine Or.inl ⟨S', _, s', e', k', rfl, rfl, fcx a3, fT.x.tr ⟨rfl, fun a h1 h2 h3 => by rw [sI_o h2, sI_o h2, sI_o h2]⟩, a5.cm rfl rfl (fun _ => rfl), a6.mv (fun _ _ _ => rfl) (fun _ _ => rfl) rfl, FAv.up a7 (Nat.le_refl _) rfl rfl, by omega, a9, hG.mv (fun o h1 h2 h3 => ?_) (fun j hj => told j (by omega)) ?_ ?_ oS (fun z => ?_)⟩
    · rw [a3.2.1 o h3 (by omega), t3.fu.at (by omega)]
    · exact fT.2.2 313 23 (by omega) (by decide)
    · exact fT.2.1 313 24 (by omega)
    · have hS := hG.2.2.2.2 (oS z)
      have e209 : S'.1 209 = S.1 209 := by rw [a3.2.1 209 (by decide) (by decide), t3.fu.at (by decide)]
      obtain ⟨x0, y0⟩ := a11 0 (Or.inr (by decide))
      obtain ⟨x1, y1⟩ := a11 1 (Or.inr (by decide))
      obtain ⟨x2, y2⟩ := a11 2 (Or.inr (by decide))
      unfold SCd at hS ⊢
      rw [told 3 (by decide), told 4 (by decide), told 5 (by decide), e209]
      obtain ⟨⟨b1', b2', b3', b4', b5', b6'⟩, b7', b8', b9', b10', b11', b12'⟩ := hS
      exact ⟨⟨b1', b2', b3', x0, x1, x2⟩, b7', b8', b9', y0 z, y1 z, y2 z⟩
  · rw [a1, a2]
    refine Or.inr ⟨S', T', rfl, rfl, fcx a3, (t4.fm.tr a4).x, wr_2 (by rw [a3.1]) hB1.1, a4.wr hB1.2.1, a5, a6, hD.at (fun o h1 h2 h3 => ?_)⟩
    rw [a3.2.1 o h3 (by omega), t3.fu.at (by omega)]
theorem cl_none {W : Int64} {x : Int32} (h0 : ¬ W = 1919905645) (h1 : ¬ W = 1818322041) (h2 : ¬ W = 123636798219634) (h3 : ¬ W = 495739560811) (h4 : ¬ W = 1919251316) (h5 : ¬ W = 444199957363) (h6 : ¬ W = 2003398244) : f_X12_courtLine 313 W x T = (c2 (some 313) 12 T (fun o' => f_X12_fails o' T) fun v1 S2 => tz v1 (some (v1, S2))) := by
  unfold f_X12_courtLine f_X12_courtLine_37
  rw [if_neg (lcn h3), if_neg (lcn h4), if_neg (lcn h5), if_pos rfl, if_neg (lcn h0), if_neg (lcn h1), if_neg (lcn h2), if_neg (lcn h6)]
/-- a court's line -/
theorem line0 (h : TB L B S T) (hk : Tk L B S T s e k) (hk0 : k ≠ 0) (hF : FA s S T) (hG : GQ S T) : LX L B GQ S T e (f_X5_readCourtLine 207 S) (f_X12_courtLine 313 (wd T) (nI s) T) := by
  by_cases q0 : wd T = 1919905645
  · exact room_y h hk hk0 hF hG q0
  by_cases q1 : wd T = 1818322041
  · exact lady_y h hk hk0 hF hG q1
  by_cases q2 : wd T = 123636798219634
  · exact proper_y h hk hk0 hF hG q2
  have hw0 : f_X5_isWord 207 (some 100000) S = some (if wd T = 1919905645 then 1 else 0) := isW h hk (j := 0) (by decide)
  have hw1 : f_X5_isWord 207 (some 100001) S = some (if wd T = 1818322041 then 1 else 0) := isW h hk (j := 1) (by decide)
  have hw2 : f_X5_isWord 207 (some 100002) S = some (if wd T = 123636798219634 then 1 else 0) := isW h hk (j := 2) (by decide)
  have hw3 : f_X5_isWord 207 (some 100003) S = some (if wd T = 495739560811 then 1 else 0) := isW h hk (j := 3) (by decide)
  have hw4 : f_X5_isWord 207 (some 100004) S = some (if wd T = 1919251316 then 1 else 0) := isW h hk (j := 4) (by decide)
  have hw5 : f_X5_isWord 207 (some 100005) S = some (if wd T = 444199957363 then 1 else 0) := isW h hk (j := 5) (by decide)
  have hw6 : f_X5_isWord 207 (some 100006) S = some (if wd T = 2003398244 then 1 else 0) := isW h hk (j := 6) (by decide)
  have bS : ∀ X : Option GS, b1 X (fun S10 => some S10) = X := fun X => by cases X <;> rfl
  unfold f_X5_readCourtLine
  rw [k_207 h.1, hw0, b1_s, if_neg q0, if_pos rfl, k_207 h.1, hw1, b1_s, if_neg q1, if_pos rfl, k_207 h.1, hw2, b1_s, if_neg q2, if_pos rfl, k_207 h.1, bS]
  unfold f_X5_readCourtSetting
  rw [k_207 h.1, hw3, b1_s]
  by_cases q3 : wd T = 495739560811
  · rw [if_pos q3, if_neg n10, q3, cl_slack]
    exact plain_y (sl := 4) (lo := 0) (hi := 9) h hk hF hG (Or.inl ⟨rfl, rfl, rfl⟩)
  rw [if_neg q3, if_pos rfl, k_207 h.1, hw4, b1_s]
  by_cases q4 : wd T = 1919251316
  · rw [if_pos q4, if_neg n10, q4, cl_rest]
    exact plain_y (sl := 5) (lo := 1) (hi := 9) h hk hF hG (Or.inr (Or.inl ⟨rfl, rfl, rfl⟩))
  rw [if_neg q4, if_pos rfl, k_207 h.1, hw5, b1_s]
  by_cases q5 : wd T = 444199957363
  · rw [if_pos q5, if_neg n10, q5, cl_glass]
    exact plain_y (sl := 6) (lo := 0) (hi := 40) h hk hF hG (Or.inr (Or.inr ⟨rfl, rfl, rfl⟩))
  rw [if_neg q5, if_pos rfl, k_207 h.1, hw6, b1_s]
  by_cases q6 : wd T = 2003398244
  · rw [if_pos q6, if_neg n10, q6, cl_wind]
    exact wind_y h hk hF hG
  rw [if_neg q6, if_pos rfl, k_207 h.1, break_v h.1 hk.1 (FAv.nb hF), b1_s, cl_none q0 q1 q2 q3 q4 q5 q6, kk_313 h.2.1, fails_v h.2.1 hk.2.2.2.1, b2_s]
  exact lx_no h hk hG.1
end LY
