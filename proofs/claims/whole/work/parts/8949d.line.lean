/-! texts: rooms, ladies -/
section LT
variable {α : Type} {L : Nat} {B : Nat → Nat} {S S' T T' S0 T0 : GS} {s e k f c o w m p q n d e0 v sl : Nat} {V : (Nat → Int32) → Prop} {P P' : (Nat → Int32) → (Nat → Int32) → Prop} {R : GS → GS → Prop}
theorem lx_keep2 (hK : RO9 o w m) (hD : RwD S) (hB : TB L B S' T') {s' e' k' : Nat} (hk : Tk L B S' T' s' e' k') (hF : FA s' S' T') (f1 : FC o S S') (f2 : FMx T T') (hR : RO S' T' o w m p q V n P) (hq : q + m * w ≤ 122) (hp : p < 122) (hpq : p < q ∨ q + m * w ≤ p) (hP : ∀ f g, P f g → (∀ i, i < w → f i = g i) ∧ V g) (hV : Vc w V V) :
    ∃ T2, f_X12_keep 313 (nI p) (nI q) (nI w) (nI m) T' = some T2 ∧ FMx T T2 ∧ FK p q (m * w) T' T2 ∧ TB L B S' T2 ∧ Tk L B S' T2 s' e' k' ∧ FA s' S' T2 ∧ RwD S' ∧ FCx S S' ∧ RLn S' T2 o w m p q V (if n = m then n else n + 1) := by
  obtain ⟨T8, w1, w2, w3⟩ := keep_both hK.rk hB.2.1 hR hq hp hpq hP hV.eq
  exact ⟨T8, w1, f2.tr w2.x, w2, hB.cm (by rw [w2.1]) (by rw [w2.2.1 313 (by decide)]) (fun i => by rw [w2.2.1 314 (by decide)]), hk.mv (fun _ _ _ => rfl) (fun i _ => by rw [w2.2.1 313 (by decide)]) (by rw [w2.1]), FAv.up hF (Nat.le_refl _) (by rw [w2.2.1 313 (by decide)]) (by rw [w2.2.1 313 (by decide)]), hD.fc f1 hK w3.rwr, f1.x hK.lo.1 hK.lo.2, w3⟩
theorem pRoom_i (f g : Nat → Int32) (h : pL [(1, 9, 0), (0, 9, 1)] (fun f _ => ∀ i, i < 2 → f i = -1) f g) : (∀ i, i < 2 → f i = g i) ∧ vRoom g := by
  obtain ⟨f1, g1, v1, ⟨f0, g0, v0, -, a1, a2, rfl, rfl⟩, b1', b2', rfl, rfl⟩ := h
  refine ⟨fun i hi => ?_, ?_⟩
  · rcases (show i = 0 ∨ i = 1 by omega) with rfl | rfl
    · show up (up f0 0 _) 1 _ 0 = up (up g0 0 _) 1 _ 0
      rw [up_o (by decide), up_at, up_o (by decide), up_at]
    · show up (up f0 0 _) 1 _ 1 = up (up g0 0 _) 1 _ 1
      rw [up_at, up_at]
  · unfold vRoom
    show In (up (up g0 0 _) 1 _ 0) 1 9 ∧ In (up (up g0 0 _) 1 _ 1) 0 9
    rw [up_o (by decide), up_at, up_at]
    exact ⟨in_I a1 a2, in_I b1' b2'⟩
/-- a room -/
theorem room_y (h : TB L B S T) (hk : Tk L B S T s e k) (hk0 : k ≠ 0) (hF : FA s S T) (hG : GQ S T) (q : wd T = 1919905645) : LX L B GQ S T e (f_X5_readCourtLine 207 S) (f_X12_courtLine 313 (wd T) (nI s) T) := by
  have hw0 : f_X5_isWord 207 (some 100000) S = some (if wd T = 1919905645 then 1 else 0) := isW h hk (j := 0) (by decide)
  obtain ⟨hD, ⟨n, hR⟩, ⟨n2, hR2, hf⟩, ⟨n3, hR3, hm⟩, hs⟩ := hG
  unfold f_X5_readCourtLine
  rw [k_207 h.1, hw0, b1_s, if_pos q, if_neg n10, r_207_1 h.1, r_209 h.1 gs0.2, q, cl_room]
  obtain ⟨S1, T0, T1, s1, e1, k1, g1, g2, g3, hT0, c1', m1, r26, hB1, hk1, hF1, l1, l2, o1, hR1⟩ := open_both ro1.rk h hk hk0 hF hR (by decide)
  rw [k_207 h.1, g1, b1_s, k_313 h.2.1, show f_X12_full 313 0 4 (nI s) T = some T0 from g2, b1_s, k_313 hT0, g3, b1_s]
  rcases rows_both ro1 gs0 [(1, 9, 0), (0, 9, 1)] S1 T1 s1 e1 k1 _ hB1 hk1 hF1 hR1 (by decide) with ⟨S7, T7, s7, e7, k7, a1, a2, a3, a4, a5, a6, a7, a8, a9, a10, a11⟩ | ⟨S7, T7, a1, a2, a3, a4, a5⟩
  · have fs := c1'.tr a3
    have fm := m1.tr a4
    obtain ⟨T8, w1, w2, w3', w4, w5, w6, w7, w8, w9⟩ := lx_keep (e := e) ro1 hD a5 a6 a7 (by omega) a9 fs fm.x a11 (by decide) (by decide) (Or.inl (by decide)) pRoom_i vRoom_c
    refine Or.inl ⟨S7, T8, s7, e7, k7, a1, ?_, w8, w2, w4, w5, w6, by omega, a9, w7, w9, ⟨n2, hR2.mv ?_ ?_ ?_ ?_ (fun z => o1 (a10 z)) (vLady_c rfl).eq, fun z => (hf (o1 (a10 z))).mv hR2.2.2.1 ?_ ?_⟩, ⟨n3, hR3.mv ?_ ?_ ?_ ?_ (fun z => o1 (a10 z)) vStep_c.eq, fun z => (hm (o1 (a10 z))).mv hR3.2.2.1 ?_ ?_⟩, fun z => (hs (o1 (a10 z))).mv ?_ ?_ ?_⟩
    · rw [a2, k_313 a5.2.1, show f_X12_keep 313 0 9 2 4 T7 = some T8 from w1, b1_s]
    · funext i
      exact fs.2 212 i (by omega) (by omega) (by decide)
    · funext i
      exact fs.2 213 i (by omega) (by omega) (by decide)
    · rw [w3'.2.2 1 (by decide) (by omega), fm.told]
    · intro j x y
      rw [w3'.2.2 j (by omega) (by omega), fm.told]
    · rw [w3'.2.1 313 (by decide)]
      exact fm.2.2 313 23 (by omega) (by decide)
    · intro j x y
      rw [w3'.2.2 j (by omega) (by omega), fm.told]
    · funext i
      exact fs.2 214 i (by omega) (by omega) (by decide)
    · funext i
      exact fs.2 215 i (by omega) (by omega) (by decide)
    · rw [w3'.2.2 2 (by decide) (by omega), fm.told]
    · intro j x y
      rw [w3'.2.2 j (by omega) (by omega), fm.told]
    · rw [w3'.1]
      exact fm.2.1 313 24 (by omega)
    · intro j x y
      rw [w3'.2.2 j (by omega) (by omega), fm.told]
    · intro i x y
      exact fs.2 209 i (by omega) (by omega) (by decide)
    · intro i x
      exact fs.2 216 i (by omega) (by omega) (by decide)
    · intro j x y
      rw [w3'.2.2 j (by omega) (by omega), fm.told]
  · exact lx_brk hD ro1 a1 (by rw [a2]) (c1'.tr a3) (m1.tr a4).x h.2.1 a5
theorem pLady_i (f g : Nat → Int32) (r : Nat) (h : pL [(0, 30, 1), (0, 60, 2), (0, 90, 3), (0, 40, 4)] (fun f g => f 0 = nI r ∧ g 0 = nI r ∧ r < 4) f g) : ((∀ i, i < 5 → f i = g i) ∧ vLady (nI 4) g) ∧ g 0 = nI r := by
  obtain ⟨f4, g4, v4, ⟨f3, g3, v3, ⟨f2, g2, v2, ⟨f1, g1, v1, ⟨x1, x2, x3⟩, a1, a2, rfl, rfl⟩, b1', b2', rfl, rfl⟩, c1', c2', rfl, rfl⟩, d1, d2, rfl, rfl⟩ := h
  have y0 : up (up (up (up g1 1 (nI v1)) 2 (nI v2)) 3 (nI v3)) 4 (nI v4) 0 = nI r := by
    rw [up_o (by decide), up_o (by decide), up_o (by decide), up_o (by decide), x2]
  refine ⟨⟨fun i hi => ?_, ?_⟩, y0⟩
  · show up (up (up (up f1 1 _) 2 _) 3 _) 4 _ i = up (up (up (up g1 1 _) 2 _) 3 _) 4 _ i
    rcases (show i = 0 ∨ i = 1 ∨ i = 2 ∨ i = 3 ∨ i = 4 by omega) with rfl | rfl | rfl | rfl | rfl
    · rw [y0, up_o (by decide), up_o (by decide), up_o (by decide), up_o (by decide), x1]
    · rw [up_o (by decide), up_o (by decide), up_o (by decide), up_at, up_o (by decide), up_o (by decide), up_o (by decide), up_at]
    · rw [up_o (by decide), up_o (by decide), up_at, up_o (by decide), up_o (by decide), up_at]
    · rw [up_o (by decide), up_at, up_o (by decide), up_at]
    · rw [up_at, up_at]
  · unfold vLady
    show (∃ r, up (up (up (up g1 1 _) 2 _) 3 _) 4 _ 0 = nI r ∧ r < (nI 4).toNatClampNeg) ∧ In (up (up (up (up g1 1 _) 2 _) 3 _) 4 _ 1) 0 30 ∧ In (up (up (up (up g1 1 _) 2 _) 3 _) 4 _ 2) 0 60 ∧ In (up (up (up (up g1 1 _) 2 _) 3 _) 4 _ 3) 0 90 ∧ In (up (up (up (up g1 1 _) 2 _) 3 _) 4 _ 4) 0 40
    refine ⟨⟨r, y0, by rw [nI_clamp (by decide)]; exact x3⟩, ?_, ?_, ?_, ?_⟩
    · rw [up_o (by decide), up_o (by decide), up_o (by decide), up_at]
      exact in_I a1 a2
    · rw [up_o (by decide), up_o (by decide), up_at]
      exact in_I b1' b2'
    · rw [up_o (by decide), up_at]
      exact in_I c1' c2'
    · rw [up_at]
      exact in_I d1 d2
/-- a further lady's room -/
theorem FRm.add (h : FRm T n) (hn : n ≤ 8) {r : Nat} (hr : r < 4) (h1 : T'.1 313 23 = jmax (T.1 313 23) (nI r)) (h2 : ∀ j, j < n → T'.1 325 (29 + 5 * j) = T.1 325 (29 + 5 * j)) (h3 : T'.1 325 (29 + 5 * n) = nI r) : FRm T' (n + 1) := by
  refine Or.inr ⟨by omega, ?_⟩
  rcases h with ⟨rfl, z⟩ | ⟨h0, F, z1, z2, ⟨k, z3, z4⟩, z5⟩
  · refine ⟨r, hr, ?_, ⟨0, by omega, h3⟩, fun k hk => ⟨r, Nat.le_refl _, ?_⟩⟩
    · rw [h1, z]
      unfold jmax
      rw [if_pos]
      rcases (show r = 0 ∨ r = 1 ∨ r = 2 ∨ r = 3 by omega) with rfl | rfl | rfl | rfl <;> decide
    · rw [show k = 0 by omega]
      exact h3
  · rw [z2, jmax_n (by omega) (by omega)] at h1
    refine ⟨if F < r then r else F, by split <;> omega, h1, ?_, fun j hj => ?_⟩
    · by_cases x : F < r
      · rw [if_pos x]
        exact ⟨n, by omega, h3⟩
      · rw [if_neg x]
        exact ⟨k, by omega, by rw [h2 _ z3]; exact z4⟩
    · by_cases y : j = n
      · subst y
        exact ⟨r, by split <;> omega, h3⟩
      · obtain ⟨r', a, b⟩ := z5 j (by omega)
        exact ⟨r', by split <;> omega, by rw [h2 _ (by omega)]; exact b⟩
/-- a lady -/
theorem lady_y (h : TB L B S T) (hk : Tk L B S T s e k) (hk0 : k ≠ 0) (hF : FA s S T) (hG : GQ S T) (q : wd T = 1818322041) : LX L B GQ S T e (f_X5_readCourtLine 207 S) (f_X12_courtLine 313 (wd T) (nI s) T) := by
  have hw0 : f_X5_isWord 207 (some 100000) S = some (if wd T = 1919905645 then 1 else 0) := isW h hk (j := 0) (by decide)
  have hw1 : f_X5_isWord 207 (some 100001) S = some (if wd T = 1818322041 then 1 else 0) := isW h hk (j := 1) (by decide)
  obtain ⟨hD, ⟨n1, hR1'⟩, ⟨n, hR, hf⟩, ⟨n3, hR3, hm⟩, hs⟩ := hG
  unfold f_X5_readCourtLine
  rw [k_207 h.1, hw0, b1_s, if_neg (show ¬ wd T = 1919905645 by rw [q]; decide), if_pos rfl, k_207 h.1, hw1, b1_s, if_pos q, if_neg n10, r_207_1 h.1, r_209 h.1 gs1.2, q, cl_lady]
  obtain ⟨S1, T0, T1, s1, e1, k1, g1, g2, g3, hT0, c1', m1, r26, hB1, hk1, hF1, l1, l2, o1, hR1⟩ := open_both ro2.rk h hk hk0 hF hR (by decide)
  rw [k_207 h.1, g1, b1_s, k_313 h.2.1, show f_X12_full 313 1 8 (nI s) T = some T0 from g2, b1_s, k_313 hT0, g3, b1_s, kk_313 hB1.2.1]
  unfold f_X12_ladyLine
  have hse := hk1.le
  have hcl : ∀ S9 : GS, (xR (some 207) 5 1 S9 fun v15 => (xR v15 0 1 S9 fun v16 => (c2 (some 207) 5 S9 (fun o' => f_X5_takeNumber o' 0 3 S9) fun v17 S18 => (c1 v16 7 S18 (fun o' => f_X7_setLast o' 0 v17 S18) fun S20 => (xR (some 207) 5 1 S20 fun v21 => (xR v21 0 1 S20 fun v22 => (c2 (some 207) 5 S20 (fun o' => f_X5_takeNumber o' 0 30 S20) fun v23 S24 => (c1 v22 7 S24 (fun o' => f_X7_setLast o' 1 v23 S24) fun S26 => (xR (some 207) 5 1 S26 fun v27 => (xR v27 0 1 S26 fun v28 => (c2 (some 207) 5 S26 (fun o' => f_X5_takeNumber o' 0 60 S26) fun v29 S30 => (c1 v28 7 S30 (fun o' => f_X7_setLast o' 2 v29 S30) fun S32 => (xR (some 207) 5 1 S32 fun v33 => (xR v33 0 1 S32 fun v34 => (c2 (some 207) 5 S32 (fun o' => f_X5_takeNumber o' 0 90 S32) fun v35 S36 => (c1 v34 7 S36 (fun o' => f_X7_setLast o' 3 v35 S36) fun S38 => (xR (some 207) 5 1 S38 fun v39 => (xR v39 0 1 S38 fun v40 => (c2 (some 207) 5 S38 (fun o' => f_X5_takeNumber o' 0 40 S38) fun v41 S42 => (c1 v40 7 S42 (fun o' => f_X7_setLast o' 4 v41 S42) fun S44 => (some S44))))))))))))))))))))) = rCl 1 [(0, 3, 0), (0, 30, 1), (0, 60, 2), (0, 90, 3), (0, 40, 4)] S9 := fun S9 => rfl
  rw [hcl, rCl, r_207_1 hB1.1, r_209 hB1.1 gs1.2]
  rcases ts_both (P' := fun f g => ∃ r, f 0 = nI r ∧ g 0 = nI r ∧ r < 4) ro2.rk hB1 hk1 hF1 hR1 (lo := 0) (hi := 3) (c := 0) (by decide) (by decide) (by decide) (fun f g v y a b => ⟨v, up_at, up_at, by omega⟩) with ⟨rfl, r, S2, T2, s2, e2, k2, y1, y2, y3, y4, y5, y6, y7, y8, y9, y10, y11, y12, y13⟩ | ⟨z, S2, T2, y1, y2, y3, y4, y5⟩
  · have hs2 := y6.le
    have z1 : ∀ K : GS → Option GS, (c2 (some 207) 5 S1 (fun o' => f_X5_takeNumber o' (nI (0, 3, 0).1) (nI (0, 3, 0).2.1) S1) fun v S9 => c1 (some 212) 7 S9 (fun o' => f_X7_setLast o' (nI (0, 3, 0).2.2) v S9) fun S8 => K S8) = K S2 := fun K => y1 K
    have hW3 : Wr (sI T2 313 23 (jmax (T2.1 313 23) (nI r))) := y5.2.1
    have fm2 := m1.tr y4
    rw [z1, kk_313 hB1.2.1, show f_X12_take 313 0 0 3 T1 = some (1, T2) from y2, b2_s, if_neg n10, i_313 y5.2.1, r_313_22 y5.2.1, show yI (some 326) 14 0 T2 _ = _ from y_326 (k := 0) y5.2.1 (by decide), y12, up_at, m_greater, b1_s, p_313 y5.2.1]
    have e23 : (sI T2 313 23 (jmax (T2.1 313 23) (nI r))).1 313 23 = jmax (T.1 313 23) (nI r) := by
      rw [sI_at, if_pos rfl, fm2.2.2 313 23 (by omega) (by decide)]
    have e25 : (sI T2 313 23 (jmax (T2.1 313 23) (nI r))).1 325 = T.1 325 := by rw [sI_o (by decide), fm2.told]
    have e26 : (sI T2 313 23 (jmax (T2.1 313 23) (nI r))).1 326 = T2.1 326 := sI_o (by decide)
    have hB3 : TB L B S2 (sI T2 313 23 (jmax (T2.1 313 23) (nI r))) := y5.cm rfl rfl (fun _ => rfl)
    have hk3 : Tk L B S2 (sI T2 313 23 (jmax (T2.1 313 23) (nI r))) s2 e2 k2 := y6.mv (fun _ _ _ => rfl) (fun i hi => by rw [sI_at, if_neg (by omega)]) rfl
    have hF3 : FA s2 S2 (sI T2 313 23 (jmax (T2.1 313 23) (nI r))) := FAv.up y7 (Nat.le_refl _) rfl rfl
    have hx3 : FMx T (sI T2 313 23 (jmax (T2.1 313 23) (nI r))) := fm2.x.tr ⟨rfl, fun a h1 h2 h3 => sI_o h1⟩
    have hJ3 : (sI T2 313 23 (jmax (T2.1 313 23) (nI r))).2.1 313 24 = T.2.1 313 24 := fm2.2.1 313 24 (by omega)
    have hR3' : RO S2 (sI T2 313 23 (jmax (T2.1 313 23) (nI r))) 212 5 8 1 29 (vLady (nI 4)) n (fun f g => f 0 = nI r ∧ g 0 = nI r ∧ r < 4) := y13.mv rfl rfl (by rw [e25, fm2.told]) (fun z => z) (fun _ f z => by
      obtain ⟨r', z1, z2, z3⟩ := z
      rw [y12, up_at] at z2
      have : r = r' := (nI_eq (by omega) (by omega)).mp z2
      subst this
      exact ⟨z1, by rw [e26, y12, up_at], z3⟩)
    generalize sI T2 313 23 (jmax (T2.1 313 23) (nI r)) = T3 at e23 e25 e26 hB3 hk3 hF3 hx3 hJ3 hR3' hW3 ⊢
    have hml : rMd [(0, 30, 1), (0, 60, 2), (0, 90, 3), (0, 40, 4)] (fun S16 => c1 (some 313) 12 S16 (fun o' => f_X12_keep o' 1 29 5 8 S16) fun S18 => (some ((1 : Int32), S18))) T3 = c2 (some 313) 12 T3 (fun o' => f_X12_take o' 1 0 30 T3) fun v9 S10 => if v9 = 0 then some (0, S10) else c2 (some 313) 12 S10 (fun o' => f_X12_take o' 2 0 60 S10) fun v11 S12 => if v11 = 0 then some (0, S12) else c2 (some 313) 12 S12 (fun o' => f_X12_take o' 3 0 90 S12) fun v13 S14 => if v13 = 0 then some (0, S14) else c2 (some 313) 12 S14 (fun o' => f_X12_take o' 4 0 40 S14) fun v15 S16 => if v15 = 0 then some (0, S16) else c1 (some 313) 12 S16 (fun o' => f_X12_keep o' 1 29 5 8 S16) fun S18 => some ((1 : Int32), S18) := rfl
    rw [← hml]
    rcases rows_both ro2 gs1 [(0, 30, 1), (0, 60, 2), (0, 90, 3), (0, 40, 4)] S2 T3 s2 e2 k2 _ hB3 hk3 hF3 hR3' (by decide) with ⟨S7, T7, s7, e7, k7, a1, a2, a3, a4, a5, a6, a7, a8, a9, a10, a11⟩ | ⟨S7, T7, a1, a2, a3, a4, a5⟩
    · have fs := (c1'.tr y3).tr a3
      have ht7 : T7.1 325 = T.1 325 := by rw [a4.told, e25]
      obtain ⟨T8, w1, w2, w3', w4, w5, w6, w7, w8, w9⟩ := lx_keep2 ro2 hD a5 a6 a7 fs (hx3.tr a4.x) a11 (by decide) (by decide) (Or.inl (by decide)) (fun f g z => (pLady_i f g r z).1) (vLady_c rfl)
      have oS : ok S7 → ok S := fun z => o1 (y10 (a10 z))
      rw [a1, a2, k_313 a5.2.1, show f_X12_keep 313 1 29 5 8 T7 = some T8 from w1, b1_s, b2_s]
      have t23 : T8.1 313 23 = jmax (T.1 313 23) (nI r) := by
        rw [w3'.2.1 313 (by decide), a4.2.2 313 23 (by omega) (by decide), e23]
      have t24 : T8.2.1 313 24 = T.2.1 313 24 := by
        rw [w3'.1, a4.2.1 313 24 (by omega), hJ3]
      have told : ∀ j, j ≠ 1 → ¬ (29 ≤ j ∧ j < 69) → T8.1 325 j = T.1 325 j := fun j x y => by
        rw [w3'.2.2 j x (by omega), ht7]
      refine Or.inl ⟨S7, T8, s7, e7, k7, rfl, rfl, w8, w2, w4, w5, w6, by omega, a9, w7, ⟨n1, hR1'.mv ?_ ?_ ?_ ?_ oS vRoom_c.eq⟩, ⟨_, w9, fun z => ?_⟩, ⟨n3, hR3.mv ?_ ?_ ?_ ?_ oS vStep_c.eq, fun z => (hm (oS z)).mv hR3.2.2.1 t24 ?_⟩, fun z => (hs (oS z)).mv ?_ ?_ ?_⟩
      · funext i
        exact fs.2 210 i (by omega) (by omega) (by decide)
      · funext i
        exact fs.2 211 i (by omega) (by omega) (by decide)
      · exact told 0 (by decide) (by omega)
      · intro j x y
        exact told j (by omega) (by omega)
      · obtain ⟨v1, v2, v3, v4⟩ := a11.2.2.2.2.2 z
        rw [if_neg (by omega)] at w9 ⊢
        obtain ⟨u1, u2⟩ := w9.2.2.2.2.2 z
        have v5 := pLady_i _ _ r v4
        have r4 : r < 4 := by
          obtain ⟨⟨v6, ⟨r', x1, x2⟩, -⟩, v7⟩ := v5
          rw [v7] at x1
          rw [nI_clamp (by decide)] at x2
          have := (nI_eq (by omega) (by omega)).mp x1
          omega
        refine (hf (oS z)).add (by omega) r4 t23 (fun j hj => ?_) ?_
        · have x1 := u1 j (by omega) 0 (by decide)
          have x2 := v2 j hj 0 (by decide)
          exact (x1.symm.trans x2).trans (by rw [ht7, Nat.add_zero])
        · have x1 := u1 n (by omega) 0 (by decide)
          have x2 : S7.1 213 (5 * n + 0) = T7.1 326 0 := v5.1.1 0 (by decide)
          exact (x1.symm.trans x2).trans v5.2
      · funext i
        exact fs.2 214 i (by omega) (by omega) (by decide)
      · funext i
        exact fs.2 215 i (by omega) (by omega) (by decide)
      · exact told 2 (by decide) (by omega)
      · intro j x y
        exact told j (by omega) (by omega)
      · intro j x y
        exact told j (by omega) (by omega)
      · intro i x y
        exact fs.2 209 i (by omega) (by omega) (by decide)
      · intro i x
        exact fs.2 216 i (by omega) (by omega) (by decide)
      · intro j x y
        exact told j (by omega) (by omega)
    · rw [a1, a2, b2_s]
      exact lx_brk hD ro2 rfl rfl ((c1'.tr y3).tr a3) (hx3.tr a4.x) h.2.1 a5
  · obtain ⟨S9, w1, w2, w3⟩ := rows_b ro2 gs1 [(0, 30, 1), (0, 60, 2), (0, 90, 3), (0, 40, 4)] S2 y5 (by decide)
    rw [show (c2 (some 207) 5 S1 (fun o' => f_X5_takeNumber o' (nI (0, 3, 0).1) (nI (0, 3, 0).2.1) S1) fun v S9 => c1 (some 212) 7 S9 (fun o' => f_X7_setLast o' (nI (0, 3, 0).2.2) v S9) fun S8 => rCl 1 [(0, 30, 1), (0, 60, 2), (0, 90, 3), (0, 40, 4)] S8) = some S9 from (y1 (fun S8 => rCl 1 [(0, 30, 1), (0, 60, 2), (0, 90, 3), (0, 40, 4)] S8)).trans w1, kk_313 hB1.2.1, show f_X12_take 313 0 0 3 T1 = some (0, T2) from y2, b2_s, if_pos rfl, b2_s]
    exact lx_brk hD ro2 rfl rfl ((c1'.tr y3).tr w3) (m1.tr y4).x h.2.1 w2
end LT
