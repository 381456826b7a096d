/-! texts: steps of the law -/
def pStep (v : Nat) (f g : Nat → Int32) : Prop := f 0 = nI v ∧ g 0 = nI v ∧ v ≤ 40
section LU
variable {α : Type} {L : Nat} {B : Nat → Nat} {S S' T T' S0 T0 : GS} {s e k f c o w m p q n d e0 v sl : Nat} {V : (Nat → Int32) → Prop} {P P' : (Nat → Int32) → (Nat → Int32) → Prop} {R : GS → GS → Prop}
theorem pStep_i (f g : Nat → Int32) (v : Nat) (h : pL [(0, 30, 1)] (pStep v) f g) : ((∀ i, i < 2 → f i = g i) ∧ vStep g) ∧ g 0 = nI v ∧ v ≤ 40 := by
  obtain ⟨f1, g1, v1, ⟨x1, x2, x3⟩, a1, a2, rfl, rfl⟩ := h
  have y0 : up g1 1 (nI v1) 0 = nI v := by rw [up_o (by decide), x2]
  refine ⟨⟨fun i hi => ?_, ?_⟩, y0, x3⟩
  · show up f1 1 _ i = up g1 1 _ i
    rcases (show i = 0 ∨ i = 1 by omega) with rfl | rfl
    · rw [y0, up_o (by decide), x1]
    · rw [up_at, up_at]
  · unfold vStep
    show In (up g1 1 _ 0) 0 40 ∧ In (up g1 1 _ 1) 0 30
    rw [y0, up_at]
    exact ⟨in_I (Nat.zero_le _) x3, in_I a1 a2⟩
/-- behind a step's mark -/
theorem proper_t (hB : TB L B S T) (hk : Tk L B S T s e k) (hF : FA s S T) (hT0 : Wr T0) (hG : RwD S0 ∧ (∃ n, RLn S0 T0 210 2 4 0 9 vRoom n) ∧ (∃ n, RLn S0 T0 212 5 8 1 29 (vLady (nI 4)) n ∧ (ok S0 → FRm T0 n)) ∧ (RLn S0 T0 214 2 6 2 17 vStep n ∧ (ok S0 → MTd T0 n)) ∧ (ok S0 → SCd S0 T0)) (fs : FC 214 S0 S) (fm : FMx T0 T) (l1 : e0 ≤ s) (hR : RO S T 214 2 6 2 17 vStep n (pStep v)) (h26 : T.1 326 0 = nI v) (hv : v < 100) (oS : ok S → ok S0) (ht : T.1 325 = T0.1 325) (t23 : T.1 313 23 = T0.1 313 23) (t24 : T.2.1 313 24 = T0.2.1 313 24) :
    LX L B GQ S0 T0 e0 (rCl 2 [(0, 30, 1)] S) (b2 (f_X12_properLine_53 313 T) (fun v3 S4 => tz v3 (some (v3, S4)))) := by
  obtain ⟨hD, ⟨n1, hR1'⟩, ⟨n2, hR2, hf⟩, ⟨hR3, hm⟩, hs⟩ := hG
  have hse := hk.le
  have h53 : f_X12_properLine_53 313 T = f_X12_properLine_81 313 (some 313) (T.2.1 313 24) (if 40 < v then 0 else jlshl 1 (nI v)) T := by
    unfold f_X12_properLine_53
    rw [j_313 hB.2.1, r_313_22 hB.2.1, show yI (some 326) 14 0 T _ = _ from y_326 (k := 0) hB.2.1 (by decide), h26]
    by_cases z : 40 < v
    · rw [if_pos (show (40 : Int32) < nI v from nI_lt (a := 40) z (by omega)), if_pos z]
    · rw [if_neg (show ¬ (40 : Int32) < nI v from nI_nlt (a := 40) (by omega) (by decide)), if_neg z, r_313_22 hB.2.1, show yI (some 326) 14 0 T _ = _ from y_326 (k := 0) hB.2.1 (by decide), h26]
  rw [h53]
  unfold f_X12_properLine_81
  rw [pj_313 hB.2.1]
  have e24 : (sJ T 313 24 (T.2.1 313 24 ||| (if 40 < v then 0 else jlshl 1 (nI v)))).2.1 313 24 = T0.2.1 313 24 ||| (if 40 < v then 0 else jlshl 1 (nI v)) := by
    rw [sJ_at, if_pos rfl, t24]
  have hB1 : TB L B S (sJ T 313 24 (T.2.1 313 24 ||| (if 40 < v then 0 else jlshl 1 (nI v)))) := hB.cm rfl rfl (fun _ => rfl)
  have hk1 : Tk L B S (sJ T 313 24 (T.2.1 313 24 ||| (if 40 < v then 0 else jlshl 1 (nI v)))) s e k := hk.mv (fun _ _ _ => rfl) (fun _ _ => rfl) (by rw [sJ_at, if_neg (by decide)])
  have hF1 : FA s S (sJ T 313 24 (T.2.1 313 24 ||| (if 40 < v then 0 else jlshl 1 (nI v)))) := FAv.up hF (Nat.le_refl _) rfl rfl
  have hx1 : FMx T0 (sJ T 313 24 (T.2.1 313 24 ||| (if 40 < v then 0 else jlshl 1 (nI v)))) := fm.tr ⟨rfl, fun _ _ _ _ => rfl⟩
  have hR1 : RO S (sJ T 313 24 (T.2.1 313 24 ||| (if 40 < v then 0 else jlshl 1 (nI v)))) 214 2 6 2 17 vStep n (pStep v) := hR.mv rfl rfl rfl (fun z => z) (fun _ f z => z)
  have ht1 : (sJ T 313 24 (T.2.1 313 24 ||| (if 40 < v then 0 else jlshl 1 (nI v)))).1 325 = T0.1 325 := ht
  have t231 : (sJ T 313 24 (T.2.1 313 24 ||| (if 40 < v then 0 else jlshl 1 (nI v)))).1 313 23 = T0.1 313 23 := t23
  generalize sJ T 313 24 (T.2.1 313 24 ||| (if 40 < v then 0 else jlshl 1 (nI v))) = T1 at e24 hB1 hk1 hF1 hx1 hR1 ht1 t231 ⊢
  have hml : rMd [(0, 30, 1)] (fun S16 => c1 (some 313) 12 S16 (fun o' => f_X12_keep o' 2 17 2 6 S16) fun S18 => (some ((1 : Int32), S18))) T1 = c2 (some 313) 12 T1 (fun o' => f_X12_take o' 1 0 30 T1) fun v9 S10 => if v9 = 0 then some (0, S10) else c1 (some 313) 12 S10 (fun o' => f_X12_keep o' 2 17 2 6 S10) fun S18 => some ((1 : Int32), S18) := rfl
  rw [← hml]
  rcases rows_both ro3 gs2 [(0, 30, 1)] S T1 s e k _ hB1 hk1 hF1 hR1 (by decide) with ⟨S7, T7, s7, e7, k7, a1, a2, a3, a4, a5, a6, a7, a8, a9, a10, a11⟩ | ⟨S7, T7, a1, a2, a3, a4, a5⟩
  · have fs7 := fs.tr a3
    have ht7 : T7.1 325 = T0.1 325 := by rw [a4.told, ht1]
    obtain ⟨T8, w1, w2, w3', w4, w5, w6, w7, w8, w9⟩ := lx_keep2 ro3 hD a5 a6 a7 fs7 (hx1.tr a4.x) a11 (by decide) (by decide) (Or.inl (by decide)) (fun f g z => (pStep_i f g v z).1) vStep_c
    have oS7 : ok S7 → ok S0 := fun z => oS (a10 z)
    rw [a1, a2, k_313 a5.2.1, show f_X12_keep 313 2 17 2 6 T7 = some T8 from w1, b1_s, b2_s]
    have u23 : T8.1 313 23 = T0.1 313 23 := by
      rw [w3'.2.1 313 (by decide), a4.2.2 313 23 (by omega) (by decide), t231]
    have u24 : T8.2.1 313 24 = T0.2.1 313 24 ||| (if 40 < v then 0 else jlshl 1 (nI v)) := by
      rw [w3'.1, a4.2.1 313 24 (by omega), e24]
    have told : ∀ j, j ≠ 2 → ¬ (17 ≤ j ∧ j < 29) → T8.1 325 j = T0.1 325 j := fun j x y => by
      rw [w3'.2.2 j x (by omega), ht7]
    refine Or.inl ⟨S7, T8, s7, e7, k7, rfl, rfl, w8, w2, w4, w5, w6, by omega, a9, w7, ⟨n1, hR1'.mv ?_ ?_ ?_ ?_ oS7 vRoom_c.eq⟩, ⟨n2, hR2.mv ?_ ?_ ?_ ?_ oS7 (vLady_c rfl).eq, fun z => (hf (oS7 z)).mv hR2.2.2.1 u23 ?_⟩, ⟨_, w9, fun z => ?_⟩, fun z => (hs (oS7 z)).mv ?_ ?_ ?_⟩
    · funext i
      exact fs7.2 210 i (by omega) (by omega) (by decide)
    · funext i
      exact fs7.2 211 i (by omega) (by omega) (by decide)
    · exact told 0 (by decide) (by omega)
    · intro j x y
      exact told j (by omega) (by omega)
    · funext i
      exact fs7.2 212 i (by omega) (by omega) (by decide)
    · funext i
      exact fs7.2 213 i (by omega) (by omega) (by decide)
    · exact told 1 (by decide) (by omega)
    · intro j x y
      exact told j (by omega) (by omega)
    · intro j x y
      exact told j (by omega) (by omega)
    · obtain ⟨v1, v2, v3, v4⟩ := a11.2.2.2.2.2 z
      rw [if_neg (by omega)] at w9 ⊢
      obtain ⟨u1, u2⟩ := w9.2.2.2.2.2 z
      have v5 := pStep_i _ _ v v4
      have hv40 := v5.2.2
      rw [if_neg (by omega)] at u24
      refine (hm (oS7 z)).add hv40 u24 (fun j hj => ?_) ?_
      · have x1 := u1 j (by omega) 0 (by decide)
        have x2 := v2 j hj 0 (by decide)
        exact (x1.symm.trans x2).trans (by rw [ht7, Nat.add_zero])
      · have x1 := u1 n (by omega) 0 (by decide)
        have x2 : S7.1 215 (2 * n + 0) = T7.1 326 0 := v5.1.1 0 (by decide)
        exact (x1.symm.trans x2).trans v5.2.1
    · intro i x y
      exact fs7.2 209 i (by omega) (by omega) (by decide)
    · intro i x
      exact fs7.2 216 i (by omega) (by omega) (by decide)
    · intro j x y
      exact told j (by omega) (by omega)
  · rw [a1, a2, b2_s]
    exact lx_brk hD ro3 rfl rfl (fs.tr a3) (hx1.tr a4.x) hT0 a5
/-- whether a mark was told already: the class -/
theorem hasC_l {x : Int32} (hR : Rw S 214 6 2) : ∀ (d j N : Nat), j + d = nr S 214 → d < N → ∃ b : Bool, f_X7_hasInColumn_2 214 S N 0 x (nI j) = some (bi b) ∧ (b = true ↔ ∃ k, j ≤ k ∧ k < nr S 214 ∧ S.1 215 (2 * k + 0) = x)
  | _, _, 0, _, hN => absurd hN (Nat.not_lt_zero _)
  | 0, j, N + 1, hj, _ => by
    have hn := hR.n40
    refine ⟨false, ?_, fun z => absurd z (by decide), fun ⟨k, a, b, _⟩ => absurd b (by omega)⟩
    rw [f_X7_hasInColumn_2, xI_s hR.1, hR.2.2.2.2.2.2.1, if_pos (nI_le (by omega) (by omega))]
    rfl
  | d + 1, j, N + 1, hj, hN => by
    have hn := hR.n40
    rw [f_X7_hasInColumn_2, xI_s hR.1, hR.2.2.2.2.2.2.1, if_neg (nI_ge (by omega) (by omega)), c1_s hR.1, show f_X7_cell 214 (nI j) 0 S = _ from hR.cell (k := j) (i := 0) (by omega) (by decide), b1_s]
    by_cases q : S.1 215 (2 * j + 0) = x
    · exact ⟨true, by rw [if_pos q]; rfl, fun _ => ⟨j, Nat.le_refl _, by omega, q⟩, fun _ => rfl⟩
    · obtain ⟨b, g1, g2⟩ := hasC_l hR d (j + 1) N (by omega) (by omega)
      refine ⟨b, by rw [if_neg q, nI_1]; exact g1, g2.trans ⟨fun ⟨k, a, b, c⟩ => ⟨k, by omega, b, c⟩, fun ⟨k, a, b, c⟩ => ?_⟩⟩
      by_cases y : k = j
      · subst y
        exact absurd c q
      · exact ⟨k, by omega, b, c⟩
end LU
