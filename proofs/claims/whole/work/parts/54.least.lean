/-! least: both answer alike -/
theorem nd_b {ft : Nat → Nat → Bool} {n : Nat} : ∀ d, d ≤ n → ∀ had, had < 31 → nR ft n (n - d) had < FARN → nR ft n (n - d) had ≤ 30 * d
  | 0, _, had, _, _ => by
    show ndN ft n (n - (n - 0)) had ≤ 0
    rw [Nat.sub_zero, Nat.sub_self]
    exact Nat.le_refl 0
  | d + 1, hd, had, hh, h => by
    obtain ⟨j, e1, e2, e3, e4, e5⟩ := la_some (ft := ft) (show n - (d + 1) < n by omega) h
    obtain ⟨f1, f2, f3⟩ := firstEq_lt 31 0 j e3
    rw [show byN (ft (n - (d + 1))) (nR ft n (n - (d + 1) + 1)) had j = nR ft n (n - (d + 1) + 1) j + dN j had from if_pos e5, show n - (d + 1) + 1 = n - d by omega] at f3
    rw [show n - (d + 1) + 1 = n - d by omega] at e4
    have ih := nd_b d (by omega) j e2 e4
    have : dN j had ≤ 30 := by unfold dN; omega
    omega
/-- the knots of a set together; the best of so many -/
def ksN (kv : Nat → Nat) (a : Nat) : Nat := sumN (cutN (bt a) kv) 8
def leS (kv : Nat → Nat) (m : Nat) : Nat → Nat → Option Nat → Option Nat
  | 0, _, b => b
  | d + 1, a, b => leS kv m d (a + 1) (if popN a = m ∧ ksN kv a < vF (ksN kv) b then some a else b)
def Kv (kv : Nat → Nat) : Prop := ∀ l, kv l ≤ 1000000 ∧ (kv l < 1000000 → kv l ≤ 480)
theorem cut_b {kv : Nat → Nat} (h : Kv kv) (a : Nat) : ∀ l, l ≤ 8 → (∀ j, j < l → bt a j = true → kv j < 1000000) → sumN (cutN (bt a) kv) l ≤ 480 * l
  | 0, _, _ => Nat.le_refl _
  | l + 1, hl, ho => by
    have ih := cut_b h a l (by omega) (fun j hj => ho j (by omega))
    have : cutN (bt a) kv l ≤ 480 := by
      unfold cutN
      by_cases q : bt a l = true
      · rw [if_pos q]
        exact (h l).2 (ho l (by omega) q)
      · rw [if_neg q]
        exact Nat.zero_le _
    show sumN (cutN (bt a) kv) l + cutN (bt a) kv l ≤ 480 * (l + 1)
    omega
theorem ks_far {kv : Nat → Nat} (h : Kv kv) {a j : Nat} (hj : j < 8) (hb : bt a j = true) (hk : ¬ kv j < 1000000) : ¬ ksN kv a < FARN := by
  have h1 := sumN_le (F := cutN (bt a) kv) 8 hj
  have h2 : cutN (bt a) kv j = kv j := if_pos hb
  show ¬ sumN (cutN (bt a) kv) 8 < 1000000
  omega
theorem cut_bb {kv : Nat → Nat} (h : Kv kv) (a : Nat) : ∀ l, sumN (cutN (bt a) kv) l ≤ 1000000 * l
  | 0 => Nat.le_refl _
  | l + 1 => by
    have ih := cut_bb h a l
    have : cutN (bt a) kv l ≤ 1000000 := by
      unfold cutN
      split
      · exact (h l).1
      · exact Nat.zero_le _
    show sumN (cutN (bt a) kv) l + cutN (bt a) kv l ≤ 1000000 * (l + 1)
    omega
theorem pop8 {a : Nat} (h : a < 256) : countN (bt a) 8 0 0 = popN a := by
  unfold popN
  rw [show 10 = 8 + 2 by rfl, countN_add, countN_0 _ 2 _ _ (fun j h1 h2 => Nat.testBit_lt_two_pow (Nat.lt_of_lt_of_le h (Nat.pow_le_pow_right (n := 2) (by decide) (by omega : 8 ≤ j))))]
theorem le_ok {kv : Nat → Nat} {m : Nat} : ∀ (d a : Nat) (b : Option Nat), (∀ j, b = some j → j < a + d ∧ ksN kv j < FARN) → ∀ j, leS kv m d a b = some j → j < a + d ∧ ksN kv j < FARN
  | 0, a, b, h => fun j hj => h j hj
  | d + 1, a, b, h => fun j hj => by
    have := le_ok (kv := kv) (m := m) d (a + 1) (if popN a = m ∧ ksN kv a < vF (ksN kv) b then some a else b) (fun i hi => by
      by_cases q : popN a = m ∧ ksN kv a < vF (ksN kv) b
      · rw [if_pos q] at hi
        cases hi
        refine ⟨by omega, ?_⟩
        cases b with
        | none => exact q.2
        | some x => exact Nat.lt_trans q.2 (h x rfl).2
      · rw [if_neg q] at hi
        have := h i hi
        exact ⟨by omega, this.2⟩) j hj
    rw [show a + (d + 1) = a + 1 + d by omega]
    exact this
section LF2
variable {S S' : GS} {o b k l co fo n kf nl : Nat} {c : Int32} {bu fa he la : Int32} {x4 : Int32} {kv : Nat → Nat}
/-- the class's knots by lady -/
def Kc (S : GS) (kv : Nat → Nat) (nl i : Nat) : Prop := ∀ j, j < i → S.1 267 j = if j < nl then (if kv j < FARN then nI (kv j) else -1) else -1
theorem ksC_l (hW : Wr S) (hk : Kc S kv nl 8) (hv : Kv kv) {a : Nat} (ha : a < 256) (hnl : ∀ j, j < 8 → bt a j = true → j < nl) : ∀ (d l nn : Nat), l + d = 8 → d < nn → (∀ j, j < l → bt a j = true → kv j < 1000000) → f_X3_knotsOf_4 247 S nn (nI a) (nI (sumN (cutN (bt a) kv) l)) (nI l) = some (if ksN kv a < FARN then nI (ksN kv a) else -1)
  | _, _, 0, _, hn, _ => absurd hn (Nat.not_lt_zero _)
  | 0, l, nn + 1, hl, _, ho => by
    have el : l = 8 := by omega
    subst el
    have hb := cut_b hv a 8 (Nat.le_refl 8) ho
    rw [f_X3_knotsOf_4, if_pos (show (8 : Int32) ≤ nI 8 by decide), if_pos (show ksN kv a < FARN from (by omega : sumN (cutN (bt a) kv) 8 < 1000000))]
    rfl
  | d + 1, l, nn + 1, hl, hn, ho => by
    have hk2 := has_k a (by omega) l (by omega)
    have e : sumN (cutN (bt a) kv) (l + 1) = sumN (cutN (bt a) kv) l + (if bt a l = true then kv l else 0) := rfl
    rw [f_X3_knotsOf_4, if_neg (show ¬ (8 : Int32) ≤ nI l from nI_ge (b := 8) (by omega) (by omega))]
    unfold f_X3_knotsOf_40
    rw [nI_1]
    by_cases q : bt a l = true
    · rw [show a.testBit l = true from q] at hk2
      have hkl := hk l (by omega)
      rw [if_pos (hnl l (by omega) q)] at hkl
      rw [if_pos (of_decide_eq_true hk2), r_247_2 hW, y_267 hW (by omega), r_247_2 hW, y_267 hW (by omega), hkl]
      by_cases z : kv l < FARN
      · have z2 : kv l < 1000000 := z
        rw [if_pos z, if_neg (nI_neg1 _ (by omega)), nI_add]
        have ih := ksC_l hW hk hv ha hnl d (l + 1) nn (by omega) (by omega) (fun j hj hb => by
          by_cases y : j = l
          · rw [y]
            exact z
          · exact ho j (by omega) hb)
        rw [e, if_pos q] at ih
        exact ih
      · rw [if_neg z, if_pos rfl, if_neg (ks_far hv (by omega) q z)]
    · rw [show a.testBit l = false from Bool.eq_false_iff.mpr q] at hk2
      have ih := ksC_l hW hk hv ha hnl d (l + 1) nn (by omega) (by omega) (fun j hj hb => by
        by_cases y : j = l
        · rw [y] at hb
          exact absurd hb q
        · exact ho j (by omega) hb)
      rw [e, if_neg q, Nat.add_zero] at ih
      rw [if_neg (of_decide_eq_false hk2)]
      exact ih
theorem ksC (hW : Wr S) (hk : Kc S kv nl 8) (hv : Kv kv) (hn8 : nl ≤ 8) {a : Nat} (ha : a < 2 ^ nl) : f_X3_knotsOf 247 (nI a) S = some (if ksN kv a < FARN then nI (ksN kv a) else -1) := by
  have hp : 2 ^ nl ≤ 2 ^ 8 := Nat.pow_le_pow_right (by decide) hn8
  refine ksC_l hW hk hv (by omega) (fun j hj hb => Classical.byContradiction fun z => ?_) 8 0 fu (by omega) (by unfold fu; omega) (fun j hj => absurd hj (Nat.not_lt_zero _))
  have : bt a j = false := Nat.testBit_lt_two_pow (Nat.lt_of_lt_of_le ha (Nat.pow_le_pow_right (by decide) (by omega)))
  rw [this] at hb
  exact absurd hb Bool.false_ne_true
theorem le55 (hW : Wr S) (hk : Kc S kv nl 8) (hv : Kv kv) (hn8 : nl ≤ 8) (hc : gk S co = 0) (hr : S.2.2.1 co 1 = some (co + 3)) (hR : Rw S (co + 3) 8 5) (hnr : nr S (co + 3) = nl) {m : Nat} (hm : m < 2 ^ 31) : ∀ (d a nn : Nat) (bb : Option Nat), a + d = 2 ^ nl → d < nn → (∀ j, bb = some j → j < 2 ^ nl ∧ ksN kv j < FARN) → f_X3_leastOf_55 247 nn (some co) (nI m) (deepV bb) (nI a) S = some (deepV (leS kv m d a bb), S)
  | _, _, 0, _, _, hn, _ => absurd hn (Nat.not_lt_zero _)
  | 0, a, nn + 1, bb, ha, _, _ => by
    have hp : 2 ^ nl ≤ 2 ^ 8 := Nat.pow_le_pow_right (by decide) hn8
    rw [f_X3_leastOf_55, xR_s hc, hr, xI_s hR.1, hR.2.2.2.2.2.2.1, hnr, shl_k nl (by omega), if_pos (nI_le (by omega) (by omega))]
    rfl
  | d + 1, a, nn + 1, bb, ha, hn, hb => by
    have hp : 2 ^ nl ≤ 2 ^ 8 := Nat.pow_le_pow_right (by decide) hn8
    have ih := fun b2 h2 => le55 hW hk hv hn8 hc hr hR hnr hm d (a + 1) nn b2 (by omega) (by omega) h2
    have hpop : popN a ≤ 10 := by
      have := popN_le (a := a) (np := nl) (by omega) (by omega)
      omega
    have hks : ksN kv a ≤ 1000000 * 8 := cut_bb hv a 8
    rw [f_X3_leastOf_55, xR_s hc, hr, xI_s hR.1, hR.2.2.2.2.2.2.1, hnr, shl_k nl (by omega), if_neg (nI_ge (by omega) (by omega)), bitCount_v S (by omega), b1_s, k_247 hW, ksC hW hk hv hn8 (a := a) (by omega), b1_s]
    unfold f_X3_leastOf_109 f_X3_leastOf_113
    rw [nI_1]
    show _ = some (deepV (leS kv m d (a + 1) (if popN a = m ∧ ksN kv a < vF (ksN kv) bb then some a else bb)), S)
    by_cases q : popN a = m
    · rw [if_pos (by rw [q])]
      by_cases z : ksN kv a < FARN
      · have z2 : ksN kv a < 1000000 := z
        rw [if_pos z, if_neg (nI_neg1 _ (by omega))]
        cases bb with
        | none =>
          rw [if_pos (show deepV none = -1 from rfl), if_pos ⟨q, z⟩]
          exact ih (some a) (fun j hj => by cases hj; exact ⟨by omega, z⟩)
        | some j =>
          obtain ⟨j1, j2⟩ := hb j rfl
          have j3 : ksN kv j < 1000000 := j2
          rw [if_neg (show ¬ deepV (some j) = -1 from nI_neg1 j (by omega)), k_247 hW, ksC hW hk hv hn8 (a := a) (by omega), b1_s, k_247 hW, show f_X3_knotsOf 247 (deepV (some j)) S = _ from ksC hW hk hv hn8 (a := j) j1, b1_s, if_pos j2, if_pos z]
          by_cases y : ksN kv a < ksN kv j
          · rw [if_neg (nI_ge y (by omega)), if_pos (show popN a = m ∧ ksN kv a < vF (ksN kv) (some j) from ⟨q, y⟩)]
            exact ih (some a) (fun j hj => by cases hj; exact ⟨by omega, z⟩)
          · rw [if_pos (nI_le (by omega) (by omega)), if_neg (show ¬ (popN a = m ∧ ksN kv a < vF (ksN kv) (some j)) from fun x => y x.2)]
            exact ih (some j) hb
      · have hnot : ¬ (popN a = m ∧ ksN kv a < vF (ksN kv) bb) := fun x => by
          have x2 := x.2
          cases bb with
          | none => exact z x2
          | some j => exact z (Nat.lt_trans x2 (hb j rfl).2)
        rw [if_neg z, if_pos rfl, if_neg hnot]
        exact ih bb hb
    · rw [if_neg (by rw [nI_eq (by omega) hm]; exact q), if_neg (fun x => q x.1)]
      exact ih bb hb
theorem le3 (hW : Wr S) (hv : Kv kv) (hn8 : nl ≤ 8) (hH : ∀ S', OfA 247 268 S S' → Cw S' co ∧ nr S' (co + 3) = nl) (hF : ∀ l, l < nl → ∀ S', OfA 247 268 S S' → ∃ S'', f_X3_fewest 247 (some co) (some fo) (nI l) x4 S' = some (if kv l < FARN then nI (kv l) else -1, S'') ∧ OfA 247 268 S' S'' ∧ S''.1 267 = S'.1 267) {m : Nat} (hm : m < 2 ^ 31) : ∀ (d l nn : Nat) (S1 : GS), OfA 247 268 S S1 → Kc S1 kv nl l → l + d = 8 → d < nn → ∃ S', f_X3_leastOf_3 247 nn (some co) (some fo) (nI m) x4 (nI l) S1 = some (deepV (leS kv m (2 ^ nl) 0 none), S') ∧ OfA 247 268 S S' ∧ Kc S' kv nl 8
  | _, _, 0, _, _, _, _, hn => absurd hn (Nat.not_lt_zero _)
  | 0, l, nn + 1, S1, hO, hk, hl, _ => by
    have hp : 2 ^ nl ≤ 2 ^ 8 := Nat.pow_le_pow_right (by decide) hn8
    obtain ⟨c1', c2'⟩ := hH S1 hO
    have el : l = 8 := by omega
    subst el
    refine ⟨S1, ?_, hO, hk⟩
    rw [f_X3_leastOf_3, if_pos (show (8 : Int32) ≤ nI 8 by decide)]
    exact le55 (hO.wr hW) hk hv hn8 c1'.1 c1'.2.2.1 c1'.2.2.2.2.2.2.2.2.1 c2' hm (2 ^ nl) 0 fu none (by omega) (by unfold fu; omega) (fun j hj => nomatch hj)
  | d + 1, l, nn + 1, S1, hO, hk, hl, hn => by
    have hW1 := hO.wr hW
    obtain ⟨c1', c2'⟩ := hH S1 hO
    have hR := c1'.2.2.2.2.2.2.2.2.1
    rw [f_X3_leastOf_3, if_neg (show ¬ (8 : Int32) ≤ nI l from nI_ge (b := 8) (by omega) (by omega)), r_247_2 hW1, xR_s c1'.1, c1'.2.2.1, c1_s hR.1, hR.has (by omega), c2', b1_s]
    unfold f_X3_leastOf_42
    rw [nI_1]
    by_cases q : l < nl
    · obtain ⟨S2, g1, g2, g3⟩ := hF l q S1 hO
      have hW2 := g2.wr hW1
      obtain ⟨S', k1, k2, k3⟩ := le3 hW hv hn8 hH hF hm d (l + 1) nn (sI S2 267 l (if kv l < FARN then nI (kv l) else -1)) ((hO.tr g2).tr (of_I.ra (by decide) (by decide))) (fun j hj => by
        rw [sI_at]
        by_cases z : j = l
        · rw [if_pos z, z, if_pos q]
        · rw [if_neg z, g3]
          exact hk j (by omega)) (by omega) (by omega)
      refine ⟨S', ?_, k2, k3⟩
      rw [if_pos q, if_neg n10, kk_247 hW1, g1, b2_s, q_267 hW2 (by omega), k1]
    · obtain ⟨S', k1, k2, k3⟩ := le3 hW hv hn8 hH hF hm d (l + 1) nn (sI S1 267 l (-1)) (hO.tr (of_I.ra (by decide) (by decide))) (fun j hj => by
        rw [sI_at]
        by_cases z : j = l
        · rw [if_pos z, z, if_neg q]
        · rw [if_neg z]
          exact hk j (by omega)) (by omega) (by omega)
      refine ⟨S', ?_, k2, k3⟩
      rw [if_neg q, if_pos rfl, q_267 hW1 (by omega), k1]
/-! the reference -/
theorem cntM_l {a : Nat} (ha : a < 1024) : ∀ (d l nn : Nat) (x : Int32), l + d = 8 → d < nn → f_X12_countOf_4 313 S nn (nI a) x (nI l) = some (countS (bt a) d l x)
  | _, _, 0, _, _, hn => absurd hn (Nat.not_lt_zero _)
  | 0, l, nn + 1, x, hl, _ => by
    rw [f_X12_countOf_4, if_pos (show (8 : Int32) ≤ nI l from nI_le (a := 8) (by omega) (by omega))]
    rfl
  | d + 1, l, nn + 1, x, hl, hn => by
    rw [f_X12_countOf_4, if_neg (show ¬ (8 : Int32) ≤ nI l from nI_ge (b := 8) (by omega) (by omega)), m_has, b1_s, has_k a ha l (by omega)]
    unfold f_X12_countOf_24
    rw [nI_1, cntM_l ha d (l + 1) nn _ (by omega) (by omega), cntM_l ha d (l + 1) nn _ (by omega) (by omega), Int32.add_zero]
    show _ = some (countS (bt a) d (l + 1) (if a.testBit l = true then x + 1 else x))
    cases a.testBit l <;> rfl
theorem cntM {a : Nat} (ha : a < 256) : f_X12_countOf 313 (nI a) S = some (nI (popN a)) := by
  rw [← pop8 ha, countN_S]
  exact cntM_l (by omega) 8 0 fu 0 (by omega) (by unfold fu; omega)
theorem le96 (hW : Wr S) (h27 : S.1 313 27 = nI nl) (hn8 : nl ≤ 8) (hv : Kv kv) (he : ∀ j, j < nl → S.1 334 j = nI (kv j)) {K : Int32 → Int32 → Int32 → Int32 → Int32 → GS → Option (Int32 × GS)} {x5 : Int32} {m : Nat} (hm : m < 2 ^ 31) {a : Nat} (ha : a < 2 ^ nl) {bb : Option Nat} (hbb : ∀ j, bb = some j → ksN kv j < FARN) : ∀ (d l nn : Nat), l + d = nl → d < nn → f_X12_least_96 K 313 nn (nI m) x5 (deepV bb) (nI (vF (ksN kv) bb)) (nI a) (nI (sumN (cutN (bt a) kv) l)) (nI l) S = K (nI m) x5 (deepV (if popN a = m ∧ ksN kv a < vF (ksN kv) bb then some a else bb)) (nI (vF (ksN kv) (if popN a = m ∧ ksN kv a < vF (ksN kv) bb then some a else bb))) (nI (a + 1)) S
  | _, _, 0, _, hn => absurd hn (Nat.not_lt_zero _)
  | 0, l, nn + 1, hl, _ => by
    have hp : 2 ^ nl ≤ 2 ^ 8 := Nat.pow_le_pow_right (by decide) hn8
    have el : l = nl := by omega
    subst el
    have hks : ksN kv a ≤ 1000000 * 8 := cut_bb hv a 8
    have hpop : popN a ≤ 10 := by
      have := popN_le (a := a) (np := l) ha (by omega)
      omega
    have hvb : vF (ksN kv) bb ≤ 1000000 := by
      cases bb with
      | none => exact Nat.le_refl _
      | some j => exact Nat.le_of_lt (hbb j rfl)
    have es : sumN (cutN (bt a) kv) l = ksN kv a := by
      have g : ∀ e, l + e ≤ 8 → sumN (cutN (bt a) kv) (l + e) = sumN (cutN (bt a) kv) l := by
        intro e
        induction e with
        | zero => intro _; rfl
        | succ e ih =>
          intro he
          have hz : cutN (bt a) kv (l + e) = 0 := if_neg (by
            rw [show bt a (l + e) = false from Nat.testBit_lt_two_pow (Nat.lt_of_lt_of_le ha (Nat.pow_le_pow_right (by decide) (by omega)))]
            exact Bool.false_ne_true)
          show sumN (cutN (bt a) kv) (l + e) + cutN (bt a) kv (l + e) = _
          rw [hz, ih (by omega), Nat.add_zero]
      have := g (8 - l) (by omega)
      rw [show l + (8 - l) = 8 by omega] at this
      exact this.symm
    rw [f_X12_least_96, i_313 hW, h27, if_pos (nI_le (Nat.le_refl _) (by omega)), k_313 hW, cntM (by omega), b1_s, es]
    unfold f_X12_least_164 f_X12_least_165 f_X12_least_179 f_X12_least_193
    rw [nI_1]
    by_cases q : popN a = m
    · rw [if_pos (by rw [q])]
      by_cases z : ksN kv a < vF (ksN kv) bb
      · rw [if_neg (nI_ge z (by omega)), if_neg n10, if_neg n10, if_pos ⟨q, z⟩]
        rfl
      · rw [if_pos (nI_le (by omega) (by omega)), if_pos rfl, if_pos rfl, if_neg (fun x => z x.2)]
    · rw [if_neg (by rw [nI_eq (by omega) hm]; exact q), if_pos rfl, if_pos rfl, if_neg (fun x => q x.1)]
  | d + 1, l, nn + 1, hl, hn => by
    have hp : 2 ^ nl ≤ 2 ^ 8 := Nat.pow_le_pow_right (by decide) hn8
    have ih := le96 hW h27 hn8 hv he (K := K) (x5 := x5) hm ha hbb d (l + 1) nn (by omega) (by omega)
    have e : sumN (cutN (bt a) kv) (l + 1) = sumN (cutN (bt a) kv) l + (if bt a l = true then kv l else 0) := rfl
    have hkl := (hv l).1
    rw [e] at ih
    rw [f_X12_least_96, i_313 hW, h27, if_neg (nI_ge (by omega) (by omega)), m_has, b1_s, has_k a (by omega) l (by omega)]
    unfold f_X12_least_134
    rw [nI_1]
    cases hb : a.testBit l
    · rw [show bt a l = false from hb, if_neg Bool.false_ne_true] at ih
      rw [if_pos (show bi false = 0 from rfl), Int32.add_zero]
      exact ih
    · rw [show bt a l = true from hb, if_pos rfl] at ih
      rw [if_neg (show ¬ bi true = 0 by decide), r_313_47 hW, y_334 hW (by omega), he l (by omega), m_lesser, b1_s, show jmin 1000000 (nI (kv l)) = nI (kv l) from by
        rw [show (1000000 : Int32) = nI 1000000 from rfl, jmin_n (by decide) (by omega)]
        split
        · rfl
        · rw [show kv l = 1000000 by omega], nI_add]
      exact ih
theorem le79 (hW : Wr S) (h27 : S.1 313 27 = nI nl) (hn8 : nl ≤ 8) (hv : Kv kv) (he : ∀ j, j < nl → S.1 334 j = nI (kv j)) {x5 : Int32} {m : Nat} (hm : m < 2 ^ 31) : ∀ (d a nn : Nat) (bb : Option Nat), a + d = 2 ^ nl → d < nn → (∀ j, bb = some j → j < 2 ^ nl ∧ ksN kv j < FARN) → f_X12_least_79 313 nn (nI m) x5 (deepV bb) (nI (vF (ksN kv) bb)) (nI a) S = some (match leS kv m d a bb with
    | none => -1
    | some j => if x5 = 0 then nI (ksN kv j) else nI j, S)
  | _, _, 0, _, _, hn, _ => absurd hn (Nat.not_lt_zero _)
  | 0, a, nn + 1, bb, ha, _, hb => by
    have hp : 2 ^ nl ≤ 2 ^ 8 := Nat.pow_le_pow_right (by decide) hn8
    rw [f_X12_least_79, i_313 hW, h27, shl_k nl (by omega), if_pos (nI_le (by omega) (by omega))]
    cases bb with
    | none => rw [if_pos (show deepV none = -1 from rfl)]; rfl
    | some j =>
      have := hb j rfl
      rw [if_neg (show ¬ deepV (some j) = -1 from nI_neg1 j (by omega))]
      show (if x5 = 0 then some (nI (ksN kv j), S) else some (nI j, S)) = some (if x5 = 0 then nI (ksN kv j) else nI j, S)
      split <;> rfl
  | d + 1, a, nn + 1, bb, ha, hn, hb => by
    have hp : 2 ^ nl ≤ 2 ^ 8 := Nat.pow_le_pow_right (by decide) hn8
    rw [f_X12_least_79, i_313 hW, h27, shl_k nl (by omega), if_neg (nI_ge (by omega) (by omega)), show f_X12_least_96 (f_X12_least_79 313 nn) 313 fu (nI m) x5 (deepV bb) (nI (vF (ksN kv) bb)) (nI a) 0 0 S = _ from le96 hW h27 hn8 hv he (K := f_X12_least_79 313 nn) hm (a := a) (by omega) (fun j hj => (hb j hj).2) nl 0 fu (by omega) (by unfold fu; omega), le79 hW h27 hn8 hv he hm d (a + 1) nn _ (by omega) (by omega) (fun j hj => by
      by_cases q : popN a = m ∧ ksN kv a < vF (ksN kv) bb
      · rw [if_pos q] at hj
        cases hj
        refine ⟨by omega, ?_⟩
        cases bb with
        | none => exact q.2
        | some x => exact Nat.lt_trans q.2 (hb x rfl).2
      · rw [if_neg q] at hj
        exact hb j hj)]
    rfl
theorem le38 {T0 : GS} (hn8 : nl ≤ 8) (hv : Kv kv) (hH : ∀ T', Of2 333 334 T0 T' → Wr T' ∧ T'.1 313 27 = nI nl) (hF : ∀ l, l < nl → ∀ T', Of2 333 334 T0 T' → ∃ T'', f_X12_knotsOf 313 (nI l) x4 T' = some (nI (kv l), T'') ∧ Of 333 T' T'') {x5 : Int32} {m : Nat} (hm : m < 2 ^ 31) : ∀ (d l nn : Nat) (T1 : GS), Of2 333 334 T0 T1 → (∀ j, j < l → T1.1 334 j = nI (kv j)) → l + d = nl → d < nn → ∃ T', f_X12_least_38 313 nn (nI m) x4 x5 (nI l) T1 = some (match leS kv m (2 ^ nl) 0 none with
    | none => -1
    | some j => if x5 = 0 then nI (ksN kv j) else nI j, T') ∧ Of2 333 334 T0 T'
  | _, _, 0, _, _, _, _, hn => absurd hn (Nat.not_lt_zero _)
  | 0, l, nn + 1, T1, hO, he, hl, _ => by
    have hp : 2 ^ nl ≤ 2 ^ 8 := Nat.pow_le_pow_right (by decide) hn8
    obtain ⟨hW, h27⟩ := hH T1 hO
    refine ⟨T1, ?_, hO⟩
    rw [f_X12_least_38, i_313 hW, h27, if_pos (nI_le (by omega) (by omega))]
    exact le79 hW h27 hn8 hv (fun j hj => he j (by omega)) hm (2 ^ nl) 0 fu none (by omega) (by unfold fu; omega) (fun j hj => nomatch hj)
  | d + 1, l, nn + 1, T1, hO, he, hl, hn => by
    obtain ⟨hW, h27⟩ := hH T1 hO
    obtain ⟨T2, g1, g2⟩ := hF l (by omega) T1 hO
    have hW2 := g2.wr hW
    obtain ⟨T', k1, k2⟩ := le38 hn8 hv hH hF (x5 := x5) hm d (l + 1) nn (sI T2 334 l (nI (kv l))) ((hO.tr g2.o1).tr of_I.o2) (fun j hj => by
      rw [sI_at]
      by_cases z : j = l
      · rw [if_pos z, z]
      · rw [if_neg z, g2.2 334 (by decide)]
        exact he j (by omega)) (by omega) (by omega)
    refine ⟨T', ?_, k2⟩
    rw [f_X12_least_38, i_313 hW, h27, if_neg (nI_ge (by omega) (by omega)), r_313_47 hW, kk_313 hW, g1, b2_s, q_334 hW2 (by omega), nI_1, k1]
end LF2
