/-! ways: the reference -/
section WM
variable {S S' : GS} {o b k l co : Nat} {c : Int32}
/-- the sight's rows hold what they may -/
def Sv (S : GS) (b n : Nat) : Prop := ∀ j, j < n → (S.1 322 (b + 2 + (3 * j + 0)) = nI (laI S b j) ∧ laI S b j ≤ 7) ∧ (S.1 322 (b + 2 + (3 * j + 1)) = nI (miI S b j) ∧ 1 ≤ miI S b j ∧ miI S b j ≤ 16) ∧ (S.1 322 (b + 2 + (3 * j + 2)) = 0 ∨ S.1 322 (b + 2 + (3 * j + 2)) = 1)
/-- court and sight in the reference's hand -/
def Mw (S : GS) (c k ns nl : Nat) : Prop := Mc S c ∧ k < 2 ∧ S.1 313 51 = nI k ∧ S.1 322 (122 * k) = nI ns ∧ ns ≤ 20 ∧ nl ≤ 8 ∧ S.1 319 (69 * c + 1) = nI nl ∧ Sv S (122 * k) ns ∧ ∀ l, l < nl → ∃ bu fa he la, Lm S c l bu fa he la
theorem OfL.mw {c k ns nl : Nat} (h : OfL S S') (hM : Mw S c k ns nl) : Mw S' c k ns nl := by
  obtain ⟨h1, h2, h3, h4, h5, h6, h7, h8, h9⟩ := hM
  refine ⟨h.mc h1, h2, by rw [h.1]; exact h3, by rw [h.1]; exact h4, h5, h6, by rw [h.1]; exact h7, ?_, fun l hl => ?_⟩
  · unfold Sv laI miI
    rw [h.1]
    exact h8
  · obtain ⟨bu, fa, he, la, hL⟩ := h9 l hl
    exact ⟨bu, fa, he, la, h.lm hL⟩
theorem fits_l {c k ns nl : Nat} (hM : Mw S c k ns nl) (hin : ∀ j, j < ns → laI S (122 * k) j < nl) {i m : Nat} (hi : i < 2 ^ 31) : ∀ (d j n : Nat), j + d = ns → d < n → f_X12_fits_5 313 S n (nI i) (nI m) (bi (alP (seP S (122 * k) (69 * c) i m) j)) (nI j) = some (bi (ftP S (122 * k) (69 * c) ns i m))
  | _, _, 0, _, hn => absurd hn (Nat.not_lt_zero _)
  | 0, j, n + 1, hj, _ => by
    obtain ⟨h1, h2, h3, h4, h5, h6, h7, h8, h9⟩ := hM
    unfold ftP
    rw [f_X12_fits_5, k_313 h1.1, seenMany_v h1.1 h2 h3, b1_s, h4, if_pos (nI_le (by omega) (by omega)), bi_tz, show j = ns by omega]
  | d + 1, j, n + 1, hj, hn => by
    have ih := fits_l hM hin (i := i) (m := m) hi d (j + 1) n (by omega) (by omega)
    obtain ⟨h1, h2, h3, h4, h5, h6, h7, h8, h9⟩ := hM
    have hW := h1.1
    obtain ⟨⟨a1, a2⟩, ⟨a3, a4, a5⟩, a6⟩ := h8 j (by omega)
    obtain ⟨bu, fa, he, la, hLm⟩ := h9 _ (hin j (by omega))
    have eal : alP (seP S (122 * k) (69 * c) i m) (j + 1) = (alP (seP S (122 * k) (69 * c) i m) j && seP S (122 * k) (69 * c) i m j) := rfl
    rw [eal] at ih
    have hq : seP S (122 * k) (69 * c) i m j = (!decide (miI S (122 * k) j = i) || (sd bu fa he la (nI m) == decide (S.1 322 (122 * k + 2 + (3 * j + 2)) = 0))) := by
      unfold seP
      rw [hLm.st]
    rw [f_X12_fits_5, k_313 hW, seenMany_v hW h2 h3, b1_s, h4, if_neg (nI_ge (by omega) (by omega)), k_313 hW, seenOf_v (l := j) (x := nI j) (c := 0) hW h2 h3 rfl (i := 0) rfl (by omega) (by decide), b1_s, a1]
    unfold f_X12_fits_67 f_X12_fits_70 f_X12_fits_74 f_X12_fits_75
    rw [nI_1]
    cases hx : alP (seP S (122 * k) (69 * c) i m) j
    · rw [hx, Bool.false_and] at ih
      rw [if_pos (show bi false = 0 from rfl)]
      exact ih
    · rw [hx, Bool.true_and] at ih
      rw [if_neg (show ¬ bi true = 0 by decide), k_313 hW, seenOf_v (l := j) (x := nI j) (c := 1) hW h2 h3 rfl (i := 1) rfl (by omega) (by decide), b1_s, a3]
      by_cases q : miI S (122 * k) j = i
      · rw [decide_eq_true q, Bool.not_true, Bool.false_or] at hq
        rw [if_pos (by rw [q]), k_313 hW, hLm.lace h1, b1_s, k_313 hW, hLm.stands h1, b1_s, k_313 hW, seenOf_v (l := j) (x := nI j) (c := 2) hW h2 h3 rfl (i := 2) rfl (by omega) (by decide), b1_s]
        rcases a6 with a6 | a6
        · rw [a6, decide_eq_true rfl] at hq
          rw [a6, if_pos rfl]
          cases hs : sd bu fa he la (nI m)
          · rw [hs] at hq
            rw [hq] at ih
            rw [if_neg (show ¬ bi false = 1 by decide)]
            exact ih
          · rw [hs] at hq
            rw [hq] at ih
            rw [if_pos (show bi true = 1 from rfl)]
            exact ih
        · rw [a6, decide_eq_false (by decide)] at hq
          rw [a6, if_neg (by decide)]
          cases hs : sd bu fa he la (nI m)
          · rw [hs] at hq
            rw [hq] at ih
            rw [if_pos (show bi false = 0 from rfl)]
            exact ih
          · rw [hs] at hq
            rw [hq] at ih
            rw [if_neg (show ¬ bi true = 0 by decide)]
            exact ih
      · rw [decide_eq_false q, Bool.not_false, Bool.true_or] at hq
        rw [hq] at ih
        rw [if_neg (by rw [nI_eq (by omega) hi]; exact q)]
        exact ih
theorem fitsM {c k ns nl : Nat} (hM : Mw S c k ns nl) (hin : ∀ j, j < ns → laI S (122 * k) j < nl) {i m : Nat} (hi : i < 2 ^ 31) : f_X12_fits 313 (nI i) (nI m) S = some (bi (ftP S (122 * k) (69 * c) ns i m)) :=
  fits_l hM hin hi ns 0 fu (by omega) (by have := hM.2.2.2.2.1; unfold fu; omega)
/-- a row of longs -/
def Nl (S : GS) (a i : Nat) (F : Nat → Nat) : Prop := ∀ j, j < 41 → S.2.1 a (41 * i + j) = lN (F j)
theorem lo_k : ∀ m, m < 41 → jmax 0 (nI m - 1) = nI (m - 1) ∧ jmin 40 (nI m + 1) = nI (min 40 (m + 1)) := by decide +kernel
theorem ix41 (i m : Nat) : (41 : Int32) * nI i + nI m = nI (41 * i + m) := by
  rw [← nI_add, ← nI_mul]
  rfl
/-- what counts of a row -/
def Ctw (S : GS) (x4 : Int32) (F G : Nat → Nat) : Prop := (x4 = -1 ∧ ∀ j, G j = F j) ∨ ∃ (i : Nat) (ft : Nat → Bool), x4 = nI i ∧ i < 100 ∧ ∀ j, j < 41 → f_X12_fits 313 x4 (nI j) S = some (bi (ft j)) ∧ G j = if ft j = true then F j else 0
theorem ar_s {a i m : Nat} {F G : Nat → Nat} {x4 : Int32} (hW : Wr S) (hg : gk S a = 15) (hl : ln a = 697) (hi : i < 17) (hF : Nl S a i F) (hC : Ctw S x4 F G) (hm : m < 41) {t n : Nat} (ht : t < 41) (h1 : t ≤ m + 1) (x : Nat) : f_X12_around_12 313 S (n + 1) (some a) (nI i) (nI m) x4 (lN x) (nI t) = f_X12_around_12 313 S n (some a) (nI i) (nI m) x4 (lN (x + G t)) (nI (t + 1)) := by
  rw [f_X12_around_12, m_lesser, b1_s, (lo_k m hm).2, if_neg (nI_nlt (by omega) (by omega))]
  unfold f_X12_around_44 f_X12_around_57
  rw [ix41, yJ_n hg (by rw [hl]; omega) (by omega), hF t ht, lN_add, nI_1]
  rcases hC with ⟨rfl, hG⟩ | ⟨i', ft, rfl, hi', hG⟩
  · rw [if_pos rfl, hG]
  · obtain ⟨g1, g2⟩ := hG t ht
    rw [if_neg (nI_neg1 i' (by omega)), k_313 hW, g1, b1_s, g2]
    cases ft t
    · rw [if_pos (show bi false = 0 from rfl), if_neg Bool.false_ne_true, Int64.add_zero]
      rfl
    · rw [if_neg (show ¬ bi true = 0 by decide), if_pos rfl]
theorem ar_e {a : Option Nat} {i x4 : Int32} {m n : Nat} (x : Int64) (hm : m < 41) {t : Nat} (ht : min 40 (m + 1) < t) (h2 : t < 100) : f_X12_around_12 313 S (n + 1) a i (nI m) x4 x (nI t) = some x := by
  rw [f_X12_around_12, m_lesser, b1_s, (lo_k m hm).2, if_pos (nI_lt ht (by omega))]
theorem aroundM {a i m : Nat} {F G : Nat → Nat} {x4 : Int32} (hW : Wr S) (hg : gk S a = 15) (hl : ln a = 697) (hi : i < 17) (hF : Nl S a i F) (hC : Ctw S x4 F G) (hm : m < 41) : f_X12_around 313 (some a) (nI i) (nI m) x4 S = some (lN (nearN G m)) := by
  unfold f_X12_around nearN
  rw [m_greater, b1_s, (lo_k m hm).1]
  show f_X12_around_12 313 S (4092 + 1 + 1 + 1 + 1) (some a) (nI i) (nI m) x4 (lN 0) (nI (m - 1)) = _
  rw [ar_s hW hg hl hi hF hC hm (by omega) (by omega), Nat.zero_add]
  by_cases q : m = 0
  · subst q
    rw [ar_s hW hg hl hi hF hC hm (by decide) (by decide), ar_e _ hm (by decide) (by decide), if_pos rfl]
  · rw [if_neg q, show m - 1 + 1 = m by omega, ar_s hW hg hl hi hF hC hm hm (by omega)]
    by_cases z : m = 40
    · subst z
      rw [if_pos rfl, ar_e _ hm (by decide) (by decide)]
    · rw [if_neg z, ar_s hW hg hl hi hF hC hm (by omega) (by omega), ar_e _ hm (by omega) (by omega)]
/-- one row of longs alone is written -/
def OfJr (a i : Nat) (S S' : GS) : Prop := OfJ a S S' ∧ ∀ x, x < 41 * i ∨ 41 * i + 41 ≤ x → S'.2.1 a x = S.2.1 a x
theorem OfJr.rf (a i : Nat) (S : GS) : OfJr a i S S := ⟨OfJ.rf _ _, fun _ _ => rfl⟩
theorem OfJr.tr {a i : Nat} {S S1 S2 : GS} (h : OfJr a i S S1) (h2 : OfJr a i S1 S2) : OfJr a i S S2 := ⟨h.1.tr h2.1, fun x q => (h2.2 x q).trans (h.2 x q)⟩
theorem ofJr_J {a i m : Nat} {v : Int64} (hm : m < 41) : OfJr a i S (sJ S a (41 * i + m) v) := ⟨ofJ_J, fun x q => by rw [sJ_at, if_neg (by omega)]⟩
theorem lay133 {c k ns nl : Nat} {K : Int32 → GS → Option (Int32 × GS)} {i : Nat} (hi : i < 16) {F : Nat → Nat} {ft : Nat → Nat → Bool} (hft : ∀ S', Mw S' c k ns nl → OfL S S' → ∀ m, m < 41 → f_X12_fits 313 (nI (i + 1)) (nI m) S' = some (bi (ft (i + 1) m))) : ∀ (d m n : Nat) (S1 : GS), Mw S1 c k ns nl → OfL S S1 → Nl S1 337 i F → (∀ j, j < m → S1.2.1 337 (41 * (i + 1) + j) = lN (if ft (i + 1) j = true then nearN F j else 0)) → m + d = 41 → d < n → ∃ S', f_X12_laySight_133 K 313 n (nI (i + 1)) (nI m) S1 = K (nI (i + 2)) S' ∧ OfJr 337 (i + 1) S1 S' ∧ Nl S' 337 (i + 1) (fun j => if ft (i + 1) j = true then nearN F j else 0)
  | _, _, 0, _, _, _, _, _, _, hn => absurd hn (Nat.not_lt_zero _)
  | 0, m, n + 1, S1, hM, hO, h1, h2, hm, _ => by
    refine ⟨S1, ?_, OfJr.rf _ _ _, fun j hj => h2 j (by omega)⟩
    rw [f_X12_laySight_133, if_pos (show (40 : Int32) < nI m from nI_lt (a := 40) (by omega) (by omega)), nI_1]
  | d + 1, m, n + 1, S1, hM, hO, h1, h2, hm, hn => by
    have hW := hM.1.1
    generalize hS2 : sJ S1 337 (41 * (i + 1) + m) (lN (if ft (i + 1) m = true then nearN F m else 0)) = S2
    have o1 : OfJr 337 (i + 1) S1 S2 := by rw [← hS2]; exact ofJr_J (by omega)
    obtain ⟨S', k1, k2, k3⟩ := lay133 hi hft (K := K) d (m + 1) n S2 (o1.1.l.mw hM) (hO.tr o1.1.l) (by intro j hj; rw [o1.2 _ (by omega)]; exact h1 j hj) (fun j hj => by
      rw [← hS2, sJ_at]
      by_cases q : j = m
      · rw [q, if_pos rfl]
      · rw [if_neg (by omega)]
        exact h2 j (by omega)) (by omega) (by omega)
    refine ⟨S', ?_, o1.tr k2, k3⟩
    rw [f_X12_laySight_133, if_neg (show ¬ (40 : Int32) < nI m from nI_nlt (a := 40) (by omega) (by omega)), r_313_53 hW, k_313 hW, hft S1 hM hO m (by omega), b1_s]
    unfold f_X12_laySight_179
    rw [ix41, q_337 hW (by omega), nI_1]
    cases hf : ft (i + 1) m
    · rw [hf, if_neg Bool.false_ne_true] at hS2
      rw [if_pos (show bi false = 0 from rfl), show (0 : Int64) = lN 0 from rfl, hS2, k1]
    · rw [hf, if_pos rfl] at hS2
      rw [if_neg (show ¬ bi true = 0 by decide), r_313_53 hW, k_313 hW, nI_pred, aroundM hW (gk_n hW (by decide) rfl) rfl (by omega) h1 (Or.inl ⟨rfl, fun j => rfl⟩) (by omega), b1_s, q_337 hW (by omega), hS2, k1]
theorem lay206 {c k ns nl : Nat} {K : Int32 → GS → Option (Int32 × GS)} {i : Nat} (hi : i < 16) {F : Nat → Nat} {ft : Nat → Nat → Bool} (hft : ∀ S', Mw S' c k ns nl → OfL S S' → ∀ m, m < 41 → f_X12_fits 313 (nI (i + 1)) (nI m) S' = some (bi (ft (i + 1) m))) : ∀ (d m n : Nat) (S1 : GS), Mw S1 c k ns nl → OfL S S1 → Nl S1 338 (i + 1) F → (∀ j, j < m → S1.2.1 338 (41 * i + j) = lN (nearN (fun m => if ft (i + 1) m = true then F m else 0) j)) → m + d = 41 → d < n → ∃ S', f_X12_laySight_206 K 313 n (nI i) (nI m) S1 = K (nI i + (-1)) S' ∧ OfJr 338 i S1 S' ∧ Nl S' 338 i (nearN (fun m => if ft (i + 1) m = true then F m else 0))
  | _, _, 0, _, _, _, _, _, _, hn => absurd hn (Nat.not_lt_zero _)
  | 0, m, n + 1, S1, hM, hO, h1, h2, hm, _ => by
    refine ⟨S1, ?_, OfJr.rf _ _ _, fun j hj => h2 j (by omega)⟩
    rw [f_X12_laySight_206, if_pos (show (40 : Int32) < nI m from nI_lt (a := 40) (by omega) (by omega))]
  | d + 1, m, n + 1, S1, hM, hO, h1, h2, hm, hn => by
    have hW := hM.1.1
    generalize hS2 : sJ S1 338 (41 * i + m) (lN (nearN (fun m => if ft (i + 1) m = true then F m else 0) m)) = S2
    have o1 : OfJr 338 i S1 S2 := by rw [← hS2]; exact ofJr_J (by omega)
    obtain ⟨S', k1, k2, k3⟩ := lay206 hi hft (K := K) d (m + 1) n S2 (o1.1.l.mw hM) (hO.tr o1.1.l) (by intro j hj; rw [o1.2 _ (by omega)]; exact h1 j hj) (fun j hj => by
      rw [← hS2, sJ_at]
      by_cases q : j = m
      · rw [q, if_pos rfl]
      · rw [if_neg (by omega)]
        exact h2 j (by omega)) (by omega) (by omega)
    refine ⟨S', ?_, o1.tr k2, k3⟩
    rw [f_X12_laySight_206, if_neg (show ¬ (40 : Int32) < nI m from nI_nlt (a := 40) (by omega) (by omega)), r_313_54 hW, r_313_54 hW, k_313 hW, nI_1, aroundM hW (gk_n hW (by decide) rfl) rfl (by omega) h1 (Or.inr ⟨i + 1, fun j => ft (i + 1) j, rfl, by omega, fun j hj => ⟨hft S1 hM hO j hj, rfl⟩⟩) (by omega), b1_s, ix41, q_338 hW (by omega), hS2, nI_1, k1]
theorem lay199 {c k ns nl : Nat} {ft : Nat → Nat → Bool} {L : Nat} (hL : L ≤ 16) (hft : ∀ S', Mw S' c k ns nl → OfL S S' → ∀ i m, i ≤ 16 → m < 41 → f_X12_fits 313 (nI i) (nI m) S' = some (bi (ft i m))) : ∀ (x n : Nat) (S1 : GS), Mw S1 c k ns nl → OfL S S1 → (∀ i, x ≤ i → i ≤ L → Nl S1 338 i (onN ft L (L - i))) → x ≤ L → x < n → ∃ S', f_X12_laySight_199 313 n (nI x - 1) S1 = some (1, S') ∧ OfJ 338 S1 S' ∧ ∀ i, i ≤ L → Nl S' 338 i (onN ft L (L - i))
  | _, 0, _, _, _, _, _, hn => absurd hn (Nat.not_lt_zero _)
  | 0, n + 1, S1, hM, hO, h1, hx, _ => by
    refine ⟨S1, ?_, OfJ.rf _ _, fun i hi => h1 i (Nat.zero_le i) hi⟩
    rw [f_X12_laySight_199, if_pos (by decide)]
  | x + 1, n + 1, S1, hM, hO, h1, hx, hn => by
    obtain ⟨S2, g1, g2, g3⟩ := lay206 (i := x) (by omega) (ft := ft) (fun S' a b m hm => hft S' a b (x + 1) m (by omega) hm) (K := f_X12_laySight_199 313 n) 41 0 fu S1 hM hO (h1 (x + 1) (Nat.le_refl _) hx) (fun j hj => absurd hj (Nat.not_lt_zero _)) (by omega) (by unfold fu; omega)
    have eo : onN ft L (L - x) = nearN (fun m => if ft (x + 1) m = true then onN ft L (L - (x + 1)) m else 0) := by
      rw [show L - x = (L - (x + 1)) + 1 by omega]
      show nearN (fun m => if ft (L - (L - (x + 1))) m = true then onN ft L (L - (x + 1)) m else 0) = _
      rw [show L - (L - (x + 1)) = x + 1 by omega]
    obtain ⟨S', k1, k2, k3⟩ := lay199 hL hft x n S2 (g2.1.l.mw hM) (hO.tr g2.1.l) (fun i hi hi2 => by
      by_cases q : i = x
      · rw [q, eo]
        exact g3
      · intro j hj
        rw [g2.2 _ (by omega)]
        exact h1 i (by omega) hi2 j hj) (by omega) (by omega)
    refine ⟨S', ?_, g2.1.tr k2, k3⟩
    rw [nI_pred, f_X12_laySight_199, if_neg (nI_pos (by omega)), show f_X12_laySight_206 (f_X12_laySight_199 313 n) 313 fu (nI x) 0 S1 = _ from g1, show nI x + (-1) = nI x - 1 from (Int32.sub_eq_add_neg _ _).symm, k1]
theorem lay122 {c k ns nl : Nat} {ft : Nat → Nat → Bool} {gl L : Nat} (hL : L ≤ 16) (hft : ∀ S', Mw S' c k ns nl → OfL S S' → ∀ i m, i ≤ 16 → m < 41 → f_X12_fits 313 (nI i) (nI m) S' = some (bi (ft i m))) (h52 : S.1 313 52 = nI L) : ∀ (d i n : Nat) (S1 : GS), Mw S1 c k ns nl → OfL S S1 → (∀ j, j ≤ i → Nl S1 337 j (aN ft gl j)) → Nl S1 338 L (fun _ => 1) → i + d = L → d < n → ∃ S', f_X12_laySight_122 313 n (nI (i + 1)) S1 = some (1, S') ∧ OfL S1 S' ∧ (∀ j, j ≤ L → Nl S' 337 j (aN ft gl j)) ∧ ∀ j, j ≤ L → Nl S' 338 j (onN ft L (L - j))
  | _, _, 0, _, _, _, _, _, _, hn => absurd hn (Nat.not_lt_zero _)
  | 0, i, n + 1, S1, hM, hO, h1, h2, hi, _ => by
    have e52 : S1.1 313 52 = nI L := by rw [hO.1]; exact h52
    obtain ⟨S', k1, k2, k3⟩ := lay199 hL hft L fu S1 hM hO (fun j hj hj2 => by
      rw [show j = L by omega, Nat.sub_self]
      exact h2) (Nat.le_refl L) (by unfold fu; omega)
    refine ⟨S', ?_, k2.l, fun j hj m hm => ?_, k3⟩
    · rw [f_X12_laySight_122, i_313 hM.1.1, e52, if_pos (nI_lt (by omega) (by omega)), i_313 hM.1.1, e52, k1]
    · rw [k2.2.2 337 (by decide)]
      exact h1 j (by omega) m hm
  | d + 1, i, n + 1, S1, hM, hO, h1, h2, hi, hn => by
    have e52 : S1.1 313 52 = nI L := by rw [hO.1]; exact h52
    obtain ⟨S2, g1, g2, g3⟩ := lay133 (i := i) (by omega) (ft := ft) (F := aN ft gl i) (fun S' a b m hm => hft S' a b (i + 1) m (by omega) hm) (K := f_X12_laySight_122 313 n) 41 0 fu S1 hM hO (h1 i (Nat.le_refl i)) (fun j hj => absurd hj (Nat.not_lt_zero _)) (by omega) (by unfold fu; omega)
    obtain ⟨S', k1, k2, k3, k4⟩ := lay122 hL hft h52 d (i + 1) n S2 (g2.1.l.mw hM) (hO.tr g2.1.l) (fun j hj => by
      by_cases q : j = i + 1
      · rw [q]
        exact g3
      · intro m hm
        rw [g2.2 _ (by omega)]
        exact h1 j (by omega) m hm) (by intro j hj; rw [g2.1.2.2 338 (by decide)]; exact h2 j hj) (by omega) (by omega)
    refine ⟨S', ?_, g2.1.l.tr k2, k3, k4⟩
    rw [f_X12_laySight_122, i_313 hM.1.1, e52, if_neg (nI_nlt (by omega) (by omega)), show f_X12_laySight_133 (f_X12_laySight_122 313 n) 313 fu (nI (i + 1)) 0 S1 = _ from g1, k1]
theorem lay73 {c k ns nl : Nat} {ft : Nat → Nat → Bool} {gl L : Nat} (hL : L ≤ 16) (hgl : gl ≤ 40) (hft : ∀ S', Mw S' c k ns nl → OfL S S' → ∀ i m, i ≤ 16 → m < 41 → f_X12_fits 313 (nI i) (nI m) S' = some (bi (ft i m))) (h52 : S.1 313 52 = nI L) (hg : S.1 319 (69 * c + 5) = nI gl) : ∀ (d m n : Nat) (S1 : GS), Mw S1 c k ns nl → OfL S S1 → (∀ j, j < m → S1.2.1 337 j = lN (st0 gl j) ∧ S1.2.1 338 (41 * L + j) = lN 1) → m + d = 41 → d < n → ∃ S', f_X12_laySight_73 313 n (nI m) S1 = some (1, S') ∧ OfL S1 S' ∧ (∀ j, j ≤ L → Nl S' 337 j (aN ft gl j)) ∧ ∀ j, j ≤ L → Nl S' 338 j (onN ft L (L - j))
  | _, _, 0, _, _, _, _, _, hn => absurd hn (Nat.not_lt_zero _)
  | 0, m, n + 1, S1, hM, hO, h1, hm, _ => by
    obtain ⟨S', k1, k2, k3, k4⟩ := lay122 (gl := gl) hL hft h52 L 0 fu S1 hM hO (fun j hj => by
      rw [show j = 0 by omega]
      intro x hx
      rw [Nat.mul_zero, Nat.zero_add]
      exact (h1 x (by omega)).1) (fun j hj => (h1 j (by omega)).2) (by omega) (by unfold fu; omega)
    refine ⟨S', ?_, k2, k3, k4⟩
    rw [f_X12_laySight_73, if_pos (show (40 : Int32) < nI m from nI_lt (a := 40) (by omega) (by omega))]
    exact k1
  | d + 1, m, n + 1, S1, hM, hO, h1, hm, hn => by
    have hW := hM.1.1
    have e52 : S1.1 313 52 = nI L := by rw [hO.1]; exact h52
    generalize hS2 : sJ S1 337 m (lN (st0 gl m)) = S2
    have o2 : OfJ 337 S1 S2 := by rw [← hS2]; exact ofJ_J
    have hW2 := o2.wr hW
    generalize hS3 : sJ S2 338 (41 * L + m) 1 = S3
    have o3 : OfJ 338 S2 S3 := by rw [← hS3]; exact ofJ_J
    obtain ⟨S', k1, k2, k3, k4⟩ := lay73 hL hgl hft h52 hg d (m + 1) n S3 (o3.l.mw (o2.l.mw hM)) (hO.tr (o2.l.tr o3.l)) (fun j hj => by
      rw [o3.2.2 337 (by decide), ← hS3, sJ_at, ← hS2, sJ_at, sJ_o (by decide)]
      by_cases q : j = m
      · rw [q, if_pos rfl, if_pos rfl]
        exact ⟨rfl, rfl⟩
      · rw [if_neg q, if_neg (by omega)]
        exact h1 j (by omega)) (by omega) (by omega)
    refine ⟨S', ?_, o2.l.tr (o3.l.tr k2), k3, k4⟩
    have e98 : f_X12_laySight_98 (f_X12_laySight_73 313 n) 313 (nI m) (some 337) (nI m) (lN (st0 gl m)) S1 = some (1, S') := by
      unfold f_X12_laySight_98
      rw [q_337 hW (by omega), hS2, r_313_54 hW2, i_313 hW2, o2.1, e52, ix41, q_338 hW2 (by omega), hS3, nI_1, k1]
    rw [f_X12_laySight_73, if_neg (show ¬ (40 : Int32) < nI m from nI_nlt (a := 40) (by omega) (by omega)), r_313_53 hW, k_313 hW, hM.1.of 5 5 rfl (by decide), b1_s, hO.1, hg]
    by_cases q : m = gl
    · rw [show lN (st0 gl m) = 1 by unfold st0; rw [if_pos q]; rfl] at e98
      rw [if_pos (by rw [q]), e98]
    · rw [show lN (st0 gl m) = 0 by unfold st0; rw [if_neg q]; rfl] at e98
      rw [if_neg (by rw [nI_eq (by omega) (by omega)]; exact q), e98]
/-- the last minute alone is written -/
def Q52 (S S' : GS) : Prop := S'.2 = S.2 ∧ (∀ o, o ≠ 313 → S'.1 o = S.1 o) ∧ ∀ i, i ≠ 52 → S'.1 313 i = S.1 313 i
theorem Q52.rf (S : GS) : Q52 S S := ⟨rfl, fun _ _ => rfl, fun _ _ => rfl⟩
theorem Q52.tr {S S1 S2 : GS} (h : Q52 S S1) (h2 : Q52 S1 S2) : Q52 S S2 := ⟨h2.1.trans h.1, fun o q => (h2.2.1 o q).trans (h.2.1 o q), fun o q => (h2.2.2 o q).trans (h.2.2 o q)⟩
theorem q52_I {v : Int32} : Q52 S (sI S 313 52 v) := ⟨rfl, fun o q => of_I.2 o q, fun i q => by rw [sI_at, if_neg q]⟩
theorem Q52.sm (h : Q52 S S') : Sm S S' := ⟨by rw [h.1], fun o i _ => by rw [h.1], fun o q => h.2.1 o (fun e => by rw [e] at q; exact absurd q (by decide))⟩
theorem Q52.mw {c k ns nl : Nat} (h : Q52 S S') (hM : Mw S c k ns nl) : Mw S' c k ns nl := by
  obtain ⟨h1, h2, h3, h4, h5, h6, h7, h8, h9⟩ := hM
  obtain ⟨m1, m2, m3, m4, m5⟩ := h1
  have e319 := h.2.1 319 (by decide)
  have e322 := h.2.1 322 (by decide)
  refine ⟨⟨h.sm.wr m1, m2, by rw [h.2.2 25 (by decide)]; exact m3, by rw [h.2.2 26 (by decide), e319]; exact m4, by rw [h.2.2 27 (by decide), e319]; exact m5⟩, h2, by rw [h.2.2 51 (by decide)]; exact h3, by rw [e322]; exact h4, h5, h6, by rw [e319]; exact h7, ?_, fun l hl => ?_⟩
  · unfold Sv laI miI
    rw [e322]
    exact h8
  · obtain ⟨bu, fa, he, la, hL⟩ := h9 l hl
    exact ⟨bu, fa, he, la, hL.sm h.sm⟩
abbrev inP (S : GS) (b nl : Nat) : Nat → Bool := fun j => decide (laI S b j < nl)
theorem lay25 {c k ns nl : Nat} : ∀ (d j n : Nat) (S1 : GS), Mw S c k ns nl → Q52 S S1 → S1.1 313 52 = nI (laM S (122 * k) j) → alP (inP S (122 * k) nl) j = true → j + d = ns → d < n → ∃ S', Q52 S S' ∧ f_X12_laySight_25 313 n (nI j) S1 = (if alP (inP S (122 * k) nl) ns = true then f_X12_laySight_73 313 fu 0 S' else some (0, S')) ∧ (alP (inP S (122 * k) nl) ns = true → S'.1 313 52 = nI (laM S (122 * k) ns))
  | _, _, 0, _, _, _, _, _, _, hn => absurd hn (Nat.not_lt_zero _)
  | 0, j, n + 1, S1, hM, hQ, h52, ha, hj, _ => by
    obtain ⟨h1, h2, h3, h4, h5, h6, h7, h8, h9⟩ := hQ.mw hM
    have ej : j = ns := by omega
    subst ej
    refine ⟨S1, hQ, ?_, fun _ => h52⟩
    rw [f_X12_laySight_25, k_313 h1.1, seenMany_v h1.1 h2 h3, b1_s, h4, if_pos (nI_le (by omega) (by omega)), if_pos ha]
  | d + 1, j, n + 1, S1, hM, hQ, h52, ha, hj, hn => by
    have hM1 := hQ.mw hM
    obtain ⟨h1, h2, h3, h4, h5, h6, h7, h8, h9⟩ := hM1
    have hW := h1.1
    obtain ⟨⟨a1, a2⟩, ⟨a3, a4, a5⟩, -⟩ := h8 j (by omega)
    have e322 := hQ.2.1 322 (by decide)
    have el : laI S1 (122 * k) j = laI S (122 * k) j := by unfold laI; rw [e322]
    have em : miI S1 (122 * k) j = miI S (122 * k) j := by unfold miI; rw [e322]
    rw [el] at a1 a2
    rw [em] at a3 a4 a5
    have eal : alP (inP S (122 * k) nl) (j + 1) = (alP (inP S (122 * k) nl) j && decide (laI S (122 * k) j < nl)) := rfl
    have hlm : laM S (122 * k) j ≤ 16 := mx_le j fun i hi _ => (hM.2.2.2.2.2.2.2.1 i (by omega)).2.1.2.2
    have hhead : f_X12_laySight_25 313 (n + 1) (nI j) S1 = if bi (decide (laI S (122 * k) j < nl)) = 0 then some (0, S1) else f_X12_laySight_25 313 n (nI (j + 1)) (sI S1 313 52 (nI (laM S (122 * k) (j + 1)))) := by
      rw [f_X12_laySight_25, k_313 hW, seenMany_v hW h2 h3, b1_s, h4, if_neg (nI_ge (by omega) (by omega)), k_313 hW, seenOf_v (l := j) (x := nI j) (c := 0) hW h2 h3 rfl (i := 0) rfl (by omega) (by decide), b1_s, a1, k_313 hW, isLady h1 h6 h7 (by omega), b1_s, i_313 hW, h52, k_313 hW, seenOf_v (l := j) (x := nI j) (c := 1) hW h2 h3 rfl (i := 1) rfl (by omega) (by decide), b1_s, a3, m_greater, b1_s, jmax_n (by omega) (by omega), ← laM_s, p_313 hW, nI_1]
    by_cases q : laI S (122 * k) j < nl
    · obtain ⟨S', k1, k2, k3⟩ := lay25 d (j + 1) n (sI S1 313 52 (nI (laM S (122 * k) (j + 1)))) hM (hQ.tr q52_I) (by rw [sI_at, if_pos rfl]) (by rw [eal, ha, decide_eq_true q]; rfl) (by omega) (by omega)
      refine ⟨S', k1, ?_, k3⟩
      rw [hhead, decide_eq_true q, if_neg (show ¬ bi true = 0 by decide), k2]
    · have hf : alP (inP S (122 * k) nl) ns = false := alP_n (q := inP S (122 * k) nl) (j := j) (decide_eq_false q) _ (by omega)
      refine ⟨S1, hQ, ?_, fun z => by rw [hf] at z; exact absurd z (by decide)⟩
      rw [hhead, decide_eq_false q, if_pos (show bi false = 0 from rfl), hf, if_neg Bool.false_ne_true]
end WM
