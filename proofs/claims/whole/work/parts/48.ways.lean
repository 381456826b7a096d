/-! ways, may: both answer alike -/
/-- first, last, how many: of a row of truths -/
theorem first_last (p : Nat → Bool) : ∀ (d k : Nat), (firstS p d k = -1 ∧ (∀ c, lastS p d k c = c) ∧ (∀ s, countN p d k s = s) ∧ ∀ j, k ≤ j → j < k + d → p j = false) ∨ ∃ a b t, k ≤ a ∧ a ≤ b ∧ b < k + d ∧ p a = true ∧ firstS p d k = nI a ∧ (∀ c, lastS p d k c = nI b) ∧ 1 ≤ t ∧ t ≤ d ∧ (∀ s, countN p d k s = s + t) ∧ (t = 1 ↔ a = b)
  | 0, k => Or.inl ⟨rfl, fun _ => rfl, fun _ => rfl, fun j h1 h2 => by omega⟩
  | d + 1, k => by
    have ef : firstS p (d + 1) k = if p k = true then nI k else firstS p d (k + 1) := rfl
    have el : ∀ c, lastS p (d + 1) k c = lastS p d (k + 1) (if p k = true then nI k else c) := fun c => rfl
    have ec : ∀ s, countN p (d + 1) k s = countN p d (k + 1) (if p k = true then s + 1 else s) := fun s => rfl
    by_cases q : p k = true
    · right
      simp only [if_pos q] at ef el ec
      rcases first_last p d (k + 1) with ⟨h1, h2, h3, h4⟩ | ⟨a, b, t, h1, h2, h3, h4, h5, h6, h7, h8, h9, h10⟩
      · exact ⟨k, k, 1, Nat.le_refl k, Nat.le_refl k, by omega, q, ef, fun c => by rw [el, h2], Nat.le_refl 1, by omega, fun s => by rw [ec, h3], ⟨fun _ => rfl, fun _ => rfl⟩⟩
      · exact ⟨k, b, t + 1, Nat.le_refl k, by omega, by omega, q, ef, fun c => by rw [el, h6], by omega, by omega, fun s => by rw [ec, h9]; omega, ⟨fun z => by omega, fun z => by omega⟩⟩
    · simp only [if_neg q] at ef el ec
      rcases first_last p d (k + 1) with ⟨h1, h2, h3, h4⟩ | ⟨a, b, t, h1, h2, h3, h4, h5, h6, h7, h8, h9, h10⟩
      · refine Or.inl ⟨ef.trans h1, fun c => (el c).trans (h2 c), fun s => (ec s).trans (h3 s), fun j a b => ?_⟩
        by_cases z : j = k
        · rw [z]
          exact Bool.eq_false_iff.mpr q
        · exact h4 j (by omega) (by omega)
      · exact Or.inr ⟨a, b, t, by omega, h2, by omega, h4, ef.trans h5, fun c => (el c).trans (h6 c), h7, by omega, fun s => (ec s).trans (h9 s), h10⟩
theorem lastS_c {p q : Nat → Bool} : ∀ (d k : Nat) (c : Int32), (∀ j, k ≤ j → j < k + d → p j = q j) → lastS p d k c = lastS q d k c
  | 0, k, c, _ => rfl
  | d + 1, k, c, h => by
    show lastS p d (k + 1) (if p k = true then nI k else c) = lastS q d (k + 1) (if q k = true then nI k else c)
    rw [h k (by omega) (by omega)]
    exact lastS_c d (k + 1) _ (fun j a b => h j (by omega) (by omega))
/-- what is answered of the marks that may be -/
def maV (p : Nat → Bool) (x : Int32) : Int32 := if x = 0 then firstS p 41 0 else if x = 1 then lastS p 41 0 (-1) else if countS p 41 0 0 = 1 then firstS p 41 0 else -1
section MY
variable {S S' : GS} {o b k l co : Nat} {c : Int32}
theorem may50 {A B : Nat → Nat} {i : Nat} (hi : i < 17) (hW : Wr S) (hA : Nl S 337 i A) (hB : Nl S 338 i B) (bA : ∀ j, j < 41 → A j < 2 ^ 31) (bB : ∀ j, j < 41 → B j < 2 ^ 31) {x4 : Int32} : ∀ (d m n : Nat) (x5 x6 x7 : Int32), m + d = 41 → d < n → f_X12_may_50 313 n (nI i) x4 x5 x6 x7 (nI m) S = some (if x4 = 0 then (if x5 = -1 then firstS (fun m => decide (A m ≠ 0 ∧ B m ≠ 0)) d m else x5) else if x4 = 1 then lastS (fun m => decide (A m ≠ 0 ∧ B m ≠ 0)) d m x6 else if countS (fun m => decide (A m ≠ 0 ∧ B m ≠ 0)) d m x7 = 1 then (if x5 = -1 then firstS (fun m => decide (A m ≠ 0 ∧ B m ≠ 0)) d m else x5) else -1, S)
  | _, _, 0, _, _, _, _, hn => absurd hn (Nat.not_lt_zero _)
  | 0, m, n + 1, x5, x6, x7, hm, _ => by
    have e5 : (if x5 = -1 then firstS (fun m => decide (A m ≠ 0 ∧ B m ≠ 0)) 0 m else x5) = x5 := by
      by_cases q : x5 = -1
      · rw [if_pos q, q]
        rfl
      · rw [if_neg q]
    rw [f_X12_may_50, if_pos (show (40 : Int32) < nI m from nI_lt (a := 40) (by omega) (by omega)), e5]
    show _ = some (if x4 = 0 then x5 else if x4 = 1 then x6 else if x7 = 1 then x5 else -1, S)
    by_cases q0 : x4 = 0
    · rw [if_pos q0, if_pos q0]
    · rw [if_neg q0, if_neg q0]
      by_cases q1 : x4 = 1
      · rw [if_pos q1, if_pos q1]
      · rw [if_neg q1, if_neg q1]
        by_cases q2 : x7 = 1
        · rw [if_pos q2, if_pos q2]
        · rw [if_neg q2, if_neg q2]
  | d + 1, m, n + 1, x5, x6, x7, hm, hn => by
    have ih := fun y5 y6 y7 => may50 hi hW hA hB bA bB (x4 := x4) d (m + 1) n y5 y6 y7 (by omega) (by omega)
    have ef : firstS (fun m => decide (A m ≠ 0 ∧ B m ≠ 0)) (d + 1) m = if decide (A m ≠ 0 ∧ B m ≠ 0) = true then nI m else firstS (fun m => decide (A m ≠ 0 ∧ B m ≠ 0)) d (m + 1) := rfl
    have el : lastS (fun m => decide (A m ≠ 0 ∧ B m ≠ 0)) (d + 1) m x6 = lastS (fun m => decide (A m ≠ 0 ∧ B m ≠ 0)) d (m + 1) (if decide (A m ≠ 0 ∧ B m ≠ 0) = true then nI m else x6) := rfl
    have ec : countS (fun m => decide (A m ≠ 0 ∧ B m ≠ 0)) (d + 1) m x7 = countS (fun m => decide (A m ≠ 0 ∧ B m ≠ 0)) d (m + 1) (if decide (A m ≠ 0 ∧ B m ≠ 0) = true then x7 + 1 else x7) := rfl
    have b1' := bA m (by omega)
    have b2' := bB m (by omega)
    rw [f_X12_may_50, if_neg (show ¬ (40 : Int32) < nI m from nI_nlt (a := 40) (by omega) (by omega)), r_313_53 hW, ix41, y_337 hW (by omega), hA m (by omega), r_313_54 hW, y_338 hW (by omega), hB m (by omega), ef, el, ec]
    unfold f_X12_may_104 f_X12_may_113
    rw [nI_1]
    by_cases q : A m ≠ 0 ∧ B m ≠ 0
    · rw [decide_eq_true q, if_pos rfl, if_pos rfl, if_pos rfl, if_neg (by rw [lgt (by omega)]; exact q.1), if_neg (by rw [lgt (by omega)]; exact q.2), ih, ih, if_neg (nI_neg1 m (by omega))]
      by_cases z : x5 = -1
      · rw [if_pos z, if_pos z]
      · rw [if_neg z, if_neg z, if_neg z]
    · rw [decide_eq_false q, if_neg Bool.false_ne_true, if_neg Bool.false_ne_true, if_neg Bool.false_ne_true, ih]
      by_cases z : A m = 0
      · rw [if_pos (by rw [lgt (by omega)]; exact z)]
      · have z2 : B m = 0 := Classical.byContradiction fun y => q ⟨z, y⟩
        rw [if_neg (by rw [lgt (by omega)]; exact z), if_pos (by rw [lgt (by omega)]; exact z2)]
theorem ftP_c {c n i m : Nat} (e1 : S'.1 319 = S.1 319) (e2 : S'.1 322 = S.1 322) : ftP S' b c n i m = ftP S b c n i m := by
  unfold ftP seP stF laI miI
  rw [e1, e2]
/-- the reference lays the sight out -/
theorem laySight_y {k2 ns nl gl : Nat} (hW : Wr S) (hk : TD S 0 k) (hk2 : TD S 3 k2) (hns : ns ≤ 20) (hnl : nl ≤ 8) (e1 : S.1 319 (69 * k + 1) = nI nl) (e2 : S.1 322 (122 * k2) = nI ns) (hv : Sv S (122 * k2) ns) (hL : ∀ l, l < nl → ∃ bu fa he la, Lm S k l bu fa he la) (hgl : gl ≤ 40) (hg : S.1 319 (69 * k + 5) = nI gl) : ∃ S', Sm S S' ∧ f_X12_laySight 313 (nI k) (nI k2) S = some (bi (alP (inP S (122 * k2) nl) ns), S') ∧ (alP (inP S (122 * k2) nl) ns = true → Mc S' k ∧ S'.1 313 52 = nI (laM S (122 * k2) ns) ∧ S'.1 319 = S.1 319 ∧ (∀ j, j ≤ laM S (122 * k2) ns → Nl S' 337 j (aN (ftP S (122 * k2) (69 * k) ns) gl j)) ∧ ∀ j, j ≤ laM S (122 * k2) ns → Nl S' 338 j (onN (ftP S (122 * k2) (69 * k) ns) (laM S (122 * k2) ns) (laM S (122 * k2) ns - j))) := by
  have sa : Sm S (sI S 313 51 (nI k2)) := sm_I (by decide)
  generalize hSb : hS (sI S 313 51 (nI k2)) k = Sb
  have sb : Sm S Sb := by rw [← hSb]; exact sa.tr (hS_sm _ _)
  have e319 := sb.2.2 319 (by decide)
  have e322 := sb.2.2 322 (by decide)
  have hMc : Mc Sb k := by rw [← hSb]; exact hS_Mc hW hk.1
  have h51 : Sb.1 313 51 = nI k2 := by rw [← hSb]; rfl
  have hMw : Mw Sb k k2 ns nl := ⟨hMc, hk2.1, h51, by rw [e322]; exact e2, hns, hnl, by rw [e319]; exact e1, by unfold Sv laI miI; rw [e322]; exact hv, fun l hl => by
    obtain ⟨bu, fa, he, la, h⟩ := hL l hl
    exact ⟨bu, fa, he, la, h.sm sb⟩⟩
  have eal : inP Sb (122 * k2) nl = inP S (122 * k2) nl := by
    funext j
    unfold inP laI
    rw [e322]
  have elm : laM Sb (122 * k2) ns = laM S (122 * k2) ns := by
    unfold laM miI
    rw [e322]
  obtain ⟨Sd, d1, d2, d3⟩ := lay25 ns 0 fu (sI Sb 313 52 0) hMw q52_I (by rw [sI_at, if_pos rfl]; rfl) rfl (by omega) (by unfold fu; omega)
  rw [eal, elm] at d3
  rw [eal] at d2
  have hhead : f_X12_laySight 313 (nI k) (nI k2) S = f_X12_laySight_25 313 fu 0 (sI Sb 313 52 0) := by
    unfold f_X12_laySight
    rw [kk_313 hW, hasSi_y hW hk2, b2_s, if_neg n10, kk_313 (S := sI S 313 51 (nI k2)) hW, hand_y (S := sI S 313 51 (nI k2)) hW (hk.sm sa), b2_s, if_neg n10, hSb, p_313 hMc.1]
  have hMd := d1.mw hMw
  cases ha : alP (inP S (122 * k2) nl) ns
  · rw [ha, if_neg Bool.false_ne_true] at d2
    exact ⟨Sd, sb.tr d1.sm, by rw [hhead]; exact d2, fun z => absurd z Bool.false_ne_true⟩
  · rw [ha, if_pos rfl] at d2
    have h52 := d3 ha
    have f319 : Sd.1 319 = S.1 319 := (d1.2.1 319 (by decide)).trans e319
    have f322 : Sd.1 322 = S.1 322 := (d1.2.1 322 (by decide)).trans e322
    have hlm : laM S (122 * k2) ns ≤ 16 := mx_le ns fun i hi _ => (hv i hi).2.1.2.2
    obtain ⟨S', k1, k2', k3, k4⟩ := lay73 (S := Sd) (c := k) (k := k2) (ns := ns) (nl := nl) (ft := ftP S (122 * k2) (69 * k) ns) (gl := gl) (L := laM S (122 * k2) ns) hlm hgl (fun S' hM hO i m hi hm => by
      rw [fitsM hM (fun j hj => by
        have := alP_of (inP S (122 * k2) nl) ns ha j hj
        have : laI S (122 * k2) j < nl := of_decide_eq_true this
        unfold laI at this ⊢
        rw [hO.1, f322]
        exact this) (by omega), ftP_c (S := S) (by rw [hO.1, f319]) (by rw [hO.1, f322])]) h52 (by rw [f319]; exact hg) 41 0 fu Sd hMd (OfL.rf _) (fun j hj => absurd hj (Nat.not_lt_zero _)) (by omega) (by unfold fu; omega)
    refine ⟨S', (sb.tr d1.sm).tr k2'.sm, by rw [hhead]; exact d2.trans k1, fun _ => ⟨k2'.mc hMd.1, by rw [k2'.1]; exact h52, by rw [k2'.1]; exact f319, k3, k4⟩⟩
theorem laySight_n {x1 x2 : Int32} (hW : Wr S) (h : TN S 3 x2 ∨ TN S 0 x1 ∧ ∃ k2, x2 = nI k2 ∧ TD S 3 k2) : ∃ S', Sm S S' ∧ f_X12_laySight 313 x1 x2 S = some (0, S') := by
  unfold f_X12_laySight
  rcases h with h | ⟨h1, k2, rfl, h2⟩
  · refine ⟨sI S 313 51 x2, sm_I (by decide), ?_⟩
    rw [kk_313 hW, hasSi_n hW h, b2_s, if_pos rfl]
  · refine ⟨sI S 313 51 (nI k2), sm_I (by decide), ?_⟩
    rw [kk_313 hW, hasSi_y hW h2, b2_s, if_neg n10, kk_313 (S := sI S 313 51 (nI k2)) hW, hand_n (S := sI S 313 51 (nI k2)) hW (h1.sm (sm_I (by decide))), b2_s, if_pos rfl]
/-- what both come to, court and sight being told -/
theorem ways_both (h : Inv S) {k2 : Nat} (hk : TD S 0 k) (hk2 : TD S 3 k2) : ∃ (ft : Nat → Nat → Bool) (gl L : Nat) (al : Bool) (S1 : GS), gl ≤ 40 ∧ L ≤ 16 ∧ Inv S1 ∧ Sm S S1 ∧ f_X8_lastMinute (18 + 21 * k2) S = some (nI L) ∧ f_X10_waysOf 271 (some (10 + 21 * k)) (some (18 + 21 * k2)) S = some (if al = true then nI (sumN (aN ft gl L) 41) else -1, S1) ∧ (al = true → S1.1 271 2 = nI L ∧ ∀ i, i ≤ L → Ni S1 (291 + i) (gR (aN ft gl) L i)) ∧ ∀ S2, Inv S2 → Sm S S2 → ∃ S3, Sm S2 S3 ∧ f_X12_laySight 313 (nI k) (nI k2) S2 = some (bi al, S3) ∧ (al = true → Mc S3 k ∧ S3.1 313 52 = nI L ∧ S3.1 319 (69 * k + 5) = nI gl ∧ (∀ j, j ≤ L → Nl S3 337 j (aN ft gl j)) ∧ ∀ j, j ≤ L → Nl S3 338 j (onN ft L (L - j))) := by
  have hW := h.1
  have hcf := h.cf hk.1
  have hcc := hk.1
  obtain ⟨l1, -⟩ := h.lf_s hk2.1
  have hns : nr S (19 + 21 * k2) ≤ 20 := l1.1.2.2.2.2.2.2.2.1
  obtain ⟨w, gl, hWd, hwm, hw0, hgl, eg1, eg2⟩ := hcf.wd (h.vc hk) hcf.1.2.2.2.2.1
  have hlm := laM_le l1 (n := nr S (19 + 21 * k2)) (Nat.le_refl _)
  have hmodel : ∀ S2, Inv S2 → Sm S S2 → ∃ S3, Sm S2 S3 ∧ f_X12_laySight 313 (nI k) (nI k2) S2 = some (bi (alP (inP S (122 * k2) (nr S (10 + 21 * k + 3))) (nr S (19 + 21 * k2))), S3) ∧ (alP (inP S (122 * k2) (nr S (10 + 21 * k + 3))) (nr S (19 + 21 * k2)) = true → Mc S3 k ∧ S3.1 313 52 = nI (laM S (122 * k2) (nr S (19 + 21 * k2))) ∧ S3.1 319 (69 * k + 5) = nI gl ∧ (∀ j, j ≤ laM S (122 * k2) (nr S (19 + 21 * k2)) → Nl S3 337 j (aN (ftP S (122 * k2) (69 * k) (nr S (19 + 21 * k2))) gl j)) ∧ ∀ j, j ≤ laM S (122 * k2) (nr S (19 + 21 * k2)) → Nl S3 338 j (onN (ftP S (122 * k2) (69 * k) (nr S (19 + 21 * k2))) (laM S (122 * k2) (nr S (19 + 21 * k2))) (laM S (122 * k2) (nr S (19 + 21 * k2)) - j))) := fun S2 h2 hs => by
    have e319 := hs.2.2 319 (by decide)
    have e322 := hs.2.2 322 (by decide)
    obtain ⟨S3, r1, r2, r3⟩ := laySight_y (S := S2) (k := k) (k2 := k2) (ns := nr S (19 + 21 * k2)) (nl := nr S (10 + 21 * k + 3)) (gl := gl) h2.1 (hk.sm hs) (hk2.sm hs) hns hcf.n8 (by rw [e319]; exact hcf.2.2.1) (by rw [e322]; exact l1.2.1) (by
      unfold Sv laI miI
      rw [e322]
      exact fun j hj => seen_v l1 hj) (fun l hl => by
      obtain ⟨bu, fa, he, la, -, hLm⟩ := hcf.lady hl rfl
      exact ⟨bu, fa, he, la, hLm.sm hs⟩) hgl (by rw [e319]; exact eg2)
    have q1 : inP S2 (122 * k2) (nr S (10 + 21 * k + 3)) = inP S (122 * k2) (nr S (10 + 21 * k + 3)) := by
      funext j
      unfold inP laI
      rw [e322]
    have q2 : laM S2 (122 * k2) (nr S (19 + 21 * k2)) = laM S (122 * k2) (nr S (19 + 21 * k2)) := by
      unfold laM miI
      rw [e322]
    have q3 : ftP S2 (122 * k2) (69 * k) (nr S (19 + 21 * k2)) = ftP S (122 * k2) (69 * k) (nr S (19 + 21 * k2)) := by
      funext i m
      exact ftP_c e319 e322
    rw [q1] at r2 r3
    rw [q2, q3] at r3
    refine ⟨S3, r1, r2, fun z => ?_⟩
    obtain ⟨t1, t2, t3, t4, t5⟩ := r3 z
    exact ⟨t1, t2, by rw [t3, e319]; exact eg2, t4, t5⟩
  have hai : f_X8_seenAreIn (18 + 21 * k2) (some (10 + 21 * k)) S = some (bi (alP (inP S (122 * k2) (nr S (10 + 21 * k + 3))) (nr S (19 + 21 * k2)))) := areIn_l hW hk2.1 hcf l1 (nr S (19 + 21 * k2)) 0 fu (by omega) (by unfold fu; omega) rfl
  have hla := lastC hW hk2.1 l1
  generalize hal : alP (inP S (122 * k2) (nr S (10 + 21 * k + 3))) (nr S (19 + 21 * k2)) = al at hai hmodel
  cases al
  · refine ⟨ftP S (122 * k2) (69 * k) (nr S (19 + 21 * k2)), gl, laM S (122 * k2) (nr S (19 + 21 * k2)), false, S, hgl, hlm, h, Sm.rf S, hla, ?_, fun z => absurd z Bool.false_ne_true, hmodel⟩
    unfold f_X10_waysOf
    rw [c1_s (sight_k hW hk2.1).1, hai, b1_s, if_pos (show bi false = 0 from rfl), if_neg Bool.false_ne_true]
  · obtain ⟨S1, g1, g2, g3, g4⟩ := waysC (S := S) (k := k2) (co := 10 + 21 * k) (ft := ftP S (122 * k2) (69 * k) (nr S (19 + 21 * k2))) (gl := gl) (L := laM S (122 * k2) (nr S (19 + 21 * k2))) hlm hgl hW hk2.1 hcf.1.1 (by omega) eg1 hai hla (fun S' hO i m hi hm => by
      have hs := hO.sm (by decide) (by decide)
      have h' := h.sm hs
      have hcf' := h'.cf hk.1
      obtain ⟨l1', -⟩ := h'.lf_s hk2.1
      have n1 : nr S' (19 + 21 * k2) = nr S (19 + 21 * k2) := by
        unfold nr
        rw [hO.2 _ (by have := hk2.1; omega)]
      have n2 : nr S' (10 + 21 * k + 3) = nr S (10 + 21 * k + 3) := by
        unfold nr
        rw [hO.2 _ (by omega)]
      have e322 := hs.2.2 322 (by decide)
      rw [agreeC h'.1 hk2.1 hcf' l1' (fun j hj => by
        rw [n1] at hj
        have := alP_of (inP S (122 * k2) (nr S (10 + 21 * k + 3))) _ hal j hj
        have : laI S (122 * k2) j < nr S (10 + 21 * k + 3) := of_decide_eq_true this
        rw [n2]
        unfold laI at this ⊢
        rw [e322]
        exact this) (by omega), n1, ftP_c (S := S) (hs.2.2 319 (by decide)) e322])
    exact ⟨ftP S (122 * k2) (69 * k) (nr S (19 + 21 * k2)), gl, laM S (122 * k2) (nr S (19 + 21 * k2)), true, S1, hgl, hlm, h.sm (g2.sm (by decide) (by decide)), g2.sm (by decide) (by decide), hla, by rw [if_pos rfl]; exact g1, fun _ => ⟨g3, g4⟩, hmodel⟩
theorem both_ways (h : Inv S) (x1 x2 : Int32) : Both2 (f_X11_ways 0 x1 x2) (f_X12_ways 313 x1 x2) S := by
  have hW := h.1
  unfold Both2 f_X11_ways f_X12_ways
  rcases tld h (s := 3) (by decide) x2 with ⟨k2, rfl, hk2⟩ | hn2
  · rcases tld h (s := 0) (by decide) x1 with ⟨k, rfl, hk⟩ | hn
    · obtain ⟨ft, gl, L, al, S1, hgl, hL, hI1, hs1, hla, hwa, -, hmo⟩ := ways_both h hk hk2
      have hW1 := hI1.1
      obtain ⟨S3, r1, r2, r3⟩ := hmo (s0 S1) (hI1.sm (sm_I (by decide))) (hs1.tr (sm_I (by decide)))
      rw [r_0_0 hW, k_1 hW, courtAt_y hW hk, b1_s, r_0_0 hW, k_1 hW, sightAt_y hW hk2, b1_s, nul_s, nul_s, r_0_7 hW, kk_271 hW, hwa, b2_s]
      cases al
      · refine ⟨-1, S1, S3, by rw [if_neg Bool.false_ne_true]; rfl, ?_, hI1.sm ((sm_I (by decide)).tr r1)⟩
        rw [p_313 hW1, kk_313 (S := s0 S1) hW1, r2, b2_s, if_pos (show bi false = 0 from rfl)]
      · obtain ⟨t1, t2, t3, t4, t5⟩ := r3 rfl
        have hb := onN_le ft L L gl (by omega)
        have hp := p3_le (i := L) (by omega)
        refine ⟨lN (onN ft L L gl), S1, S3, ?_, ?_, hI1.sm ((sm_I (by decide)).tr r1)⟩
        · rw [if_pos rfl, ways_0 ft (by omega), nI_l (by omega)]
        · have e0 := t5 0 (Nat.zero_le L) gl (by omega)
          rw [Nat.mul_zero, Nat.zero_add, Nat.sub_zero] at e0
          rw [p_313 hW1, kk_313 (S := s0 S1) hW1, r2, b2_s, if_neg (show ¬ bi true = 0 by decide), r_313_54 t1.1, k_313 t1.1, t1.of 5 5 rfl (by decide), t3, b1_s, y_338 t1.1 (by omega), e0]
    · obtain ⟨S3, r1, r2⟩ := laySight_n (S := s0 S) (x1 := x1) (x2 := nI k2) hW (Or.inr ⟨hn.sm (sm_I (by decide)), k2, rfl, hk2.sm (sm_I (by decide))⟩)
      refine ⟨-1, S, S3, ?_, ?_, h.sm ((sm_I (by decide)).tr r1)⟩
      · rw [r_0_0 hW, k_1 hW, courtAt_n hW hn, b1_s, r_0_0 hW, k_1 hW, sightAt_y hW hk2, b1_s, nul_n]
        rfl
      · rw [p_313 hW, kk_313 (S := s0 S) hW, r2, b2_s, if_pos rfl]
  · obtain ⟨S3, r1, r2⟩ := laySight_n (S := s0 S) (x1 := x1) (x2 := x2) hW (Or.inl (hn2.sm (sm_I (by decide))))
    refine ⟨-1, S, S3, ?_, ?_, h.sm ((sm_I (by decide)).tr r1)⟩
    · rcases tld h (s := 0) (by decide) x1 with ⟨k, rfl, hk⟩ | hn
      · rw [r_0_0 hW, k_1 hW, courtAt_y hW hk, b1_s, r_0_0 hW, k_1 hW, sightAt_n hW hn2, b1_s, nul_s, nul_n]
        rfl
      · rw [r_0_0 hW, k_1 hW, courtAt_n hW hn, b1_s, r_0_0 hW, k_1 hW, sightAt_n hW hn2, b1_s, nul_n]
        rfl
    · rw [p_313 hW, kk_313 (S := s0 S) hW, r2, b2_s, if_pos rfl]
end MY
