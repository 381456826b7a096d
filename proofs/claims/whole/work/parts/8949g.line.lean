/-! texts: a step, both sides -/
section LV
variable {α : Type} {L : Nat} {B : Nat → Nat} {S S' T T' S0 T0 : GS} {s e k f c o w m p q n d e0 v sl : Nat} {V : (Nat → Int32) → Prop} {P P' : (Nat → Int32) → (Nat → Int32) → Prop} {R : GS → GS → Prop}
/-- as ts_both, where there is a number, and which -/
theorem ts_val (hK : RK o m w) (h : TB L B S T) (hk : Tk L B S T s e 2) (hF : FA s S T) (hR : RO S T o w m p q V n P) {lo hi : Nat} (hc : c < w) (hlo : lo < 1000) (hhi : hi < 1000) (hv0 : f_X5_tokenValue 207 S = some (nI v)) (hv1 : v < 100) (hP : ∀ f g, P f g → lo ≤ v → v ≤ hi → P' (up f c (nI v)) (up g c (nI v))) :
    ∃ S' T' s' e' k', (∀ {α : Type} (K : GS → Option α), cT o (nI lo) (nI hi) (nI c) S K = K S') ∧ f_X12_take 313 (nI c) (nI lo) (nI hi) T = some (1, T') ∧ FC o S S' ∧ FM T T' ∧ TB L B S' T' ∧ Tk L B S' T' s' e' k' ∧ FA s' S' T' ∧ e ≤ s' ∧ s' ≤ L ∧ (ok S' → ok S ∧ lo ≤ v ∧ v ≤ hi) ∧ T'.1 326 = up (T.1 326) c (nI v) ∧ RO S' T' o w m p q V n P' ∧ (lo ≤ v → v ≤ hi → T'.1 313 19 = T.1 313 19 ∧ T'.1 313 20 = T.1 313 20) := by
  obtain ⟨k1, k2, k3, k4, k5, k6, k7, k8, k9, k10⟩ := id hK
  obtain ⟨r0, r1, r2, r3, r4, r5⟩ := id hR
  have hcnt : (if n = m then n else n + 1) ≤ m := by split <;> omega
  have hv := (val_v h hk).2.2
  have hvv : nv B s (e - s) = v := (nI_eq (by omega) (by omega)).mp (Option.some.inj ((val_v h hk).1.symm.trans hv0))
  have hne : ¬ nI (nv B s (e - s)) = -1 := nI_neg1 _ (by omega)
  obtain ⟨S1, T1, s', e', k', t1, t2, t3, t4, t5, t6, t7, t8, t9, t10, t11, t12, t13⟩ := take_core5 (lo' := lo) (hi' := hi) (but := -1) h hk hF (lo := lo) (hi := hi) (c := c) (by omega) hlo hhi hlo hhi (fun z => by
    rcases z with z | z
    · exact Or.inl z
    · exact Or.inr (Or.inl z))
  have hF1 := t10 (fun z => by
    rcases z with z | z | z
    · exact Or.inl z
    · exact Or.inr z
    · exact absurd z hne)
  rw [hvv] at t1 t9 t12 t13 hne
  have ka : S1.1 o = S.1 o := t3.at (by omega)
  have kb : S1.1 (o + 1) = S.1 (o + 1) := t3.at (by omega)
  have kc : T1.1 325 = T.1 325 := t4.told
  have hW1 := t5.1
  obtain ⟨S', g1, g2, g3, g4⟩ := setLast_v hK hW1 (by rw [ka]; exact r1) (by rw [ka]; exact r3) hcnt hc (nI v)
  have e11 : S'.1 207 11 = S1.1 207 11 := g2.2 _ _ (by omega) (by omega)
  have e12 : S'.1 207 12 = S1.1 207 12 := g2.2 _ _ (by omega) (by omega)
  have hok : ok S' → ok S ∧ lo ≤ v ∧ v ≤ hi := fun z => t12 ((ok_fc e11).mp z)
  refine ⟨S', T1, s', e', k', fun K => ?_, take_v _ _ _ (Or.inr rfl) h.2.1 t2, t3.fc.tr g2.fc, t4, t5.fc g2.fc k1, t6.mv (fun i a b => g2.2 _ _ (by omega) (by omega)) (fun _ _ => rfl) rfl, ?_, t7, t8, hok, t9, ?_, fun y1 y2 => t13 (fun z => by
    rcases z with z | z | z
    · omega
    · omega
    · exact hne z)⟩
  · unfold cT
    rw [kk_207 h.1, t1, b2_s, c1_w hW1 (by omega) k3, g1, b1_s]
  · unfold FA
    rw [e11, e12]
    exact hF1
  · refine ⟨by rw [g3, ka]; exact r0, by rw [g3, ka]; exact r1, r2, by rw [g3, ka]; exact r3, by rw [kc]; exact r4, fun z => ?_⟩
    obtain ⟨z1, z2, z3⟩ := hok z
    obtain ⟨y1, y2, y3, y4⟩ := r5 z1
    have hS := g4 n (by rw [if_neg (by omega)])
    subst hS
    refine ⟨y1, fun k hk i hi => ?_, fun k hk => ?_, ?_⟩
    · rw [sI_at, if_neg, kb, kc]
      · exact y2 k hk i hi
      · have := rc_lt hk hi (Nat.le_refl n)
        rw [Nat.mul_comm n w] at this
        omega
    · rw [kc]
      exact y3 k hk
    · have := hP _ _ y4 z2 z3
      rw [show T1.1 326 = up (T.1 326) c (nI v) from t9]
      rw [show (fun i => (sI S1 (o + 1) (w * n + c) (nI v)).1 (o + 1) (w * n + i)) = up (fun i => S.1 (o + 1) (w * n + i)) c (nI v) from ?_]
      · exact this
      · funext i
        rw [sI_at, kb]
        unfold up
        by_cases z : i = c
        · rw [if_pos z, if_pos (by rw [z])]
        · rw [if_neg z, if_neg (by omega)]
/-- a step of the law -/
theorem proper_y (h : TB L B S T) (hk : Tk L B S T s e k) (hk0 : k ≠ 0) (hF : FA s S T) (hG : GQ S T) (q : wd T = 123636798219634) : LX L B GQ S T e (f_X5_readCourtLine 207 S) (f_X12_courtLine 313 (wd T) (nI s) T) := by
  have hL := h.2.2.1
  have hw0 : f_X5_isWord 207 (some 100000) S = some (if wd T = 1919905645 then 1 else 0) := isW h hk (j := 0) (by decide)
  have hw1 : f_X5_isWord 207 (some 100001) S = some (if wd T = 1818322041 then 1 else 0) := isW h hk (j := 1) (by decide)
  have hw2 : f_X5_isWord 207 (some 100002) S = some (if wd T = 123636798219634 then 1 else 0) := isW h hk (j := 2) (by decide)
  obtain ⟨hD, hn1, hn2, ⟨n, hR, hm⟩, hs⟩ := hG
  have hG' : RwD S ∧ (∃ n, RLn S T 210 2 4 0 9 vRoom n) ∧ (∃ n, RLn S T 212 5 8 1 29 (vLady (nI 4)) n ∧ (ok S → FRm T n)) ∧ (RLn S T 214 2 6 2 17 vStep n ∧ (ok S → MTd T n)) ∧ (ok S → SCd S T) := ⟨hD, hn1, hn2, ⟨hR, hm⟩, hs⟩
  unfold f_X5_readCourtLine f_X5_readProper
  rw [k_207 h.1, hw0, b1_s, if_neg (show ¬ wd T = 1919905645 by rw [q]; decide), if_pos rfl, k_207 h.1, hw1, b1_s, if_neg (show ¬ wd T = 1818322041 by rw [q]; decide), if_pos rfl, k_207 h.1, hw2, b1_s, if_pos q, if_neg n10, k_207 h.1, r_207_1 h.1, r_209 h.1 gs2.2, q, cl_proper]
  obtain ⟨S1, T0, T1, s1, e1, k1, g1, g2, g3, hT0, c1', m1, r26, hB1, hk1, hF1, l1, l2, o1, hR1⟩ := open_both ro3.rk h hk hk0 hF hR (by decide)
  rw [k_207 h.1, g1, b1_s, k_313 h.2.1, show f_X12_full 313 2 6 (nI s) T = some T0 from g2, b1_s, k_313 hT0, g3, b1_s, i_207 hB1.1, hk1.2.2.1, kk_313 hB1.2.1]
  have hse := hk1.le
  have e46 : ∀ S9 : GS, f_X5_readProper_46 207 S9 = rCl 2 [(0, 40, 0), (0, 30, 1)] S9 := fun S9 => rfl
  have bS : ∀ X : Option GS, b1 X (fun S10 => some S10) = X := fun X => by cases X <;> rfl
  rw [bS]
  unfold f_X12_properLine
  rw [i_313 hB1.2.1, hk1.2.2.2.1]
  by_cases q2 : k1 = 2
  · subst q2
    have hlt1 := hk1.2.2.2.2.2.2.2.2.1 (by decide)
    have heL1 := hk1.2.2.2.2.2.2.1
    obtain ⟨v1, v2, v3⟩ := val_v hB1 hk1
    generalize nv B s1 (e1 - s1) = v at v1 v2 v3
    obtain ⟨r0, r1, r2, r3, r4, r5⟩ := id hR1
    have hcnt : (if n = 6 then n else n + 1) ≤ 6 := by split <;> omega
    have hnr : nr S1 214 = (if n = 6 then n else n + 1) := by
      unfold nr
      rw [r3, nI_clamp (by omega)]
    have hRw : Rw S1 214 6 2 := ⟨gk_n hB1.1 (by decide) rfl, gk_n hB1.1 (by decide) rfl, rfl, rf_n hB1.1 (by decide) rfl, r0, r1, by rw [hnr]; exact r3, by omega, by decide, by decide⟩
    obtain ⟨b, b1', b2'⟩ := hasC_l (x := nI v) hRw (nr S1 214) 0 fu (by omega) (by have : fu = 4096 := rfl; omega)
    rw [if_pos (show nI 2 = 2 from rfl), r_207_1 hB1.1, r_209 hB1.1 gs2.2, k_207 hB1.1, v1, b1_s, kr ro3.rk hB1.1, show f_X7_hasInColumn 214 0 (nI v) S1 = some (bi b) from b1', b1_s]
    by_cases hA : b = true ∧ ok S1
    · -- told already, and no fault ahead of it
      obtain ⟨hb, ho1⟩ := hA
      subst hb
      obtain ⟨x1, x2, x3, x4⟩ := r5 ho1
      obtain ⟨j, -, j2, j3⟩ := b2'.mp rfl
      rw [hnr, if_neg (by omega)] at j2
      have hjn : j < n := by
        have : ¬ j = n := fun z => by
          rw [z] at j3
          have := x4 0 (by decide)
          exact nI_neg1 v (by omega) (j3.symm.trans this)
        omega
      have hT1j : T1.1 325 (17 + 2 * j) = nI v := by
        have := x2 j hjn 0 (by decide)
        rw [← j3]
        exact (this.trans (by rw [Nat.add_zero])).symm
      have hv40 : v ≤ 40 := by
        obtain ⟨⟨u, -, u2, u3⟩, -⟩ := x3 j hjn
        have := (nI_eq (by omega) (by omega)).mp (hT1j.symm.trans (show T1.1 325 (17 + 2 * j) = nI u from u3))
        omega
      have hoS := o1 ho1
      obtain ⟨M, M1, M2, M3⟩ := hm hoS
      have hbit : M.testBit v = true := (M3 v hv40).mpr ⟨j, hjn, by rw [← m1.told]; exact hT1j⟩
      -- the class
      have hWn : Wr (sI (sI S1 207 11 2) 207 12 (nI s1)) := hB1.1
      have fn : FU S1 (sI (sI S1 207 11 2) 207 12 (nI s1)) := (FU.I (by decide) (by decide)).tr (FU.I (by decide) (by decide))
      have kn : ∀ i, i ≤ 10 → (sI (sI S1 207 11 2) 207 12 (nI s1)).1 207 i = S1.1 207 i := fun i hi => by rw [sI_at, if_neg (by omega), sI_at, if_neg (by omega)]
      have en11 : (sI (sI S1 207 11 2) 207 12 (nI s1)).1 207 11 = 2 := rfl
      have en12 : (sI (sI S1 207 11 2) 207 12 (nI s1)).1 207 12 = nI s1 := rfl
      rw [if_neg (show ¬ bi true = 0 by decide), i_207 hB1.1, hk1.1, k_207 hB1.1, note_v hB1.1, if_pos (show S1.1 207 11 = 0 from ho1), b1_s]
      generalize sI (sI S1 207 11 2) 207 12 (nI s1) = Sn at hWn fn kn en11 en12 ⊢
      have fa : FM T1 (sI T1 326 0 (nI v)) := FM.A
      have hBn := (hB1.fu fn).fM fa
      have hkn : Tk L B Sn (sI T1 326 0 (nI v)) s1 e1 2 := hk1.mv (fun i _ b => kn i b) (fun _ _ => rfl) rfl
      obtain ⟨S2, T2, s2, e2, k2, t1, t2, t3, t4, t5, t6, t7⟩ := tok_both hBn heL1 hkn.2.1 hkn.2.2.2.2.1
      have hB2 := (hBn.ft t3).fm t4
      have hC : f_X5_takeNumber 207 0 40 Sn = some (nI v, S2) := by
        unfold f_X5_takeNumber f_X5_isBroken f_X5_takeNumber_45
        have vv := (val_v hBn hkn).1
        rw [(val_v hB1 hk1).1.symm.trans v1 |> Option.some.inj] at vv
        rw [i_207 hWn, hkn.2.2.1, if_pos (show nI 2 = 2 from rfl), k_207 hWn, i_207 hWn, en11, if_neg (by decide), b1_s, if_pos rfl, k_207 hWn, vv, b1_s, if_neg (nI_pos (by omega)), if_pos (show nI v ≤ 40 from nI_le (b := 40) hv40 (by decide)), k_207 hWn, t1, b1_s]
      have hM : f_X12_take 313 0 0 40 T1 = some (1, T2) := take_v _ _ _ (Or.inr rfl) hB1.2.1 (by
        have hW1 : Wr (sI T1 326 0 (nI v)) := hB1.2.1
        have e16 : (sI T1 326 0 (nI v)).1 313 16 = nI v := v2
        unfold f_X12_takeBut f_X12_takeBut_53
        rw [i_313 hB1.2.1, hk1.2.2.2.2.2.1, if_pos (show nI (kM 2) = 3 from rfl), r_313_22 hB1.2.1, i_313 hB1.2.1, v2, show qI (some 326) 0 (nI v) T1 _ = _ from q_326 (k := 0) hB1.2.1 (by decide), i_313 hW1, e16, show f_X12_in (nI v) 0 40 _ = some 1 from in_y (a := 0) (b := 40) (by omega) hv40 (by decide), b1_s, if_neg n10, i_313 hW1, e16, if_neg (nI_neg1 _ (by omega)), k_313 hW1, t2, b1_s])
      have u26 : T2.1 326 0 = nI v := by
        rw [t4.2.2 326 0 (by omega), sI_at, if_pos rfl]
      have fm2 : FM T T2 := m1.tr (fa.tr t4.fm)
      have u24 : T2.2.1 313 24 = lN M := by rw [fm2.2.1 313 24 (by omega)]; exact M1
      have u19 : T2.1 313 19 = 0 := by
        rw [t4.2.2 313 19 (by omega)]
        exact (FAv.z hF1).mp ho1
      rw [e46, rCl, r_207_1 hWn, r_209 hWn gs2.2]
      obtain ⟨S3, y1, y2, y3, y4⟩ := setLast_v (c := 0) ro3.rk hB2.1 (show S2.1 214 1 = nI 2 by rw [t3.fu.at (by decide), fn.at (by decide)]; exact r1) (show S2.1 214 3 = _ by rw [t3.fu.at (by decide), fn.at (by decide)]; exact r3) hcnt (by decide) (nI v)
      have z1 : (c2 (some 207) 5 Sn (fun o' => f_X5_takeNumber o' (nI (0, 40, 0).1) (nI (0, 40, 0).2.1) Sn) fun v S9 => c1 (some 214) 7 S9 (fun o' => f_X7_setLast o' (nI (0, 40, 0).2.2) v S9) fun S8 => rCl 2 [(0, 30, 1)] S8) = rCl 2 [(0, 30, 1)] S3 := by
        rw [kk_207 hWn, show f_X5_takeNumber 207 (nI (0, 40, 0).1) (nI (0, 40, 0).2.1) Sn = some (nI v, S2) from hC, b2_s, kr ro3.rk hB2.1, show f_X7_setLast 214 (nI (0, 40, 0).2.2) (nI v) S2 = some S3 from y1, b1_s]
      have hbl : lg_cmp (jlshr (lN M) (nI v) &&& 1) 1 = 0 := lcp ((bit_l M2 hv40).mpr hbit)
      have hlat : f_X12_later 313 2 (nI s1) T2 = some (sI (sI T2 313 19 2) 313 20 (nI s1)) := by
        have := later_v (T := T2) (s := s1) hB2.2.1 (Or.inl ⟨rfl, u19, rfl⟩ : FAv s1 0 (-1) T2) (by omega) 2
        rw [if_pos rfl] at this
        exact this
      rw [z1, kk_313 hB1.2.1, hM, b2_s, if_neg n10, r_313_22 hB2.2.1, show yI (some 326) 14 0 T2 _ = _ from y_326 (k := 0) hB2.2.1 (by decide), u26, if_neg (show ¬ (40 : Int32) < nI v from nI_nlt (a := 40) hv40 (by decide)), j_313 hB2.2.1, u24, r_313_22 hB2.2.1, show yI (some 326) 14 0 T2 _ = _ from y_326 (k := 0) hB2.2.1 (by decide), u26, if_pos hbl, k_313 hB2.2.1, hlat, b1_s]
      have k207 : ∀ i, S3.1 207 i = S2.1 207 i := fun i => y2.2 207 i (by omega) (by decide)
      have f3 : FM T2 (sI (sI T2 313 19 2) 313 20 (nI s1)) := (FM.I (by omega)).tr (FM.I (by omega))
      have e11 : S3.1 207 11 = 2 := by rw [k207, t3.2 _ _ (by omega), en11]
      have e12 : S3.1 207 12 = nI s1 := by rw [k207, t3.2 _ _ (by omega), en12]
      have nok : ¬ ok S3 := fun z => by
        unfold ok at z
        rw [e11] at z
        exact absurd z (by decide)
      have fs : FC 214 S S3 := c1'.tr (fn.fc.tr (t3.fc.tr y2.fc))
      refine proper_t (s := s2) (e := e2) (k := k2) (n := n) (v := v) ((hB2.fc y2.fc (by decide)).fM f3) (t7.mv (fun i _ _ => k207 i) (fun i hi => by rw [sI_at, if_neg (by omega), sI_at, if_neg (by omega)]) rfl) (Or.inr ⟨2, s1, Or.inl rfl, by omega, e11, e12, rfl, rfl⟩) h.2.1 hG' fs (fm2.tr f3).x (by omega) ?_ u26 v3 (fun z => absurd z nok) ?_ ?_ ?_
      · refine ⟨?_, ?_, r2, ?_, ?_, fun z => absurd z nok⟩
        · rw [y3, t3.fu.at (by decide), fn.at (by decide)]
          exact r0
        · rw [y3, t3.fu.at (by decide), fn.at (by decide)]
          exact r1
        · rw [y3, t3.fu.at (by decide), fn.at (by decide)]
          exact r3
        · show T2.1 325 2 = _
          rw [fm2.told, ← m1.told]
          exact r4
      · show T2.1 325 = _
        exact fm2.told
      · show T2.1 313 23 = _
        exact fm2.2.2 313 23 (by omega) (by decide)
      · show T2.2.1 313 24 = _
        exact fm2.2.1 313 24 (by omega)
    · -- not told, or a fault already
      have hC46 : (if bi b = 0 then f_X5_readProper_46 207 S1 else xI (some 207) 5 9 S1 fun v12 => c1 (some 207) 5 S1 (fun o' => f_X5_noteFault o' 2 v12 S1) fun S14 => f_X5_readProper_46 207 S14) = f_X5_readProper_46 207 S1 := by
        by_cases hb : b = true
        · subst hb
          rw [if_neg (show ¬ bi true = 0 by decide), i_207 hB1.1, k_207 hB1.1, note_v hB1.1, if_neg (show ¬ S1.1 207 11 = 0 from fun z => hA ⟨rfl, z⟩), b1_s]
        · rw [if_pos (show bi b = 0 by cases b <;> simp_all [bi])]
      rw [hC46, e46, rCl, r_207_1 hB1.1, r_209 hB1.1 gs2.2]
      obtain ⟨S2, T2, s2, e2, k2, y1, y2, y3, y4, y5, y6, y7, y8, y9, y10, y11, y12, y13⟩ := ts_val (P' := pStep v) (v := v) ro3.rk hB1 hk1 hF1 hR1 (lo := 0) (hi := 40) (c := 0) (by decide) (by decide) (by decide) v1 v3 (fun f g _ _ z => ⟨up_at, up_at, z⟩)
      have hs2 := y6.le
      have z1 : (c2 (some 207) 5 S1 (fun o' => f_X5_takeNumber o' (nI (0, 40, 0).1) (nI (0, 40, 0).2.1) S1) fun v S9 => c1 (some 214) 7 S9 (fun o' => f_X7_setLast o' (nI (0, 40, 0).2.2) v S9) fun S8 => rCl 2 [(0, 30, 1)] S8) = rCl 2 [(0, 30, 1)] S2 := y1 _
      have u26 : T2.1 326 0 = nI v := by rw [y11, up_at]
      have fm2 : FM T T2 := m1.tr y4
      have h53 : (if (40 : Int32) < nI v then f_X12_properLine_53 313 T2 else xJ (some 313) 12 24 T2 fun v6 => xR (some 313) 12 22 T2 fun v7 => yI v7 14 0 T2 fun v8 => if lg_cmp (jlshr v6 v8 &&& 1) 1 = 0 then c1 (some 313) 12 T2 (fun o' => f_X12_later o' 2 (nI s1) T2) fun S10 => f_X12_properLine_53 313 S10 else f_X12_properLine_53 313 T2) = f_X12_properLine_53 313 T2 := by
        by_cases z : 40 < v
        · rw [if_pos (show (40 : Int32) < nI v from nI_lt (a := 40) z (by omega))]
        · rw [if_neg (show ¬ (40 : Int32) < nI v from nI_nlt (a := 40) (by omega) (by decide)), j_313 y5.2.1, r_313_22 y5.2.1, show yI (some 326) 14 0 T2 _ = _ from y_326 (k := 0) y5.2.1 (by decide), u26]
          by_cases ho : ok S2
          · have ho1 := (y10 ho).1
            obtain ⟨M, M1, M2, M3⟩ := hm (o1 ho1)
            rw [fm2.2.1 313 24 (by omega), M1, if_neg (lcn _)]
            intro w
            have := (bit_l M2 (show v ≤ 40 by omega)).mp w
            obtain ⟨j, j1, j2⟩ := (M3 v (by omega)).mp this
            obtain ⟨x1, x2, x3, x4⟩ := r5 ho1
            refine hA ⟨b2'.mpr ⟨j, Nat.zero_le _, by rw [hnr]; split <;> omega, ?_⟩, ho1⟩
            have := x2 j j1 0 (by decide)
            rw [← j2, ← m1.told]
            exact this.trans (by rw [Nat.add_zero])
          · split
            · have hv40 : v ≤ 40 := by omega
              obtain ⟨u1, u2⟩ := y13 (Nat.zero_le _) hv40
              have hno : ¬ S1.1 207 11 = 0 := fun w => ho ((FAv.z y7).mpr (u1.trans ((FAv.z hF1).mp w)))
              rw [k_313 y5.2.1, later_v y5.2.1 (FAv.up hF1 (Nat.le_refl _) u1 u2) (show s1 ≤ 600 by omega) 2, if_neg hno, b1_s]
            · rfl
      rw [z1, kk_313 hB1.2.1, show f_X12_take 313 0 0 40 T1 = some (1, T2) from y2, b2_s, if_neg n10, r_313_22 y5.2.1, show yI (some 326) 14 0 T2 _ = _ from y_326 (k := 0) y5.2.1 (by decide), u26, h53]
      exact proper_t y5 y6 y7 h.2.1 hG' (c1'.tr y3) fm2.x (by omega) y12 u26 v3 (fun z => o1 (y10 z).1) fm2.told (fm2.2.2 313 23 (by omega) (by decide)) (fm2.2.1 313 24 (by omega))
  · have e2 : ¬ nI k1 = 2 := fun z => q2 ((nI_eq (b := 2) (by have := hk1.2.2.2.2.2.2.2.2.2.1; omega) (by decide)).mp z)
    rw [if_neg e2, e46, rCl, r_207_1 hB1.1, r_209 hB1.1 gs2.2]
    rcases ts_both (P' := fun f g => True) ro3.rk hB1 hk1 hF1 hR1 (lo := 0) (hi := 40) (c := 0) (by decide) (by decide) (by decide) (fun f g v y a b => trivial) with ⟨z, -⟩ | ⟨z, S2, T2, y1, y2, y3, y4, y5⟩
    · exact absurd z q2
    · obtain ⟨S9, w1, w2, w3⟩ := rows_b ro3 gs2 [(0, 30, 1)] S2 y5 (by decide)
      have z1 : (c2 (some 207) 5 S1 (fun o' => f_X5_takeNumber o' (nI (0, 40, 0).1) (nI (0, 40, 0).2.1) S1) fun v S9 => c1 (some 214) 7 S9 (fun o' => f_X7_setLast o' (nI (0, 40, 0).2.2) v S9) fun S8 => rCl 2 [(0, 30, 1)] S8) = rCl 2 [(0, 30, 1)] S2 := y1 _
      rw [z1, w1, kk_313 hB1.2.1, show f_X12_take 313 0 0 40 T1 = some (0, T2) from y2, b2_s, if_pos rfl, b2_s]
      exact lx_brk hD ro3 rfl rfl ((c1'.tr y3).tr w3) (m1.tr y4).x h.2.1 w2
end LV
