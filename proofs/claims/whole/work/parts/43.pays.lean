/-! pays: both answer alike -/
section PA
variable {S S' : GS} {o b k l : Nat} {c : Int32} {v : Nat → Int32}
theorem Of2.sm {a b : Nat} (h : Of2 a b S S') (ha : Pm a = false) (hb : Pm b = false) : Sm S S' := ⟨by rw [h.1], fun o i _ => by rw [h.1], fun o q => h.2 o (fun e => by rw [e, ha] at q; cases q) (fun e => by rw [e, hb] at q; cases q)⟩
theorem Inv.of309 (h : Inv S) (hO : Of2 309 310 S S') (h0 : S'.1 309 0 = 0) : Inv S' := by
  obtain ⟨c1, c2, c3, c4⟩ := h
  have hq : ∀ o, o ≠ 309 → o ≠ 310 → S'.1 o = S.1 o := hO.2
  refine ⟨hO.wr c1, fun j hj => (c2 j hj).sm (fun i hi => hq _ (by have := tO_le hj; omega) (by have := tO_le hj; omega)) (fun a h1 h2 => hq _ (by omega) (by omega)) (hq 206 (by decide) (by decide)), ⟨?_, h0, by rw [hq 314 (by decide) (by decide)]; exact c3.2.2⟩, ?_⟩
  · rw [hq 206 (by decide) (by decide), hq 342 (by decide) (by decide)]
    exact c3.1
  · obtain ⟨d1, d2, d3, d4, d5, d6, d7, d8, d9⟩ := c4
    exact ⟨d1.sm (hq _ (by decide) (by decide)), d2.sm (hq _ (by decide) (by decide)), d3.sm (hq _ (by decide) (by decide)), d4.sm (hq _ (by decide) (by decide)), d5.sm (hq _ (by decide) (by decide)), d6.sm (hq _ (by decide) (by decide)), d7.sm (hq _ (by decide) (by decide)), d8.sm (hq _ (by decide) (by decide)), d9.sm (hq _ (by decide) (by decide))⟩
theorem pay_ring (a b p : Int32) : a + b - (p + b) = a - p := by grind
theorem pay_eq (v : Nat → Int32) : 8 - nI (gG (z1 v) 255) = nI (8 - nzN v 8) - nI (gG (z2 v) (owN v)) := by
  have h := nz_le v 8
  rw [g_all, ← nI_add, show (8 : Int32) = nI (8 - nzN v 8) + nI (nzN v 8) by rw [nI_add, Nat.sub_add_cancel h]; rfl]
  exact pay_ring _ _ _
theorem both_pays (h : Inv S) (x1 x2 : Int32) : Both2 (f_X11_pays 0 x1 x2) (f_X12_pays 313 x1 x2) S := by
  have hW := h.1
  unfold Both2 f_X11_pays f_X12_pays
  rcases tld h (s := 4) (by decide) x1 with ⟨k, rfl, hk⟩ | hn
  · have hf := h.lf_l hk.1
    have hm : nr S (27 + 21 * k) ≤ 30 := hf.1.2.2.2.2.2.2.2.1
    have hk2 := hk.1
    rw [r_0_0 hW, k_1 hW, rowsAt_l hW hk, b1_s, nul_s]
    by_cases q : x2 = 0
    · rw [if_pos q, r_0_8 hW, kk_308 hW]
      generalize hv : (fun l => netS (pD S k 0) (pD S k 1) (pD S k 2) (nI l) (nr S (27 + 21 * k)) 0 0) = v
      have hv2 : ∀ l, v l = netS (pD S k 0) (pD S k 1) (pD S k 2) (nI l) (nr S (27 + 21 * k)) 0 0 := fun l => by rw [← hv]
      obtain ⟨S1, g1, g2, g3⟩ := payC_2 (S := S) (co := 27 + 21 * k) (v := v) (r := nI (8 - nzN v 8) - nI (gG (z2 v) (owN v))) (pay_eq v) (fun S' hO l hl => by
        obtain ⟨r1, r2, r3⟩ := hf.1.of hO (by omega) (by omega)
        have e323 : S'.1 323 = S.1 323 := hO.2 323 (by decide)
        have hf' : LF S' (27 + 21 * k) 3 30 323 (91 * k) (91 * k + 1) vPawn := by
          refine ⟨r1, ?_, ?_, ?_⟩
          · rw [e323, r2]; exact hf.2.1
          · rw [r2, r3, e323]; exact hf.2.2.1
          · rw [r2, e323]; exact hf.2.2.2
        have e : ∀ i, pD S' k i = pD S k i := fun i => by
          funext j
          unfold pD
          rw [e323]
        rw [netOf_v hf', r2, e, e, e, hv2]) 8 0 fu S hW (Of.rf _ _) h.2.2.1.2.1 (fun i hi => absurd hi (Nat.not_lt_zero _)) (by omega) (by unfold fu; omega)
      have hI1 := h.of309 g2 g3
      have hW1 := hI1.1
      have hk1 : TD S1 4 k := by
        unfold TD
        rw [g2.2 3 (by decide) (by decide), g2.2 318 (by decide) (by decide)]
        exact hk
      have e323 : S1.1 323 = S.1 323 := g2.2 323 (by decide) (by decide)
      obtain ⟨S4, f1, f2, f3⟩ := findNets_v (S := sI (s0 S1) 313 55 (nI k)) hk.1 hm hW1 rfl (by show S1.1 323 _ = _; rw [e323]; exact hf.2.1) (by show ∀ j, j < _ → vPawn (fun i => S1.1 323 _); rw [e323]; exact hf.2.2.2)
      have hW4 := f2.wr hW1
      have hs4 : Sm S1 S4 := ((sm_I (by decide)).tr (sm_I (by decide))).tr (f2.sm (by decide))
      generalize hS5 : sI S4 340 0 0 = S5
      have o5 : Of 340 S4 S5 := by rw [← hS5]; exact of_I
      have hW5 := o5.wr hW4
      generalize hS6 : sI S5 341 0 0 = S6
      have o6 : Of 341 S5 S6 := by rw [← hS6]; exact of_I
      have hW6 := o6.wr hW5
      have eD : ∀ i, pD (sI (s0 S1) 313 55 (nI k)) k i = pD S k i := fun i => by
        funext j
        show S1.1 323 _ = S.1 323 _
        rw [e323]
      obtain ⟨S7, p1, p2⟩ := pay22 (S := S6) (v := v) 8 0 fu hW6 ⟨fun b hb => by
        have : b = 0 := by omega
        subst this
        rw [← hS6, sI_at, if_pos rfl, gG_0]
        rfl, fun l hl => by
        rw [o6.2 339 (by decide), o5.2 339 (by decide), f3 l hl, eD, eD, eD, hv2]⟩ (by omega) (by unfold fu; omega)
      refine ⟨nI (8 - nzN v 8) - nI (gG (z2 v) (owN v)), S1, S7, ?_, ?_, hI1.sm (hs4.tr ((o5.sm (by decide)).tr ((o6.sm (by decide)).tr (p2.sm (by decide) (by decide)))))⟩
      · unfold f_X1_fewestPayments
        rw [show f_X1_fewestPayments_2 308 fu (some (27 + 21 * k)) 0 S = _ from g1, b2_s]
      · rw [p_313 hW1, kk_313 (S := s0 S1) hW1, hasLe_y (S := s0 S1) hW1 (hk1.sm (sm_I (by decide))), b2_s, if_neg n10, if_pos q, kk_313 (S := sI (s0 S1) 313 55 (nI k)) hW1]
        unfold f_X12_payments
        rw [k_313 (S := sI (s0 S1) 313 55 (nI k)) hW1, f1, b1_s, r_313_57 hW4, show qI (some 340) 0 0 S4 _ = _ from q_340 (k := 0) hW4 (by decide), hS5, r_313_58 hW5, show qI (some 341) 0 0 S5 _ = _ from q_341 (k := 0) hW5 (by decide), hS6, show f_X12_payments_22 313 fu 0 0 S6 = _ from p1, b2_s]
    · have hs3 : Sm S (sI (s0 S) 313 55 (nI k)) := (sm_I (by decide)).tr (sm_I (by decide))
      have hMl : Ml (sI (s0 S) 313 55 (nI k)) k (nr S (27 + 21 * k)) := ⟨hW, hk.1, hm, rfl, hf.2.1, hf.2.2.2⟩
      have eD : ∀ i, pD (sI (s0 S) 313 55 (nI k)) k i = pD S k i := fun i => rfl
      have eO : (fun l => owS (sI (s0 S) 313 55 (nI k)) k l (nr S (27 + 21 * k))) = fun l => owS S k l (nr S (27 + 21 * k)) := rfl
      have e2 := chain_both hMl
      rw [eD, eD, eO] at e2
      have e1 := chainC hf
      generalize chO (chI (pD S k 0) (pD S k 1) (nr S (27 + 21 * k)) 0) 8 _ = r at e1 e2
      refine ⟨r, S, sI (s0 S) 313 55 (nI k), by rw [if_neg q, e1, b1_s], ?_, h.sm hs3⟩
      rw [p_313 hW, kk_313 (S := s0 S) hW, hasLe_y (S := s0 S) hW (hk.sm (sm_I (by decide))), b2_s, if_neg n10, if_neg q, k_313 (S := sI (s0 S) 313 55 (nI k)) hW, e2, b1_s]
  · refine ⟨-1, S, sI (s0 S) 313 55 x1, ?_, ?_, h.sm ((sm_I (by decide)).tr (sm_I (by decide)))⟩
    · rw [r_0_0 hW, k_1 hW, rowsAt_n hW (s := 4) (by decide) 4 rfl hn, b1_s, nul_n]
    · rw [p_313 hW, kk_313 (S := s0 S) hW, hasLe_n (S := s0 S) hW (hn.sm (sm_I (by decide))), b2_s, if_pos rfl]
end PA
