/-! drawn: both answer alike -/
section BU
variable {S S' T : GS} {k : Nat}
theorem Wd.ob {co : Nat} {w : Nat → Nat} (hO : OfB S S') (ho : co + 7 < 230) (h : Wd S co w) : Wd S' co w := by
  obtain ⟨c0, c1, c2, c3, c4⟩ := h
  have hgk : ∀ o, gk S' o = gk S o := fun o => by
    unfold gk
    rw [hO.2.1]
  exact ⟨by rw [hgk]; exact c0, by rw [hO.2.2.1 _ _ (by omega)]; exact c1, by rw [hgk]; exact c2, c3, by rw [hO.2.2.2 _ (Or.inl (by omega))]; exact c4⟩
theorem gst_ex (w : Nat → Nat) : ∃ gs : Int32 → Nat, (∀ s, gs s < 3) ∧ (∀ (co nl nro : Nat) (D : DSt), 0 < sw w → ∀ s T, Hx T co nl nro D → Wd T co w → f_X2_gustOf 230 (jushr s 16) T = some (nI (gs s))) ∧ ∀ s, (¬ nI (w 0) ≤ jrem (jushr s 16) (nI (sw w)) ∧ gs s = 0) ∨ (nI (w 0) ≤ jrem (jushr s 16) (nI (sw w)) ∧ ¬ nI (w 0) + nI (w 1) ≤ jrem (jushr s 16) (nI (sw w)) ∧ gs s = 1) ∨ (nI (w 0) ≤ jrem (jushr s 16) (nI (sw w)) ∧ nI (w 0) + nI (w 1) ≤ jrem (jushr s 16) (nI (sw w)) ∧ gs s = 2) := by
  refine ⟨gstV w, gst_lt w, fun co nl nro D hp s T h hw => gustC h hw hp s, fun s => ?_⟩
  unfold gstV
  by_cases q : nI (w 0) ≤ jrem (jushr s 16) (nI (sw w))
  · by_cases z : nI (w 0) + nI (w 1) ≤ jrem (jushr s 16) (nI (sw w))
    · exact Or.inr (Or.inr ⟨q, z, by rw [if_pos q, if_pos z]⟩)
    · exact Or.inr (Or.inl ⟨q, z, by rw [if_pos q, if_neg z]⟩)
  · exact Or.inl ⟨q, by rw [if_neg q]⟩
theorem nxt_ex : ∃ nx : Int32 → Int32, ∀ s : Int32, s * 1103515245 + 12345 = nx s := ⟨nxtV, nxt_e⟩
theorem both_drawn (h : Inv S) (x1 x2 x3 x4 : Int32) : Both2 (f_X11_drawn 0 x1 x2 x3 x4) (f_X12_drawn 313 x1 x2 x3 x4) S := by
  have hW := h.1
  have z0 : Sm S (s0 S) := sm_I (by decide)
  rcases in_or (S := S) x3 0 60 with e | e
  · refine ⟨-1, S, s0 S, ?_, ?_, h.sm z0⟩
    · unfold f_X11_drawn
      rcases tld h (s := 0) (by decide) x1 with ⟨k, rfl, hk⟩ | hn
      · rw [r_0_0 hW, k_1 hW, courtAt_y hW hk, b1_s, nul_s, in0_if 60 e]
      · rw [r_0_0 hW, k_1 hW, courtAt_n hW hn, b1_s, nul_n]
    · unfold f_X12_drawn
      rw [p_313 hW, in_S (S' := S), e, b1_s, if_pos rfl]
  · rcases tld h (s := 0) (by decide) x1 with ⟨k, rfl, hk⟩ | hn
    · have hcf := h.cf hk.1
      obtain ⟨N, rfl, -, hN⟩ := in1 (a := 0) (b := 60) (by decide) (by decide) e
      obtain ⟨w, gl, hWd, hwm, hw0, hgl, eg1, eg2⟩ := hcf.wd (h.vc hk) hcf.1.2.2.2.2.1
      obtain ⟨gs, gs1, gs2, gs3⟩ := gst_ex w
      obtain ⟨nx, hnx⟩ := nxt_ex
      obtain ⟨rs0, rs1, rs9⟩ := h.rs hk
      have ho : 10 + 21 * k + 7 < 230 := by have := hk.1; omega
      have hI := hcf.bi0 rs9
      have hbg : (bgS S (69 * k)).1.1 = nI gl := eg2
      obtain ⟨S1, g1, g2, g3, g4⟩ := beginH hcf hW ho (h.co5 hk)
      obtain ⟨v, S2, k1, k2, k3, k4⟩ := drawC hnx gs1 (gs2 (10 + 21 * k) (nr S (10 + 21 * k + 3)) (nr S (10 + 21 * k + 1)) (dmS S (69 * k) (rsS S k)) hw0) hN x4 N 0 fu gl x2 (nI gl) (nI gl) S1 (bgS S (69 * k)) g3 (Wd.ob g2 ho hWd) hw0 hI g4 hbg (by omega) (by omega) (by unfold fu; omega)
      have o2 : OfB S S2 := g2.tr k2.ob
      have hs2 := o2.sm
      have hW2 := hs2.wr hW
      have e10 : S1.1 230 10 = nI gl := g4.1.1.trans hbg
      have hcl : f_X11_drawn 0 (nI k) x2 (nI N) x4 S = some (v, S2) := by
        unfold f_X11_drawn
        rw [r_0_0 hW, k_1 hW, courtAt_y hW hk, b1_s, nul_s, in1_if 60 e, r_0_4 hW, kk_230 hW]
        unfold f_X2_tellWeather
        rw [k_230 hW, g1, b1_s, i_230 g3.1, i_230 g3.1, e10, show f_X2_tellWeather_23 230 fu (some (10 + 21 * k)) (nI N) x4 x2 (nI gl) (nI gl) 0 S1 = _ from k1, b2_s]
      have zs : Sm S (s0 S2) := hs2.tr (sm_I (by decide))
      have z3 : Sm S (hS (s0 S2) k) := zs.tr (hS_sm _ _)
      have hM3 : Mc (hS (s0 S2) k) k := hS_Mc hW2 hk.1
      have hx3 := modHx h hk z3 hM3
      have n8 : nlS S k ≤ 8 := hcf.n8
      have hmo : f_X12_drawn 313 (nI k) x2 (nI N) x4 S2 = b1 (f_X12_in x4 0 6 S2) fun v6 => if v6 = 0 then b1 (f_X12_in x4 10 (9 + nI (nlS S k)) S2) fun v9 => if v9 = 0 then some (-1, hS (s0 S2) k) else f_X12_drawn_53 313 x2 (nI N) x4 (hS (s0 S2) k) else f_X12_drawn_53 313 x2 (nI N) x4 (hS (s0 S2) k) := by
        unfold f_X12_drawn
        rw [p_313 hW2, in_S (S' := S), e, b1_s, if_neg n10, kk_313 (S := s0 S2) hW2, hand_y (S := s0 S2) hW2 (hk.sm zs), b2_s, if_neg n10, in_S (S' := S2)]
        congr 1
        funext v6
        rw [i_313 hM3.1, hx3.n27, in_S (S' := S2)]
      have hfin : ∀ j, x4 = nI j → (j < 7 ∨ (10 ≤ j ∧ j - 10 < nlS S k)) → j < 2 ^ 31 → ∃ S', f_X12_drawn_53 313 x2 (nI N) x4 (hS (s0 S2) k) = some (v, S') ∧ Sm S S' := fun j ej hj hj2 => by
        subst ej
        have hT : Sm S (sI (hS (s0 S2) k) 313 60 x2) := z3.tr (sm_I (by decide))
        have hMT : Mc (sI (hS (s0 S2) k) 313 60 x2) k := hM3.pI (by decide)
        obtain ⟨S4, b1', b2', b3'⟩ := modBeg h hk hT hMT
        have z4 : Sm S S4 := hT.tr b2'.sm
        have hx4 := b2'.hx (modHx h hk hT hMT)
        have e19 : S4.1 319 = S.1 319 := z4.2.2 319 (by decide)
        obtain ⟨S5, m1, m2, -⟩ := still_v (w := w) (gl := gl) ⟨hx4.1, by rw [e19]; exact hwm⟩ hgl (by rw [e19]; exact eg2)
        have z5 : Sm S S5 := (z4.tr (sm_I (by decide))).tr m2.sm
        have hx5 : HxM S5 k (nlS S k) (nrS S k) (dS S k) := (hx4.pI (by decide)).l m2
        have hB5 : HM S5 (nlS S k) (nrS S k) (bgS S (69 * k)) := (b3'.pI (by decide)).l m2
        have e50 : S5.1 313 50 = nI (sw w) := by rw [m2.1, sI_at, if_pos rfl]
        have e60 : S5.1 313 60 = x2 := by rw [m2.1, sI_at, if_neg (by decide), b2'.2.2 60 (by decide), sI_at, if_pos rfl]
        have e29 : S5.1 313 29 = nI gl := hB5.1.1.trans hbg
        obtain ⟨S6, r1, r2⟩ := drawM (D := dS S k) rs1 hnx gs3 hN hj N 0 fu gl x2 (nI gl) (nI gl) S5 (bgS S (69 * k)) hx5 ⟨hx5.1, by rw [z5.2.2 319 (by decide)]; exact hwm⟩ hw0 hI hB5 hbg (by omega) e50 e60 (by omega) (by unfold fu; omega)
        refine ⟨S6, ?_, z5.tr r2⟩
        unfold f_X12_drawn_53
        rw [p_313 hM3.1, k_313 hMT.1, b1', b1_s, k_313 hx4.1.1, m1, b1_s, i_313 hx5.1.1, i_313 hx5.1.1, e29, show f_X12_drawn_81 313 fu (nI N) (nI j) (nI gl) (nI gl) 0 S5 = _ from r1, k3 j rfl hj hj2]
        rfl
      rcases numQ x4 7 with ⟨j, rfl, hj⟩ | hx
      · obtain ⟨S6, r1, r2⟩ := hfin j rfl (Or.inl hj) (by omega)
        refine ⟨v, S2, S6, hcl, ?_, h.sm r2⟩
        rw [hmo, show f_X12_in (nI j) 0 6 S2 = some 1 from in_y (a := 0) (b := 6) (by omega) (by omega) (by omega), b1_s, if_neg n10, r1]
      · have e0 : f_X12_in x4 0 6 S2 = some 0 := by
          rw [m_in]
          rcases hx with q | ⟨l, hl, rfl, hq⟩
          · rw [if_pos q]
          · rw [if_neg (nI_pos hl), if_pos (show (6 : Int32) < nI l from nI_lt (a := 6) (by omega) hl)]
        rcases in_or (S := S2) x4 10 (9 + nI (nlS S k)) with y | y
        · refine ⟨-1, S2, hS (s0 S2) k, ?_, ?_, h.sm z3⟩
          · rw [hcl, k4]
            rintro ⟨j, rfl, hj, hj2⟩
            rw [m_in, show (9 : Int32) + nI (nlS S k) = nI (9 + nlS S k) from nI_add 9 _] at y
            rcases hj with hj | ⟨h1, h2⟩
            · rcases hx with q | ⟨l, hl, el, hq⟩
              · exact nI_pos hj2 q
              · have := (nI_eq hj2 hl).mp el
                omega
            · have h2 : j - 10 < nlS S k := h2
              rw [if_neg (show ¬ nI j < 10 from nI_nlt (b := 10) h1 hj2), if_neg (nI_nlt (by omega) (by omega))] at y
              exact absurd y (by decide)
          · rw [hmo, e0, b1_s, if_pos rfl, y, b1_s, if_pos rfl]
        · rw [show (9 : Int32) + nI (nlS S k) = nI (9 + nlS S k) from nI_add 9 _] at y
          obtain ⟨j, rfl, j1, j2⟩ := in1 (a := 10) (b := 9 + nlS S k) (by decide) (by omega) y
          obtain ⟨S6, r1, r2⟩ := hfin j rfl (Or.inr ⟨j1, by omega⟩) (by omega)
          refine ⟨v, S2, S6, hcl, ?_, h.sm r2⟩
          rw [hmo, e0, b1_s, if_pos rfl, show (9 : Int32) + nI (nlS S k) = nI (9 + nlS S k) from nI_add 9 _, y, b1_s, if_neg n10, r1]
    · refine ⟨-1, S, s0 S, ?_, ?_, h.sm z0⟩
      · unfold f_X11_drawn
        rw [r_0_0 hW, k_1 hW, courtAt_n hW hn, b1_s, nul_n]
      · unfold f_X12_drawn
        rw [p_313 hW, in_S (S' := S), e, b1_s, if_neg n10, kk_313 (S := s0 S) hW, hand_n (S := s0 S) hW (hn.sm z0), b2_s, if_pos rfl]
end BU
