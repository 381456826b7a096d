/-! drawn: the class -/
section BS
variable {S S' T : GS} {co nl nro c : Nat} {D : DSt} {B : BSt} {w : Nat → Nat}
theorem drawC {nx : Int32 → Int32} {gs : Int32 → Nat} (hnx : ∀ s : Int32, s * 1103515245 + 12345 = nx s) (hgs : ∀ s, gs s < 3) (hgC : ∀ s T, Hx T co nl nro D → Wd T co w → f_X2_gustOf 230 (jushr s 16) T = some (nI (gs s))) {N : Nat} (hN : N ≤ 60) (x4 : Int32) : ∀ (d k nn m : Nat) (s lo hi : Int32) (S : GS) (B : BSt), Hx S co nl nro D → Wd S co w → 0 < sw w → BI nl nro D.2.2.2.2.2 B → HB S nl nro B → B.1.1 = nI m → m < 41 → k + d = N → d < nn → ∃ v S', f_X2_tellWeather_23 230 nn (some co) (nI N) x4 s lo hi (nI k) S = some (v, S') ∧ OfA 230 247 S S' ∧ (∀ j, x4 = nI j → (j < 7 ∨ (10 ≤ j ∧ j - 10 < nl)) → j < 2 ^ 31 → v = drwA nl j (drwB D nl nx gs d s m lo hi B)) ∧ (¬ okX nl x4 → v = -1)
  | _, _, 0, _, _, _, _, _, _, _, _, _, _, _, _, _, _, hn => absurd hn (Nat.not_lt_zero _)
  | 0, k, nn + 1, m, s, lo, hi, S, B, h, hw, hp, hI, hB, hm, hm41, hk, _ => by
    obtain ⟨v, g1, g2, g3⟩ := drawEnd h hI hB (N := N) (k := k) (nn := nn) (by omega) (by omega) x4 s lo hi
    exact ⟨v, S, g1, OfA.rf _ _ _, g2, g3⟩
  | d + 1, k, nn + 1, m, s, lo, hi, S, B, h, hw, hp, hI, hB, hm, hm41, hk, hn => by
    have hW := h.1
    have hg := hgs (nx s)
    have haf := afN_lt m (gs (nx s))
    obtain ⟨⟨f1, f2, f3, f4, f5, f6⟩, f7, f8, f9⟩ := id hB
    generalize hS1 : sI S 230 10 (nI (afN m (gs (nx s)))) = S1
    have o1 : OfA 230 247 S S1 := by rw [← hS1]; exact of_I.ra (by decide) (by decide)
    have hx1 := o1.hx (by decide) h
    have e : ∀ i, i ≠ 10 → S1.1 230 i = S.1 230 i := fun i hi => by rw [← hS1, sI_at, if_neg hi]
    have e10 : S1.1 230 10 = nI (afN m (gs (nx s))) := by rw [← hS1, sI_at, if_pos rfl]
    have hB1 : HB S1 nl nro ((nI (afN m (gs (nx s))), B.1.2), B.2) := ⟨⟨e10, by rw [e 11 (by decide)]; exact f2, by rw [e 12 (by decide)]; exact f3, by rw [e 13 (by decide)]; exact f4, by rw [e 14 (by decide)]; exact f5, by rw [e 15 (by decide)]; exact f6⟩, fun r hr => by rw [← hS1]; exact (f7 r hr).o (Or.inl (by decide)), fun r a b => by rw [← hS1, sI_o (by decide)]; exact f8 r a b, fun l hl => by rw [← hS1]; exact (f9 l hl).o (Or.inl (by decide))⟩
    have hI1 : BI nl nro D.2.2.2.2.2 ((nI (afN m (gs (nx s))), B.1.2), B.2) := hI
    obtain ⟨S2, g1, g2, g3⟩ := minuteC hx1 hI1 hB1
    obtain ⟨v, S', k1, k2, k3, k4⟩ := drawC hnx hgs hgC hN x4 d (k + 1) nn (afN m (gs (nx s))) (nx s) (jmin lo (nI (afN m (gs (nx s))))) (jmax hi (nI (afN m (gs (nx s))))) S2 _ (g2.1.hx (by decide) hx1) (Wd.oa (o1.tr g2.1) h.2.2.1 hw) hp hI1.min g3 rfl haf (by omega) (by omega)
    refine ⟨v, S', ?_, o1.tr (g2.1.tr k2), k3, k4⟩
    rw [f_X2_tellWeather_23, if_neg (nI_ge (by omega) (by omega)), i_230 hW, f1, hm, hnx, k_230 hW, hgC (nx s) S h hw, b1_s, c1_s hw.1, markAfter_v hm41 hg, b1_s, p_230 hW, hS1, i_230 hx1.1, i_230 hx1.1, k_230 hx1.1, g1, b1_s, e10, nI_1]
    exact k1
end BS
