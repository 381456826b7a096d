/-! texts: what was read is kept: the class copies, the reference stores -/
/-- a row list was copied -/
def CpF (o o' N : Nat) (S S' : GS) : Prop := S'.1 o' 3 = S.1 o 3 ∧ S'.1 o' 0 = S.1 o' 0 ∧ S'.1 o' 1 = S.1 o' 1 ∧ ∀ i, i < N → S'.1 (o' + 1) i = S.1 (o + 1) i
section KQ
variable {α : Type} {S S' T T' F : GS} {k srt s o o' w m p q a b n N : Nat} {V V' : (Nat → Int32) → Prop}
theorem store_l {wd' ka : Nat} (ha : 319 ≤ ka) (ha2 : ka < 325) (hk : kd ka = 14) (hl : wd' * k + wd' ≤ ln ka) (hl2 : ln ka < 1000) (hw : wd' ≤ 122) : ∀ (d j N : Nat) (T : GS), j + d = wd' → d < N → Wr T → ∃ T', f_X12_store_3 313 N (some ka) (nI wd') (nI k) (nI j) T = some T' ∧ T'.2 = T.2 ∧ (∀ o, o ≠ ka → T'.1 o = T.1 o) ∧ (∀ i, j ≤ i → i < wd' → T'.1 ka (wd' * k + i) = T.1 325 i) ∧ ∀ i, ¬ (wd' * k + j ≤ i ∧ i < wd' * k + wd') → T'.1 ka i = T.1 ka i
  | _, _, 0, _, _, hN, _ => absurd hN (Nat.not_lt_zero _)
  | 0, j, N + 1, T, hj, _, hW => by
    refine ⟨T, ?_, rfl, fun _ _ => rfl, fun i a b => absurd b (by omega), fun _ _ => rfl⟩
    rw [f_X12_store_3, if_pos (nI_le (by omega) (by omega))]
  | d + 1, j, N + 1, T, hj, hN, hW => by
    obtain ⟨T', g1, g2, g3, g4, g5⟩ := store_l ha ha2 hk hl hl2 hw d (j + 1) N (sI T ka (wd' * k + j) (T.1 325 j)) (by omega) (by omega) hW
    refine ⟨T', ?_, g2, fun o ho => by rw [g3 o ho, sI_o ho], fun i a b => ?_, fun i a => ?_⟩
    · rw [f_X12_store_3, if_neg (nI_ge (by omega) (by omega)), r_313_21 hW, y_325 hW (by omega), nI_mul, nI_add, qI_w (o := ka) hW (by omega) hk rfl (by omega) (by omega), nI_1]
      exact g1
    · by_cases z : i = j
      · subst z
        rw [g5 _ (by omega), sI_at, if_pos rfl]
      · rw [g4 i (by omega) b, sI_o (by omega)]
    · rw [g5 i (by omega), sI_at, if_neg (by omega)]
theorem store_1 {wd' ka : Nat} (ha : 319 ≤ ka) (ha2 : ka < 325) (hk : kd ka = 14) (hl : wd' * k + wd' ≤ ln ka) (hl2 : ln ka < 1000) (hw : wd' ≤ 122) (hW : Wr T) : ∃ T', f_X12_store 313 (some ka) (nI wd') (nI k) T = some T' ∧ T'.2 = T.2 ∧ (∀ o, o ≠ ka → T'.1 o = T.1 o) ∧ (∀ i, i < wd' → T'.1 ka (wd' * k + i) = T.1 325 i) ∧ ∀ i, ¬ (wd' * k ≤ i ∧ i < wd' * k + wd') → T'.1 ka i = T.1 ka i := by
  obtain ⟨T', g1, g2, g3, g4, g5⟩ := store_l ha ha2 hk hl hl2 hw wd' 0 fu T (by omega) (by have : fu = 4096 := rfl; omega) hW
  exact ⟨T', g1, g2, g3, fun i hi => g4 i (Nat.zero_le _) hi, fun i hi => g5 i (by omega)⟩
theorem store_v (hs : srt < 6) (hk : k < 2) (hW : Wr T) : ∃ T', f_X12_storeAll 313 (nI srt) (nI k) T = some T' ∧ T'.2 = T.2 ∧ (∀ o, o ≠ 319 + srt → T'.1 o = T.1 o) ∧ (∀ i, i < pwi srt → T'.1 (319 + srt) (pwi srt * k + i) = T.1 325 i) ∧ ∀ i, ¬ (pwi srt * k ≤ i ∧ i < pwi srt * k + pwi srt) → T'.1 (319 + srt) i = T.1 (319 + srt) i := by
  unfold f_X12_storeAll
  rcases (show srt = 0 ∨ srt = 1 ∨ srt = 2 ∨ srt = 3 ∨ srt = 4 ∨ srt = 5 by omega) with rfl | rfl | rfl | rfl | rfl | rfl
  · obtain ⟨T', g1, g2⟩ := store_1 (T := T) (k := k) (wd' := 69) (ka := 319) (by decide) (by decide) rfl (by show _ ≤ 552; omega) (by decide) (by decide) hW
    rw [t5_0, r_313_6 hW, k_313 hW, show f_X12_store 313 (some 319) 69 (nI k) T = some T' from g1, b1_s]
    exact ⟨T', rfl, g2⟩
  · obtain ⟨T', g1, g2⟩ := store_1 (T := T) (k := k) (wd' := 121) (ka := 320) (by decide) (by decide) rfl (by show _ ≤ 968; omega) (by decide) (by decide) hW
    rw [t5_1, r_313_7 hW, k_313 hW, show f_X12_store 313 (some 320) 121 (nI k) T = some T' from g1, b1_s]
    exact ⟨T', rfl, g2⟩
  · obtain ⟨T', g1, g2⟩ := store_1 (T := T) (k := k) (wd' := 17) (ka := 321) (by decide) (by decide) rfl (by show _ ≤ 136; omega) (by decide) (by decide) hW
    rw [t5_2, r_313_8 hW, k_313 hW, show f_X12_store 313 (some 321) 17 (nI k) T = some T' from g1, b1_s]
    exact ⟨T', rfl, g2⟩
  · obtain ⟨T', g1, g2⟩ := store_1 (T := T) (k := k) (wd' := 122) (ka := 322) (by decide) (by decide) rfl (by show _ ≤ 976; omega) (by decide) (by decide) hW
    rw [t5_3, r_313_9 hW, k_313 hW, show f_X12_store 313 (some 322) 122 (nI k) T = some T' from g1, b1_s]
    exact ⟨T', rfl, g2⟩
  · obtain ⟨T', g1, g2⟩ := store_1 (T := T) (k := k) (wd' := 91) (ka := 323) (by decide) (by decide) rfl (by show _ ≤ 728; omega) (by decide) (by decide) hW
    rw [t5_4, r_313_10 hW, k_313 hW, show f_X12_store 313 (some 323) 91 (nI k) T = some T' from g1, b1_s]
    exact ⟨T', rfl, g2⟩
  · obtain ⟨T', g1, g2⟩ := store_1 (T := T) (k := k) (wd' := 21) (ka := 324) (by decide) (by decide) rfl (by show _ ≤ 168; omega) (by decide) (by decide) hW
    rw [t5_5, r_313_11 hW, k_313 hW, show f_X12_store 313 (some 324) 21 (nI k) T = some T' from g1, b1_s]
    exact ⟨T', rfl, g2⟩
/-- the class's rows: from the reader to what is told -/
theorem cpRw (hW : Wr S) (h1 : kd o = 7) (h2 : kd (o + 1) = 14) (h3 : ln (o + 1) = N) (h4 : gRf o 2 = some (o + 1)) (h1' : kd o' = 7) (h2' : kd (o' + 1) = 14) (h3' : ln (o' + 1) = N) (h4' : gRf o' 2 = some (o' + 1)) (ho : o + 1 < 230) (ho' : o' + 1 < 52) (hoo : 207 < o) (hN : N < 1000) : ∃ S', f_X7_copyFrom o' (some o) S = some S' ∧ S'.2 = S.2 ∧ (∀ x, x ≠ o' → x ≠ o' + 1 → S'.1 x = S.1 x) ∧ CpF o o' N S S' := by
  have hW1 : Wr (sCI S (o + 1) (o' + 1) 0 0 N) := hW
  have e3 : (sCI S (o + 1) (o' + 1) 0 0 N).1 o = S.1 o := sCI_o (by omega)
  have e4 : (sCI S (o + 1) (o' + 1) 0 0 N).1 o' = S.1 o' := sCI_o (by omega)
  refine ⟨sI (sCI S (o + 1) (o' + 1) 0 0 N) o' 3 (S.1 o 3), ?_, rfl, fun x a b => by rw [sI_o a, sCI_o b], ?_, ?_, ?_, fun i hi => ?_⟩
  · unfold f_X7_copyFrom
    have ra : ∀ {α : Type} {g : Option Nat → Option α}, xR (some o) 7 2 S g = g (some (o + 1)) := fun {α g} => xR_w hW (by omega) h1 (by omega) h4
    have rb : ∀ {α : Type} {g : Option Nat → Option α}, xR (some o') 7 2 S g = g (some (o' + 1)) := fun {α g} => xR_w hW (by omega) h1' (by omega) h4'
    rw [ra, xl_w hW (by omega) h2 h3, rb, xl_w hW (by omega) h2' h3', if_pos rfl, ra, rb, rb, xl_w hW (by omega) h2' h3', acI_v (gk_n hW (by omega) h2) (gk_n hW (by omega) h2') (by omega) (by omega) (by omega) (by omega), xI_w hW1 (by omega) h1, pI_w hW1 (by omega) h1', e3]
  · rw [sI_at, if_pos rfl]
  · rw [sI_at, if_neg (by decide), e4]
  · rw [sI_at, if_neg (by decide), e4]
  · rw [sI_o (by omega), sCI_at hi]
/-- rows kept, as the relation wants them -/
theorem newL (hR : RLn S T o w m p q V n) (ho : ok S) (h0 : F.1 o' 0 = nI m) (h1 : F.1 o' 1 = nI w) (h3 : F.1 o' 3 = S.1 o 3) (hcell : ∀ i, i < m * w → F.1 (o' + 1) i = S.1 (o + 1) i) (hp : F.1 a (b + p) = T.1 325 p) (hq : ∀ i, i < m * w → F.1 a (b + q + i) = T.1 325 (q + i)) (hV : ∀ k, k < n → V (fun i => T.1 325 (q + (w * k + i))) → V' (fun i => F.1 a (b + q + (w * k + i)))) : RwL F o' w m a (b + p) (b + q) V' := by
  obtain ⟨r0, r1, r2, r3, r4, r5⟩ := hR
  obtain ⟨y1, y2⟩ := r5 ho
  refine ⟨h0, h1, n, r2, h3.trans r3, hp.trans r4, fun k hk i hi => ?_, fun k hk => hV k hk (y2 k hk)⟩
  have := rc_lt hk hi r2
  rw [hcell _ this, hq _ this]
  exact y1 k hk i hi
theorem newV (hR : RLn S T o w m p q V n) (hV : Vc w V V') (hq : ∀ i, i < m * w → F.1 a (b + q + i) = T.1 325 (q + i)) : ∀ k, k < n → V (fun i => T.1 325 (q + (w * k + i))) → V' (fun i => F.1 a (b + q + (w * k + i))) := fun k hk h => hV _ _ (fun i hi => hq _ (rc_lt hk hi hR.2.2.1)) h
end KQ
