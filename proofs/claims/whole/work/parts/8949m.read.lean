/-! texts: what is left of a text's reading behind its lines -/
section MC
variable {α : Type} {L : Nat} {B : Nat → Nat} {S S' T T' S0 T0 : GS} {s e k f c o w m p q n d e0 v sl srt : Nat} {R : GS → GS → Prop} {V : (Nat → Int32) → Prop}
/-- what else of a court must be, that there be no fault -/
def CX (S T : GS) : Prop := (∃ nR nL, nR ≤ 4 ∧ nL ≤ 8 ∧ T.1 325 0 = nI nR ∧ T.1 325 1 = nI nL ∧ ∀ k, k < nL → ∃ r, r < nR ∧ T.1 325 (29 + 5 * k) = nI r) ∧ T.1 325 6 + T.1 325 7 + T.1 325 8 ≠ 0
theorem e164_1 (hW : Wr T) : f_X12_readText_164 313 1 T = some (if T.1 313 19 = 0 then 1 else 0, sI (sI T 316 0 (T.1 313 19)) 317 0 (if T.1 313 19 ≤ 0 then -1 else T.1 313 20)) := by
  have hW1 : Wr (sI T 316 0 (T.1 313 19)) := hW
  have h213 : ∀ y : Int32, f_X12_readText_213 313 (some 317) 0 y (sI T 316 0 (T.1 313 19)) = some (if T.1 313 19 = 0 then 1 else 0, sI (sI T 316 0 (T.1 313 19)) 317 0 y) := fun y => by
    have hW2 : Wr (sI (sI T 316 0 (T.1 313 19)) 317 0 y) := hW
    unfold f_X12_readText_213
    rw [show qI (some 317) 0 y (sI T 316 0 (T.1 313 19)) _ = _ from q_317 (k := 0) hW1 (by decide), r_313_3 hW2, show yI (some 316) 14 0 (sI (sI T 316 0 (T.1 313 19)) 317 0 y) _ = _ from y_316 (k := 0) hW2 (by decide), show (sI (sI T 316 0 (T.1 313 19)) 317 0 y).1 316 0 = T.1 313 19 from rfl]
    split <;> rfl
  unfold f_X12_readText_164 f_X12_readText_181
  rw [r_313_3 hW, if_neg n10, i_313 hW, show qI (some 316) 0 (T.1 313 19) T _ = _ from q_316 (k := 0) hW (by decide), r_313_4 hW1, if_neg n10, i_313 hW1, i_313 hW1, h213, h213, show (sI T 316 0 (T.1 313 19)).1 313 19 = T.1 313 19 from rfl, show (sI T 316 0 (T.1 313 19)).1 313 20 = T.1 313 20 from rfl]
  by_cases z : T.1 313 19 ≤ 0
  · rw [if_pos z, if_pos z]
  · rw [if_neg z, if_neg z]
theorem e164_0 (hW : Wr T) : f_X12_readText_164 313 0 T = some (0, sI (sI T 316 0 1) 317 0 (T.1 313 18)) := by
  have hW1 : Wr (sI T 316 0 1) := hW
  have hW2 : Wr (sI (sI T 316 0 1) 317 0 (T.1 313 18)) := hW
  unfold f_X12_readText_164 f_X12_readText_181 f_X12_readText_213
  rw [r_313_3 hW, if_pos rfl, show qI (some 316) 0 1 T _ = _ from q_316 (k := 0) hW (by decide), r_313_4 hW1, if_pos rfl, i_313 hW1, show (sI T 316 0 1).1 313 18 = T.1 313 18 from rfl, show qI (some 317) 0 (T.1 313 18) (sI T 316 0 1) _ = _ from q_317 (k := 0) hW1 (by decide), r_313_3 hW2, show yI (some 316) 14 0 (sI (sI T 316 0 1) 317 0 (T.1 313 18)) _ = _ from y_316 (k := 0) hW2 (by decide), if_neg (show ¬ (sI (sI T 316 0 1) 317 0 (T.1 313 18)).1 316 0 = 0 from n10)]
/-- the reference's own fields alone, and where it keeps the fault -/
def FMy (T T' : GS) : Prop := T'.2.2 = T.2.2 ∧ (∀ o, o ≠ 313 → o ≠ 325 → o ≠ 326 → o ≠ 316 → o ≠ 317 → T'.1 o = T.1 o) ∧ ∀ i, i ≠ 0 → T'.1 316 i = T.1 316 i ∧ T'.1 317 i = T.1 317 i
theorem fmy_w {a b : Int32} : FMy T (sI (sI T 316 0 a) 317 0 b) := ⟨rfl, fun o h1 h2 h3 h4 h5 => by rw [sI_o h5, sI_o h4], fun i hi => by
  rw [sI_o (by decide), sI_at, if_neg hi, sI_at, if_neg hi]
  exact ⟨rfl, rfl⟩⟩
theorem FMx.y (h : FMx T T') : FMy T T' := ⟨h.1, fun o h1 h2 h3 _ _ => h.2 o h1 h2 h3, fun i _ => ⟨by rw [h.2 316 (by decide) (by decide) (by decide)], by rw [h.2 317 (by decide) (by decide) (by decide)]⟩⟩
theorem FMy.tr {T1 : GS} (h : FMy T T1) (h2 : FMy T1 T') : FMy T T' := ⟨h2.1.trans h.1, fun o q1 q2 q3 q4 q5 => (h2.2.1 o q1 q2 q3 q4 q5).trans (h.2.1 o q1 q2 q3 q4 q5), fun i hi => ⟨(h2.2.2 i hi).1.trans (h.2.2 i hi).1, (h2.2.2 i hi).2.trans (h.2.2 i hi).2⟩⟩
/-- what a text's reading comes to -/
def RdE (srt : Nat) (R : GS → GS → Prop) (S T : GS) (C : Option GS) (M : Option (Int32 × GS)) : Prop := ∃ S' b T', C = some S' ∧ M = some (b, T') ∧ FCx S S' ∧ FMy T T' ∧ Wr S' ∧ Wr T' ∧ RwD S' ∧ S'.1 207 11 = T'.1 316 0 ∧ S'.1 207 12 = T'.1 317 0 ∧ ((b = 1 ∧ ok S' ∧ ∃ T2, T2.1 325 = T'.1 325 ∧ R S' T2 ∧ (srt = 0 → CX S' T')) ∨ (b = 0 ∧ ¬ ok S'))
theorem r113 (hs : srt ≠ 0) (hs2 : srt < 6) : f_X5_readAll_113 207 (nI srt) S = some S := by
  unfold f_X5_readAll_113
  rw [if_neg (show ¬ nI srt = 0 from fun z => hs ((nI_eq (b := 0) (by omega) (by decide)).mp z))]
theorem r137 (hW : Wr S) (h : ¬ ok S) : f_X5_readAll_137 207 S = some S := by
  unfold f_X5_readAll_137
  rw [i_207 hW, k_207 hW, note_v hW, if_neg (show ¬ S.1 207 11 = 0 from h), b1_s]
/-- a court's last check, the class: it comes to an end -/
theorem r113_0 (hW : Wr S) (hD : RwD S) : ∃ b : Bool, f_X5_readAll_113 207 0 S = (if b = false ∨ S.1 216 0 + S.1 216 1 + S.1 216 2 = 0 then f_X5_readAll_137 207 S else some S) ∧ ∃ nR nL, S.1 210 3 = nI nR ∧ S.1 212 3 = nI nL ∧ nR ≤ 4 ∧ nL ≤ 8 ∧ ((∀ k, k < nL → ∃ r, r < 2 ^ 31 ∧ S.1 213 (5 * k + 0) = nI r) → (b = true ↔ ∀ k, k < nL → ∃ r, r < nR ∧ S.1 213 (5 * k + 0) = nI r)) := by
  obtain ⟨⟨a0, a1, nR, a2, a3⟩, ⟨b0, b1', nL, b2', b3'⟩, -⟩ := hD
  have eR : nr S 210 = nR := by
    unfold nr
    rw [a3, nI_clamp (by omega)]
  have eL : nr S 212 = nL := by
    unfold nr
    rw [b3', nI_clamp (by omega)]
  have hR : Rw S 210 4 2 := ⟨gk_n hW (by decide) rfl, gk_n hW (by decide) rfl, rfl, rf_n hW (by decide) rfl, a0, a1, by rw [eR]; exact a3, by rw [eR]; exact a2, by decide, by decide⟩
  have hL : Rw S 212 8 5 := ⟨gk_n hW (by decide) rfl, gk_n hW (by decide) rfl, rfl, rf_n hW (by decide) rfl, b0, b1', by rw [eL]; exact b3', by rw [eL]; exact b2', by decide, by decide⟩
  obtain ⟨b, x1, x2⟩ := rooms_l hR hL (gk_n hW (by decide) rfl) (rf_n hW (by decide) rfl) (rf_n hW (by decide) rfl) eR eL nL 0 fu (by omega) (by have : fu = 4096 := rfl; omega)
  refine ⟨b, ?_, nR, nL, a3, b3', a2, b2', fun H => (x2 (fun k _ z => H k z)).trans ⟨fun y k z => y k (Nat.zero_le _) z, fun y k _ z => y k z⟩⟩
  unfold f_X5_readAll_113 f_X0_allWeights
  rw [if_pos rfl, r_207_1 hW, c1_w (o := 209) (c := 0) hW (by decide) rfl, show f_X0_roomsOfAllAreThere 209 S = some (bi b) from x1, b1_s, r_207_1 hW, c1_w (o := 209) (c := 0) hW (by decide) rfl, r_209_3 hW, show yI (some 216) 14 0 S _ = _ from yI_w (o := 216) (k := 0) hW (by decide) rfl (n := 3) rfl (by decide) (by decide), r_209_3 hW, show yI (some 216) 14 1 S _ = _ from yI_w (o := 216) (k := 1) hW (by decide) rfl (n := 3) rfl (by decide) (by decide), r_209_3 hW, show yI (some 216) 14 2 S _ = _ from yI_w (o := 216) (k := 2) hW (by decide) rfl (n := 3) rfl (by decide) (by decide), b1_s]
  cases b with
  | false => rw [if_pos (show bi false = 0 from rfl), if_pos (Or.inl rfl)]
  | true =>
    rw [if_neg (show ¬ bi true = 0 by decide)]
    by_cases z : S.1 216 0 + S.1 216 1 + S.1 216 2 = 0
    · rw [if_pos z, if_pos (Or.inr z)]
    · rw [if_neg z, if_neg (by
        rintro (w | w)
        · exact absurd w (by decide)
        · exact z w)]
end MC
