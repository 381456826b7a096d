/-! texts: what a line comes to; pawns, maids -/
def FCx (S S' : GS) : Prop := S'.2 = S.2 ∧ (∀ o, (o < 207 ∨ 230 ≤ o) → S'.1 o = S.1 o) ∧ S'.1 207 7 = S.1 207 7
def FMx (T T' : GS) : Prop := T'.2.2 = T.2.2 ∧ ∀ o, o ≠ 313 → o ≠ 325 → o ≠ 326 → T'.1 o = T.1 o
/-- a line was read: it goes on, or the text is broken there -/
def LX (L : Nat) (B : Nat → Nat) (R : GS → GS → Prop) (S T : GS) (e : Nat) (C : Option GS) (M : Option (Int32 × GS)) : Prop :=
  (∃ S' T' s' e' k', C = some S' ∧ M = some (1, T') ∧ FCx S S' ∧ FMx T T' ∧ TB L B S' T' ∧ Tk L B S' T' s' e' k' ∧ FA s' S' T' ∧ e ≤ s' ∧ s' ≤ L ∧ R S' T') ∨
  (∃ S' T', C = some S' ∧ M = some (0, T') ∧ FCx S S' ∧ FMx T T' ∧ Wr S' ∧ Wr T' ∧ S'.1 207 11 = 1 ∧ S'.1 207 12 = T'.1 313 18 ∧ RwD S')
/-- the reader's row lists -/
def RO9 (o w m : Nat) : Prop := (o = 210 ∧ w = 2 ∧ m = 4) ∨ (o = 212 ∧ w = 5 ∧ m = 8) ∨ (o = 214 ∧ w = 2 ∧ m = 6) ∨ (o = 218 ∧ w = 3 ∧ m = 20) ∨ (o = 220 ∧ w = 3 ∧ m = 20) ∨ (o = 222 ∧ w = 3 ∧ m = 40) ∨ (o = 224 ∧ w = 1 ∧ m = 16) ∨ (o = 226 ∧ w = 3 ∧ m = 30) ∨ (o = 228 ∧ w = 2 ∧ m = 10)
section LI
variable {α : Type} {L : Nat} {B : Nat → Nat} {S S' T T' : GS} {s e k f c o w m p q n : Nat} {V : (Nat → Int32) → Prop} {P P' : (Nat → Int32) → (Nat → Int32) → Prop} {R : GS → GS → Prop}
theorem RO9.rk (h : RO9 o w m) : RK o m w := by
  rcases h with ⟨rfl, rfl, rfl⟩ | ⟨rfl, rfl, rfl⟩ | ⟨rfl, rfl, rfl⟩ | ⟨rfl, rfl, rfl⟩ | ⟨rfl, rfl, rfl⟩ | ⟨rfl, rfl, rfl⟩ | ⟨rfl, rfl, rfl⟩ | ⟨rfl, rfl, rfl⟩ | ⟨rfl, rfl, rfl⟩ <;> exact ⟨by decide, by decide, rfl, rfl, rfl, rfl, by decide, by decide, by decide, by decide⟩
theorem RO9.lo (h : RO9 o w m) : 207 ≤ o ∧ o + 1 < 230 := by
  have := h.rk
  exact ⟨by have := this.1; omega, this.2.1⟩
theorem RwD.fc (hD : RwD S) (hF : FC o S S') (ho : RO9 o w m) (hR : RwR S' o w m) : RwD S' := by
  obtain ⟨d1, d2, d3, d4, d5, d6, d7, d8, d9⟩ := hD
  rcases ho with ⟨rfl, rfl, rfl⟩ | ⟨rfl, rfl, rfl⟩ | ⟨rfl, rfl, rfl⟩ | ⟨rfl, rfl, rfl⟩ | ⟨rfl, rfl, rfl⟩ | ⟨rfl, rfl, rfl⟩ | ⟨rfl, rfl, rfl⟩ | ⟨rfl, rfl, rfl⟩ | ⟨rfl, rfl, rfl⟩
  · exact ⟨hR, d2.fr hF (by decide) (by decide) (by decide), d3.fr hF (by decide) (by decide) (by decide), d4.fr hF (by decide) (by decide) (by decide), d5.fr hF (by decide) (by decide) (by decide), d6.fr hF (by decide) (by decide) (by decide), d7.fr hF (by decide) (by decide) (by decide), d8.fr hF (by decide) (by decide) (by decide), d9.fr hF (by decide) (by decide) (by decide)⟩
  · exact ⟨d1.fr hF (by decide) (by decide) (by decide), hR, d3.fr hF (by decide) (by decide) (by decide), d4.fr hF (by decide) (by decide) (by decide), d5.fr hF (by decide) (by decide) (by decide), d6.fr hF (by decide) (by decide) (by decide), d7.fr hF (by decide) (by decide) (by decide), d8.fr hF (by decide) (by decide) (by decide), d9.fr hF (by decide) (by decide) (by decide)⟩
  · exact ⟨d1.fr hF (by decide) (by decide) (by decide), d2.fr hF (by decide) (by decide) (by decide), hR, d4.fr hF (by decide) (by decide) (by decide), d5.fr hF (by decide) (by decide) (by decide), d6.fr hF (by decide) (by decide) (by decide), d7.fr hF (by decide) (by decide) (by decide), d8.fr hF (by decide) (by decide) (by decide), d9.fr hF (by decide) (by decide) (by decide)⟩
  · exact ⟨d1.fr hF (by decide) (by decide) (by decide), d2.fr hF (by decide) (by decide) (by decide), d3.fr hF (by decide) (by decide) (by decide), hR, d5.fr hF (by decide) (by decide) (by decide), d6.fr hF (by decide) (by decide) (by decide), d7.fr hF (by decide) (by decide) (by decide), d8.fr hF (by decide) (by decide) (by decide), d9.fr hF (by decide) (by decide) (by decide)⟩
  · exact ⟨d1.fr hF (by decide) (by decide) (by decide), d2.fr hF (by decide) (by decide) (by decide), d3.fr hF (by decide) (by decide) (by decide), d4.fr hF (by decide) (by decide) (by decide), hR, d6.fr hF (by decide) (by decide) (by decide), d7.fr hF (by decide) (by decide) (by decide), d8.fr hF (by decide) (by decide) (by decide), d9.fr hF (by decide) (by decide) (by decide)⟩
  · exact ⟨d1.fr hF (by decide) (by decide) (by decide), d2.fr hF (by decide) (by decide) (by decide), d3.fr hF (by decide) (by decide) (by decide), d4.fr hF (by decide) (by decide) (by decide), d5.fr hF (by decide) (by decide) (by decide), hR, d7.fr hF (by decide) (by decide) (by decide), d8.fr hF (by decide) (by decide) (by decide), d9.fr hF (by decide) (by decide) (by decide)⟩
  · exact ⟨d1.fr hF (by decide) (by decide) (by decide), d2.fr hF (by decide) (by decide) (by decide), d3.fr hF (by decide) (by decide) (by decide), d4.fr hF (by decide) (by decide) (by decide), d5.fr hF (by decide) (by decide) (by decide), d6.fr hF (by decide) (by decide) (by decide), hR, d8.fr hF (by decide) (by decide) (by decide), d9.fr hF (by decide) (by decide) (by decide)⟩
  · exact ⟨d1.fr hF (by decide) (by decide) (by decide), d2.fr hF (by decide) (by decide) (by decide), d3.fr hF (by decide) (by decide) (by decide), d4.fr hF (by decide) (by decide) (by decide), d5.fr hF (by decide) (by decide) (by decide), d6.fr hF (by decide) (by decide) (by decide), d7.fr hF (by decide) (by decide) (by decide), hR, d9.fr hF (by decide) (by decide) (by decide)⟩
  · exact ⟨d1.fr hF (by decide) (by decide) (by decide), d2.fr hF (by decide) (by decide) (by decide), d3.fr hF (by decide) (by decide) (by decide), d4.fr hF (by decide) (by decide) (by decide), d5.fr hF (by decide) (by decide) (by decide), d6.fr hF (by decide) (by decide) (by decide), d7.fr hF (by decide) (by decide) (by decide), d8.fr hF (by decide) (by decide) (by decide), hR⟩
theorem FC.x (h : FC o S S') (h1 : 207 ≤ o) (h2 : o + 1 < 230) : FCx S S' := ⟨h.1, fun a ha => by
  funext i
  exact h.2 a i (by omega) (by omega) (by omega), h.2 207 7 (by omega) (by omega) (by omega)⟩
theorem FM.x (h : FM T T') : FMx T T' := ⟨h.1, fun a h1 h2 h3 => by
  funext i
  exact h.2.2 a i (by omega) h3⟩
theorem FK.x (h : FK p q n T T') : FMx T T' := ⟨by rw [h.1], fun a h1 h2 h3 => h.2.1 a h2⟩
theorem FCx.tr {S1 : GS} (h : FCx S S1) (h2 : FCx S1 S') : FCx S S' := ⟨h2.1.trans h.1, fun o q => (h2.2.1 o q).trans (h.2.1 o q), h2.2.2.trans h.2.2⟩
theorem FMx.tr {S1 : GS} (h : FMx S S1) (h2 : FMx S1 S') : FMx S S' := ⟨h2.1.trans h.1, fun o q1 q2 q3 => (h2.2 o q1 q2 q3).trans (h.2 o q1 q2 q3)⟩
theorem FCx.wr (h : FCx S S') (hW : Wr S) : Wr S' := wr_2 (by rw [h.1]) hW
theorem FMx.wr (h : FMx T T') (hW : Wr T) : Wr T' := wr_2 h.1 hW
theorem RO.rwr (h : RO S T o w m p q V n P) : RwR S o w m := ⟨h.1, h.2.1, _, by
  have := h.2.2.1
  split <;> omega, h.2.2.2.1⟩
theorem RLn.rwr (h : RLn S T o w m p q V n) : RwR S o w m := ⟨h.1, h.2.1, n, h.2.2.1, h.2.2.2.1⟩
/-- other things change -/
theorem RO.mv (h : RO S T o w m p q V n P) (h1 : S'.1 o = S.1 o) (h2 : S'.1 (o + 1) = S.1 (o + 1)) (h3 : T'.1 325 = T.1 325) (h5 : ok S' → ok S) (hP : ok S' → ∀ f, P f (T.1 326) → P' f (T'.1 326)) : RO S' T' o w m p q V n P' := by
  obtain ⟨r0, r1, r2, r3, r4, r5⟩ := h
  refine ⟨by rw [h1]; exact r0, by rw [h1]; exact r1, r2, by rw [h1]; exact r3, by rw [h3]; exact r4, fun y => ?_⟩
  obtain ⟨y1, y2, y3, y4⟩ := r5 (h5 y)
  rw [h2, h3]
  exact ⟨y1, y2, y3, hP y _ y4⟩
theorem FU.at (h : FU S S') (ho : o ≠ 207) : S'.1 o = S.1 o := by
  funext i
  exact h.2 o i (fun z => ho z.1)
theorem FM.told (h : FM T T') : T'.1 325 = T.1 325 := by
  funext i
  exact h.2.2 325 i (by omega) (by decide)
/-- a number taken, not yet set -/
theorem tk_both (h : TB L B S T) (hk : Tk L B S T s e k) (hF : FA s S T) {lo hi : Nat} (hc : c < 5) (hlo : lo < 1000) (hhi : hi < 1000) :
    (k = 2 ∧ ∃ v S' T' s' e' k', f_X5_takeNumber 207 (nI lo) (nI hi) S = some (nI v, S') ∧ f_X12_take 313 (nI c) (nI lo) (nI hi) T = some (1, T') ∧ FU S S' ∧ FM T T' ∧ TB L B S' T' ∧ Tk L B S' T' s' e' k' ∧ FA s' S' T' ∧ e ≤ s' ∧ s' ≤ L ∧ T'.1 326 = up (T.1 326) c (nI v) ∧ v < 100 ∧ (ok S' → ok S ∧ lo ≤ v ∧ v ≤ hi)) ∨
    (k ≠ 2 ∧ f_X5_takeNumber 207 (nI lo) (nI hi) S = some (nI lo, sI (sI S 207 11 1) 207 12 (nI s)) ∧ f_X12_take 313 (nI c) (nI lo) (nI hi) T = some (0, sI T 313 18 (nI s))) := by
  by_cases q2 : k = 2
  · subst q2
    have hv := (val_v h hk).2.2
    have hne : ¬ nI (nv B s (e - s)) = -1 := nI_neg1 _ (by omega)
    obtain ⟨S1, T1, s', e', k', t1, t2, t3, t4, t5, t6, t7, t8, t9, t10, t11, t12⟩ := take_core (lo' := lo) (hi' := hi) (but := -1) h hk hF (lo := lo) (hi := hi) (c := c) hc hlo hhi hlo hhi (fun z => by
      rcases z with z | z
      · exact Or.inl z
      · exact Or.inr (Or.inl z))
    exact Or.inl ⟨rfl, _, S1, T1, s', e', k', t1, take_v _ _ _ (Or.inr rfl) h.2.1 t2, t3, t4, t5, t6, t10 (fun z => by
      rcases z with z | z | z
      · exact Or.inl z
      · exact Or.inr z
      · exact absurd z hne), t7, t8, t9, hv, t12⟩
  · obtain ⟨g1, g2⟩ := take_no h hk q2 hF (nI lo) (nI hi) (nI c) (nI lo) (nI hi) (-1)
    exact Or.inr ⟨q2, g1, take_v _ _ _ (Or.inl rfl) h.2.1 g2⟩
theorem brk_S (h : Wr S) (hR : RwR S o w m) (ho : 208 < o) : BR o w m (nI s) (sI (sI S 207 11 1) 207 12 (nI s)) := ⟨h, rfl, rfl, hR.sm (by rw [sI_o (by omega), sI_o (by omega)])⟩
theorem brk_F : FU S (sI (sI S 207 11 1) 207 12 (nI s)) := (FU.I (by decide) (by decide)).tr (FU.I (by decide) (by decide))
theorem brk_note {x : Int32} (h : BR o w m x S) (a b : Int32) : f_X5_noteFault 207 a b S = some S := by
  rw [note_v h.1, if_neg (by rw [h.2.1]; decide)]
theorem lx_brk (hD : RwD S) (ho : RO9 o w m) {C : Option GS} {M : Option (Int32 × GS)} (hC : C = some S') (hM : M = some (0, T')) (h1 : FC o S S') (h2 : FMx T T') (hT : Wr T) (h3 : BR o w m (T'.1 313 18) S') : LX L B R S T e C M :=
  Or.inr ⟨S', T', hC, hM, h1.x ho.lo.1 ho.lo.2, h2, h3.1, h2.wr hT, h3.2.1, h3.2.2.1, hD.fc h1 ho h3.2.2.2⟩
/-- no such word: the text is broken at once -/
theorem lx_no (h : TB L B S T) (hk : Tk L B S T s e k) (hD : RwD S) : LX L B R S T e (some (sI (sI S 207 11 1) 207 12 (nI s))) (some (0, sI T 313 18 (nI s))) :=
  lx_brk (o := 226) (w := 3) (m := 30) hD (Or.inr (Or.inr (Or.inr (Or.inr (Or.inr (Or.inr (Or.inr (Or.inl ⟨rfl, rfl, rfl⟩)))))))) rfl rfl brk_F.fc (FM.I (by omega)).x h.2.1 (brk_S h.1 hD.2.2.2.2.2.2.2.1 (by decide))
theorem lcp {a b : Int64} (h : a = b) : lg_cmp a b = 0 := (lg_cmp_eq a b).mpr h
theorem lcn {a b : Int64} (h : ¬ a = b) : ¬ lg_cmp a b = 0 := fun z => h ((lg_cmp_eq a b).mp z)
theorem in_I {v a b : Nat} (h1 : a ≤ v) (h2 : v ≤ b) : In (nI v) a b := ⟨v, h1, h2, rfl⟩
end LI
