/-! texts: slack, rest, glass, wind; a court's line -/
def wCl : List Nat → GS → Option GS
  | [], S => some S
  | i :: l, S => xR (some 207) 5 1 S fun a => xR a 0 3 S fun b => c2 (some 207) 5 S (fun o' => f_X5_takeNumber o' 0 9 S) fun v S1 => qI b (nI i) v S1 fun S2 => wCl l S2
def wMd : List Nat → (GS → Option (Int32 × GS)) → GS → Option (Int32 × GS)
  | [], K, T => K T
  | i :: l, K, T => c2 (some 313) 12 T (fun o' => f_X12_take o' (nI i) 0 9 T) fun v S => if v = 0 then some (0, S) else wMd l K S
section LW
variable {α : Type} {L : Nat} {B : Nat → Nat} {S S' T T' S0 T0 : GS} {s e k f c o w m p q n d e0 v sl : Nat} {V : (Nat → Int32) → Prop} {P P' : (Nat → Int32) → (Nat → Int32) → Prop} {R : GS → GS → Prop}
theorem FU.x (h : FU S S') : FCx S S' := ⟨h.1, fun o ho => h.at (by omega), h.2 207 7 (by omega)⟩
theorem FCx.I {i : Nat} {x : Int32} (h1 : 207 < o) (h2 : o < 230) : FCx S (sI S o i x) := ⟨rfl, fun a ha => sI_o (by omega), by rw [sI_o (by omega)]⟩
/-- the row lists stay -/
theorem RwD.at (h : RwD S) (h1 : ∀ o, 210 ≤ o → o < 230 → o ≠ 216 → S'.1 o = S.1 o) : RwD S' := by
  obtain ⟨d1, d2, d3, d4, d5, d6, d7, d8, d9⟩ := h
  exact ⟨d1.sm (h1 _ (by decide) (by decide) (by decide)), d2.sm (h1 _ (by decide) (by decide) (by decide)), d3.sm (h1 _ (by decide) (by decide) (by decide)), d4.sm (h1 _ (by decide) (by decide) (by decide)), d5.sm (h1 _ (by decide) (by decide) (by decide)), d6.sm (h1 _ (by decide) (by decide) (by decide)), d7.sm (h1 _ (by decide) (by decide) (by decide)), d8.sm (h1 _ (by decide) (by decide) (by decide)), d9.sm (h1 _ (by decide) (by decide) (by decide))⟩
/-- a court's rows stay, what else it has changes -/
theorem GQ.mv (hG : GQ S T) (h1 : ∀ o, 210 ≤ o → o < 230 → o ≠ 216 → S'.1 o = S.1 o) (h2 : ∀ j, j < 3 ∨ (9 ≤ j ∧ j < 122) → T'.1 325 j = T.1 325 j) (h3 : T'.1 313 23 = T.1 313 23) (h4 : T'.2.1 313 24 = T.2.1 313 24) (ho : ok S' → ok S) (hs : ok S' → SCd S' T') : GQ S' T' := by
  obtain ⟨hD, ⟨n1, hR1⟩, ⟨n2, hR2, hf⟩, ⟨n3, hR3, hm⟩, -⟩ := hG
  exact ⟨hD.at h1, ⟨n1, hR1.mv (h1 _ (by decide) (by decide) (by decide)) (h1 _ (by decide) (by decide) (by decide)) (h2 _ (by decide)) (fun j a b => h2 j (by omega)) ho vRoom_c.eq⟩, ⟨n2, hR2.mv (h1 _ (by decide) (by decide) (by decide)) (h1 _ (by decide) (by decide) (by decide)) (h2 _ (by decide)) (fun j a b => h2 j (by omega)) ho (vLady_c rfl).eq, fun z => (hf (ho z)).mv hR2.2.2.1 h3 (fun j a b => h2 j (by omega))⟩, ⟨n3, hR3.mv (h1 _ (by decide) (by decide) (by decide)) (h1 _ (by decide) (by decide) (by decide)) (h2 _ (by decide)) (fun j a b => h2 j (by omega)) ho vStep_c.eq, fun z => (hm (ho z)).mv hR3.2.2.1 h4 (fun j a b => h2 j (by omega))⟩, hs⟩
theorem r_209_3 (hW : Wr S) {g : Option Nat → Option α} : xR (some 209) 0 3 S g = g (some 216) := xR_w hW (by decide) rfl (by decide) rfl
/-- slack, rest, glass -/
theorem plain_y (h : TB L B S T) (hk : Tk L B S T s e k) (hF : FA s S T) (hG : GQ S T) {lo hi : Nat} (hsl : (sl = 4 ∧ lo = 0 ∧ hi = 9) ∨ (sl = 5 ∧ lo = 1 ∧ hi = 9) ∨ (sl = 6 ∧ lo = 0 ∧ hi = 40)) :
    LX L B GQ S T e (c1 (some 207) 5 S (fun o' => f_X5_nextToken o' S) fun S29 => xR (some 207) 5 1 S29 fun v30 => c2 (some 207) 5 S29 (fun o' => f_X5_takeNumber o' (nI lo) (nI hi) S29) fun v31 S32 => pI v30 0 sl v31 S32 fun S33 => some S33) (c1 (some 313) 12 T (fun o' => f_X12_token o' T) fun S3 => f_X12_courtLine_311 313 (nI (sl - 1)) (some 313) 0 (nI lo) (nI hi) S3) := by
  have hL := h.2.2.1
  have heL := hk.2.2.2.2.2.2.1
  have hle := hk.le
  have hD := hG.1
  have hb : lo < 1000 ∧ hi < 1000 ∧ 4 ≤ sl ∧ sl ≤ 6 := by omega
  obtain ⟨hlo, hhi, hs4, hs6⟩ := hb
  obtain ⟨S1, T1, s1, e1, k1, t1, t2, t3, t4, t5, t6, t7⟩ := tok_both h heL hk.2.1 hk.2.2.2.2.1
  have hB1 := (h.ft t3).fm t4
  have hF1 : FA s1 S1 T1 := by
    unfold FA
    rw [t3.2 _ _ (by omega), t3.2 _ _ (by omega)]
    exact FAv.up hF (by omega) (t4.2.2 _ _ (by omega)) (t4.2.2 _ _ (by omega))
  unfold f_X12_courtLine_311
  rw [k_207 h.1, t1, b1_s, k_313 h.2.1, t2, b1_s, r_207_1 hB1.1, kk_207 hB1.1, kk_313 hB1.2.1]
  rcases tk_both hB1 t7 hF1 (c := 0) (by decide) hlo hhi with ⟨-, v, S2, T2, s2, e2, k2, a1, a2, f2, m2, hB2, hk2, hF2, l3, l4, u2, v2, o2⟩ | ⟨q2, a1, a2⟩
  · have hs2 := hk2.le
    have hse1 := t7.le
    rw [a1, b2_s, show f_X12_take 313 0 (nI lo) (nI hi) T1 = some (1, T2) from a2, b2_s, if_neg n10, pI_w (o := 209) (c := 0) hB2.1 (by decide) rfl, r_313_21 hB2.2.1, r_313_22 hB2.2.1, show yI (some 326) 14 0 T2 _ = _ from y_326 (k := 0) hB2.2.1 (by decide), u2, up_at, q_325 hB2.2.1 (show sl - 1 < 122 by omega)]
    have fS : FU S S2 := t3.fu.tr f2
    have fT : FM T T2 := t4.fm.tr m2
    have oS : ok S2 → ok S := fun z => (ok_fc (t3.2 _ _ (by omega))).mp (o2 z).1
    have e209 : (sI S2 209 sl (nI v)).1 209 = up (S.1 209) sl (nI v) := by
      rw [up_f, fS.at (by decide)]
    have e216 : (sI S2 209 sl (nI v)).1 216 = S.1 216 := by rw [sI_o (by decide), fS.at (by decide)]
    have e325 : (sI T2 325 (sl - 1) (nI v)).1 325 = up (T.1 325) (sl - 1) (nI v) := by
      rw [up_f, fT.told]
    refine Or.inl ⟨_, _, s2, e2, k2, rfl, rfl, fS.x.tr (FCx.I (by decide) (by decide)), fT.x.tr ⟨rfl, fun a h1 h2 h3 => sI_o h2⟩, (hB2.cs rfl rfl (fun _ => rfl)).cm rfl rfl (fun _ => rfl), hk2.mv (fun _ _ _ => rfl) (fun _ _ => rfl) rfl, FAv.up hF2 (Nat.le_refl _) rfl rfl, by omega, l4, hG.mv (fun o h1 h2 h3 => ?_) (fun j hj => ?_) ?_ ?_ (fun z => oS z) (fun z => ?_)⟩
    · rw [sI_o (by omega), fS.at (by omega)]
    · rw [e325, up_o (by omega)]
    · exact fT.2.2 313 23 (by omega) (by decide)
    · exact fT.2.1 313 24 (by omega)
    · obtain ⟨z1, z2, z3⟩ := o2 z
      have hS := hG.2.2.2.2 (oS z)
      unfold SCd at hS ⊢
      rw [e209, e216, e325]
      obtain ⟨⟨b1', b2', b3', b4', b5', b6'⟩, b7', b8', b9', b10', b11', b12'⟩ := hS
      rcases hsl with ⟨rfl, rfl, rfl⟩ | ⟨rfl, rfl, rfl⟩ | ⟨rfl, rfl, rfl⟩
      · exact ⟨⟨rfl, b2', b3', b4', b5', b6'⟩, in_I z2 z3, b8', b9', b10', b11', b12'⟩
      · exact ⟨⟨b1', rfl, b3', b4', b5', b6'⟩, b7', in_I z2 z3, b9', b10', b11', b12'⟩
      · exact ⟨⟨b1', b2', rfl, b4', b5', b6'⟩, b7', b8', in_I z2 z3, b10', b11', b12'⟩
  · have hb := brk_S (o := 226) (w := 3) (m := 30) (s := s1) hB1.1 (hD.2.2.2.2.2.2.2.1.sm (t3.fu.at (by decide))) (by decide)
    have hfb := t3.fu.tr (brk_F (S := S1) (s := s1))
    rw [a1, b2_s, show f_X12_take 313 0 (nI lo) (nI hi) T1 = _ from a2, b2_s, if_pos rfl]
    generalize sI (sI S1 207 11 1) 207 12 (nI s1) = S3 at hb hfb ⊢
    rw [pI_w (o := 209) (c := 0) hb.1 (by decide) rfl]
    refine Or.inr ⟨_, _, rfl, rfl, hfb.x.tr (FCx.I (by decide) (by decide)), (t4.fm.tr (FM.I (by omega))).x, hb.1, hB1.2.1, hb.2.1, hb.2.2.1, hD.at (fun o h1 h2 h3 => ?_)⟩
    rw [sI_o (by omega), hfb.at (by omega)]
theorem wind_b : ∀ (l : List Nat) (S : GS), Wr S → S.1 207 11 = 1 → (∀ i ∈ l, i < 3) → ∃ S', wCl l S = some S' ∧ S'.2 = S.2 ∧ ∀ o, o ≠ 216 → S'.1 o = S.1 o
  | [], S, _, _, _ => ⟨S, rfl, rfl, fun _ _ => rfl⟩
  | i :: l, S, hW, hb, hl => by
    have hi := hl i (List.mem_cons_self ..)
    obtain ⟨S', a1, a2, a3⟩ := wind_b l (sI S 216 i 0) hW hb (fun j hj => hl j (List.mem_cons_of_mem _ hj))
    refine ⟨S', ?_, a2, fun o ho => by rw [a3 o ho, sI_o ho]⟩
    rw [wCl, r_207_1 hW, r_209_3 hW, kk_207 hW, brk_take hW hb, b2_s, qI_w (o := 216) hW (by decide) rfl (n := 3) rfl hi (by omega)]
    exact a1
theorem wind_l : ∀ (l : List Nat) (S T : GS) (s e k : Nat) (D : Nat → Prop), TB L B S T → Tk L B S T s e k → FA s S T → (∀ i ∈ l, i < 3) → (∀ i, D i → S.1 216 i = T.1 326 i ∧ (ok S → In (T.1 326 i) 0 9)) →
    (∃ S' T' s' e' k', wCl l S = some S' ∧ (∀ K, wMd l K T = K T') ∧ (S'.2 = S.2 ∧ (∀ o, o ≠ 216 → o ≠ 207 → S'.1 o = S.1 o) ∧ S'.1 207 7 = S.1 207 7) ∧ FM T T' ∧ TB L B S' T' ∧ Tk L B S' T' s' e' k' ∧ FA s' S' T' ∧ s ≤ s' ∧ s' ≤ L ∧ (ok S' → ok S) ∧ ∀ i, (D i ∨ i ∈ l) → S'.1 216 i = T'.1 326 i ∧ (ok S' → In (T'.1 326 i) 0 9)) ∨
    (∃ S' T', wCl l S = some S' ∧ (∀ K, wMd l K T = some (0, T')) ∧ (S'.2 = S.2 ∧ (∀ o, o ≠ 216 → o ≠ 207 → S'.1 o = S.1 o) ∧ S'.1 207 7 = S.1 207 7) ∧ FM T T' ∧ S'.1 207 11 = 1 ∧ S'.1 207 12 = T'.1 313 18)
  | [], S, T, s, e, k, D, h, hk, hF, _, hD => Or.inl ⟨S, T, s, e, k, rfl, fun _ => rfl, ⟨rfl, fun _ _ _ => rfl, rfl⟩, FM.rf T, h, hk, hF, Nat.le_refl _, by have := hk.le; have := hk.2.2.2.2.2.2.1; omega, fun z => z, fun i hi => hD i (by
    rcases hi with z | z
    · exact z
    · exact absurd z (List.not_mem_nil))⟩
  | i :: l, S, T, s, e, k, D, h, hk, hF, hl, hD => by
    have hi := hl i (List.mem_cons_self ..)
    have hse := hk.le
    rcases tk_both h hk hF (lo := 0) (hi := 9) (c := i) (by omega) (by decide) (by decide) with ⟨-, v, S2, T2, s2, e2, k2, a1, a2, f2, m2, hB2, hk2, hF2, l3, l4, u2, v2, o2⟩ | ⟨q2, a1, a2⟩
    · have hq : qI (some 216) (nI i) (nI v) S2 (fun S2 => wCl l S2) = wCl l (sI S2 216 i (nI v)) := qI_w (o := 216) hB2.1 (by decide) rfl (n := 3) rfl hi (by omega)
      have hc : wCl (i :: l) S = wCl l (sI S2 216 i (nI v)) := by
        rw [wCl, r_207_1 h.1, r_209_3 h.1, kk_207 h.1, show f_X5_takeNumber 207 0 9 S = some (nI v, S2) from a1, b2_s]
        exact hq
      have hm : ∀ K, wMd (i :: l) K T = wMd l K T2 := fun K => by
        rw [wMd, kk_313 h.2.1, show f_X12_take 313 (nI i) 0 9 T = some (1, T2) from a2, b2_s, if_neg n10]
      have fS : (sI S2 216 i (nI v)).2 = S.2 ∧ (∀ o, o ≠ 216 → o ≠ 207 → (sI S2 216 i (nI v)).1 o = S.1 o) ∧ (sI S2 216 i (nI v)).1 207 7 = S.1 207 7 := ⟨f2.1, fun o h1 h2 => by rw [sI_o h1, f2.at h2], f2.2 207 7 (by omega)⟩
      have hB3 : TB L B (sI S2 216 i (nI v)) T2 := hB2.cs rfl rfl (fun _ => rfl)
      have hk3 : Tk L B (sI S2 216 i (nI v)) T2 s2 e2 k2 := hk2.mv (fun _ _ _ => rfl) (fun _ _ => rfl) rfl
      have hF3 : FA s2 (sI S2 216 i (nI v)) T2 := hF2
      have oS : ok (sI S2 216 i (nI v)) → ok S ∧ 0 ≤ v ∧ v ≤ 9 := fun z => o2 z
      have hD3 : ∀ j, (D j ∨ j = i) → (sI S2 216 i (nI v)).1 216 j = T2.1 326 j ∧ (ok (sI S2 216 i (nI v)) → In (T2.1 326 j) 0 9) := fun j hj => by
        rw [sI_at, u2]
        by_cases y : j = i
        · subst y
          rw [if_pos rfl, up_at]
          exact ⟨rfl, fun z => in_I (oS z).2.1 (oS z).2.2⟩
        · rw [if_neg y, up_o y, f2.at (by decide)]
          obtain ⟨z1, z2⟩ := hD j (by
            rcases hj with z | z
            · exact z
            · exact absurd z y)
          exact ⟨z1, fun z => z2 (oS z).1⟩
      generalize sI S2 216 i (nI v) = S3 at hc fS hB3 hk3 hF3 oS hD3
      rcases wind_l l S3 T2 s2 e2 k2 (fun j => D j ∨ j = i) hB3 hk3 hF3 (fun j hj => hl j (List.mem_cons_of_mem _ hj)) hD3 with ⟨S', T', s', e', k', b1', b2', b3', b4', b5', b6', b7', b8', b9', b10', b11'⟩ | ⟨S', T', b1', b2', b3', b4', b5', b6'⟩
      · refine Or.inl ⟨S', T', s', e', k', by rw [hc, b1'], fun K => by rw [hm, b2'], ⟨b3'.1.trans fS.1, fun o h1 h2 => (b3'.2.1 o h1 h2).trans (fS.2.1 o h1 h2), b3'.2.2.trans fS.2.2⟩, m2.tr b4', b5', b6', b7', by omega, b9', fun z => (oS (b10' z)).1, fun j hj => b11' j ?_⟩
        rcases hj with z | z
        · exact Or.inl (Or.inl z)
        · rcases List.mem_cons.mp z with y | y
          · exact Or.inl (Or.inr y)
          · exact Or.inr y
      · exact Or.inr ⟨S', T', by rw [hc, b1'], fun K => by rw [hm, b2'], ⟨b3'.1.trans fS.1, fun o h1 h2 => (b3'.2.1 o h1 h2).trans (fS.2.1 o h1 h2), b3'.2.2.trans fS.2.2⟩, m2.tr b4', b5', b6'⟩
    · have hW1 : Wr (sI (sI S 207 11 1) 207 12 (nI s)) := h.1
      obtain ⟨S', b1', b2', b3'⟩ := wind_b l (sI (sI (sI S 207 11 1) 207 12 (nI s)) 216 i 0) hW1 rfl (fun j hj => hl j (List.mem_cons_of_mem _ hj))
      refine Or.inr ⟨S', sI T 313 18 (nI s), ?_, fun K => ?_, ⟨b2', fun o h1 h2 => by rw [b3' o h1, sI_o h1, sI_o h2, sI_o h2], by rw [b3' 207 (by decide)]; rfl⟩, FM.I (by omega), ?_, ?_⟩
      · rw [wCl, r_207_1 h.1, r_209_3 h.1, kk_207 h.1, show f_X5_takeNumber 207 0 9 S = _ from a1, b2_s, show qI (some 216) (nI i) (nI 0) _ _ = _ from qI_w (o := 216) hW1 (by decide) rfl (n := 3) rfl hi (by omega)]
        exact b1'
      · rw [wMd, kk_313 h.2.1, show f_X12_take 313 (nI i) 0 9 T = _ from a2, b2_s, if_pos rfl]
      · rw [b3' 207 (by decide)]
        rfl
      · rw [b3' 207 (by decide)]
        rfl
end LW
