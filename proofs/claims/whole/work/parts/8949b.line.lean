/-! texts: a court's rows -/
def pT (P : (Nat → Int32) → (Nat → Int32) → Prop) (x : Nat × Nat × Nat) (f g : Nat → Int32) : Prop := ∃ f0 g0 v, P f0 g0 ∧ x.1 ≤ v ∧ v ≤ x.2.1 ∧ f = up f0 x.2.2 (nI v) ∧ g = up g0 x.2.2 (nI v)
def pL : List (Nat × Nat × Nat) → ((Nat → Int32) → (Nat → Int32) → Prop) → (Nat → Int32) → (Nat → Int32) → Prop
  | [], P => P
  | x :: l, P => pL l (pT P x)
def rCl (sl : Nat) : List (Nat × Nat × Nat) → GS → Option GS
  | [], S => some S
  | x :: l, S => xR (some 207) 5 1 S fun a => xR a 0 sl S fun b => c2 (some 207) 5 S (fun o' => f_X5_takeNumber o' (nI x.1) (nI x.2.1) S) fun v S1 => c1 b 7 S1 (fun o' => f_X7_setLast o' (nI x.2.2) v S1) fun S2 => rCl sl l S2
def rMd : List (Nat × Nat × Nat) → (GS → Option (Int32 × GS)) → GS → Option (Int32 × GS)
  | [], K, T => K T
  | x :: l, K, T => c2 (some 313) 12 T (fun o' => f_X12_take o' (nI x.2.2) (nI x.1) (nI x.2.1) T) fun v S => if v = 0 then some (0, S) else rMd l K S
def gSl (o sl : Nat) : Prop := sl < 3 ∧ gRf 209 sl = some o
section LR
variable {α : Type} {L : Nat} {B : Nat → Nat} {S S' T T' S0 T0 : GS} {s e k f c o w m p q n d e0 v sl : Nat} {V : (Nat → Int32) → Prop} {P P' : (Nat → Int32) → (Nat → Int32) → Prop} {R : GS → GS → Prop}
theorem r_209 (hW : Wr S) (h : gRf 209 sl = some o) {g : Option Nat → Option α} : xR (some 209) 0 sl S g = g (some o) := xR_w hW (by decide) rfl (by omega) h
theorem rows_b (hK : RO9 o w m) (hs : gSl o sl) {x : Int32} : ∀ (l : List (Nat × Nat × Nat)) (S : GS), BR o w m x S → (∀ y ∈ l, y.2.2 < w) → ∃ S', rCl sl l S = some S' ∧ BR o w m x S' ∧ FC o S S'
  | [], S, h, _ => ⟨S, rfl, h, FC.rf S⟩
  | y :: l, S, h, hl => by
    obtain ⟨S1, g1, g2, g3⟩ := brk_ts hK.rk h (c := y.2.2) (hl y (List.mem_cons_self ..)) (nI y.1) (nI y.2.1)
    obtain ⟨S2, x1, x2, x3⟩ := rows_b hK hs l S1 g2 (fun z hz => hl z (List.mem_cons_of_mem _ hz))
    refine ⟨S2, ?_, x2, g3.tr x3⟩
    rw [rCl, r_207_1 h.1, r_209 h.1 hs.2]
    exact (g1 (fun S2 => rCl sl l S2)).trans x1
theorem rows_both (hK : RO9 o w m) (hs : gSl o sl) : ∀ (l : List (Nat × Nat × Nat)) (S T : GS) (s e k : Nat) (P : (Nat → Int32) → (Nat → Int32) → Prop), TB L B S T → Tk L B S T s e k → FA s S T → RO S T o w m p q V n P → (∀ y ∈ l, y.2.2 < w ∧ y.1 < 1000 ∧ y.2.1 < 1000) →
    (∃ S' T' s' e' k', rCl sl l S = some S' ∧ (∀ K, rMd l K T = K T') ∧ FC o S S' ∧ FM T T' ∧ TB L B S' T' ∧ Tk L B S' T' s' e' k' ∧ FA s' S' T' ∧ s ≤ s' ∧ s' ≤ L ∧ (ok S' → ok S) ∧ RO S' T' o w m p q V n (pL l P)) ∨
    (∃ S' T', rCl sl l S = some S' ∧ (∀ K, rMd l K T = some (0, T')) ∧ FC o S S' ∧ FM T T' ∧ BR o w m (T'.1 313 18) S')
  | [], S, T, s, e, k, P, h, hk, hF, hR, _ => Or.inl ⟨S, T, s, e, k, rfl, fun _ => rfl, FC.rf S, FM.rf T, h, hk, hF, Nat.le_refl _, by have := hk.le; have := hk.2.2.2.2.2.2.1; omega, fun z => z, hR⟩
  | y :: l, S, T, s, e, k, P, h, hk, hF, hR, hl => by
    obtain ⟨l1, l2, l3⟩ := hl y (List.mem_cons_self ..)
    have hse := hk.le
    rcases ts_both (P' := pT P y) hK.rk h hk hF hR (lo := y.1) (hi := y.2.1) (c := y.2.2) l1 l2 l3 (fun f g v a b c => ⟨f, g, v, a, b, c, rfl, rfl⟩) with ⟨rfl, x, S2, T2, s2, e2, k2, y1, y2, y3, y4, y5, y6, y7, y8, y9, y10, y11, y12, y13⟩ | ⟨z, S2, T2, y1, y2, y3, y4, y5⟩
    · rcases rows_both hK hs l S2 T2 s2 e2 k2 (pT P y) y5 y6 y7 y13 (fun z hz => hl z (List.mem_cons_of_mem _ hz)) with ⟨S', T', s', e', k', a1, a2, a3, a4, a5, a6, a7, a8, a9, a10, a11⟩ | ⟨S', T', a1, a2, a3, a4, a5⟩
      · refine Or.inl ⟨S', T', s', e', k', ?_, fun K => ?_, y3.tr a3, y4.tr a4, a5, a6, a7, by omega, a9, fun z => y10 (a10 z), a11⟩
        · rw [rCl, r_207_1 h.1, r_209 h.1 hs.2]
          exact (y1 (fun S2 => rCl sl l S2)).trans a1
        · rw [rMd, kk_313 h.2.1, y2, b2_s, if_neg n10]
          exact a2 K
      · refine Or.inr ⟨S', T', ?_, fun K => ?_, y3.tr a3, y4.tr a4, a5⟩
        · rw [rCl, r_207_1 h.1, r_209 h.1 hs.2]
          exact (y1 (fun S2 => rCl sl l S2)).trans a1
        · rw [rMd, kk_313 h.2.1, y2, b2_s, if_neg n10]
          exact a2 K
    · obtain ⟨S', a1, a2, a3⟩ := rows_b hK hs l S2 y5 (fun z hz => (hl z (List.mem_cons_of_mem _ hz)).1)
      refine Or.inr ⟨S', T2, ?_, fun K => ?_, y3.tr a3, y4, a2⟩
      · rw [rCl, r_207_1 h.1, r_209 h.1 hs.2]
        exact (y1 (fun S2 => rCl sl l S2)).trans a1
      · rw [rMd, kk_313 h.2.1, y2, b2_s, if_pos rfl]
theorem gs0 : gSl 210 0 := ⟨by decide, rfl⟩
theorem gs1 : gSl 212 1 := ⟨by decide, rfl⟩
theorem gs2 : gSl 214 2 := ⟨by decide, rfl⟩
theorem ro1 : RO9 210 2 4 := Or.inl ⟨rfl, rfl, rfl⟩
theorem ro2 : RO9 212 5 8 := Or.inr (Or.inl ⟨rfl, rfl, rfl⟩)
theorem ro3 : RO9 214 2 6 := Or.inr (Or.inr (Or.inl ⟨rfl, rfl, rfl⟩))
end LR
/-- the farthest room told of by a lady; the marks told; what else a court has -/
def FRm (T : GS) (n : Nat) : Prop := (n = 0 ∧ T.1 313 23 = -1) ∨ (0 < n ∧ ∃ F, F < 4 ∧ T.1 313 23 = nI F ∧ (∃ k, k < n ∧ T.1 325 (29 + 5 * k) = nI F) ∧ ∀ k, k < n → ∃ r, r ≤ F ∧ T.1 325 (29 + 5 * k) = nI r)
def MTd (T : GS) (n : Nat) : Prop := ∃ M, T.2.1 313 24 = lN M ∧ M < 2 ^ 41 ∧ ∀ v, v ≤ 40 → (M.testBit v = true ↔ ∃ k, k < n ∧ T.1 325 (17 + 2 * k) = nI v)
def SCd (S T : GS) : Prop := (S.1 209 4 = T.1 325 3 ∧ S.1 209 5 = T.1 325 4 ∧ S.1 209 6 = T.1 325 5 ∧ S.1 216 0 = T.1 325 6 ∧ S.1 216 1 = T.1 325 7 ∧ S.1 216 2 = T.1 325 8) ∧ In (T.1 325 3) 0 9 ∧ In (T.1 325 4) 1 9 ∧ In (T.1 325 5) 0 40 ∧ In (T.1 325 6) 0 9 ∧ In (T.1 325 7) 0 9 ∧ In (T.1 325 8) 0 9
def GQ (S T : GS) : Prop := RwD S ∧ (∃ n, RLn S T 210 2 4 0 9 vRoom n) ∧ (∃ n, RLn S T 212 5 8 1 29 (vLady (nI 4)) n ∧ (ok S → FRm T n)) ∧ (∃ n, RLn S T 214 2 6 2 17 vStep n ∧ (ok S → MTd T n)) ∧ (ok S → SCd S T)
section LS
variable {S S' T T' : GS} {n : Nat}
theorem FRm.mv (h : FRm T n) (hn : n ≤ 8) (h1 : T'.1 313 23 = T.1 313 23) (h2 : ∀ j, 29 ≤ j → j < 69 → T'.1 325 j = T.1 325 j) : FRm T' n := by
  unfold FRm
  rw [h1]
  rcases h with z | ⟨h0, F, z1, z2, ⟨k, z3, z4⟩, z5⟩
  · exact Or.inl z
  · refine Or.inr ⟨h0, F, z1, z2, ⟨k, z3, by rw [h2 _ (by omega) (by omega)]; exact z4⟩, fun k hk => ?_⟩
    rw [h2 _ (by omega) (by omega)]
    exact z5 k hk
theorem MTd.mv (h : MTd T n) (hn : n ≤ 6) (h1 : T'.2.1 313 24 = T.2.1 313 24) (h2 : ∀ j, 17 ≤ j → j < 29 → T'.1 325 j = T.1 325 j) : MTd T' n := by
  obtain ⟨M, z1, z2, z3⟩ := h
  refine ⟨M, by rw [h1]; exact z1, z2, fun v hv => (z3 v hv).trans ⟨?_, ?_⟩⟩
  · rintro ⟨k, a, b⟩
    exact ⟨k, a, by rw [h2 _ (by omega) (by omega)]; exact b⟩
  · rintro ⟨k, a, b⟩
    rw [h2 _ (by omega) (by omega)] at b
    exact ⟨k, a, b⟩
theorem SCd.mv (h : SCd S T) (h1 : ∀ i, 4 ≤ i → i ≤ 6 → S'.1 209 i = S.1 209 i) (h2 : ∀ i, i < 3 → S'.1 216 i = S.1 216 i) (h3 : ∀ j, 3 ≤ j → j < 9 → T'.1 325 j = T.1 325 j) : SCd S' T' := by
  unfold SCd
  rw [h1 4 (by omega) (by omega), h1 5 (by omega) (by omega), h1 6 (by omega) (by omega), h2 0 (by omega), h2 1 (by omega), h2 2 (by omega), h3 3 (by omega) (by omega), h3 4 (by omega) (by omega), h3 5 (by omega) (by omega), h3 6 (by omega) (by omega), h3 7 (by omega) (by omega), h3 8 (by omega) (by omega)]
  exact h
end LS
