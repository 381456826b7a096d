/-! net, pays -/
/-- one object's numbers alone are written -/
def Of (a : Nat) (S S' : GS) : Prop := S'.2 = S.2 ∧ ∀ o, o ≠ a → S'.1 o = S.1 o
theorem Of.rf (a : Nat) (S : GS) : Of a S S := ⟨rfl, fun _ _ => rfl⟩
theorem Of.tr {a : Nat} {S S1 S2 : GS} (h : Of a S S1) (h2 : Of a S1 S2) : Of a S S2 := ⟨h2.1.trans h.1, fun o q => (h2.2 o q).trans (h.2 o q)⟩
theorem of_I {a i : Nat} {v : Int32} {S : GS} : Of a S (sI S a i v) := ⟨rfl, fun o q => by
  funext j
  show (if o = a ∧ j = i then v else S.1 o j) = _
  rw [if_neg (fun z => q z.1)]⟩
theorem Of.wr {a : Nat} {S S' : GS} (h : Of a S S') (hW : Wr S) : Wr S' := by
  unfold Wr
  rw [h.1]
  exact hW
theorem Of.sm {a : Nat} {S S' : GS} (h : Of a S S') (ha : Pm a = false) : Sm S S' := ⟨by rw [h.1], fun o i _ => by rw [h.1], fun o q => h.2 o (fun e => by rw [e, ha] at q; cases q)⟩
theorem sI_at {S : GS} {a i j : Nat} {v : Int32} : (sI S a i v).1 a j = if j = i then v else S.1 a j := by
  show (if a = a ∧ j = i then v else S.1 a j) = _
  by_cases q : j = i
  · rw [if_pos ⟨rfl, q⟩, if_pos q]
  · rw [if_neg (fun z => q z.2), if_neg q]
def netS (D C N : Nat → Int32) (l : Int32) : Nat → Nat → Int32 → Int32
  | 0, _, s => s
  | d + 1, k, s => netS D C N l d (k + 1) (if D k = l then (if C k = l then s + N k else s) - N k else (if C k = l then s + N k else s))
theorem net_sw {p q : Prop} [Decidable p] [Decidable q] (s n : Int32) : (if q then (if p then s - n else s) + n else (if p then s - n else s)) = (if p then (if q then s + n else s) - n else (if q then s + n else s)) := by
  by_cases hp : p
  · by_cases hq : q
    · simp only [if_pos hp, if_pos hq, Int32.sub_add_cancel, Int32.add_sub_cancel]
    · simp only [if_pos hp, if_neg hq]
  · by_cases hq : q
    · simp only [if_neg hp, if_pos hq]
    · simp only [if_neg hp, if_neg hq]
section NE
variable {S S' : GS} {o b k l : Nat} {c : Int32}
/-- who owes, whom, how many, by the reference's row -/
def pD (S : GS) (k i j : Nat) : Int32 := S.1 323 (91 * k + 1 + (3 * j + i))
theorem netC_l (h : LF S o 3 30 323 (91 * k) (91 * k + 1) vPawn) {x1 : Int32} : ∀ (d j n : Nat) (s : Int32), j + d = nr S o → d < n → f_X1_netOf_4 S n (some o) x1 s (nI j) = some (netS (pD S k 0) (pD S k 1) (pD S k 2) x1 d j s)
  | _, _, 0, _, _, hn => absurd hn (Nat.not_lt_zero _)
  | 0, j, n + 1, s, hj, _ => by
    have := h.1.n40
    rw [f_X1_netOf_4, xI_s h.1.1, h.1.2.2.2.2.2.2.1, if_pos (nI_le (by omega) (by omega))]
    rfl
  | d + 1, j, n + 1, s, hj, hn => by
    have := h.1.n40
    have hj2 : j < nr S o := by omega
    have ih := netC_l h (x1 := x1) d (j + 1) n
    have e0 : S.1 (o + 1) (3 * j + 0) = pD S k 0 j := h.2.2.1 j hj2 0 (by decide)
    have e1 : S.1 (o + 1) (3 * j + 1) = pD S k 1 j := h.2.2.1 j hj2 1 (by decide)
    have e2 : S.1 (o + 1) (3 * j + 2) = pD S k 2 j := h.2.2.1 j hj2 2 (by decide)
    have e (s : Int32) : f_X1_netOf_31 (f_X1_netOf_4 S n) S (some o) x1 s (nI j) = some (netS (pD S k 0) (pD S k 1) (pD S k 2) x1 d (j + 1) (if pD S k 0 j = x1 then s - pD S k 2 j else s)) := by
      unfold f_X1_netOf_31 f_X1_netOf_50
      rw [c1_s h.1.1, h.1.cellL 0 0 rfl hj2 (by decide), b1_s, e0, c1_s h.1.1, h.1.cellL 2 2 rfl hj2 (by decide), b1_s, e2, nI_1]
      split
      · exact ih _ (by omega) (by omega)
      · exact ih _ (by omega) (by omega)
    rw [f_X1_netOf_4, xI_s h.1.1, h.1.2.2.2.2.2.2.1, if_neg (nI_ge (by omega) (by omega)), c1_s h.1.1, h.1.cellL 1 1 rfl hj2 (by decide), b1_s, e1, c1_s h.1.1, h.1.cellL 2 2 rfl hj2 (by decide), b1_s, e2, e, e]
    show _ = some (netS _ _ _ x1 d (j + 1) (if pD S k 0 j = x1 then (if pD S k 1 j = x1 then s + pD S k 2 j else s) - pD S k 2 j else (if pD S k 1 j = x1 then s + pD S k 2 j else s)))
    by_cases q : pD S k 1 j = x1
    · rw [if_pos q, if_pos q]
    · rw [if_neg q, if_neg q]
theorem netOf_v (h : LF S o 3 30 323 (91 * k) (91 * k + 1) vPawn) (x1 : Int32) : f_X1_netOf (some o) x1 S = some (netS (pD S k 0) (pD S k 1) (pD S k 2) x1 (nr S o) 0 0) :=
  netC_l h (x1 := x1) (nr S o) 0 fu 0 (by omega) (by have := h.1.n40; unfold fu; omega)
/-- the reference's nets: nought at first -/
theorem net0_l : ∀ (d j n : Nat) (S : GS), Wr S → j + d = 8 → d < n → ∃ S', Of 339 S S' ∧ (∀ l, j ≤ l → l < 8 → S'.1 339 l = 0) ∧ (∀ l, l < j → S'.1 339 l = S.1 339 l) ∧ f_X12_findNets_2 313 n (nI j) S = f_X12_findNets_23 313 fu 0 S'
  | _, _, 0, _, _, _, hn => absurd hn (Nat.not_lt_zero _)
  | 0, j, n + 1, S, hW, hj, _ => by
    refine ⟨S, Of.rf _ _, fun l h1 h2 => by omega, fun l _ => rfl, ?_⟩
    rw [f_X12_findNets_2, if_pos (show (8 : Int32) ≤ nI j from nI_le (a := 8) (by omega) (by omega))]
  | d + 1, j, n + 1, S, hW, hj, hn => by
    obtain ⟨S', g1, g2, g3, g4⟩ := net0_l d (j + 1) n (sI S 339 j 0) (wr_I hW) (by omega) (by omega)
    refine ⟨S', of_I.tr g1, fun l h1 h2 => ?_, fun l h1 => ?_, ?_⟩
    · by_cases q : l = j
      · subst q
        rw [g3 l (by omega), sI_at, if_pos rfl]
      · exact g2 l (by omega) h2
    · rw [g3 l (by omega), sI_at, if_neg (by omega)]
    · rw [f_X12_findNets_2, if_neg (show ¬ (8 : Int32) ≤ nI j from nI_ge (b := 8) (by omega) (by omega)), r_313_56 hW, q_339 hW (by omega), nI_1, g4]
theorem In.nat {x : Int32} {a b : Nat} (h : In x a b) : ∃ i, x = nI i ∧ a ≤ i ∧ i ≤ b := by
  obtain ⟨i, h1, h2, h3⟩ := h
  exact ⟨i, h3, h1, h2⟩
theorem netM_l (hk : k < 2) {np : Nat} (hnp : np ≤ 30) {D C N : Nat → Int32} : ∀ (d j n : Nat) (S : GS), Wr S → S.1 313 55 = nI k → S.1 323 (91 * k) = nI np → (∀ j, j < np → vPawn (fun i => S.1 323 (91 * k + 1 + (3 * j + i))) ∧ pD S k 0 j = D j ∧ pD S k 1 j = C j ∧ pD S k 2 j = N j) → j + d = np → d < n → ∃ S', f_X12_findNets_23 313 n (nI j) S = some S' ∧ Of 339 S S' ∧ ∀ l, l < 8 → S'.1 339 l = netS D C N (nI l) d j (S.1 339 l)
  | _, _, 0, _, _, _, _, _, _, hn => absurd hn (Nat.not_lt_zero _)
  | 0, j, n + 1, S, hW, h1, hp, hv, hj, _ => by
    refine ⟨S, ?_, Of.rf _ _, fun l _ => rfl⟩
    rw [f_X12_findNets_23, k_313 hW, pawns_v hW hk h1, b1_s, hp, if_pos (nI_le (by omega) (by omega))]
  | d + 1, j, n + 1, S, hW, h1, hp, hv, hj, hn => by
    obtain ⟨⟨w0, w1, w2⟩, v0, v1, v2⟩ := hv j (by omega)
    obtain ⟨i0, a0, -, b0⟩ := w0.nat
    obtain ⟨i1, a1, -, b1'⟩ := w1.nat
    have a0 : D j = nI i0 := v0.symm.trans a0
    have a1 : C j = nI i1 := v1.symm.trans a1
    have p0 : ∀ S' : GS, Wr S' → S'.1 313 55 = nI k → S'.1 323 = S.1 323 → f_X12_pawnOf 313 (nI j) 0 S' = some (D j) ∧ f_X12_pawnOf 313 (nI j) 1 S' = some (C j) ∧ f_X12_pawnOf 313 (nI j) 2 S' = some (N j) := by
      intro S' hW' h1' e'
      refine ⟨?_, ?_, ?_⟩
      · rw [pawnOf_v (l := j) (x := nI j) (c := 0) hW' hk h1' rfl (i := 0) rfl (by omega) (by decide), e', ← v0]
        rfl
      · rw [pawnOf_v (l := j) (x := nI j) (c := 1) hW' hk h1' rfl (i := 1) rfl (by omega) (by decide), e', ← v1]
        rfl
      · rw [pawnOf_v (l := j) (x := nI j) (c := 2) hW' hk h1' rfl (i := 2) rfl (by omega) (by decide), e', ← v2]
        rfl
    obtain ⟨q0, q1, q2⟩ := p0 S hW h1 rfl
    generalize hS1 : sI S 339 i0 (S.1 339 i0 - N j) = S1
    have o1 : Of 339 S S1 := by rw [← hS1]; exact of_I
    have hW1 := o1.wr hW
    obtain ⟨-, r1, r2⟩ := p0 S1 hW1 (by rw [o1.2 313 (by decide)]; exact h1) (o1.2 323 (by decide))
    generalize hS2 : sI S1 339 i1 (S1.1 339 i1 + N j) = S2
    have o2 : Of 339 S1 S2 := by rw [← hS2]; exact of_I
    have o12 := o1.tr o2
    obtain ⟨S', g1, g2, g3⟩ := netM_l hk hnp (D := D) (C := C) (N := N) d (j + 1) n S2 (o12.wr hW) (by rw [o12.2 313 (by decide)]; exact h1) (by rw [o12.2 323 (by decide)]; exact hp) (fun j hj => by
      have := hv j hj
      unfold pD at this ⊢
      rw [o12.2 323 (by decide)]
      exact this) (by omega) (by omega)
    refine ⟨S', ?_, o12.tr g2, fun l hl => ?_⟩
    · rw [f_X12_findNets_23, k_313 hW, pawns_v hW hk h1, b1_s, hp, if_neg (nI_ge (by omega) (by omega)), r_313_56 hW, k_313 hW, q0, b1_s, a0, y_339 hW (by omega), k_313 hW, q2, b1_s, q_339 hW (by omega), hS1, r_313_56 hW1, k_313 hW1, r1, b1_s, a1, y_339 hW1 (by omega), k_313 hW1, r2, b1_s, q_339 hW1 (by omega), hS2, nI_1, g1]
    · rw [g3 l hl]
      show _ = netS D C N (nI l) d (j + 1) (if D j = nI l then (if C j = nI l then S.1 339 l + N j else S.1 339 l) - N j else (if C j = nI l then S.1 339 l + N j else S.1 339 l))
      congr 1
      rw [← net_sw, ← hS2, sI_at, ← hS1, sI_at, sI_at, a0, a1]
      have d0 : (nI i0 = nI l) = (l = i0) := by rw [nI_eq (by omega) (by omega)]; exact propext ⟨Eq.symm, Eq.symm⟩
      have d1 : (nI i1 = nI l) = (l = i1) := by rw [nI_eq (by omega) (by omega)]; exact propext ⟨Eq.symm, Eq.symm⟩
      simp only [d0, d1]
      by_cases z : l = i1
      · subst z
        rw [if_pos rfl, if_pos rfl]
        by_cases y : l = i0
        · subst y
          simp
        · rw [if_neg y, if_neg y]
      · rw [if_neg z, if_neg z]
        by_cases y : l = i0
        · subst y
          simp
        · rw [if_neg y, if_neg y]
theorem findNets_v (hk : k < 2) {np : Nat} (hnp : np ≤ 30) (hW : Wr S) (h1 : S.1 313 55 = nI k) (hp : S.1 323 (91 * k) = nI np) (hv : ∀ j, j < np → vPawn (fun i => S.1 323 (91 * k + 1 + (3 * j + i)))) : ∃ S', f_X12_findNets 313 S = some S' ∧ Of 339 S S' ∧ ∀ l, l < 8 → S'.1 339 l = netS (pD S k 0) (pD S k 1) (pD S k 2) (nI l) np 0 0 := by
  obtain ⟨S1, o1, z1, -, e1⟩ := net0_l 8 0 fu S hW (by omega) (by unfold fu; omega)
  have c1 : S1.1 323 = S.1 323 := o1.2 323 (by decide)
  obtain ⟨S', g1, g2, g3⟩ := netM_l hk hnp (D := pD S k 0) (C := pD S k 1) (N := pD S k 2) np 0 fu S1 (o1.wr hW) (by rw [o1.2 313 (by decide)]; exact h1) (by rw [c1]; exact hp) (fun j hj => by
    unfold pD
    rw [c1]
    exact ⟨hv j hj, rfl, rfl, rfl⟩) (by omega) (by unfold fu; omega)
  refine ⟨S', ?_, o1.tr g2, fun l hl => ?_⟩
  · unfold f_X12_findNets
    exact e1.trans g1
  · rw [g3 l hl, z1 l (by omega) hl]
theorem both_net (h : Inv S) (x1 x2 : Int32) : Both (f_X11_net 0 x1 x2 S) (f_X12_net 313 x1 x2) S := by
  have hW := h.1
  have hs : Sm S (s0 S) := sm_I (by decide)
  unfold Both f_X11_net f_X12_net
  rw [r_0_0 hW, k_1 hW, p_313 hW, kk_313 (S := s0 S) hW]
  rcases tld h (s := 4) (by decide) x1 with ⟨k, rfl, hk⟩ | hn
  · have hf := h.lf_l hk.1
    have hm : nr S (27 + 21 * k) ≤ 30 := hf.1.2.2.2.2.2.2.2.1
    have hs3 : Sm S (sI (s0 S) 313 55 (nI k)) := hs.tr (sm_I (by decide))
    rw [rowsAt_l hW hk, b1_s, nul_s, hasLe_y (S := s0 S) hW (hk.sm hs), b2_s, if_neg n10]
    rcases numQ x2 8 with ⟨i, rfl, hi⟩ | hx
    · obtain ⟨S', g1, g2, g3⟩ := findNets_v (S := sI (s0 S) 313 55 (nI k)) hk.1 hm hW rfl hf.2.1 hf.2.2.2
      refine ⟨netS (pD S k 0) (pD S k 1) (pD S k 2) (nI i) (nr S (27 + 21 * k)) 0 0, S', ?_, ?_, h.sm (hs3.tr (g2.sm (by decide)))⟩
      · rw [if_neg (nI_pos (by omega)), if_pos (show nI i < (8 : Int32) from nI_lt (b := 8) hi (by omega)), netOf_v hf, b1_s]
      · rw [show f_X12_in (nI i) 0 7 (sI (s0 S) 313 55 (nI k)) = some 1 from in0_y (n := 8) (by decide) hi, b1_s, if_neg n10, k_313 (S := sI (s0 S) 313 55 (nI k)) hW, g1, b1_s, r_313_56 (g2.wr hW), y_339 (g2.wr hW) hi, g3 i hi]
        rfl
    · refine ⟨-10000, _, ?_, ?_, h.sm hs3⟩
      · rcases hx with q | ⟨l, hl, rfl, hw⟩
        · rw [if_pos q]
        · rw [if_neg (nI_pos hl), if_neg (show ¬ nI l < (8 : Int32) from nI_nlt (b := 8) hw hl)]
      · rw [show f_X12_in x2 0 7 (sI (s0 S) 313 55 (nI k)) = some 0 from in0_n (n := 8) (by decide) hx, b1_s, if_pos rfl]
  · rw [rowsAt_n hW (s := 4) (by decide) 4 rfl hn, b1_s, nul_n, hasLe_n (S := s0 S) hW (hn.sm hs), b2_s, if_pos rfl]
    exact ⟨-10000, _, rfl, rfl, h.sm (hs.tr (sm_I (by decide)))⟩
end NE
