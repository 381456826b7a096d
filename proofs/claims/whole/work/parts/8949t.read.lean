/-! texts: a reading of any sort; what is kept of it -/
def RS (srt : Nat) (S T : GS) : Prop := (srt = 0 → GQ S T) ∧ (srt = 1 → GB S T) ∧ (srt = 2 → GF S T) ∧ (srt = 3 → GV S T) ∧ (srt = 4 → G4 S T) ∧ (srt = 5 → G5 S T)
section KS
variable {α : Type} {L : Nat} {S S' T T' T2 F : GS} {k srt s o o' w m p q a b n N : Nat} {R R' : GS → GS → Prop} {V V' : (Nat → Int32) → Prop} {C : Option GS} {M : Option (Int32 × GS)}
theorem RdF.mono (h : RdF srt R S T C M) (hR : ∀ S T, R S T → R' S T) : RdF srt R' S T C M := by
  obtain ⟨S', b, T', y1, y2, y3, y4, y5, y6, y7, y8, y9, y10, y11⟩ := h
  refine ⟨S', b, T', y1, y2, y3, y4, y5, y6, y7, y8, y9, y10, ?_⟩
  rcases y11 with ⟨z1, z2, T2, z3, z4, z5⟩ | z
  · exact Or.inl ⟨z1, z2, T2, z3, hR _ _ z4, z5⟩
  · exact Or.inr z
theorem st_0 (h : St 0 S T) : GQ S T := by
  obtain ⟨⟨⟨d1, d2, d3, d4⟩, ⟨a1, a2, a3, a4⟩, ⟨b1', b2', b3'⟩, c⟩, t, u, v⟩ := h
  have t3 : T.1 325 3 = 2 := t 3 (by decide)
  have t4 : T.1 325 4 = 3 := t 4 (by decide)
  have t5 : T.1 325 5 = 30 := t 5 (by decide)
  have t6 : T.1 325 6 = 1 := t 6 (by decide)
  have t7 : T.1 325 7 = 1 := t 7 (by decide)
  have t8 : T.1 325 8 = 1 := t 8 (by decide)
  refine ⟨⟨d1, d2, d3, d4⟩, ⟨0, rln_0 d1 a1 (t 0 (by decide))⟩, ⟨0, rln_0 d2 a2 (t 1 (by decide)), fun _ => Or.inl ⟨rfl, u⟩⟩, ⟨0, rln_0 d3 a3 (t 2 (by decide)), fun _ => ⟨0, v, by decide, fun x hx => ?_⟩⟩, fun _ => ?_⟩
  · rw [Nat.zero_testBit]
    exact ⟨fun z => absurd z (by decide), fun ⟨y, z, _⟩ => absurd z (Nat.not_lt_zero _)⟩
  · unfold SCd
    rw [t3, t4, t5, t6, t7, t8]
    exact ⟨⟨b1', b2', b3', c 0 (by decide), c 1 (by decide), c 2 (by decide)⟩, ⟨2, by decide, by decide, rfl⟩, ⟨3, by decide, by decide, rfl⟩, ⟨30, by decide, by decide, rfl⟩, ⟨1, by decide, by decide, rfl⟩, ⟨1, by decide, by decide, rfl⟩, ⟨1, by decide, by decide, rfl⟩⟩
theorem read_all (hs : srt < 6) (hW : Wr S) (hT : Wr T) (hD : RwD S) (hl : S.1 1 8 = nI L) (hL : L ≤ 600) (hm : T.1 313 13 = nI L) (hb : ∀ i, i < 600 → S.1 2 i = T.1 314 i) : RdF srt (RS srt) S T (f_X5_readAll 207 (nI srt) (some 1) S) (f_X12_readText 313 (nI srt) T) := by
  have nn : ∀ {a b : Nat} {P : Prop}, a ≠ b → (a = b → P) := fun h e => absurd e h
  rcases (show srt = 0 ∨ srt = 1 ∨ srt = 2 ∨ srt = 3 ∨ srt = 4 ∨ srt = 5 by omega) with rfl | rfl | rfl | rfl | rfl | rfl
  · refine RdF.mono (read_g (L := L) hs (fun L B => lineH0) (fun S T h => st_0 h) (fun L B S0 T0 S T a b c d e f => fin_c a b c d e f) hW hT hD hl hL hm hb) (fun S T h => ⟨fun _ => h, nn (by decide), nn (by decide), nn (by decide), nn (by decide), nn (by decide)⟩)
  · refine RdF.mono (read_g (L := L) hs (fun L B => lineH1) (fun S T h => ⟨h.1.1, 0, rln_0 h.1.1.2.2.2.2.2.1 h.1.2.1.2.2.2.2.2.1 (h.2.1 0 (by decide))⟩) (fun L B S0 T0 S T a b c d e f => fin_n a c a.2.2.1 d e f.1 f (by decide) (by decide)) hW hT hD hl hL hm hb) (fun S T h => ⟨nn (by decide), fun _ => h, nn (by decide), nn (by decide), nn (by decide), nn (by decide)⟩)
  · refine RdF.mono (read_g (L := L) hs (fun L B => lineH2) (fun S T h => ⟨h.1.1, 0, rln_0 h.1.1.2.2.2.2.2.2.1 h.1.2.1.2.2.2.2.2.2.1 (h.2.1 0 (by decide))⟩) (fun L B S0 T0 S T a b c d e f => fin_n a c a.2.2.1 d e f.1 f (by decide) (by decide)) hW hT hD hl hL hm hb) (fun S T h => ⟨nn (by decide), nn (by decide), fun _ => h, nn (by decide), nn (by decide), nn (by decide)⟩)
  · refine RdF.mono (read_g (L := L) hs (fun L B => lineH3) (fun S T h => ⟨h.1.1, ⟨0, rln_0 h.1.1.2.2.2.1 h.1.2.1.2.2.2.1 (h.2.1 0 (by decide))⟩, 0, rln_0 h.1.1.2.2.2.2.1 h.1.2.1.2.2.2.2.1 (h.2.1 1 (by decide))⟩) (fun L B S0 T0 S T a b c d e f => fin_n a c a.2.2.1 d e f.1 f (by decide) (by decide)) hW hT hD hl hL hm hb) (fun S T h => ⟨nn (by decide), nn (by decide), nn (by decide), fun _ => h, nn (by decide), nn (by decide)⟩)
  · refine RdF.mono (read_g (L := L) hs (fun L B => lineH4) (fun S T h => ⟨h.1.1, 0, rln_0 h.1.1.2.2.2.2.2.2.2.1 h.1.2.1.2.2.2.2.2.2.2.1 (h.2.1 0 (by decide))⟩) (fun L B S0 T0 S T a b c d e f => fin_n a c a.2.2.1 d e f.1 f (by decide) (by decide)) hW hT hD hl hL hm hb) (fun S T h => ⟨nn (by decide), nn (by decide), nn (by decide), nn (by decide), fun _ => h, nn (by decide)⟩)
  · refine RdF.mono (read_g (L := L) hs (fun L B => lineH5) (fun S T h => ⟨h.1.1, 0, rln_0 h.1.1.2.2.2.2.2.2.2.2 h.1.2.1.2.2.2.2.2.2.2.2 (h.2.1 0 (by decide))⟩) (fun L B S0 T0 S T a b c d e f => fin_n a c a.2.2.1 d e f.1 f (by decide) (by decide)) hW hT hD hl hL hm hb) (fun S T h => ⟨nn (by decide), nn (by decide), nn (by decide), nn (by decide), nn (by decide), fun _ => h⟩)
theorem up_self {f : Nat → Int32} {c : Nat} {v : Int32} (h : f c = v) : up f c v = f := by
  funext i
  unfold up
  by_cases z : i = c
  · rw [if_pos z, z, h]
  · rw [if_neg z]
theorem keep_v (hs : srt < 6) (hk : k < 2) (hW : Wr S) {c : Nat} (hc : S.1 3 srt = nI c) (hc2 : c ≤ 2) : ∃ S', f_X9_keep 1 (nI srt) (nI k) (some 207) S = some S' ∧ S'.2 = S.2 ∧ (∀ x, x ≠ 3 → ¬ (plo srt + 21 * k ≤ x ∧ x < phi srt + 21 * k) → S'.1 x = S.1 x) ∧ S'.1 3 = up (S.1 3) srt (nI (if k < c then c else k + 1)) ∧ CFs srt k S S' := by
  have hlo : 10 ≤ plo srt := by
    rcases (show srt = 0 ∨ srt = 1 ∨ srt = 2 ∨ srt = 3 ∨ srt = 4 ∨ srt = 5 by omega) with rfl | rfl | rfl | rfl | rfl | rfl <;> decide
  unfold f_X9_keep
  rw [if_neg (nI_pos (by omega)), if_neg (show ¬ (6 : Int32) ≤ nI srt from nI_ge (b := 6) hs (by decide)), if_neg (nI_pos (by omega)), if_pos (show nI k < 2 from nI_lt (b := 2) hk (by decide)), r_1_1 hW, y_3 hW hs, hc]
  by_cases z : k < c
  · obtain ⟨S', g1, g2, g3, g4⟩ := k39 hs hk hW
    refine ⟨S', by rw [if_pos (nI_lt z (by omega))]; exact g1, g2, fun x _ hx => g3 x hx, ?_, g4⟩
    rw [if_pos z, up_self hc]
    exact g3 3 (by omega)
  · have hW1 : Wr (sI S 3 srt (nI (k + 1))) := hW
    obtain ⟨S', g1, g2, g3, g4⟩ := k39 (S := sI S 3 srt (nI (k + 1))) hs hk hW1
    have e : ∀ x, x ≠ 3 → (sI S 3 srt (nI (k + 1))).1 x = S.1 x := fun x hx => sI_o hx
    refine ⟨S', by rw [if_neg (nI_nlt (by omega) (by omega)), r_1_1 hW, q_3 hW hs, nI_1]; exact g1, g2, fun x h3 hx => by rw [g3 x hx, e x h3], ?_, ?_⟩
    · rw [if_neg z, g3 3 (by omega), up_f]
    · obtain ⟨a0, a1, a2, a3, a4, a5⟩ := g4
      refine ⟨fun w => ?_, fun w => (a1 w).src (e _ (by decide)) (e _ (by decide)) (e _ (by omega)), fun w => (a2 w).src (e _ (by decide)) (e _ (by decide)) (e _ (by omega)), fun w => ⟨(a3 w).1.src (e _ (by decide)) (e _ (by decide)) (e _ (by omega)), (a3 w).2.src (e _ (by decide)) (e _ (by decide)) (e _ (by omega))⟩, fun w => (a4 w).src (e _ (by decide)) (e _ (by decide)) (e _ (by omega)), fun w => (a5 w).src (e _ (by decide)) (e _ (by decide)) (e _ (by omega))⟩
      obtain ⟨x1, x2, x3, x4, x5⟩ := a0 w
      rw [e 209 (by decide)] at x4
      rw [e 216 (by decide)] at x5
      exact ⟨x1.src (e _ (by decide)) (e _ (by decide)) (e _ (by omega)), x2.src (e _ (by decide)) (e _ (by decide)) (e _ (by omega)), x3.src (e _ (by decide)) (e _ (by decide)) (e _ (by omega)), x4, x5⟩
/-- a row list kept: the relation -/
theorem npL (hR : RLn S' T2 o w m p q V n) (ho : ok S') (hc : CpF o o' N S' F) (hN : m * w = N) (hV : Vc w V V') (h0 : S'.1 o' 0 = nI m) (h1 : S'.1 o' 1 = nI w) (hp : F.1 a (b + p) = T2.1 325 p) (hq : ∀ i, i < m * w → F.1 a (b + q + i) = T2.1 325 (q + i)) : RwL F o' w m a (b + p) (b + q) V' :=
  newL hR ho (hc.2.1.trans h0) (hc.2.2.1.trans h1) hc.1 (fun i hi => hc.2.2.2 i (by omega)) hp hq (newV hR hV hq)
theorem np (hs : srt < 6) (hk : k < 2) (hI : Inv S) (hRS : RS srt S' T2) (ho : ok S') (hCX : srt = 0 → CX S' T') (ht : T2.1 325 = T'.1 325) (hcf : CFs srt k S' F) (hlow : ∀ x, x < 206 → S'.1 x = S.1 x) (hst : ∀ i, i < pwi srt → F.1 (319 + srt) (pwi srt * k + i) = T'.1 325 i) : NP srt F k := by
  rw [← ht] at hst
  have hK : RwK S 1 0 k := k01 (P := fun k => RwK S 1 0 k) hk (hI.2.1 0 (by decide)).2.2.2.2.2.1 (hI.2.1 0 (by decide)).2.2.2.2.2.2
  obtain ⟨c1, c2, c3, c4, c5, c6, c7, c8⟩ := rwk_iff.mp hK
  obtain ⟨s0, s1, s2, s3, s4, s5⟩ := hRS
  obtain ⟨x0, x1, x2, x3, x4, x5⟩ := hcf
  refine ⟨fun e => ?_, fun e => ?_, fun e => ?_, fun e => ?_, fun e => ?_, fun e => ?_⟩
  · subst e
    obtain ⟨hD, ⟨n1, hR1⟩, ⟨n2, hR2, hf⟩, ⟨n3, hR3, hm⟩, hsc⟩ := s0 rfl
    obtain ⟨y1, y2, y3, ⟨y4, y5, y6⟩, y7⟩ := x0 rfl
    obtain ⟨d1, d2, d3, -⟩ := c1
    obtain ⟨⟨nR, nL, n4, n8, z1, z2, z3⟩, z4⟩ := hCX rfl
    obtain ⟨⟨e4, e5, e6, e7, e8, e9⟩, v1, v2, v3, v4, v5, v6⟩ := hsc ho
    rw [← ht] at z1 z2 z3 z4
    have st : ∀ i, i < 69 → F.1 319 (69 * k + i) = T2.1 325 i := hst
    have f0 : F.1 319 (69 * k) = nI nR := (st 0 (by decide)).trans z1
    have hn2 : n2 = nL := (nI_eq (by have := hR2.2.2.1; omega) (by omega)).mp (hR2.2.2.2.2.1.symm.trans z2)
    refine ⟨⟨?_, ?_, ?_, ?_⟩, ?_⟩
    · exact npL (o' := 10 + 21 * k + 1) (b := 69 * k) hR1 ho (show CpF 210 (10 + 21 * k + 1) 8 S' F by rw [show 10 + 21 * k + 1 = 11 + 21 * k by omega]; exact y1) rfl vRoom_c (by rw [hlow _ (by omega)]; exact d1.1) (by rw [hlow _ (by omega)]; exact d1.2.1) (st 0 (by decide)) (fun i hi => by rw [Nat.add_assoc]; exact st _ (by omega))
    · have hc2 : CpF 212 (10 + 21 * k + 3) 40 S' F := by
        rw [show 10 + 21 * k + 3 = 13 + 21 * k by omega]
        exact y2
      refine newL (b := 69 * k) hR2 ho (hc2.2.1.trans (by rw [hlow _ (by omega)]; exact d2.1)) (hc2.2.2.1.trans (by rw [hlow _ (by omega)]; exact d2.2.1)) hc2.1 (fun i hi => hc2.2.2.2 i (by omega)) (st 1 (by decide)) (fun i hi => by rw [Nat.add_assoc]; exact st _ (by omega)) (fun j hj hv => ?_)
      have tr : ∀ i, i < 5 → F.1 319 (69 * k + 29 + (5 * j + i)) = T2.1 325 (29 + (5 * j + i)) := fun i hi => by
        have := rc_lt hj hi hR2.2.2.1
        rw [Nat.add_assoc]
        exact st _ (by omega)
      obtain ⟨-, h2, h3, h4, h5⟩ := hv
      obtain ⟨r, r1, r2⟩ := z3 j (by omega)
      refine ⟨⟨r, (tr 0 (by decide)).trans (by rw [Nat.add_zero]; exact r2), by rw [f0, nI_clamp (by omega)]; exact r1⟩, ?_, ?_, ?_, ?_⟩
      · show In (F.1 319 (69 * k + 29 + (5 * j + 1))) 0 30
        rw [tr 1 (by decide)]
        exact h2
      · show In (F.1 319 (69 * k + 29 + (5 * j + 2))) 0 60
        rw [tr 2 (by decide)]
        exact h3
      · show In (F.1 319 (69 * k + 29 + (5 * j + 3))) 0 90
        rw [tr 3 (by decide)]
        exact h4
      · show In (F.1 319 (69 * k + 29 + (5 * j + 4))) 0 40
        rw [tr 4 (by decide)]
        exact h5
    · exact npL (o' := 10 + 21 * k + 5) (b := 69 * k) hR3 ho (show CpF 214 (10 + 21 * k + 5) 12 S' F by rw [show 10 + 21 * k + 5 = 15 + 21 * k by omega]; exact y3) rfl vStep_c (by rw [hlow _ (by omega)]; exact d3.1) (by rw [hlow _ (by omega)]; exact d3.2.1) (st 2 (by decide)) (fun i hi => by rw [Nat.add_assoc]; exact st _ (by omega))
    · rw [y4, y5, y6, show 10 + 21 * k + 7 = 17 + 21 * k by omega, y7 0 (by decide), y7 1 (by decide), y7 2 (by decide), st 3 (by decide), st 4 (by decide), st 5 (by decide), st 6 (by decide), st 7 (by decide), st 8 (by decide)]
      exact ⟨e4, e5, e6, e7, e8, e9⟩
    · unfold vCourt
      rw [st 3 (by decide), st 4 (by decide), st 5 (by decide), st 6 (by decide), st 7 (by decide), st 8 (by decide)]
      exact ⟨v1, v2, v3, v4, v5, v6, z4⟩
  · subst e
    obtain ⟨hD, n1, hR1⟩ := s1 rfl
    have st : ∀ i, i < 121 → F.1 320 (121 * k + i) = T2.1 325 i := hst
    exact npL (o' := 23 + 21 * k) (b := 121 * k) hR1 ho (x1 rfl) rfl vDeed_c (by rw [hlow _ (by omega)]; exact c5.1) (by rw [hlow _ (by omega)]; exact c5.2.1) (st 0 (by decide)) (fun i hi => by rw [Nat.add_assoc]; exact st _ (by omega))
  · subst e
    obtain ⟨hD, n1, hR1⟩ := s2 rfl
    have st : ∀ i, i < 17 → F.1 321 (17 * k + i) = T2.1 325 i := hst
    exact npL (o' := 25 + 21 * k) (b := 17 * k) hR1 ho (x2 rfl) rfl vMark_c (by rw [hlow _ (by omega)]; exact c6.1) (by rw [hlow _ (by omega)]; exact c6.2.1) (st 0 (by decide)) (fun i hi => by rw [Nat.add_assoc]; exact st _ (by omega))
  · subst e
    obtain ⟨hD, ⟨n1, hR1⟩, n2, hR2⟩ := s3 rfl
    have st : ∀ i, i < 122 → F.1 322 (122 * k + i) = T2.1 325 i := hst
    exact ⟨npL (o' := 19 + 21 * k) (b := 122 * k) hR1 ho (x3 rfl).1 rfl vSeen_c (by rw [hlow _ (by omega)]; exact c3.1) (by rw [hlow _ (by omega)]; exact c3.2.1) (st 0 (by decide)) (fun i hi => by rw [Nat.add_assoc]; exact st _ (by omega)), npL (o' := 21 + 21 * k) (b := 122 * k) hR2 ho (x3 rfl).2 rfl vShot_c (by rw [hlow _ (by omega)]; exact c4.1) (by rw [hlow _ (by omega)]; exact c4.2.1) (st 1 (by decide)) (fun i hi => by rw [Nat.add_assoc]; exact st _ (by omega))⟩
  · subst e
    obtain ⟨hD, n1, hR1⟩ := s4 rfl
    have st : ∀ i, i < 91 → F.1 323 (91 * k + i) = T2.1 325 i := hst
    exact npL (o' := 27 + 21 * k) (b := 91 * k) hR1 ho (x4 rfl) rfl vPawn_c (by rw [hlow _ (by omega)]; exact c7.1) (by rw [hlow _ (by omega)]; exact c7.2.1) (st 0 (by decide)) (fun i hi => by rw [Nat.add_assoc]; exact st _ (by omega))
  · subst e
    obtain ⟨hD, n1, hR1⟩ := s5 rfl
    have st : ∀ i, i < 21 → F.1 324 (21 * k + i) = T2.1 325 i := hst
    exact npL (o' := 29 + 21 * k) (b := 21 * k) hR1 ho (x5 rfl) rfl vMaid_c (by rw [hlow _ (by omega)]; exact c8.1) (by rw [hlow _ (by omega)]; exact c8.2.1) (st 0 (by decide)) (fun i hi => by rw [Nat.add_assoc]; exact st _ (by omega))
end KS
