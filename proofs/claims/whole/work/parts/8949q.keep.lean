/-! texts: one place of what is told is written anew, the relation stays -/
def plo (s : Nat) : Nat := if s = 0 then 10 else if s = 1 then 23 else if s = 2 then 25 else if s = 3 then 18 else if s = 4 then 27 else 29
def phi (s : Nat) : Nat := if s = 0 then 18 else if s = 1 then 25 else if s = 2 then 27 else if s = 3 then 23 else if s = 4 then 29 else 31
def pwi (s : Nat) : Nat := if s = 0 then 69 else if s = 1 then 121 else if s = 2 then 17 else if s = 3 then 122 else if s = 4 then 91 else 21
def KC (S : GS) (k : Nat) : Prop := RwC S (10 + 21 * k) (69 * k)
def KV (S : GS) (k : Nat) : Prop := (∃ n, S.1 318 0 = nI n ∧ n ≤ 2 ∧ k < n) → vCourt S (69 * k)
def KE (S : GS) (k : Nat) : Prop := RwL S (19 + 21 * k) 3 20 322 (122 * k) (122 * k + 2) vSeen
def KH (S : GS) (k : Nat) : Prop := RwL S (21 + 21 * k) 3 20 322 (122 * k + 1) (122 * k + 62) vShot
def KB (S : GS) (k : Nat) : Prop := RwL S (23 + 21 * k) 3 40 320 (121 * k) (121 * k + 1) vDeed
def KF (S : GS) (k : Nat) : Prop := RwL S (25 + 21 * k) 1 16 321 (17 * k) (17 * k + 1) vMark
def KL (S : GS) (k : Nat) : Prop := RwL S (27 + 21 * k) 3 30 323 (91 * k) (91 * k + 1) vPawn
def KM (S : GS) (k : Nat) : Prop := RwL S (29 + 21 * k) 2 10 324 (21 * k) (21 * k + 1) vMaid
section KP
variable {S F : GS} {k k' srt s : Nat}
theorem rwk_iff : RwK S 1 0 k ↔ KC S k ∧ KV S k ∧ KE S k ∧ KH S k ∧ KB S k ∧ KF S k ∧ KL S k ∧ KM S k := by
  unfold RwK KC KV KE KH KB KF KL KM
  rw [show 1 + (9 + 21 * k) = 10 + 21 * k by omega, show 138 * 0 + 69 * k = 69 * k by omega, show 6 * 0 = 0 from rfl, show 1 + (18 + 21 * k) = 19 + 21 * k by omega, show 244 * 0 + 122 * k = 122 * k by omega, show 1 + (20 + 21 * k) = 21 + 21 * k by omega, show 1 + (22 + 21 * k) = 23 + 21 * k by omega, show 242 * 0 + 121 * k = 121 * k by omega, show 1 + (24 + 21 * k) = 25 + 21 * k by omega, show 34 * 0 + 17 * k = 17 * k by omega, show 1 + (26 + 21 * k) = 27 + 21 * k by omega, show 182 * 0 + 91 * k = 91 * k by omega, show 1 + (28 + 21 * k) = 29 + 21 * k by omega, show 42 * 0 + 21 * k = 21 * k by omega]
theorem RwL.at {o w m a p q N : Nat} {V V' : (Nat → Int32) → Prop} (h : RwL S o w m a p q V) (hV : Vc w V V') (hN : m * w = N) (h1 : F.1 o = S.1 o) (h2 : F.1 (o + 1) = S.1 (o + 1)) (h3 : F.1 a p = S.1 a p) (h4 : ∀ i, i < N → F.1 a (q + i) = S.1 a (q + i)) : RwL F o w m a p q V' := h.mv hV hN (by rw [h1]) (by rw [h1]) (by rw [h1]) (fun i _ => by rw [h2]) h3 h4
theorem KC.at (h : KC S k) (h1 : ∀ o, 10 + 21 * k ≤ o → o < 18 + 21 * k → F.1 o = S.1 o) (h2 : ∀ i, 69 * k ≤ i → i < 69 * k + 69 → F.1 319 i = S.1 319 i) : KC F k := by
  obtain ⟨c1, c2, c3, c4, c5, c6, c7, c8, c9⟩ := h
  have e0 := h1 (10 + 21 * k) (by omega) (by omega)
  have e7 := h1 (10 + 21 * k + 7) (by omega) (by omega)
  refine ⟨c1.at vRoom_c rfl (h1 _ (by omega) (by omega)) (h1 _ (by omega) (by omega)) (h2 _ (by omega) (by omega)) (fun i hi => h2 _ (by omega) (by omega)), c2.at (vLady_c (h2 _ (by omega) (by omega))) rfl (h1 _ (by omega) (by omega)) (h1 _ (by omega) (by omega)) (h2 _ (by omega) (by omega)) (fun i hi => h2 _ (by omega) (by omega)), c3.at vStep_c rfl (h1 _ (by omega) (by omega)) (h1 _ (by omega) (by omega)) (h2 _ (by omega) (by omega)) (fun i hi => h2 _ (by omega) (by omega)), ?_⟩
  rw [e0, e7, h2 _ (by omega) (by omega), h2 _ (by omega) (by omega), h2 _ (by omega) (by omega), h2 _ (by omega) (by omega), h2 _ (by omega) (by omega), h2 _ (by omega) (by omega)]
  exact ⟨c4, c5, c6, c7, c8, c9⟩
theorem vCourt.at (h : vCourt S (69 * k)) (h2 : ∀ i, 69 * k ≤ i → i < 69 * k + 69 → F.1 319 i = S.1 319 i) : vCourt F (69 * k) := by
  unfold vCourt at h ⊢
  rw [h2 (69 * k + 3) (by omega) (by omega), h2 (69 * k + 4) (by omega) (by omega), h2 (69 * k + 5) (by omega) (by omega), h2 (69 * k + 6) (by omega) (by omega), h2 (69 * k + 7) (by omega) (by omega), h2 (69 * k + 8) (by omega) (by omega)]
  exact h
/-- the part that was told anew -/
def NP (srt : Nat) (F : GS) (k : Nat) : Prop := (srt = 0 → KC F k ∧ vCourt F (69 * k)) ∧ (srt = 1 → KB F k) ∧ (srt = 2 → KF F k) ∧ (srt = 3 → KE F k ∧ KH F k) ∧ (srt = 4 → KL F k) ∧ (srt = 5 → KM F k)
theorem all_K (hs : srt < 6) (hk : k < 2) (hk' : k' < 2) (h : RwK S 1 0 k') (hcls : ∀ o, 3 < o → o < 206 → ¬ (plo srt + 21 * k ≤ o ∧ o < phi srt + 21 * k) → F.1 o = S.1 o) (harr : ∀ a, 319 ≤ a → a < 325 → ∀ i, ¬ (a = 319 + srt ∧ pwi srt * k ≤ i ∧ i < pwi srt * k + pwi srt) → F.1 a i = S.1 a i) (hcnt : ¬ (srt = 0 ∧ k' = k) → (∃ n, F.1 318 0 = nI n ∧ n ≤ 2 ∧ k' < n) → ∃ n, S.1 318 0 = nI n ∧ n ≤ 2 ∧ k' < n) (hn : NP srt F k) : RwK F 1 0 k' := by
  obtain ⟨h0, h1, h2, h3, h4, h5⟩ := hn
  obtain ⟨c1, c2, c3, c4, c5, c6, c7, c8⟩ := rwk_iff.mp h
  -- objects of a part of another sort, or of the other place
  have ob : ∀ x, x < 6 → ¬ (srt = x ∧ k' = k) → ∀ o, plo x + 21 * k' ≤ o → o < phi x + 21 * k' → F.1 o = S.1 o := fun x hx hne o a b => by
    refine hcls o ?_ ?_ ?_
    · rcases (show x = 0 ∨ x = 1 ∨ x = 2 ∨ x = 3 ∨ x = 4 ∨ x = 5 by omega) with rfl | rfl | rfl | rfl | rfl | rfl <;> simp [plo] at a <;> omega
    · rcases (show x = 0 ∨ x = 1 ∨ x = 2 ∨ x = 3 ∨ x = 4 ∨ x = 5 by omega) with rfl | rfl | rfl | rfl | rfl | rfl <;> simp [phi] at b <;> omega
    · rcases (show x = 0 ∨ x = 1 ∨ x = 2 ∨ x = 3 ∨ x = 4 ∨ x = 5 by omega) with rfl | rfl | rfl | rfl | rfl | rfl <;> rcases (show srt = 0 ∨ srt = 1 ∨ srt = 2 ∨ srt = 3 ∨ srt = 4 ∨ srt = 5 by omega) with rfl | rfl | rfl | rfl | rfl | rfl <;> simp [plo, phi] at a b ⊢ <;> omega
  have ar : ∀ x, x < 6 → ¬ (srt = x ∧ k' = k) → ∀ i, pwi x * k' ≤ i → i < pwi x * k' + pwi x → F.1 (319 + x) i = S.1 (319 + x) i := fun x hx hne i a b => by
    refine harr _ (by omega) (by omega) i (fun ⟨z1, z2, z3⟩ => ?_)
    have : srt = x := by omega
    subst this
    have hkk : k' ≠ k := fun w => hne ⟨rfl, w⟩
    rcases (show k = 0 ∧ k' = 1 ∨ k = 1 ∧ k' = 0 by omega) with ⟨rfl, rfl⟩ | ⟨rfl, rfl⟩ <;> omega
  refine rwk_iff.mpr ⟨?_, ?_, ?_, ?_, ?_, ?_, ?_, ?_⟩
  · by_cases z : srt = 0 ∧ k' = k
    · rw [z.2]
      exact (h0 z.1).1
    · exact c1.at (ob 0 (by decide) z) (ar 0 (by decide) z)
  · by_cases z : srt = 0 ∧ k' = k
    · rw [z.2]
      exact fun _ => (h0 z.1).2
    · exact fun w => vCourt.at (c2 (hcnt z w)) (ar 0 (by decide) z)
  · by_cases z : srt = 3 ∧ k' = k
    · rw [z.2]
      exact (h3 z.1).1
    · exact RwL.at c3 vSeen_c rfl (ob 3 (by decide) z _ (by show 18 + 21 * k' ≤ _; omega) (by show _ < 23 + 21 * k'; omega)) (ob 3 (by decide) z _ (by show 18 + 21 * k' ≤ _; omega) (by show _ < 23 + 21 * k'; omega)) (ar 3 (by decide) z _ (by show 122 * k' ≤ _; omega) (by show _ < 122 * k' + 122; omega)) (fun i hi => ar 3 (by decide) z _ (by show 122 * k' ≤ _; omega) (by show _ < 122 * k' + 122; omega))
  · by_cases z : srt = 3 ∧ k' = k
    · rw [z.2]
      exact (h3 z.1).2
    · exact RwL.at c4 vShot_c rfl (ob 3 (by decide) z _ (by show 18 + 21 * k' ≤ _; omega) (by show _ < 23 + 21 * k'; omega)) (ob 3 (by decide) z _ (by show 18 + 21 * k' ≤ _; omega) (by show _ < 23 + 21 * k'; omega)) (ar 3 (by decide) z _ (by show 122 * k' ≤ _; omega) (by show _ < 122 * k' + 122; omega)) (fun i hi => ar 3 (by decide) z _ (by show 122 * k' ≤ _; omega) (by show _ < 122 * k' + 122; omega))
  · by_cases z : srt = 1 ∧ k' = k
    · rw [z.2]
      exact h1 z.1
    · exact RwL.at c5 vDeed_c rfl (ob 1 (by decide) z _ (by show 23 + 21 * k' ≤ _; omega) (by show _ < 25 + 21 * k'; omega)) (ob 1 (by decide) z _ (by show 23 + 21 * k' ≤ _; omega) (by show _ < 25 + 21 * k'; omega)) (ar 1 (by decide) z _ (by show 121 * k' ≤ _; omega) (by show _ < 121 * k' + 121; omega)) (fun i hi => ar 1 (by decide) z _ (by show 121 * k' ≤ _; omega) (by show _ < 121 * k' + 121; omega))
  · by_cases z : srt = 2 ∧ k' = k
    · rw [z.2]
      exact h2 z.1
    · exact RwL.at c6 vMark_c rfl (ob 2 (by decide) z _ (by show 25 + 21 * k' ≤ _; omega) (by show _ < 27 + 21 * k'; omega)) (ob 2 (by decide) z _ (by show 25 + 21 * k' ≤ _; omega) (by show _ < 27 + 21 * k'; omega)) (ar 2 (by decide) z _ (by show 17 * k' ≤ _; omega) (by show _ < 17 * k' + 17; omega)) (fun i hi => ar 2 (by decide) z _ (by show 17 * k' ≤ _; omega) (by show _ < 17 * k' + 17; omega))
  · by_cases z : srt = 4 ∧ k' = k
    · rw [z.2]
      exact h4 z.1
    · exact RwL.at c7 vPawn_c rfl (ob 4 (by decide) z _ (by show 27 + 21 * k' ≤ _; omega) (by show _ < 29 + 21 * k'; omega)) (ob 4 (by decide) z _ (by show 27 + 21 * k' ≤ _; omega) (by show _ < 29 + 21 * k'; omega)) (ar 4 (by decide) z _ (by show 91 * k' ≤ _; omega) (by show _ < 91 * k' + 91; omega)) (fun i hi => ar 4 (by decide) z _ (by show 91 * k' ≤ _; omega) (by show _ < 91 * k' + 91; omega))
  · by_cases z : srt = 5 ∧ k' = k
    · rw [z.2]
      exact h5 z.1
    · exact RwL.at c8 vMaid_c rfl (ob 5 (by decide) z _ (by show 29 + 21 * k' ≤ _; omega) (by show _ < 31 + 21 * k'; omega)) (ob 5 (by decide) z _ (by show 29 + 21 * k' ≤ _; omega) (by show _ < 31 + 21 * k'; omega)) (ar 5 (by decide) z _ (by show 21 * k' ≤ _; omega) (by show _ < 21 * k' + 21; omega)) (fun i hi => ar 5 (by decide) z _ (by show 21 * k' ≤ _; omega) (by show _ < 21 * k' + 21; omega))
/-- the whole relation -/
theorem Inv.keep (h : Inv S) (hW : Wr F) (hs : srt < 6) (hk : k < 2) (hcls : ∀ o, 3 < o → o < 206 → ¬ (plo srt + 21 * k ≤ o ∧ o < phi srt + 21 * k) → F.1 o = S.1 o) (h2 : F.1 2 = S.1 2) (harr : ∀ a, 319 ≤ a → a < 325 → ∀ i, ¬ (a = 319 + srt ∧ pwi srt * k ≤ i ∧ i < pwi srt * k + pwi srt) → F.1 a i = S.1 a i) (hn : NP srt F k) (h314 : F.1 314 = S.1 314) (hlen : F.1 1 8 = 0 ∧ F.1 315 0 = 0) (h315 : ∀ i, i ≠ 0 → F.1 315 i = S.1 315 i) (hf : F.1 1 9 = F.1 316 0) (h316 : ∀ i, i ≠ 0 → F.1 316 i = S.1 316 i) (hp : F.1 1 10 = F.1 317 0) (h317 : ∀ i, i ≠ 0 → F.1 317 i = S.1 317 i)
    {c c' : Nat} (hc : S.1 318 srt = nI c ∧ S.1 3 srt = nI c) (hcc : (c' = c ∧ k < c) ∨ (c' = c + 1 ∧ k = c)) (hc2 : c' ≤ 2) (h3 : F.1 3 = up (S.1 3) srt (nI c')) (h318 : F.1 318 = up (S.1 318) srt (nI c')) (h206 : F.1 206 = S.1 206) (h342 : F.1 342 = S.1 342) (h309 : F.1 309 = S.1 309) (hD : RwD F) : Inv F := by
  obtain ⟨i1, i2, i3, i4⟩ := id h
  have hwk : pwi srt * k + pwi srt ≤ 2 * pwi srt := by
    rcases (show k = 0 ∨ k = 1 by omega) with rfl | rfl <;> omega
  refine ⟨hW, fun j hj => ?_, ⟨fun a ha => ?_, by rw [h309]; exact i3.2.1, fun i => by rw [h314]; exact i3.2.2 i⟩, hD⟩
  · by_cases q : j = 0
    · subst q
      obtain ⟨d1, d2, d3, d4, d5, d6, d7⟩ := i2 0 (by decide)
      have cn : ∀ k', ¬ (srt = 0 ∧ k' = k) → (∃ n, F.1 318 0 = nI n ∧ n ≤ 2 ∧ k' < n) → ∃ n, S.1 318 0 = nI n ∧ n ≤ 2 ∧ k' < n := fun k' z ⟨n, w1, w2, w3⟩ => by
        rw [h318] at w1
        by_cases y : srt = 0
        · subst y
          rw [up_at] at w1
          have e : c' = n := (nI_eq (by omega) (by omega)).mp w1
          refine ⟨c, hc.1, by omega, ?_⟩
          have : k' ≠ k := fun w => z ⟨rfl, w⟩
          omega
        · rw [up_o (fun w => y w.symm)] at w1
          exact ⟨n, w1, w2, w3⟩
      refine ⟨fun i hi => ?_, ⟨0, by decide, hlen.1, hlen.2⟩, hf, Or.inr hp, fun s hs' => ?_, all_K hs hk (by decide) d6 hcls harr (cn 0) hn, all_K hs hk (by decide) d7 hcls harr (cn 1) hn⟩
      · show F.1 2 i = _
        rw [h2, h314]
        exact d1 i hi
      · show ∃ n, n ≤ 2 ∧ F.1 3 s = nI n ∧ F.1 318 (6 * 0 + s) = nI n
        rw [Nat.mul_zero, Nat.zero_add, h3, h318]
        by_cases y : s = srt
        · subst y
          rw [up_at, up_at]
          exact ⟨c', hc2, rfl, rfl⟩
        · rw [up_o y, up_o y]
          have := d5 s hs'
          rw [Nat.mul_zero, Nat.zero_add] at this
          exact this
    · have ht : tO j + 51 ≤ 206 := tO_le hj
      have ht2 : 53 ≤ tO j := by
        unfold tO
        rw [if_neg q]
        omega
      have hup : phi srt + 21 * k ≤ 52 := by
        rcases (show srt = 0 ∨ srt = 1 ∨ srt = 2 ∨ srt = 3 ∨ srt = 4 ∨ srt = 5 by omega) with rfl | rfl | rfl | rfl | rfl | rfl <;> simp [phi] <;> omega
      have eo : ∀ x q, x < 51 → F.1 (tO j + x) q = S.1 (tO j + x) q := fun x q hx => by rw [hcls (tO j + x) (by omega) (by omega) (by omega)]
      refine (i2 j hj).mv (S' := F) (t' := tO j) (j' := j) ⟨fun x q hx => ?_, fun k hk x q hx => ?_⟩ (fun a a1 a2 q' hq => ?_) ?_
      · obtain ⟨lo, n, m1, -, -⟩ := inL_ex hx
        exact eo x q (cpF_51 _ m1)
      · obtain ⟨lo, n, m1, -, -⟩ := inL_ex hx
        exact eo x q (rlL_51 k hk _ m1)
      · rcases (show a = 314 ∨ a = 315 ∨ a = 316 ∨ a = 317 ∨ a = 318 ∨ 319 ≤ a by omega) with rfl | rfl | rfl | rfl | rfl | a3
        · rw [h314]
        · exact h315 _ (by show 1 * j + q' ≠ 0; omega)
        · exact h316 _ (by show 1 * j + q' ≠ 0; omega)
        · exact h317 _ (by show 1 * j + q' ≠ 0; omega)
        · rw [h318, up_o (by show 6 * j + q' ≠ srt; omega)]
        · refine harr a a3 a2 _ (fun ⟨z1, z2, z3⟩ => ?_)
          have : mSz a = 2 * pwi srt := by
            subst z1
            rcases (show srt = 0 ∨ srt = 1 ∨ srt = 2 ∨ srt = 3 ∨ srt = 4 ∨ srt = 5 by omega) with rfl | rfl | rfl | rfl | rfl | rfl <;> rfl
          rw [this] at z3
          have : 2 * pwi srt * 1 ≤ 2 * pwi srt * j := Nat.mul_le_mul_left _ (by omega)
          omega
      · obtain ⟨-, -, -, d4, -⟩ := i2 j hj
        rw [h206, hcls (tO j) (by omega) (by omega) (by omega), h317 j q]
        exact d4
  · rw [h206, h342]
    exact i3.1 a ha
end KP
