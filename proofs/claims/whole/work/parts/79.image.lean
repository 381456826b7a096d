/-! images: what was told stands in another place -/
section MV
variable {S S' : GS} {o o' w m a p p' q q' b b' t t' j j' k : Nat} {V V' : (Nat → Int32) → Prop}
def Vc (w : Nat) (V V' : (Nat → Int32) → Prop) : Prop := ∀ f g : Nat → Int32, (∀ i, i < w → g i = f i) → V f → V' g
theorem vRoom_c : Vc 2 vRoom vRoom := fun f g h v => by
  unfold vRoom at v ⊢
  rw [h 0 (by decide), h 1 (by decide)]
  exact v
theorem vLady_c {x y : Int32} (e : y = x) : Vc 5 (vLady x) (vLady y) := fun f g h v => by
  unfold vLady at v ⊢
  rw [h 0 (by decide), h 1 (by decide), h 2 (by decide), h 3 (by decide), h 4 (by decide), e]
  exact v
theorem vStep_c : Vc 2 vStep vStep := fun f g h v => by
  unfold vStep at v ⊢
  rw [h 0 (by decide), h 1 (by decide)]
  exact v
theorem vDeed_c : Vc 3 vDeed vDeed := fun f g h v => by
  unfold vDeed at v ⊢
  rw [h 0 (by decide), h 1 (by decide), h 2 (by decide)]
  exact v
theorem vMark_c : Vc 1 vMark vMark := fun f g h v => by
  unfold vMark at v ⊢
  rw [h 0 (by decide)]
  exact v
theorem vSeen_c : Vc 3 vSeen vSeen := fun f g h v => by
  unfold vSeen at v ⊢
  rw [h 0 (by decide), h 1 (by decide), h 2 (by decide)]
  exact v
theorem vShot_c : Vc 3 vShot vShot := fun f g h v => by
  unfold vShot at v ⊢
  rw [h 0 (by decide), h 1 (by decide), h 2 (by decide)]
  exact v
theorem vPawn_c : Vc 3 vPawn vPawn := fun f g h v => by
  unfold vPawn at v ⊢
  rw [h 0 (by decide), h 1 (by decide), h 2 (by decide)]
  exact v
theorem vMaid_c : Vc 2 vMaid vMaid := fun f g h v => by
  unfold vMaid at v ⊢
  rw [h 0 (by decide), h 1 (by decide)]
  exact v
theorem cell_lt {w m k i : Nat} (hk : k < m) (hi : i < w) : w * k + i < m * w := by
  have := Nat.mul_le_mul_left w (show k + 1 ≤ m by omega)
  rw [Nat.mul_succ] at this
  rw [Nat.mul_comm m w]
  omega
theorem RwL.mv {N : Nat} (h : RwL S o w m a p q V) (hV : Vc w V V') (hN : m * w = N) (e0 : S'.1 o' 0 = S.1 o 0) (e1 : S'.1 o' 1 = S.1 o 1) (e3 : S'.1 o' 3 = S.1 o 3) (ec : ∀ i, i < N → S'.1 (o' + 1) i = S.1 (o + 1) i) (ep : S'.1 a p' = S.1 a p) (eq : ∀ i, i < N → S'.1 a (q' + i) = S.1 a (q + i)) : RwL S' o' w m a p' q' V' := by
  obtain ⟨c0, c1, n, c2, c3, c4, c5, c6⟩ := h
  subst hN
  refine ⟨e0.trans c0, e1.trans c1, n, c2, e3.trans c3, ep.trans c4, fun k hk i hi => ?_, fun k hk => ?_⟩
  · have := cell_lt (w := w) (show k < m by omega) hi
    rw [ec _ this, eq _ this]
    exact c5 k hk i hi
  · exact hV _ _ (fun i hi => eq _ (cell_lt (w := w) (show k < m by omega) hi)) (c6 k hk)
/-- the slots that the relation looks at: what is copied, and the bounds of the row lists -/
def rlL (k : Nat) : List (Nat × Nat × Nat) := [(9 + 21 * k + 1, 0, 2), (9 + 21 * k + 3, 0, 2), (9 + 21 * k + 5, 0, 2), (18 + 21 * k, 0, 2), (20 + 21 * k, 0, 2), (22 + 21 * k, 0, 2), (24 + 21 * k, 0, 2), (26 + 21 * k, 0, 2), (28 + 21 * k, 0, 2)]
/-- slots alike -/
def Sa (S S' : GS) (t t' : Nat) : Prop := (∀ x q, inL cpF x q = true → S'.1 (t' + x) q = S.1 (t + x) q) ∧ ∀ k, k < 2 → ∀ x q, inL (rlL k) x q = true → S'.1 (t' + x) q = S.1 (t + x) q
/-- blocks alike -/
def Ba (S S' : GS) (j j' : Nat) : Prop := ∀ a, 314 ≤ a → a < 325 → ∀ q, q < mSz a → S'.1 a (mSz a * j' + q) = S.1 a (mSz a * j + q)
theorem RwK.mv (h : RwK S t j k) (hk : k < 2) (hS : Sa S S' t t') (hB : Ba S S' j j') : RwK S' t' j' k := by
  obtain ⟨⟨c1, c2, c3, c4, c5, c6, c7, c8, c9⟩, v, d1, d2, d3, d4, d5, d6⟩ := h
  have f : ∀ x lo n, (x, lo, n) ∈ cpF → ∀ q, lo ≤ q → q < lo + n → S'.1 (t' + x) q = S.1 (t + x) q := fun x lo n hm q h1 h2 => hS.1 x q (inL_mem hm h1 h2)
  have g : ∀ x, (x, 0, 2) ∈ rlL k → ∀ q, q < 2 → S'.1 (t' + x) q = S.1 (t + x) q := fun x hm q h1 => hS.2 k hk x q (inL_mem hm (Nat.zero_le _) (by omega))
  have b9 : ∀ q, q < 138 → S'.1 319 (138 * j' + q) = S.1 319 (138 * j + q) := hB 319 (by decide) (by decide)
  have b8 : ∀ q, q < 6 → S'.1 318 (6 * j' + q) = S.1 318 (6 * j + q) := hB 318 (by decide) (by decide)
  have b0 : ∀ q, q < 242 → S'.1 320 (242 * j' + q) = S.1 320 (242 * j + q) := hB 320 (by decide) (by decide)
  have b1' : ∀ q, q < 34 → S'.1 321 (34 * j' + q) = S.1 321 (34 * j + q) := hB 321 (by decide) (by decide)
  have b2' : ∀ q, q < 244 → S'.1 322 (244 * j' + q) = S.1 322 (244 * j + q) := hB 322 (by decide) (by decide)
  have b3' : ∀ q, q < 182 → S'.1 323 (182 * j' + q) = S.1 323 (182 * j + q) := hB 323 (by decide) (by decide)
  have b4' : ∀ q, q < 42 → S'.1 324 (42 * j' + q) = S.1 324 (42 * j + q) := hB 324 (by decide) (by decide)
  have b9' : ∀ q i, q < 69 → 138 * j + 69 * k + q = i → S'.1 319 (138 * j' + 69 * k + q) = S.1 319 i := fun q i hq hi => by
    rw [← hi, show 138 * j' + 69 * k + q = 138 * j' + (69 * k + q) by omega, show 138 * j + 69 * k + q = 138 * j + (69 * k + q) by omega]
    exact b9 _ (by omega)
  have mm : ∀ {x lo n : Nat}, (k = 0 → (x, lo, n) ∈ cpF) → (k = 1 → (x, lo, n) ∈ cpF) → (x, lo, n) ∈ cpF := fun {x lo n} h0 h1 => by
    rcases (show k = 0 ∨ k = 1 by omega) with e | e
    · exact h0 e
    · exact h1 e
  have fm : ∀ x lo n, (k = 0 → (x, lo, n) ∈ cpF) → (k = 1 → (x, lo, n) ∈ cpF) → ∀ q, lo ≤ q → q < lo + n → S'.1 (t' + x) q = S.1 (t + x) q := fun x lo n h0 h1 => f x lo n (mm h0 h1)
  refine ⟨⟨?_, ?_, ?_, ?_, ?_, ?_, ?_, ?_, ?_⟩, fun hv => ?_, ?_, ?_, ?_, ?_, ?_, ?_⟩
  · exact RwL.mv (N := 8) (o' := t' + (9 + 21 * k) + 1) c1 vRoom_c rfl (g (9 + 21 * k + 1) (by simp [rlL]) 0 (by decide)) (g (9 + 21 * k + 1) (by simp [rlL]) 1 (by decide)) (fm (9 + 21 * k + 1) 3 1 (fun e => by subst e; decide) (fun e => by subst e; decide) 3 (by decide) (by decide)) (fun i hi => fm (9 + 21 * k + 1 + 1) 0 8 (fun e => by subst e; decide) (fun e => by subst e; decide) i (by omega) (by omega)) (b9' 0 _ (by decide) rfl) (fun i hi => by
      rw [Nat.add_assoc (138 * j' + 69 * k) 9 i, Nat.add_assoc (138 * j + 69 * k) 9 i]
      exact b9' (9 + i) _ (by omega) rfl)
  · exact RwL.mv (N := 40) (o' := t' + (9 + 21 * k) + 3) c2 (vLady_c (b9' 0 _ (by decide) rfl)) rfl (g (9 + 21 * k + 3) (by simp [rlL]) 0 (by decide)) (g (9 + 21 * k + 3) (by simp [rlL]) 1 (by decide)) (fm (9 + 21 * k + 3) 3 1 (fun e => by subst e; decide) (fun e => by subst e; decide) 3 (by decide) (by decide)) (fun i hi => fm (9 + 21 * k + 3 + 1) 0 40 (fun e => by subst e; decide) (fun e => by subst e; decide) i (by omega) (by omega)) (b9' 1 _ (by decide) rfl) (fun i hi => by
      rw [Nat.add_assoc (138 * j' + 69 * k) 29 i, Nat.add_assoc (138 * j + 69 * k) 29 i]
      exact b9' (29 + i) _ (by omega) rfl)
  · exact RwL.mv (N := 12) (o' := t' + (9 + 21 * k) + 5) c3 vStep_c rfl (g (9 + 21 * k + 5) (by simp [rlL]) 0 (by decide)) (g (9 + 21 * k + 5) (by simp [rlL]) 1 (by decide)) (fm (9 + 21 * k + 5) 3 1 (fun e => by subst e; decide) (fun e => by subst e; decide) 3 (by decide) (by decide)) (fun i hi => fm (9 + 21 * k + 5 + 1) 0 12 (fun e => by subst e; decide) (fun e => by subst e; decide) i (by omega) (by omega)) (b9' 2 _ (by decide) rfl) (fun i hi => by
      rw [Nat.add_assoc (138 * j' + 69 * k) 17 i, Nat.add_assoc (138 * j + 69 * k) 17 i]
      exact b9' (17 + i) _ (by omega) rfl)
  · rw [fm (9 + 21 * k) 4 1 (fun e => by subst e; decide) (fun e => by subst e; decide) 4 (by decide) (by decide), b9' 3 _ (by decide) rfl]
    exact c4
  · rw [fm (9 + 21 * k) 5 1 (fun e => by subst e; decide) (fun e => by subst e; decide) 5 (by decide) (by decide), b9' 4 _ (by decide) rfl]
    exact c5
  · rw [fm (9 + 21 * k) 6 1 (fun e => by subst e; decide) (fun e => by subst e; decide) 6 (by decide) (by decide), b9' 5 _ (by decide) rfl]
    exact c6
  · rw [show t' + (9 + 21 * k) + 7 = t' + (9 + 21 * k + 7) from rfl, fm (9 + 21 * k + 7) 0 3 (fun e => by subst e; decide) (fun e => by subst e; decide) 0 (by decide) (by decide), b9' 6 _ (by decide) rfl]
    exact c7
  · rw [show t' + (9 + 21 * k) + 7 = t' + (9 + 21 * k + 7) from rfl, fm (9 + 21 * k + 7) 0 3 (fun e => by subst e; decide) (fun e => by subst e; decide) 1 (by decide) (by decide), b9' 7 _ (by decide) rfl]
    exact c8
  · rw [show t' + (9 + 21 * k) + 7 = t' + (9 + 21 * k + 7) from rfl, fm (9 + 21 * k + 7) 0 3 (fun e => by subst e; decide) (fun e => by subst e; decide) 2 (by decide) (by decide), b9' 8 _ (by decide) rfl]
    exact c9
  · have e8 : S'.1 318 (6 * j') = S.1 318 (6 * j) := b8 0 (by decide)
    rw [e8] at hv
    have := v hv
    unfold vCourt at this ⊢
    rw [b9' 3 _ (by decide) rfl, b9' 4 _ (by decide) rfl, b9' 5 _ (by decide) rfl, b9' 6 _ (by decide) rfl, b9' 7 _ (by decide) rfl, b9' 8 _ (by decide) rfl]
    exact this
  · exact RwL.mv (N := 60) (o' := t' + (18 + 21 * k)) d1 vSeen_c rfl (g (18 + 21 * k) (by simp [rlL]) 0 (by decide)) (g (18 + 21 * k) (by simp [rlL]) 1 (by decide)) (fm (18 + 21 * k) 3 1 (fun e => by subst e; decide) (fun e => by subst e; decide) 3 (by decide) (by decide)) (fun i hi => fm (18 + 21 * k + 1) 0 60 (fun e => by subst e; decide) (fun e => by subst e; decide) i (by omega) (by omega)) (b2' _ (by omega)) (fun i hi => by
      rw [show 244 * j' + 122 * k + 2 + i = 244 * j' + (122 * k + 2 + i) by omega, show 244 * j + 122 * k + 2 + i = 244 * j + (122 * k + 2 + i) by omega]
      exact b2' _ (by omega))
  · exact RwL.mv (N := 60) (o' := t' + (20 + 21 * k)) d2 vShot_c rfl (g (20 + 21 * k) (by simp [rlL]) 0 (by decide)) (g (20 + 21 * k) (by simp [rlL]) 1 (by decide)) (fm (20 + 21 * k) 3 1 (fun e => by subst e; decide) (fun e => by subst e; decide) 3 (by decide) (by decide)) (fun i hi => fm (20 + 21 * k + 1) 0 60 (fun e => by subst e; decide) (fun e => by subst e; decide) i (by omega) (by omega)) (by
      rw [show 244 * j' + 122 * k + 1 = 244 * j' + (122 * k + 1) by omega, show 244 * j + 122 * k + 1 = 244 * j + (122 * k + 1) by omega]
      exact b2' _ (by omega)) (fun i hi => by
      rw [show 244 * j' + 122 * k + 62 + i = 244 * j' + (122 * k + 62 + i) by omega, show 244 * j + 122 * k + 62 + i = 244 * j + (122 * k + 62 + i) by omega]
      exact b2' _ (by omega))
  · exact RwL.mv (N := 120) (o' := t' + (22 + 21 * k)) d3 vDeed_c rfl (g (22 + 21 * k) (by simp [rlL]) 0 (by decide)) (g (22 + 21 * k) (by simp [rlL]) 1 (by decide)) (fm (22 + 21 * k) 3 1 (fun e => by subst e; decide) (fun e => by subst e; decide) 3 (by decide) (by decide)) (fun i hi => fm (22 + 21 * k + 1) 0 120 (fun e => by subst e; decide) (fun e => by subst e; decide) i (by omega) (by omega)) (b0 _ (by omega)) (fun i hi => by
      rw [show 242 * j' + 121 * k + 1 + i = 242 * j' + (121 * k + 1 + i) by omega, show 242 * j + 121 * k + 1 + i = 242 * j + (121 * k + 1 + i) by omega]
      exact b0 _ (by omega))
  · exact RwL.mv (N := 16) (o' := t' + (24 + 21 * k)) d4 vMark_c rfl (g (24 + 21 * k) (by simp [rlL]) 0 (by decide)) (g (24 + 21 * k) (by simp [rlL]) 1 (by decide)) (fm (24 + 21 * k) 3 1 (fun e => by subst e; decide) (fun e => by subst e; decide) 3 (by decide) (by decide)) (fun i hi => fm (24 + 21 * k + 1) 0 16 (fun e => by subst e; decide) (fun e => by subst e; decide) i (by omega) (by omega)) (b1' _ (by omega)) (fun i hi => by
      rw [show 34 * j' + 17 * k + 1 + i = 34 * j' + (17 * k + 1 + i) by omega, show 34 * j + 17 * k + 1 + i = 34 * j + (17 * k + 1 + i) by omega]
      exact b1' _ (by omega))
  · exact RwL.mv (N := 90) (o' := t' + (26 + 21 * k)) d5 vPawn_c rfl (g (26 + 21 * k) (by simp [rlL]) 0 (by decide)) (g (26 + 21 * k) (by simp [rlL]) 1 (by decide)) (fm (26 + 21 * k) 3 1 (fun e => by subst e; decide) (fun e => by subst e; decide) 3 (by decide) (by decide)) (fun i hi => fm (26 + 21 * k + 1) 0 90 (fun e => by subst e; decide) (fun e => by subst e; decide) i (by omega) (by omega)) (b3' _ (by omega)) (fun i hi => by
      rw [show 182 * j' + 91 * k + 1 + i = 182 * j' + (91 * k + 1 + i) by omega, show 182 * j + 91 * k + 1 + i = 182 * j + (91 * k + 1 + i) by omega]
      exact b3' _ (by omega))
  · exact RwL.mv (N := 20) (o' := t' + (28 + 21 * k)) d6 vMaid_c rfl (g (28 + 21 * k) (by simp [rlL]) 0 (by decide)) (g (28 + 21 * k) (by simp [rlL]) 1 (by decide)) (fm (28 + 21 * k) 3 1 (fun e => by subst e; decide) (fun e => by subst e; decide) 3 (by decide) (by decide)) (fun i hi => fm (28 + 21 * k + 1) 0 20 (fun e => by subst e; decide) (fun e => by subst e; decide) i (by omega) (by omega)) (b4' _ (by omega)) (fun i hi => by
      rw [show 42 * j' + 21 * k + 1 + i = 42 * j' + (21 * k + 1 + i) by omega, show 42 * j + 21 * k + 1 + i = 42 * j + (21 * k + 1 + i) by omega]
      exact b4' _ (by omega))
theorem RwT.mv (h : RwT S t j) (hS : Sa S S' t t') (hB : Ba S S' j j') (h4 : (j' ≠ 0 ∧ S'.1 206 (j' - 1) = 0) ∨ S'.1 t' 10 = S'.1 317 j') : RwT S' t' j' := by
  obtain ⟨c1, c2, c3, c4, c5, c6, c7⟩ := h
  have f : ∀ x lo n, (x, lo, n) ∈ cpF → ∀ q, lo ≤ q → q < lo + n → S'.1 (t' + x) q = S.1 (t + x) q := fun x lo n hm q h1 h2 => hS.1 x q (inL_mem hm h1 h2)
  refine ⟨fun i hi => ?_, ?_, ?_, h4, fun s hs => ?_, c6.mv (by decide) hS hB, c7.mv (by decide) hS hB⟩
  · rw [f 1 0 600 (by decide) i (by omega) (by omega), show S'.1 314 (600 * j' + i) = S.1 314 (600 * j + i) from hB 314 (by decide) (by decide) i hi]
    exact c1 i hi
  · have e1 : S'.1 t' 8 = S.1 t 8 := f 0 8 1 (by decide) 8 (by decide) (by decide)
    have e2 : S'.1 315 j' = S.1 315 j := by
      have := hB 315 (by decide) (by decide) 0 (by decide)
      rwa [show mSz 315 * j' + 0 = j' from Nat.one_mul _, show mSz 315 * j + 0 = j from Nat.one_mul _] at this
    rw [e1, e2]
    exact c2
  · have e1 : S'.1 t' 9 = S.1 t 9 := f 0 9 1 (by decide) 9 (by decide) (by decide)
    have e2 : S'.1 316 j' = S.1 316 j := by
      have := hB 316 (by decide) (by decide) 0 (by decide)
      rwa [show mSz 316 * j' + 0 = j' from Nat.one_mul _, show mSz 316 * j + 0 = j from Nat.one_mul _] at this
    rw [e1, e2]
    exact c3
  · rw [f 2 0 6 (by decide) s (by omega) (by omega), show S'.1 318 (6 * j' + s) = S.1 318 (6 * j + s) from hB 318 (by decide) (by decide) s hs]
    exact c5 s hs
end MV
