/-! laced anew: knots as naturals -/
abbrev FARN : Nat := 1000000
theorem min_at (f : Nat → Nat) : ∀ (d k m : Nat), minN f d k m = m ∨ ∃ j, k ≤ j ∧ j < k + d ∧ minN f d k m = f j
  | 0, k, m => Or.inl rfl
  | d + 1, k, m => by
    show minN f d (k + 1) (if f k < m then f k else m) = m ∨ ∃ j, k ≤ j ∧ j < k + (d + 1) ∧ minN f d (k + 1) (if f k < m then f k else m) = f j
    rcases min_at f d (k + 1) (if f k < m then f k else m) with h | ⟨j, h1, h2, h3⟩
    · by_cases q : f k < m
      · rw [if_pos q] at h ⊢
        exact Or.inr ⟨k, Nat.le_refl k, by omega, h⟩
      · rw [if_neg q] at h ⊢
        exact Or.inl h
    · exact Or.inr ⟨j, by omega, by omega, h3⟩
theorem minN_c {f g : Nat → Nat} : ∀ (d k m : Nat), (∀ j, k ≤ j → j < k + d → f j = g j) → minN f d k m = minN g d k m
  | 0, _, _, _ => rfl
  | d + 1, k, m, h => by
    show minN f d (k + 1) (if f k < m then f k else m) = minN g d (k + 1) (if g k < m then g k else m)
    rw [h k (by omega) (by omega)]
    exact minN_c d (k + 1) _ (fun j a b => h j (by omega) (by omega))
/-- the knots by way of a lace; needed from a lace on -/
def byN (ft : Nat → Bool) (nd : Nat → Nat) (had : Nat) : Nat → Nat := fun j => if ft j = true then nd j + dN j had else FARN
def stepN (ft : Nat → Bool) (nd : Nat → Nat) : Nat → Nat := fun had => minN (byN ft nd had) 31 0 FARN
theorem step_le (ft : Nat → Bool) (nd : Nat → Nat) (had : Nat) : stepN ft nd had ≤ FARN := (min_le _ 31 0 FARN).1
def baseN (ft : Nat → Bool) (nd : Nat → Nat) : Nat → Nat := fun j => if ft j = true then nd j else FARN
def fwN (b : Nat → Nat) : Nat → Nat
  | 0 => b 0
  | l + 1 => if fwN b l + 1 < b (l + 1) then fwN b l + 1 else b (l + 1)
def bkN (F : Nat → Nat) : Nat → Nat
  | 0 => F 30
  | d + 1 => if bkN F d + 1 < F (29 - d) then bkN F d + 1 else F (29 - d)
abbrev spN (b : Nat → Nat) : Nat → Nat := fun l => bkN (fwN b) (30 - l)
theorem sp_30 (b : Nat → Nat) : spN b 30 = fwN b 30 := rfl
theorem sp_s (b : Nat → Nat) {l : Nat} (h : l < 30) : spN b l = if spN b (l + 1) + 1 < fwN b l then spN b (l + 1) + 1 else fwN b l := by
  show bkN (fwN b) (30 - l) = _
  rw [show 30 - l = (30 - (l + 1)) + 1 by omega]
  show (if bkN (fwN b) (30 - (l + 1)) + 1 < fwN b (29 - (30 - (l + 1))) then bkN (fwN b) (30 - (l + 1)) + 1 else fwN b (29 - (30 - (l + 1)))) = _
  rw [show 29 - (30 - (l + 1)) = l by omega]
theorem fw_le (b : Nat → Nat) : ∀ l, fwN b l ≤ b l
  | 0 => Nat.le_refl _
  | l + 1 => by
    show (if fwN b l + 1 < b (l + 1) then fwN b l + 1 else b (l + 1)) ≤ b (l + 1)
    split <;> omega
theorem fw_up (b : Nat → Nat) (l : Nat) : fwN b (l + 1) ≤ fwN b l + 1 := by
  show (if fwN b l + 1 < b (l + 1) then fwN b l + 1 else b (l + 1)) ≤ fwN b l + 1
  split <;> omega
theorem fw_at (b : Nat → Nat) : ∀ l, ∃ j, j ≤ l ∧ fwN b l = b j + (l - j)
  | 0 => ⟨0, Nat.le_refl 0, rfl⟩
  | l + 1 => by
    obtain ⟨j, h1, h2⟩ := fw_at b l
    by_cases q : fwN b l + 1 < b (l + 1)
    · refine ⟨j, by omega, ?_⟩
      show (if fwN b l + 1 < b (l + 1) then fwN b l + 1 else b (l + 1)) = _
      rw [if_pos q]
      omega
    · refine ⟨l + 1, Nat.le_refl _, ?_⟩
      show (if fwN b l + 1 < b (l + 1) then fwN b l + 1 else b (l + 1)) = _
      rw [if_neg q]
      omega
theorem sp_fw (b : Nat → Nat) {l : Nat} (h : l ≤ 30) : spN b l ≤ fwN b l := by
  by_cases q : l = 30
  · rw [q]
    exact Nat.le_refl _
  · rw [sp_s b (by omega)]
    split <;> omega
theorem sp_up (b : Nat → Nat) {l : Nat} (h : l < 30) : spN b l ≤ spN b (l + 1) + 1 ∧ spN b (l + 1) ≤ spN b l + 1 := by
  have h1 := sp_fw b (l := l + 1) (by omega)
  have h2 := fw_up b l
  rw [sp_s b h]
  split <;> omega
theorem sp_at (b : Nat → Nat) : ∀ d, d ≤ 30 → ∃ j, 30 - d ≤ j ∧ j ≤ 30 ∧ spN b (30 - d) = fwN b j + (j - (30 - d))
  | 0, _ => ⟨30, by omega, by omega, by rw [Nat.sub_zero, Nat.sub_self]; rfl⟩
  | d + 1, hd => by
    obtain ⟨j, h1, h2, h3⟩ := sp_at b d (by omega)
    have e := sp_s b (l := 30 - (d + 1)) (by omega)
    rw [show 30 - (d + 1) + 1 = 30 - d by omega] at e
    rw [e]
    by_cases q : spN b (30 - d) + 1 < fwN b (30 - (d + 1))
    · rw [if_pos q]
      exact ⟨j, by omega, h2, by omega⟩
    · rw [if_neg q]
      exact ⟨30 - (d + 1), Nat.le_refl _, by omega, by omega⟩
theorem sp_d (b : Nat → Nat) : ∀ d j, j + d ≤ 30 → spN b j ≤ spN b (j + d) + d ∧ spN b (j + d) ≤ spN b j + d
  | 0, j, _ => ⟨Nat.le_refl _, Nat.le_refl _⟩
  | d + 1, j, h => by
    obtain ⟨h1, h2⟩ := sp_d b d j (by omega)
    obtain ⟨h3, h4⟩ := sp_up b (l := j + d) (by omega)
    rw [show j + (d + 1) = j + d + 1 from rfl]
    omega
theorem sp_dN (b : Nat → Nat) {l j : Nat} (hl : l ≤ 30) (hj : j ≤ 30) : spN b l ≤ spN b j + dN j l := by
  unfold dN
  by_cases q : l ≤ j
  · obtain ⟨h1, h2⟩ := sp_d b (j - l) l (by omega)
    rw [show l + (j - l) = j by omega] at h1
    omega
  · obtain ⟨h1, h2⟩ := sp_d b (l - j) j (by omega)
    rw [show j + (l - j) = l by omega] at h2
    omega
/-- the class's two passes come to the least over all laces -/
theorem sp_step {ft : Nat → Bool} {nd : Nat → Nat} (hn : ∀ j, nd j ≤ FARN) {l : Nat} (hl : l ≤ 30) : spN (baseN ft nd) l = stepN ft nd l := by
  have hb : ∀ j, baseN ft nd j ≤ FARN := fun j => by
    unfold baseN
    split
    · exact hn j
    · exact Nat.le_refl _
  refine Nat.le_antisymm ?_ ?_
  · rcases min_at (byN ft nd l) 31 0 FARN with h | ⟨j, -, h2, h3⟩
    · show spN (baseN ft nd) l ≤ minN (byN ft nd l) 31 0 FARN
      rw [h]
      exact Nat.le_trans (sp_fw _ hl) (Nat.le_trans (fw_le _ l) (hb l))
    · show spN (baseN ft nd) l ≤ minN (byN ft nd l) 31 0 FARN
      rw [h3]
      unfold byN
      by_cases q : ft j = true
      · rw [if_pos q]
        have h1 := sp_dN (baseN ft nd) hl (show j ≤ 30 by omega)
        have h4 := Nat.le_trans (sp_fw (baseN ft nd) (show j ≤ 30 by omega)) (fw_le _ j)
        have h5 : baseN ft nd j = nd j := if_pos q
        omega
      · rw [if_neg q]
        exact Nat.le_trans (sp_fw _ hl) (Nat.le_trans (fw_le _ l) (hb l))
  · obtain ⟨j, h1, h2, h3⟩ := sp_at (baseN ft nd) (30 - l) (by omega)
    rw [show 30 - (30 - l) = l by omega] at h1 h3
    obtain ⟨i, h4, h5⟩ := fw_at (baseN ft nd) j
    obtain ⟨m1, m2⟩ := min_le (byN ft nd l) 31 0 FARN
    have m3 := m2 i (by omega) (by omega)
    show minN (byN ft nd l) 31 0 FARN ≤ spN (baseN ft nd) l
    rw [h3, h5]
    by_cases q : ft i = true
    · have e1 : byN ft nd l i = nd i + dN i l := if_pos q
      have e2 : baseN ft nd i = nd i := if_pos q
      unfold dN at e1
      omega
    · have e2 : baseN ft nd i = FARN := if_neg q
      omega
/-- the lace chosen: the first of the least -/
def vF (f : Nat → Nat) : Option Nat → Nat
  | none => FARN
  | some j => f j
def pickN (f : Nat → Nat) : Nat → Nat → Option Nat → Option Nat
  | 0, _, b => b
  | d + 1, k, b => pickN f d (k + 1) (if f k < vF f b then some k else b)
theorem pick_min (f : Nat → Nat) : ∀ (d k : Nat) (b : Option Nat), vF f (pickN f d k b) = minN f d k (vF f b)
  | 0, _, _ => rfl
  | d + 1, k, b => by
    show vF f (pickN f d (k + 1) (if f k < vF f b then some k else b)) = minN f d (k + 1) (if f k < vF f b then f k else vF f b)
    rw [pick_min f d (k + 1)]
    by_cases q : f k < vF f b
    · rw [if_pos q, if_pos q]
      rfl
    · rw [if_neg q, if_neg q]
def firstEq (f : Nat → Nat) (m : Nat) : Nat → Nat → Option Nat
  | 0, _ => none
  | d + 1, k => if f k = m then some k else firstEq f m d (k + 1)
theorem pick_first (f : Nat → Nat) : ∀ (d k : Nat) (b : Option Nat), pickN f d k b = if minN f d k (vF f b) < vF f b then firstEq f (minN f d k (vF f b)) d k else b
  | 0, k, b => by
    show b = if vF f b < vF f b then _ else b
    rw [if_neg (Nat.lt_irrefl _)]
  | d + 1, k, b => by
    show pickN f d (k + 1) (if f k < vF f b then some k else b) = if minN f d (k + 1) (if f k < vF f b then f k else vF f b) < vF f b then (if f k = minN f d (k + 1) (if f k < vF f b then f k else vF f b) then some k else firstEq f (minN f d (k + 1) (if f k < vF f b then f k else vF f b)) d (k + 1)) else b
    rw [pick_first f d (k + 1)]
    by_cases q : f k < vF f b
    · have hm := (min_le f d (k + 1) (f k)).1
      rw [if_pos q, if_pos q]
      show (if minN f d (k + 1) (f k) < f k then firstEq f (minN f d (k + 1) (f k)) d (k + 1) else some k) = _
      rw [if_pos (show minN f d (k + 1) (f k) < vF f b by omega)]
      by_cases z : minN f d (k + 1) (f k) < f k
      · rw [if_pos z, if_neg (by omega)]
      · rw [if_neg z, if_pos (by omega)]
    · rw [if_neg q, if_neg q]
      by_cases z : minN f d (k + 1) (vF f b) < vF f b
      · rw [if_pos z, if_pos z, if_neg (by omega)]
      · rw [if_neg z, if_neg z]
theorem firstEq_lt {f : Nat → Nat} {m : Nat} : ∀ (d k j : Nat), firstEq f m d k = some j → k ≤ j ∧ j < k + d ∧ f j = m
  | 0, k, j, h => nomatch h
  | d + 1, k, j, h => by
    have h : (if f k = m then some k else firstEq f m d (k + 1)) = some j := h
    by_cases q : f k = m
    · rw [if_pos q] at h
      cases h
      exact ⟨Nat.le_refl _, by omega, q⟩
    · rw [if_neg q] at h
      obtain ⟨h1, h2, h3⟩ := firstEq_lt d (k + 1) j h
      exact ⟨by omega, by omega, h3⟩
theorem firstEq_ex {f : Nat → Nat} {m : Nat} : ∀ (d k : Nat), (∃ j, k ≤ j ∧ j < k + d ∧ f j = m) → ∃ j, firstEq f m d k = some j
  | 0, k, ⟨j, h1, h2, _⟩ => by omega
  | d + 1, k, ⟨j, h1, h2, h3⟩ => by
    show ∃ j, (if f k = m then some k else firstEq f m d (k + 1)) = some j
    by_cases q : f k = m
    · exact ⟨k, if_pos q⟩
    · rw [if_neg q]
      have : j ≠ k := fun e => q (by rw [← e]; exact h3)
      exact firstEq_ex d (k + 1) ⟨j, by omega, by omega, h3⟩
/-- needed from a minute on: by minutes left -/
def ndN (ft : Nat → Nat → Bool) (n : Nat) : Nat → Nat → Nat
  | 0 => fun _ => 0
  | d + 1 => stepN (ft (n - (d + 1))) (ndN ft n d)
theorem nd_le (ft : Nat → Nat → Bool) (n : Nat) : ∀ d j, ndN ft n d j ≤ FARN
  | 0, _ => Nat.zero_le _
  | d + 1, j => step_le _ _ j
/-- by minute -/
abbrev nR (ft : Nat → Nat → Bool) (n i : Nat) : Nat → Nat := ndN ft n (n - i)
theorem nR_s (ft : Nat → Nat → Bool) {n i : Nat} (h : i < n) : nR ft n i = stepN (ft i) (nR ft n (i + 1)) := by
  show ndN ft n (n - i) = _
  rw [show n - i = (n - (i + 1)) + 1 by omega]
  show stepN (ft (n - ((n - (i + 1)) + 1))) (ndN ft n (n - (i + 1))) = _
  rw [show n - ((n - (i + 1)) + 1) = i by omega]
/-- the lace at a minute, by the one she had -/
def laN (ft : Nat → Nat → Bool) (n i had : Nat) : Option Nat := pickN (byN (ft i) (nR ft n (i + 1)) had) 31 0 none
theorem la_some {ft : Nat → Nat → Bool} {n i had : Nat} (hi : i < n) (h : nR ft n i had < FARN) : ∃ j, laN ft n i had = some j ∧ j < 31 ∧ firstEq (byN (ft i) (nR ft n (i + 1)) had) (nR ft n i had) 31 0 = some j ∧ nR ft n (i + 1) j < FARN ∧ ft i j = true := by
  have e : nR ft n i had = minN (byN (ft i) (nR ft n (i + 1)) had) 31 0 FARN := by
    rw [nR_s ft hi]
    rfl
  have hp := pick_first (byN (ft i) (nR ft n (i + 1)) had) 31 0 none
  rw [show vF (byN (ft i) (nR ft n (i + 1)) had) none = FARN from rfl, ← e, if_pos h] at hp
  rcases min_at (byN (ft i) (nR ft n (i + 1)) had) 31 0 FARN with h1 | ⟨j, h1, h2, h3⟩
  · rw [← e] at h1
    omega
  · rw [← e] at h3
    obtain ⟨x, hx⟩ := firstEq_ex (f := byN (ft i) (nR ft n (i + 1)) had) (m := nR ft n i had) 31 0 ⟨j, h1, h2, h3.symm⟩
    obtain ⟨x1, x2, x3⟩ := firstEq_lt 31 0 x hx
    refine ⟨x, hp.trans hx, by omega, hx, ?_⟩
    unfold byN at x3
    by_cases q : ft i x = true
    · rw [if_pos q] at x3
      exact ⟨by omega, q⟩
    · rw [if_neg q] at x3
      omega
