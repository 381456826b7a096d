/-! texts: rows, the class's and the reference's -/
def RK (o m w : Nat) : Prop := 208 < o ∧ o + 1 < 230 ∧ kd o = 7 ∧ kd (o + 1) = 14 ∧ ln (o + 1) = m * w ∧ gRf o 2 = some (o + 1) ∧ 0 < m ∧ m ≤ 40 ∧ 0 < w ∧ w ≤ 5
def FR (o : Nat) (S S' : GS) : Prop := S'.2 = S.2 ∧ ∀ a i, ¬ (a = o ∧ i = 3) → a ≠ o + 1 → S'.1 a i = S.1 a i
def up (f : Nat → Int32) (c : Nat) (v : Int32) : Nat → Int32 := fun i => if i = c then v else f i
/-- n rows, alike on both sides as long as there is no fault -/
def RLn (S T : GS) (o w m p q : Nat) (V : (Nat → Int32) → Prop) (n : Nat) : Prop := S.1 o 0 = nI m ∧ S.1 o 1 = nI w ∧ n ≤ m ∧ S.1 o 3 = nI n ∧ T.1 325 p = nI n ∧ (ok S → (∀ k, k < n → ∀ i, i < w → S.1 (o + 1) (w * k + i) = T.1 325 (q + (w * k + i))) ∧ ∀ k, k < n → V (fun i => T.1 325 (q + (w * k + i))))
/-- the class has opened a further row, the reference not yet -/
def RO (S T : GS) (o w m p q : Nat) (V : (Nat → Int32) → Prop) (n : Nat) (P : (Nat → Int32) → (Nat → Int32) → Prop) : Prop := S.1 o 0 = nI m ∧ S.1 o 1 = nI w ∧ n ≤ m ∧ S.1 o 3 = nI (if n = m then n else n + 1) ∧ T.1 325 p = nI n ∧ (ok S → n < m ∧ (∀ k, k < n → ∀ i, i < w → S.1 (o + 1) (w * k + i) = T.1 325 (q + (w * k + i))) ∧ (∀ k, k < n → V (fun i => T.1 325 (q + (w * k + i)))) ∧ P (fun i => S.1 (o + 1) (w * n + i)) (T.1 326))
/-- a text is broken: the class goes through the rest of the line -/
def BR (o w m : Nat) (x : Int32) (S : GS) : Prop := Wr S ∧ S.1 207 11 = 1 ∧ S.1 207 12 = x ∧ RwR S o w m
/-- a number is taken and set in the row that was opened last -/
def cT {α : Type} (o : Nat) (lo hi c : Int32) (S : GS) (K : GS → Option α) : Option α := c2 (some 207) 5 S (fun o' => f_X5_takeNumber o' lo hi S) fun v S1 => c1 (some o) 7 S1 (fun o' => f_X7_setLast o' c v S1) fun S2 => K S2
section RS
variable {α : Type} {L : Nat} {B : Nat → Nat} {S S' T T' : GS} {s e k f c o w m p q n : Nat} {V : (Nat → Int32) → Prop} {P P' : (Nat → Int32) → (Nat → Int32) → Prop}
theorem FR.rf (S : GS) : FR o S S := ⟨rfl, fun _ _ _ _ => rfl⟩
theorem FR.tr {S1 : GS} (h : FR o S S1) (h2 : FR o S1 S') : FR o S S' := ⟨h2.1.trans h.1, fun a i q1 q2 => (h2.2 a i q1 q2).trans (h.2 a i q1 q2)⟩
theorem FR.fc (h : FR o S S') : FC o S S' := ⟨h.1, fun a i _ q2 q3 => h.2 a i q2 q3⟩
theorem FR.cel {i : Nat} {v : Int32} : FR o S (sI S (o + 1) i v) := ⟨rfl, fun a j _ q => by
  show (if a = o + 1 ∧ j = i then v else S.1 a j) = _
  rw [if_neg (fun z => q z.1)]⟩
theorem FR.num {v : Int32} : FR o S (sI S o 3 v) := ⟨rfl, fun a j q _ => by
  show (if a = o ∧ j = 3 then v else S.1 a j) = _
  rw [if_neg q]⟩
theorem FR.wr (h : FR o S S') (hW : Wr S) : Wr S' := wr_2 (by rw [h.1]) hW
theorem FC.wr {r : Nat} (h : FC r S S') (hW : Wr S) : Wr S' := wr_2 (by rw [h.1]) hW
theorem FM.wr (h : FM T T') (hW : Wr T) : Wr T' := wr_2 h.1 hW
theorem rc_lt {k i : Nat} (hk : k < n) (hi : i < w) (hn : n ≤ m) : w * k + i < m * w := by
  have h1 : w * (k + 1) ≤ w * m := Nat.mul_le_mul_left w (by omega)
  rw [Nat.mul_succ, Nat.mul_comm w m] at h1
  omega
theorem RK.mw (hK : RK o m w) : m * w ≤ 200 := by
  obtain ⟨k1, k2, k3, k4, k5, k6, k7, k8, k9, k10⟩ := hK
  exact Nat.le_trans (Nat.mul_le_mul k8 k10) (by decide)
theorem add_l (hK : RK o m w) (hn : n < m) : ∀ (d i N : Nat) (S : GS), Wr S → S.1 o 1 = nI w → S.1 o 3 = nI (n + 1) → i + d = w → d < N → ∃ S', f_X7_addRow_23 o N (nI i) S = some S' ∧ FR o S S' ∧ S'.1 o 3 = nI (n + 1) ∧ (∀ j, j < w → i ≤ j → S'.1 (o + 1) (w * n + j) = -1) ∧ ∀ j, ¬ (w * n + i ≤ j ∧ j < w * n + w) → S'.1 (o + 1) j = S.1 (o + 1) j
  | _, _, 0, _, _, _, _, _, hN => absurd hN (Nat.not_lt_zero _)
  | 0, i, N + 1, S, hW, h1, h3, hi, _ => by
    obtain ⟨k1, k2, k3, k4, k5, k6, k7, k8, k9, k10⟩ := id hK
    refine ⟨S, ?_, FR.rf S, h3, fun j a b => absurd a (by omega), fun _ _ => rfl⟩
    rw [f_X7_addRow_23, xI_w hW (by omega) k3, h1, if_pos (nI_le (by omega) (by omega))]
  | d + 1, i, N + 1, S, hW, h1, h3, hi, hN => by
    obtain ⟨k1, k2, k3, k4, k5, k6, k7, k8, k9, k10⟩ := id hK
    have hmw := hK.mw
    have hlt : w * n + i < m * w := rc_lt hn (by omega) (Nat.le_refl _)
    have e1 : (sI S (o + 1) (w * n + i) (-1)).1 o = S.1 o := sI_o (by omega)
    obtain ⟨S', g1, g2, g3, g4, g5⟩ := add_l hK hn d (i + 1) N (sI S (o + 1) (w * n + i) (-1)) hW (by rw [e1]; exact h1) (by rw [e1]; exact h3) (by omega) (by omega)
    refine ⟨S', ?_, FR.cel.tr g2, g3, fun j a b => ?_, fun j a => ?_⟩
    · rw [f_X7_addRow_23, xI_w hW (by omega) k3, h1, if_neg (nI_ge (by omega) (by omega)), xR_w hW (by omega) k3 (by omega) k6, xI_w hW (by omega) k3, h3, xI_w hW (by omega) k3, h1, nI_pred, nI_mul, nI_add, Nat.mul_comm n w, qI_w hW (by omega) k4 k5 hlt (by omega), nI_1]
      exact g1
    · by_cases z : j = i
      · subst z
        rw [g5 _ (by omega), sI_at, if_pos rfl]
      · exact g4 j a (by omega)
    · rw [g5 j (by omega), sI_at, if_neg (by omega)]
theorem addRow_v (hK : RK o m w) (hW : Wr S) (h0 : S.1 o 0 = nI m) (h1 : S.1 o 1 = nI w) (h3 : S.1 o 3 = nI n) (hn : n ≤ m) : ∃ S', f_X7_addRow o S = some S' ∧ FR o S S' ∧ S'.1 o 3 = nI (if n = m then n else n + 1) ∧ (n < m → (∀ j, j < w → S'.1 (o + 1) (w * n + j) = -1) ∧ ∀ j, j < w * n → S'.1 (o + 1) j = S.1 (o + 1) j) := by
  obtain ⟨k1, k2, k3, k4, k5, k6, k7, k8, k9, k10⟩ := id hK
  have hfu : fu = 4096 := rfl
  unfold f_X7_addRow
  rw [xI_w hW (by omega) k3, h3, xI_w hW (by omega) k3, h0]
  by_cases z : n = m
  · refine ⟨S, ?_, FR.rf S, by rw [if_pos z]; exact h3, fun y => absurd y (by omega)⟩
    rw [if_pos (nI_le (by omega) (by omega))]
  · have e1 : (sI S o 3 (nI (n + 1))).1 o 1 = nI w := by
      rw [sI_at, if_neg (by decide)]
      exact h1
    obtain ⟨S', g1, g2, g3, g4, g5⟩ := add_l hK (n := n) (by omega) w 0 fu (sI S o 3 (nI (n + 1))) hW e1 (by rw [sI_at, if_pos rfl]) (by omega) (by omega)
    refine ⟨S', ?_, FR.num.tr g2, by rw [if_neg z]; exact g3, fun _ => ⟨fun j hj => g4 j hj (by omega), fun j hj => ?_⟩⟩
    · rw [if_neg (nI_ge (by omega) (by omega)), xI_w hW (by omega) k3, h3, pI_w hW (by omega) k3, nI_1]
      exact g1
    · rw [g5 j (by omega), sI_o (by omega)]
theorem setLast_v (hK : RK o m w) (hW : Wr S) (h1 : S.1 o 1 = nI w) (h3 : S.1 o 3 = nI n) (hn : n ≤ m) (hc : c < w) (v : Int32) : ∃ S', f_X7_setLast o (nI c) v S = some S' ∧ FR o S S' ∧ S'.1 o = S.1 o ∧ ∀ k, n = k + 1 → S' = sI S (o + 1) (w * k + c) v := by
  obtain ⟨k1, k2, k3, k4, k5, k6, k7, k8, k9, k10⟩ := id hK
  unfold f_X7_setLast
  rw [xI_w hW (by omega) k3, h3]
  rcases n with _ | n
  · refine ⟨S, ?_, FR.rf S, rfl, fun k hk => absurd hk (by omega)⟩
    rw [if_pos (show nI 0 ≤ 0 by decide)]
  · have hmw := hK.mw
    have hlt : w * n + c < m * w := rc_lt (n := n + 1) (by omega) hc hn
    refine ⟨sI S (o + 1) (w * n + c) v, ?_, FR.cel, sI_o (by omega), fun k hk => by rw [show k = n by omega]⟩
    rw [if_neg (nI_nle (by omega) (by omega)), if_neg (nI_pos (by omega)), xI_w hW (by omega) k3, h1, if_neg (nI_ge (by omega) (by omega)), xR_w hW (by omega) k3 (by omega) k6, xI_w hW (by omega) k3, h3, xI_w hW (by omega) k3, h1, nI_pred, nI_mul, nI_add, Nat.mul_comm n w, qI_w hW (by omega) k4 k5 hlt (by omega)]
theorem RwR.fr {o' w' m' : Nat} (h : RwR S o' w' m') (hF : FC o S S') (h1 : o' ≠ o) (h2 : o' ≠ o + 1) (h3 : o' ≠ 207) : RwR S' o' w' m' := h.sm (by
  funext i
  exact hF.2 o' i (by omega) (by omega) h2)
/-- the rest of a broken line -/
theorem brk_set (hK : RK o m w) {x : Int32} (h : BR o w m x S) (hc : c < w) (v : Int32) : ∃ S', f_X7_setLast o (nI c) v S = some S' ∧ BR o w m x S' ∧ FC o S S' := by
  obtain ⟨h1, h2, h3, h4, h5, n, h6, h7⟩ := h
  obtain ⟨S', g1, g2, g3, g4⟩ := setLast_v hK h1 h5 h7 h6 hc v
  have := hK.1
  refine ⟨S', g1, ⟨g2.wr h1, by rw [g2.2 207 11 (by omega) (by omega)]; exact h2, by rw [g2.2 207 12 (by omega) (by omega)]; exact h3, by rw [g3]; exact h4, by rw [g3]; exact h5, n, h6, by rw [g3]; exact h7⟩, g2.fc⟩
theorem brk_take (hW : Wr S) (h : S.1 207 11 = 1) (lo hi : Int32) : f_X5_takeNumber 207 lo hi S = some (lo, S) := by
  have hb : f_X5_isBroken 207 S = some 1 := by
    unfold f_X5_isBroken
    rw [i_207 hW, if_pos h]
  have h15 : f_X5_takeNumber_15 207 lo S = some (lo, S) := by
    unfold f_X5_takeNumber_15 f_X5_breakHere
    rw [k_207 hW, k_207 hW, hb, b1_s, if_neg n10, b1_s]
  unfold f_X5_takeNumber
  rw [i_207 hW]
  split
  · rw [k_207 hW, hb, b1_s, if_neg n10, h15]
  · exact h15
theorem brk_ts (hK : RK o m w) {x : Int32} (h : BR o w m x S) (hc : c < w) (lo hi : Int32) : ∃ S', (∀ {α : Type} (K : GS → Option α), cT o lo hi (nI c) S K = K S') ∧ BR o w m x S' ∧ FC o S S' := by
  obtain ⟨S', g1, g2, g3⟩ := brk_set hK h hc lo
  refine ⟨S', fun K => ?_, g2, g3⟩
  have := hK.2.1
  unfold cT
  rw [kk_207 h.1, brk_take h.1 h.2.1, b2_s, c1_w h.1 (by omega) hK.2.2.1, g1, b1_s]
theorem break_v (hW : Wr S) (h9 : S.1 207 9 = nI s) (hb : ¬ S.1 207 11 = 1) : f_X5_breakHere 207 S = some (sI (sI S 207 11 1) 207 12 (nI s)) := by
  have hW1 : Wr (sI S 207 11 1) := hW
  unfold f_X5_breakHere f_X5_isBroken
  rw [k_207 hW, i_207 hW, if_neg hb, b1_s, if_pos rfl, p_207 hW, i_207 hW1, show (sI S 207 11 1).1 207 9 = nI s from h9, p_207 hW1]
theorem fails_v (hW : Wr T) (h14 : T.1 313 14 = nI s) : f_X12_fails 313 T = some (0, sI T 313 18 (nI s)) := by
  unfold f_X12_fails
  rw [i_313 hW, h14, p_313 hW]
/-- no number there -/
theorem take_no (h : TB L B S T) (hk : Tk L B S T s e k) (h2 : k ≠ 2) (hF : FA s S T) (lo hi c' lo' hi' but : Int32) : f_X5_takeNumber 207 lo hi S = some (lo, sI (sI S 207 11 1) 207 12 (nI s)) ∧ f_X12_takeBut 313 c' lo' hi' but T = some (0, sI T 313 18 (nI s)) := by
  obtain ⟨a1, a2, a3, a4, a5, a6, a7, a8, a9, a10, a11, a12⟩ := hk
  have e1 : ¬ nI k = 2 := fun z => h2 ((nI_eq (b := 2) (by omega) (by decide)).mp z)
  have e2 : ¬ nI (kM k) = 3 := by
    rcases (show k = 0 ∨ k = 1 ∨ k = 3 ∨ k = 4 by omega) with rfl | rfl | rfl | rfl <;> decide
  constructor
  · unfold f_X5_takeNumber f_X5_takeNumber_15
    rw [i_207 h.1, a3, if_neg e1, k_207 h.1, break_v h.1 a1 (FAv.nb hF), b1_s]
  · unfold f_X12_takeBut
    rw [i_313 h.2.1, a6, if_neg e2, kk_313 h.2.1, fails_v h.2.1 a4, b2_s]
    rfl
theorem up_f {a i : Nat} {v : Int32} : (sI S a i v).1 a = up (S.1 a) i v := sI_f
theorem take_v (lo hi c : Int32) {v : Int32} (hv : v = 0 ∨ v = 1) (hW : Wr T) (h : f_X12_takeBut 313 c lo hi (-1) T = some (v, T')) : f_X12_take 313 c lo hi T = some (v, T') := by
  unfold f_X12_take
  rw [kk_313 hW, h, b2_s]
  unfold tz
  rw [if_pos hv]
theorem ok_fc (h1 : S'.1 207 11 = S.1 207 11) : ok S' ↔ ok S := by
  unfold ok
  rw [h1]
/-- a number is taken and set, on both sides -/
theorem ts_both (hK : RK o m w) (h : TB L B S T) (hk : Tk L B S T s e k) (hF : FA s S T) (hR : RO S T o w m p q V n P) {lo hi : Nat} (hc : c < w) (hlo : lo < 1000) (hhi : hi < 1000) (hP : ∀ f g v, P f g → lo ≤ v → v ≤ hi → P' (up f c (nI v)) (up g c (nI v))) :
    (k = 2 ∧ ∃ v S' T' s' e' k', (∀ {α : Type} (K : GS → Option α), cT o (nI lo) (nI hi) (nI c) S K = K S') ∧ f_X12_take 313 (nI c) (nI lo) (nI hi) T = some (1, T') ∧ FC o S S' ∧ FM T T' ∧ TB L B S' T' ∧ Tk L B S' T' s' e' k' ∧ FA s' S' T' ∧ e ≤ s' ∧ s' ≤ L ∧ (ok S' → ok S) ∧ v < 100 ∧ T'.1 326 = up (T.1 326) c (nI v) ∧ RO S' T' o w m p q V n P') ∨
    (k ≠ 2 ∧ ∃ S' T', (∀ {α : Type} (K : GS → Option α), cT o (nI lo) (nI hi) (nI c) S K = K S') ∧ f_X12_take 313 (nI c) (nI lo) (nI hi) T = some (0, T') ∧ FC o S S' ∧ FM T T' ∧ BR o w m (T'.1 313 18) S') := by
  obtain ⟨k1, k2, k3, k4, k5, k6, k7, k8, k9, k10⟩ := id hK
  obtain ⟨r0, r1, r2, r3, r4, r5⟩ := id hR
  have hcnt : (if n = m then n else n + 1) ≤ m := by split <;> omega
  by_cases q2 : k = 2
  · subst q2
    refine Or.inl ⟨rfl, ?_⟩
    have hv := (val_v h hk).2.2
    have hne : ¬ nI (nv B s (e - s)) = -1 := nI_neg1 _ (by omega)
    obtain ⟨S1, T1, s', e', k', t1, t2, t3, t4, t5, t6, t7, t8, t9, t10, t11, t12⟩ := take_core (lo' := lo) (hi' := hi) (but := -1) h hk hF (lo := lo) (hi := hi) (c := c) (by omega) hlo hhi hlo hhi (fun z => by
      rcases z with z | z
      · exact Or.inl z
      · exact Or.inr (Or.inl z))
    have hF1 := t10 (fun z => by
      rcases z with z | z | z
      · exact Or.inl z
      · exact Or.inr z
      · exact absurd z hne)
    generalize nv B s (e - s) = v at *
    have ka : S1.1 o = S.1 o := by
      funext i
      exact t3.2 o i (by omega)
    have kb : S1.1 (o + 1) = S.1 (o + 1) := by
      funext i
      exact t3.2 (o + 1) i (by omega)
    have kc : T1.1 325 = T.1 325 := by
      funext i
      exact t4.2.2 325 i (by omega) (by decide)
    have hW1 := t5.1
    obtain ⟨S', g1, g2, g3, g4⟩ := setLast_v hK hW1 (by rw [ka]; exact r1) (by rw [ka]; exact r3) hcnt hc (nI v)
    have e11 : S'.1 207 11 = S1.1 207 11 := g2.2 _ _ (by omega) (by omega)
    have e12 : S'.1 207 12 = S1.1 207 12 := g2.2 _ _ (by omega) (by omega)
    have hok : ok S' → ok S ∧ lo ≤ v ∧ v ≤ hi := fun z => t12 ((ok_fc e11).mp z)
    refine ⟨v, S', T1, s', e', k', fun K => ?_, take_v _ _ _ (Or.inr rfl) h.2.1 t2, t3.fc.tr g2.fc, t4, t5.fc g2.fc k1, t6.mv (fun i a b => g2.2 _ _ (by omega) (by omega)) (fun _ _ => rfl) rfl, ?_, t7, t8, fun z => (hok z).1, hv, t9, ?_⟩
    · unfold cT
      rw [kk_207 h.1, t1, b2_s, c1_w hW1 (by omega) k3, g1, b1_s]
    · unfold FA
      rw [e11, e12]
      exact hF1
    · refine ⟨by rw [g3, ka]; exact r0, by rw [g3, ka]; exact r1, r2, by rw [g3, ka]; exact r3, by rw [kc]; exact r4, fun z => ?_⟩
      obtain ⟨z1, z2, z3⟩ := hok z
      obtain ⟨y1, y2, y3, y4⟩ := r5 z1
      have hS := g4 n (by rw [if_neg (by omega)])
      subst hS
      refine ⟨y1, fun k hk i hi => ?_, fun k hk => ?_, ?_⟩
      · rw [sI_at, if_neg, kb, kc]
        · exact y2 k hk i hi
        · have := rc_lt hk hi (Nat.le_refl n)
          rw [Nat.mul_comm n w] at this
          omega
      · rw [kc]
        exact y3 k hk
      · have := hP _ _ v y4 z2 z3
        rw [show T1.1 326 = up (T.1 326) c (nI v) from t9]
        rw [show (fun i => (sI S1 (o + 1) (w * n + c) (nI v)).1 (o + 1) (w * n + i)) = up (fun i => S.1 (o + 1) (w * n + i)) c (nI v) from ?_]
        · exact this
        · funext i
          rw [sI_at, kb]
          unfold up
          by_cases z : i = c
          · rw [if_pos z, if_pos (by rw [z])]
          · rw [if_neg z, if_neg (by omega)]
  · refine Or.inr ⟨q2, ?_⟩
    obtain ⟨g1, g2⟩ := take_no h hk q2 hF (nI lo) (nI hi) (nI c) (nI lo) (nI hi) (-1)
    have hB : BR o w m (nI s) (sI (sI S 207 11 1) 207 12 (nI s)) := ⟨h.1, rfl, rfl, by rw [sI_o (by omega), sI_o (by omega)]; exact r0, by rw [sI_o (by omega), sI_o (by omega)]; exact r1, _, hcnt, by rw [sI_o (by omega), sI_o (by omega)]; exact r3⟩
    obtain ⟨S', b1', b2', b3'⟩ := brk_set hK hB hc (nI lo)
    refine ⟨S', sI T 313 18 (nI s), fun K => ?_, take_v _ _ _ (Or.inl rfl) h.2.1 g2, ((FC.I (by decide) (by decide)).tr (FC.I (by decide) (by decide))).tr b3', FM.I (by omega), b2'⟩
    unfold cT
    rw [kk_207 h.1, g1, b2_s, c1_w (show Wr (sI (sI S 207 11 1) 207 12 (nI s)) from h.1) (by omega) k3, b1', b1_s]
end RS
