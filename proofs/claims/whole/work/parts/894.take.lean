/-! texts: words and numbers read off a token; faults; a number taken, on both sides -/
theorem len_k : ∀ j, j < 21 → f_J0_length_8abf5 (100000 + j) S0 = some (nI (wl j)) := by decide +kernel
theorem chr_k : ∀ j, j < 21 → ∀ i, i < 6 → i < wl j → f_J0_charAt_5068e (100000 + j) (nI i) S0 = some (nI (wb j i)) := by decide +kernel
theorem len_v {j : Nat} (hj : j < 21) (S : GS) : f_J0_length_8abf5 (100000 + j) S = some (nI (wl j)) := len_k j hj
theorem chr_v {j i : Nat} (hj : j < 21) (hi : i < wl j) (S : GS) : f_J0_charAt_5068e (100000 + j) (nI i) S = some (nI (wb j i)) := chr_k j hj i (by have := wl_ok j hj; omega) hi
theorem cs_v {α β : Type} {j : Nat} (hj : j < 21) {f : Nat → Option β} {g : β → Option α} : cs1 (some (100000 + j)) f g = b1 (f (100000 + j)) g := if_pos ⟨by omega, by show 100000 + j < 100000 + 21; omega⟩
/-- the word that the reference takes a token for -/
def wd (T : GS) : Int64 := if T.1 313 15 = 2 then T.2.1 313 17 else 0
def ok (S : GS) : Prop := S.1 207 11 = 0
/-- faults so far, ahead of s, on both sides -/
def FAv (s : Nat) (a b : Int32) (T : GS) : Prop := (a = 0 ∧ T.1 313 19 = 0 ∧ b = -1) ∨ ∃ f p, (f = 2 ∨ f = 3) ∧ p < s ∧ a = nI f ∧ b = nI p ∧ T.1 313 19 = nI f ∧ T.1 313 20 = nI p
def FA (s : Nat) (S T : GS) : Prop := FAv s (S.1 207 11) (S.1 207 12) T
def FC (r : Nat) (S S' : GS) : Prop := S'.2 = S.2 ∧ ∀ o i, ¬ (o = 207 ∧ 8 ≤ i ∧ i ≤ 12) → ¬ (o = r ∧ i = 3) → o ≠ r + 1 → S'.1 o i = S.1 o i
def FU (S S' : GS) : Prop := S'.2 = S.2 ∧ ∀ o i, ¬ (o = 207 ∧ 8 ≤ i ∧ i ≤ 12) → S'.1 o i = S.1 o i
def FM (T T' : GS) : Prop := T'.2.2 = T.2.2 ∧ (∀ o i, ¬ (o = 313 ∧ i = 17) → T'.2.1 o i = T.2.1 o i) ∧ ∀ o i, ¬ (o = 313 ∧ (i = 12 ∨ (14 ≤ i ∧ i ≤ 20))) → o ≠ 326 → T'.1 o i = T.1 o i
section TQ
variable {α : Type} {L : Nat} {B : Nat → Nat} {S S' T T' : GS} {s e k r b f j c : Nat}
theorem FC.rf (S : GS) : FC r S S := ⟨rfl, fun _ _ _ _ _ => rfl⟩
theorem FC.tr {S1 : GS} (h : FC r S S1) (h2 : FC r S1 S') : FC r S S' := ⟨h2.1.trans h.1, fun o i q1 q2 q3 => (h2.2 o i q1 q2 q3).trans (h.2 o i q1 q2 q3)⟩
theorem FT.fc (h : FT S S') : FC r S S' := ⟨h.1, fun o i q _ _ => h.2 o i (by omega)⟩
theorem FC.I {i : Nat} {v : Int32} (h1 : 8 ≤ i) (h2 : i ≤ 12) : FC r S (sI S 207 i v) := ⟨rfl, fun o j q _ _ => by
  show (if o = 207 ∧ j = i then v else S.1 o j) = _
  rw [if_neg (by omega)]⟩
theorem FU.rf (S : GS) : FU S S := ⟨rfl, fun _ _ _ => rfl⟩
theorem FU.tr {S1 : GS} (h : FU S S1) (h2 : FU S1 S') : FU S S' := ⟨h2.1.trans h.1, fun o i q1 => (h2.2 o i q1).trans (h.2 o i q1)⟩
theorem FT.fu (h : FT S S') : FU S S' := ⟨h.1, fun o i q => h.2 o i (by omega)⟩
theorem FU.fc (h : FU S S') : FC r S S' := ⟨h.1, fun o i q _ _ => h.2 o i q⟩
theorem FU.I {i : Nat} {v : Int32} (h1 : 8 ≤ i) (h2 : i ≤ 12) : FU S (sI S 207 i v) := ⟨rfl, fun o j q => by
  show (if o = 207 ∧ j = i then v else S.1 o j) = _
  rw [if_neg (by omega)]⟩
theorem TB.fu (h : TB L B S T) (h1 : FU S S') : TB L B S' T := h.cs (by rw [h1.1]) (h1.2 _ _ (by omega)) (fun i => h1.2 _ _ (by omega))
theorem FM.rf (S : GS) : FM S S := ⟨rfl, fun _ _ _ => rfl, fun _ _ _ _ => rfl⟩
theorem FM.tr {S1 : GS} (h : FM S S1) (h2 : FM S1 S') : FM S S' := ⟨h2.1.trans h.1, fun o i q => (h2.2.1 o i q).trans (h.2.1 o i q), fun o i q q2 => (h2.2.2 o i q q2).trans (h.2.2 o i q q2)⟩
theorem FMt.fm (h : FMt T T') : FM T T' := ⟨h.1, h.2.1, fun o i q _ => h.2.2 o i (by omega)⟩
theorem FM.I {i : Nat} {v : Int32} (h : i = 12 ∨ (14 ≤ i ∧ i ≤ 20)) : FM S (sI S 313 i v) := ⟨rfl, fun _ _ _ => rfl, fun o j q _ => by
  show (if o = 313 ∧ j = i then v else S.1 o j) = _
  rw [if_neg (by omega)]⟩
theorem FM.A {i : Nat} {v : Int32} : FM S (sI S 326 i v) := ⟨rfl, fun _ _ _ => rfl, fun o j _ q => by
  show (if o = 326 ∧ j = i then v else S.1 o j) = _
  rw [if_neg (by omega)]⟩
theorem TB.fc (h : TB L B S T) (h1 : FC r S S') (hr : 208 < r) : TB L B S' T := h.cs (by rw [h1.1]) (h1.2 _ _ (by omega) (by omega) (by omega)) (fun i => h1.2 _ _ (by omega) (by omega) (by omega))
theorem TB.fM (h : TB L B S T) (h1 : FM T T') : TB L B S T' := h.cm h1.1 (h1.2.2 _ _ (by omega) (by decide)) (fun i => h1.2.2 _ _ (by omega) (by decide))
theorem Tk.le (h : Tk L B S T s e k) : s ≤ e := by
  obtain ⟨h1, h2, h3, h4, h5, h6, h7, h8, h9, h10, h11, h12⟩ := h
  by_cases q : k = 0
  · have := h8 q
    omega
  · have := h9 q
    omega
/-- other things change -/
theorem Tk.mv (h : Tk L B S T s e k) (a : ∀ i, 8 ≤ i → i ≤ 10 → S'.1 207 i = S.1 207 i) (b : ∀ i, (i = 12 ∨ (14 ≤ i ∧ i ≤ 16)) → T'.1 313 i = T.1 313 i) (c : T'.2.1 313 17 = T.2.1 313 17) : Tk L B S' T' s e k := by
  unfold Tk
  rw [a 9 (by omega) (by omega), a 10 (by omega) (by omega), a 8 (by omega) (by omega), b 14 (by omega), b 12 (by omega), b 15 (by omega), b 16 (by omega), c]
  exact h
theorem isW_l (h : TB L B S T) (h9 : S.1 207 9 = nI s) (hj : j < 21) (he : s + wl j ≤ L) : ∀ (d k n : Nat), k + d = wl j → d < n → ∃ b : Bool, f_X5_isWord_28 207 S n (some (100000 + j)) (nI k) = some (bi b) ∧ (b = true ↔ ∀ i, k ≤ i → i < wl j → B (s + i) = wb j i)
  | _, _, 0, _, hn => absurd hn (Nat.not_lt_zero _)
  | 0, k, n + 1, hk, _ => by
    have hk : k = wl j := hk
    have := wl_ok j hj
    refine ⟨true, ?_, fun _ i a b => absurd b (by omega), fun _ => rfl⟩
    rw [f_X5_isWord_28, cs_v hj, len_v hj, b1_s, if_pos (nI_le (by omega) (by omega))]
    rfl
  | d + 1, k, n + 1, hk, hn => by
    have hw := wl_ok j hj
    have hL := h.2.2.1
    have q1 : s + k < L := by omega
    have hb := (h.2.2.2.2.2 _ q1).1
    have hc := (wb_ok j hj k (by omega) (by omega)).2
    rw [Nat.zero_add] at hc
    have e1 : nI (B (s + k)) = nI (wb j k) ↔ B (s + k) = wb j k := nI_eq (by omega) (by omega)
    rw [f_X5_isWord_28, cs_v hj, len_v hj, b1_s, if_neg (nI_ge (by omega) (by omega)), i_207 h.1, h9, k_207 h.1, nI_add, byteAt_y h q1, b1_s, cs_v hj, chr_v hj (by omega), b1_s]
    by_cases q : B (s + k) = wb j k
    · obtain ⟨b, g1, g2⟩ := isW_l h h9 hj he d (k + 1) n (by omega) (by omega)
      rw [if_pos (e1.mpr q), nI_1, g1]
      refine ⟨b, rfl, g2.trans ⟨fun z i a c => ?_, fun z i a c => z i (by omega) c⟩⟩
      by_cases w : i = k
      · rw [w]
        exact q
      · exact z i (by omega) c
    · rw [if_neg (fun z => q (e1.mp z))]
      exact ⟨false, rfl, fun z => absurd z (by decide), fun z => absurd (z k (Nat.le_refl _) (by omega)) q⟩
theorem isW (h : TB L B S T) (hk : Tk L B S T s e k) (hj : j < 21) : f_X5_isWord 207 (some (100000 + j)) S = some (if wd T = WJ j then 1 else 0) := by
  have hw := wl_ok j hj
  have hL := h.2.2.1
  have hle := hk.le
  obtain ⟨h1, h2, h3, h4, h5, h6, h7, h8, h9, h10, h11, h12⟩ := hk
  have hfu : fu = 4096 := rfl
  unfold f_X5_isWord wd
  rw [i_207 h.1, h3, h6]
  by_cases q : k = 1
  · subst q
    obtain ⟨l1, l2⟩ := h11 rfl
    rw [if_pos (show nI 1 = 1 from rfl), if_pos (show nI (kM 1) = 2 from rfl), i_207 h.1, h2, i_207 h.1, h1, cs_v hj, len_v hj, b1_s, nI_sub hle, l2]
    have e1 : nI (e - s) = nI (wl j) ↔ e - s = wl j := nI_eq (by omega) (by omega)
    by_cases q2 : e - s = wl j
    · rw [if_pos (e1.mpr q2), if_pos (show e - s ≤ 8 by omega)]
      obtain ⟨b, g1, g2⟩ := isW_l h h1 hj (by omega) (wl j) 0 fu (by omega) (by omega)
      rw [show f_X5_isWord_28 207 S fu (some (100000 + j)) 0 = some (bi b) from g1]
      have e2 := wd_eq (B := B) (s := s) (n := e - s) hj (by omega) (fun i hi => by have := l1 (s + i) (by omega) (by omega); omega)
      have e3 : b = true ↔ pk B s (e - s) = WJ j := by
        rw [e2, g2]
        exact ⟨fun z => ⟨q2, fun i hi => z i (by omega) (by omega)⟩, fun z i _ hi => z.2 i (by omega)⟩
      by_cases z : pk B s (e - s) = WJ j
      · rw [if_pos z, e3.mpr z]
        rfl
      · rw [if_neg z]
        have : b = false := by
          rw [Bool.eq_false_iff]
          exact fun w => z (e3.mp w)
        rw [this]
        rfl
    · rw [if_neg (fun z => q2 (e1.mp z)), if_neg]
      intro z
      by_cases q3 : e - s ≤ 8
      · rw [if_pos q3, wd_eq hj q3 (fun i hi => by have := l1 (s + i) (by omega) (by omega); omega)] at z
        exact q2 z.1
      · rw [if_neg q3] at z
        exact WJ_ne0 j hj z.symm
  · have e1 : ¬ nI k = 1 := fun z => q ((nI_eq (b := 1) (by omega) (by decide)).mp z)
    have e2 : ¬ nI (kM k) = 2 := by
      rcases (show k = 0 ∨ k = 2 ∨ k = 3 ∨ k = 4 by omega) with rfl | rfl | rfl | rfl <;> decide
    rw [if_neg e1, if_neg e2, if_neg (fun z => WJ_ne0 j hj z.symm)]
theorem val_l (h : TB L B S T) (h10 : S.1 207 10 = nI e) (he : e ≤ L) (hb : ∀ i, s ≤ i → i < e → 48 ≤ B i ∧ B i ≤ 57) : ∀ (d m n : Nat), s + m + d = e → d < n → f_X5_tokenValue_7 207 S n (nI (nv B s m)) (nI (s + m)) = some (nI (nv B s (m + d)))
  | _, _, 0, _, hn => absurd hn (Nat.not_lt_zero _)
  | 0, m, n + 1, hk, _ => by
    have hL := h.2.2.1
    rw [f_X5_tokenValue_7, i_207 h.1, h10, if_pos (nI_le (by omega) (by omega))]
    rfl
  | d + 1, m, n + 1, hk, hn => by
    have hL := h.2.2.1
    have q := hb (s + m) (by omega) (by omega)
    rw [f_X5_tokenValue_7, i_207 h.1, h10, if_neg (nI_ge (by omega) (by omega)), k_207 h.1, byteAt_y h (by omega), b1_s, nI_1, show nI (nv B s m) * 10 + nI (B (s + m)) - 48 = nI (nv B s (m + 1)) from ?_]
    · have := val_l h h10 he hb d (m + 1) n (by omega) (by omega)
      rw [show m + 1 + d = m + (d + 1) by omega] at this
      exact this
    · show nI (nv B s m) * nI 10 + nI (B (s + m)) - nI 48 = nI (nv B s m * 10 + (B (s + m) - 48))
      rw [nI_mul, nI_add, nI_sub (by omega)]
      congr 1
      omega
theorem val_v (h : TB L B S T) (hk : Tk L B S T s e 2) : f_X5_tokenValue 207 S = some (nI (nv B s (e - s))) ∧ T.1 313 16 = nI (nv B s (e - s)) ∧ nv B s (e - s) < 100 := by
  have hle := hk.le
  have hL := h.2.2.1
  obtain ⟨h1, h2, h3, h4, h5, h6, h7, h8, h9, h10, h11, h12⟩ := hk
  obtain ⟨l1, l2, l3⟩ := h12 rfl
  have hfu : fu = 4096 := rfl
  refine ⟨?_, l3, ?_⟩
  · unfold f_X5_tokenValue
    rw [i_207 h.1, h1]
    have := val_l (s := s) h h2 h7 l2 (e - s) 0 fu (by omega) (by omega)
    rw [Nat.zero_add] at this
    exact this
  · have := h9 (by decide)
    rcases (show e - s = 1 ∨ e - s = 2 by omega) with q | q
    · rw [q]
      have := l2 s (by omega) (by omega)
      show 0 * 10 + (B (s + 0) - 48) < 100
      rw [Nat.add_zero]
      omega
    · rw [q]
      have a := l2 s (by omega) (by omega)
      have b := l2 (s + 1) (by omega) (by omega)
      show (0 * 10 + (B (s + 0) - 48)) * 10 + (B (s + 1) - 48) < 100
      rw [Nat.add_zero]
      omega
theorem note_v (hW : Wr S) (x y : Int32) : f_X5_noteFault 207 x y S = some (if S.1 207 11 = 0 then sI (sI S 207 11 x) 207 12 y else S) := by
  unfold f_X5_noteFault
  have hW1 : Wr (sI S 207 11 x) := hW
  rw [i_207 hW]
  by_cases q : S.1 207 11 = 0
  · rw [if_pos q, if_pos q, p_207 hW, p_207 hW1]
  · rw [if_neg q, if_neg q]
theorem later_v (hW : Wr T) {a b : Int32} (hF : FAv s a b T) (hs : s ≤ 600) (x : Int32) : f_X12_later 313 x (nI s) T = some (if a = 0 then sI (sI T 313 19 x) 313 20 (nI s) else T) := by
  unfold f_X12_later f_X12_later_31
  have hW1 : Wr (sI T 313 19 x) := hW
  rw [i_313 hW]
  rcases hF with ⟨z1, z2⟩ | ⟨f, p, z1, z2, z3, z4, z5, z6⟩
  · rw [if_pos z1, if_pos z2.1, p_313 hW, p_313 hW1]
  · have hf : ¬ nI f = 0 := by rcases z1 with rfl | rfl <;> decide
    rw [z3, if_neg hf, z5, if_neg hf, i_313 hW, z6, if_neg (nI_nlt (by omega) (by omega)), i_313 hW, z6, if_neg (fun w => by
      have := (nI_eq (by omega) (by omega)).mp w
      omega)]
theorem FAv.up {s' : Nat} {a b : Int32} (h : FAv s a b T) (hs : s ≤ s') (h1 : T'.1 313 19 = T.1 313 19) (h2 : T'.1 313 20 = T.1 313 20) : FAv s' a b T' := by
  unfold FAv
  rw [h1, h2]
  rcases h with z | ⟨f, p, z1, z2, z3, z4, z5, z6⟩
  · exact Or.inl z
  · exact Or.inr ⟨f, p, z1, by omega, z3, z4, z5, z6⟩
theorem FAv.nb {a b : Int32} (h : FAv s a b T) : ¬ a = 1 := by
  rcases h with z | ⟨f, p, z1, z2, z3, z4, z5, z6⟩
  · rw [z.1]
    decide
  · rw [z3]
    rcases z1 with rfl | rfl <;> decide
theorem FAv.z {a b : Int32} (h : FAv s a b T) : (a = 0) ↔ (T.1 313 19 = 0) := by
  rcases h with z | ⟨f, p, z1, z2, z3, z4, z5, z6⟩
  · rw [z.1, z.2.1]
  · rw [z3, z5]
/-- a number is taken; the class may find later that it can't be -/
theorem take_core5 (h : TB L B S T) (hk : Tk L B S T s e 2) (hF : FA s S T) {lo hi lo' hi' : Nat} {but : Int32} (hc : c < 5) (hlo : lo < 1000) (hhi : hi < 1000) (hlo' : lo' < 1000) (hhi' : hi' < 1000) (hEM : (nv B s (e - s) < lo ∨ hi < nv B s (e - s)) → (nv B s (e - s) < lo' ∨ hi' < nv B s (e - s) ∨ nI (nv B s (e - s)) = but)) :
    ∃ S' T' s' e' k', f_X5_takeNumber 207 (nI lo) (nI hi) S = some (nI (nv B s (e - s)), S') ∧ f_X12_takeBut 313 (nI c) (nI lo') (nI hi') but T = some (1, T') ∧ FU S S' ∧ FM T T' ∧ TB L B S' T' ∧ Tk L B S' T' s' e' k' ∧ e ≤ s' ∧ s' ≤ L ∧ T'.1 326 = (fun i => if i = c then nI (nv B s (e - s)) else T.1 326 i) ∧
      (((nv B s (e - s) < lo' ∨ hi' < nv B s (e - s) ∨ nI (nv B s (e - s)) = but) → (nv B s (e - s) < lo ∨ hi < nv B s (e - s))) → FA s' S' T') ∧
      ((nv B s (e - s) < lo' ∨ hi' < nv B s (e - s) ∨ nI (nv B s (e - s)) = but) → FAv s' (if S'.1 207 11 = 0 then 2 else S'.1 207 11) (if S'.1 207 11 = 0 then nI s else S'.1 207 12) T') ∧
      
      (ok S' → ok S ∧ lo ≤ nv B s (e - s) ∧ nv B s (e - s) ≤ hi) ∧ (¬ (nv B s (e - s) < lo' ∨ hi' < nv B s (e - s) ∨ nI (nv B s (e - s)) = but) → T'.1 313 19 = T.1 313 19 ∧ T'.1 313 20 = T.1 313 20) := by
  have hL := h.2.2.1
  have hle := hk.le
  obtain ⟨v1, v2, v3⟩ := val_v h hk
  obtain ⟨h1, h2, h3, h4, h5, h6, h7, h8, h9, h10, h11, h12⟩ := id hk
  have hlt := h9 (by decide)
  generalize nv B s (e - s) = v at *
  have hnb : ¬ S.1 207 11 = 1 := FAv.nb hF
  -- the class's head
  have hC : f_X5_takeNumber 207 (nI lo) (nI hi) S = (if v < lo ∨ hi < v then f_X5_takeNumber_36 207 (nI v) S else f_X5_takeNumber_45 207 (nI v) S) := by
    unfold f_X5_takeNumber f_X5_isBroken
    rw [i_207 h.1, h3, if_pos (show nI 2 = 2 from rfl), k_207 h.1, i_207 h.1, if_neg hnb, b1_s, if_pos rfl, k_207 h.1, v1, b1_s]
    by_cases q : v < lo
    · rw [if_pos (nI_lt q (by omega)), if_pos (Or.inl q)]
    · rw [if_neg (nI_nlt (by omega) (by omega))]
      by_cases q2 : hi < v
      · rw [if_neg (nI_ge q2 (by omega)), if_pos (Or.inr q2)]
      · rw [if_pos (nI_le (by omega) (by omega)), if_neg (by omega)]
  have hW1 : Wr (sI T 326 c (nI v)) := h.2.1
  have hM : f_X12_takeBut 313 (nI c) (nI lo') (nI hi') but T = (if v < lo' ∨ hi' < v ∨ nI v = but then f_X12_takeBut_44 313 (sI T 326 c (nI v)) else f_X12_takeBut_53 313 (sI T 326 c (nI v))) := by
    have e16 : (sI T 326 c (nI v)).1 313 16 = nI v := v2
    unfold f_X12_takeBut
    rw [i_313 h.2.1, h6, if_pos (show nI (kM 2) = 3 from rfl), r_313_22 h.2.1, i_313 h.2.1, v2, q_326 h.2.1 hc, i_313 hW1, e16]
    by_cases q : lo' ≤ v ∧ v ≤ hi'
    · rw [in_y q.1 q.2 (by omega), b1_s, if_neg n10, i_313 hW1, e16]
      by_cases q2 : nI v = but
      · rw [if_pos q2, if_pos (Or.inr (Or.inr q2))]
      · rw [if_neg q2, if_neg (by
          rintro (w | w | w)
          · omega
          · omega
          · exact q2 w)]
    · rw [in_n (by omega) (by omega) (by omega), b1_s, if_pos rfl, if_pos (by omega)]
  have e326 : (sI T 326 c (nI v)).1 326 = (fun i => if i = c then nI v else T.1 326 i) := sI_f
  have hFM1 : FM T (sI T 326 c (nI v)) := FM.A
  have hF1 : FA s S (sI T 326 c (nI v)) := FAv.up hF (Nat.le_refl _) rfl rfl
  have hk1 : Tk L B S (sI T 326 c (nI v)) s e 2 := hk.mv (fun _ _ _ => rfl) (fun _ _ => rfl) rfl
  have hB1 : TB L B S (sI T 326 c (nI v)) := h.fM hFM1
  have hT19 : (sI T 326 c (nI v)).1 313 19 = T.1 313 19 ∧ (sI T 326 c (nI v)).1 313 20 = T.1 313 20 := ⟨rfl, rfl⟩
  rw [hC, hM]
  generalize sI T 326 c (nI v) = T1 at hF1 hk1 hB1 hW1 hFM1 e326 hT19 ⊢
  have f44 : f_X12_takeBut_44 313 T1 = f_X12_takeBut_53 313 (if S.1 207 11 = 0 then sI (sI T1 313 19 2) 313 20 (nI s) else T1) := by
    unfold f_X12_takeBut_44
    rw [i_313 hW1, hk1.2.2.2.1, k_313 hW1, later_v hW1 hF1 (by omega), b1_s]
  have f36 : f_X5_takeNumber_36 207 (nI v) S = f_X5_takeNumber_45 207 (nI v) (if S.1 207 11 = 0 then sI (sI S 207 11 2) 207 12 (nI s) else S) := by
    unfold f_X5_takeNumber_36
    rw [i_207 h.1, h1, k_207 h.1, note_v h.1, b1_s]
  -- after the faults: the next token
  have go : ∀ S2 T2 : GS, FU S S2 → FM T1 T2 → T2.1 326 = T1.1 326 → TB L B S2 T2 → Tk L B S2 T2 s e 2 → ∃ S' T' s' e' k', f_X5_takeNumber_45 207 (nI v) S2 = some (nI v, S') ∧ f_X12_takeBut_53 313 T2 = some (1, T') ∧ FU S S' ∧ FM T T' ∧ TB L B S' T' ∧ Tk L B S' T' s' e' k' ∧ e ≤ s' ∧ s' ≤ L ∧ T'.1 326 = (fun i => if i = c then nI v else T.1 326 i) ∧ S'.1 207 11 = S2.1 207 11 ∧ S'.1 207 12 = S2.1 207 12 ∧ T'.1 313 19 = T2.1 313 19 ∧ T'.1 313 20 = T2.1 313 20 := by
    intro S2 T2 g1 g2 g3 g4 g5
    obtain ⟨S', T', s', e', k', t1, t2, t3, t4, t5, t6, t7⟩ := tok_both g4 h7 g5.2.1 g5.2.2.2.2.1
    refine ⟨S', T', s', e', k', ?_, ?_, g1.tr t3.fu, hFM1.tr (g2.tr t4.fm), (g4.ft t3).fm t4, t7, t5, t6, ?_, t3.2 _ _ (by omega), t3.2 _ _ (by omega), t4.2.2 _ _ (by omega), t4.2.2 _ _ (by omega)⟩
    · unfold f_X5_takeNumber_45
      rw [k_207 g4.1, t1, b1_s]
    · unfold f_X12_takeBut_53
      rw [k_313 g4.2.1, t2, b1_s]
    · rw [← e326, ← g3]
      funext i
      exact t4.2.2 _ _ (by omega)
  have fS : FU S (if S.1 207 11 = 0 then sI (sI S 207 11 2) 207 12 (nI s) else S) := by
    split
    · exact (FU.I (by decide) (by decide)).tr (FU.I (by decide) (by decide))
    · exact FU.rf _
  have fT : FM T1 (if S.1 207 11 = 0 then sI (sI T1 313 19 2) 313 20 (nI s) else T1) := by
    split
    · exact (FM.I (by omega)).tr (FM.I (by omega))
    · exact FM.rf _
  have aS : (if S.1 207 11 = 0 then sI (sI S 207 11 2) 207 12 (nI s) else S).1 207 11 = (if S.1 207 11 = 0 then 2 else S.1 207 11) := by split <;> rfl
  have bS : (if S.1 207 11 = 0 then sI (sI S 207 11 2) 207 12 (nI s) else S).1 207 12 = (if S.1 207 11 = 0 then nI s else S.1 207 12) := by split <;> rfl
  have kS : ∀ i, 7 ≤ i → i ≤ 10 → (if S.1 207 11 = 0 then sI (sI S 207 11 2) 207 12 (nI s) else S).1 207 i = S.1 207 i := fun i a b => by
    split
    · rw [sI_at, if_neg (by omega), sI_at, if_neg (by omega)]
    · rfl
  have cT : (if S.1 207 11 = 0 then sI (sI T1 313 19 2) 313 20 (nI s) else T1).1 313 19 = (if S.1 207 11 = 0 then 2 else T1.1 313 19) := by split <;> rfl
  have dT : (if S.1 207 11 = 0 then sI (sI T1 313 19 2) 313 20 (nI s) else T1).1 313 20 = (if S.1 207 11 = 0 then nI s else T1.1 313 20) := by split <;> rfl
  have kT : ∀ i, (i ≤ 18) → (if S.1 207 11 = 0 then sI (sI T1 313 19 2) 313 20 (nI s) else T1).1 313 i = T1.1 313 i := fun i a => by
    split
    · rw [sI_at, if_neg (by omega), sI_at, if_neg (by omega)]
    · rfl
  have rT : (if S.1 207 11 = 0 then sI (sI T1 313 19 2) 313 20 (nI s) else T1).1 326 = T1.1 326 := by
    split <;> rfl
  have jT : (if S.1 207 11 = 0 then sI (sI T1 313 19 2) 313 20 (nI s) else T1).2 = T1.2 := by
    split <;> rfl
  have nF : ∀ s', e ≤ s' → ∀ T' : GS, T'.1 313 19 = (if S.1 207 11 = 0 then 2 else T1.1 313 19) → T'.1 313 20 = (if S.1 207 11 = 0 then nI s else T1.1 313 20) → FAv s' (if S.1 207 11 = 0 then 2 else S.1 207 11) (if S.1 207 11 = 0 then nI s else S.1 207 12) T' := by
    intro s' hs' T' p1 p2
    unfold FAv
    rw [p1, p2]
    rcases hF1 with ⟨z1, z2⟩ | ⟨f, p, z1, z2, z3, z4, z5, z6⟩
    · rw [if_pos z1, if_pos z1, if_pos z1, if_pos z1]
      exact Or.inr ⟨2, s, Or.inl rfl, by omega, rfl, rfl, rfl, rfl⟩
    · have hf : ¬ S.1 207 11 = 0 := by
        rw [z3]
        rcases z1 with rfl | rfl <;> decide
      rw [if_neg hf, if_neg hf, if_neg hf, if_neg hf]
      exact Or.inr ⟨f, p, z1, by omega, z3, z4, z5, z6⟩
  generalize (if S.1 207 11 = 0 then sI (sI T1 313 19 2) 313 20 (nI s) else T1) = T2 at f44 fT cT dT kT rT jT
  generalize (if S.1 207 11 = 0 then sI (sI S 207 11 2) 207 12 (nI s) else S) = S2 at f36 fS aS bS kS
  have two0 : ¬ (2 : Int32) = 0 := by decide
  have n2 : ¬ (if S.1 207 11 = 0 then 2 else S.1 207 11) = 0 := by
    split
    · exact two0
    · next w => exact w
  by_cases qM : v < lo' ∨ hi' < v ∨ nI v = but
  · rw [if_pos qM, f44]
    by_cases qE : v < lo ∨ hi < v
    · rw [if_pos qE, f36]
      obtain ⟨S', T', s', e', k', t1, t2, t3, t4, t5, t6, t7, t8, t9, t10, t11, t12, t13⟩ := go S2 T2 fS fT rT ((h.fu fS).fM (hFM1.tr fT)) (hk1.mv (fun i a b => kS i (by omega) b) (fun i a => kT i (by omega)) (by rw [jT]))
      have nf := nF s' t7 T' (t12.trans cT) (t13.trans dT)
      rw [← aS, ← bS, ← t10, ← t11] at nf
      rw [← aS, ← t10] at n2
      refine ⟨S', T', s', e', k', t1, t2, t3, t4, t5, t6, t7, t8, t9, fun _ => nf, fun _ => ?_, fun z => absurd z n2, fun z => absurd qM z⟩
      rw [if_neg n2, if_neg n2]
      exact nf
    · rw [if_neg qE]
      obtain ⟨S', T', s', e', k', t1, t2, t3, t4, t5, t6, t7, t8, t9, t10, t11, t12, t13⟩ := go S T2 (FU.rf S) fT rT (h.fM (hFM1.tr fT)) (hk1.mv (fun i a b => rfl) (fun i a => kT i (by omega)) (by rw [jT]))
      refine ⟨S', T', s', e', k', t1, t2, t3, t4, t5, t6, t7, t8, t9, fun z => absurd (z qM) qE, fun _ => ?_, fun z => ⟨by unfold ok at z ⊢; rw [← t10]; exact z, by omega, by omega⟩, fun z => absurd qM z⟩
      rw [t10, t11]
      exact nF s' t7 T' (t12.trans cT) (t13.trans dT)
  · have qE : ¬ (v < lo ∨ hi < v) := fun z => qM (hEM z)
    rw [if_neg qM, if_neg qE]
    obtain ⟨S', T', s', e', k', t1, t2, t3, t4, t5, t6, t7, t8, t9, t10, t11, t12, t13⟩ := go S T1 (FU.rf S) (FM.rf T1) rfl hB1 hk1
    refine ⟨S', T', s', e', k', t1, t2, t3, t4, t5, t6, t7, t8, t9, fun _ => ?_, fun z => absurd z qM, fun z => ⟨by unfold ok at z ⊢; rw [← t10]; exact z, by omega, by omega⟩, fun _ => ⟨t12.trans hT19.1, t13.trans hT19.2⟩⟩
    unfold FA
    rw [t10, t11]
    exact FAv.up hF1 (by omega) t12 t13
/-- a number is taken; the class may find later that it can't be -/
theorem take_core (h : TB L B S T) (hk : Tk L B S T s e 2) (hF : FA s S T) {lo hi lo' hi' : Nat} {but : Int32} (hc : c < 5) (hlo : lo < 1000) (hhi : hi < 1000) (hlo' : lo' < 1000) (hhi' : hi' < 1000) (hEM : (nv B s (e - s) < lo ∨ hi < nv B s (e - s)) → (nv B s (e - s) < lo' ∨ hi' < nv B s (e - s) ∨ nI (nv B s (e - s)) = but)) :
    ∃ S' T' s' e' k', f_X5_takeNumber 207 (nI lo) (nI hi) S = some (nI (nv B s (e - s)), S') ∧ f_X12_takeBut 313 (nI c) (nI lo') (nI hi') but T = some (1, T') ∧ FU S S' ∧ FM T T' ∧ TB L B S' T' ∧ Tk L B S' T' s' e' k' ∧ e ≤ s' ∧ s' ≤ L ∧ T'.1 326 = (fun i => if i = c then nI (nv B s (e - s)) else T.1 326 i) ∧
      (((nv B s (e - s) < lo' ∨ hi' < nv B s (e - s) ∨ nI (nv B s (e - s)) = but) → (nv B s (e - s) < lo ∨ hi < nv B s (e - s))) → FA s' S' T') ∧
      ((nv B s (e - s) < lo' ∨ hi' < nv B s (e - s) ∨ nI (nv B s (e - s)) = but) → FAv s' (if S'.1 207 11 = 0 then 2 else S'.1 207 11) (if S'.1 207 11 = 0 then nI s else S'.1 207 12) T') ∧
      (ok S' → ok S ∧ lo ≤ nv B s (e - s) ∧ nv B s (e - s) ≤ hi) := by
  obtain ⟨S', T', s', e', k', t1, t2, t3, t4, t5, t6, t7, t8, t9, t10, t11, t12, -⟩ := take_core5 h hk hF (lo := lo) (hi := hi) (lo' := lo') (hi' := hi') (but := but) hc hlo hhi hlo' hhi' hEM
  exact ⟨S', T', s', e', k', t1, t2, t3, t4, t5, t6, t7, t8, t9, t10, t11, t12⟩
end TQ
