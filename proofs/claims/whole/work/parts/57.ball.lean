/-! the ball: the class, deed by deed -/
section BC
variable {S S' : GS} {co nl nro : Nat} {D : DSt} {B : BSt}
/-- the hall's court, and what it holds -/
def Hx (S : GS) (co nl nro : Nat) (D : DSt) : Prop := Wr S ∧ S.2.2.1 230 8 = some co ∧ co + 7 < 230 ∧ Cw S co ∧ nr S (co + 1) = nro ∧ nr S (co + 3) = nl ∧ (∀ r, r < nro → S.1 (co + 1 + 1) (2 * r + 1) = D.1 r ∧ S.1 (co + 1 + 1) (2 * r + 0) = D.2.1 r) ∧ (∀ l, l < nl → S.1 (co + 4) (5 * l + 3) = D.2.2.1 l ∧ S.1 (co + 4) (5 * l + 2) = D.2.2.2.1 l ∧ S.1 (co + 3 + 1) (5 * l + 4) = D.2.2.2.2.1 l) ∧ S.1 co 5 = nI D.2.2.2.2.2 ∧ nl ≤ 8 ∧ nro ≤ 4
theorem OfA.hx {a b : Nat} (hO : OfA a b S S') (ha : 230 ≤ a) (h : Hx S co nl nro D) : Hx S' co nl nro D := by
  obtain ⟨h1, h2, h3, h4, h5, h6, h7, h8, h9, h10, h11⟩ := h
  have e : ∀ o, o < 230 → S'.1 o = S.1 o := fun o q => hO.2 o (by omega)
  have hgk : ∀ o, gk S' o = gk S o := fun o => by
    unfold gk
    rw [hO.1]
  have hR : ∀ {o m w : Nat}, o < 230 → Rw S o m w → Rw S' o m w := fun {o m w} q hr => by
    unfold Rw nr at hr ⊢
    rw [hgk, hgk, e o q, hO.1]
    exact hr
  obtain ⟨c0, c1, c2, c3, c4, c5, c6, c7, c8, c9⟩ := h4
  refine ⟨hO.wr h1, by rw [hO.1]; exact h2, h3, ⟨by rw [hgk]; exact c0, by rw [hO.1]; exact c1, by rw [hO.1]; exact c2, by rw [hO.1]; exact c3, by rw [hO.1]; exact c4, by rw [hgk]; exact c5, c6, hR (by omega) c7, hR (by omega) c8, hR (by omega) c9⟩, by unfold nr; rw [e _ (by omega)]; exact h5, by unfold nr; rw [e _ (by omega)]; exact h6, by rw [e (co + 1 + 1) (by omega)]; exact h7, by rw [e (co + 4) (by omega)]; exact h8, by rw [e co (by omega)]; exact h9, h10, h11⟩
theorem r_230_8 {α : Type} (h : Hx S co nl nro D) {g : Option Nat → Option α} : xR (some 230) 2 8 S g = g (some co) := by
  rw [xR_s (gk_n (c := 2) h.1 (by decide) rfl), h.2.1]
theorem Hx.ro (h : Hx S co nl nro D) : Rw S (co + 1) 4 2 := h.2.2.2.1.2.2.2.2.2.2.2.1
theorem Hx.la (h : Hx S co nl nro D) : Rw S (co + 3) 8 5 := h.2.2.2.1.2.2.2.2.2.2.2.2.1
def inQ (x : Int32) (n : Nat) : Bool := decide (¬ x < 0 ∧ x.toNatClampNeg < n)
theorem inQ_y {k n : Nat} (hk : k < n) (hn : n < 2 ^ 31) : inQ (nI k) n = true := decide_eq_true ⟨nI_pos (by omega), by rw [nI_clamp (by omega)]; exact hk⟩
theorem hasRoomC (h : Hx S co nl nro D) (x : Int32) : f_X2_hasRoom 230 x S = some (bi (inQ x nro)) := by
  obtain ⟨h1, h2, h3, h4, h5, h6, h7, h8, h9, h10, h11⟩ := id h
  unfold f_X2_hasRoom inQ
  by_cases q : x < 0
  · rw [if_pos q, decide_eq_false (fun z => z.1 q)]
    rfl
  · obtain ⟨k, hk, rfl⟩ := nI_of q
    rw [if_neg q, nI_clamp hk]
    by_cases z : k < 4
    · rw [if_neg (show ¬ (4 : Int32) ≤ nI k from nI_ge (b := 4) z (by decide)), r_230_8 h, xR_s h4.1, h4.2.1, xI_s h.ro.1, h.ro.2.2.2.2.2.2.1, h5]
      by_cases y : k < nro
      · rw [if_neg (nI_ge y (by omega)), decide_eq_true ⟨q, y⟩]
        rfl
      · rw [if_pos (nI_le (by omega) (by omega)), decide_eq_false (fun w => y w.2)]
        rfl
    · rw [if_pos (show (4 : Int32) ≤ nI k from nI_le (a := 4) (by omega) hk), decide_eq_false (fun w => by omega)]
      rfl
theorem hasLadyC (h : Hx S co nl nro D) (x : Int32) : f_X2_hasLady 230 x S = some (bi (inQ x nl)) := by
  obtain ⟨h1, h2, h3, h4, h5, h6, h7, h8, h9, h10, h11⟩ := id h
  unfold f_X2_hasLady inQ
  by_cases q : x < 0
  · rw [if_pos q, decide_eq_false (fun z => z.1 q)]
    rfl
  · obtain ⟨k, hk, rfl⟩ := nI_of q
    rw [if_neg q, nI_clamp hk]
    by_cases z : k < 8
    · rw [if_neg (show ¬ (8 : Int32) ≤ nI k from nI_ge (b := 8) z (by decide)), r_230_8 h, xR_s h4.1, h4.2.2.1, xI_s h.la.1, h.la.2.2.2.2.2.2.1, h6]
      by_cases y : k < nl
      · rw [if_neg (nI_ge y (by omega)), decide_eq_true ⟨q, y⟩]
        rfl
      · rw [if_pos (nI_le (by omega) (by omega)), decide_eq_false (fun w => y w.2)]
        rfl
    · rw [if_pos (show (8 : Int32) ≤ nI k from nI_le (a := 8) (by omega) hk), decide_eq_false (fun w => by omega)]
      rfl
def LaC (S : GS) (l : Nat) (L : BLs) : Prop := S.1 233 l = nI L.1 ∧ S.1 234 l = L.2.1 ∧ S.1 235 l = nI L.2.2.1 ∧ S.1 236 l = bi L.2.2.2.1 ∧ S.1 237 l = L.2.2.2.2.1 ∧ S.1 238 l = L.2.2.2.2.2
def RoC (S : GS) (r : Nat) (R : Int32 × Bool) : Prop := S.1 232 r = bi R.2 ∧ (R.2 = true → S.1 231 r = R.1)
def FiC (S : GS) (B : BSt) : Prop := S.1 230 10 = B.1.1 ∧ S.1 230 11 = B.1.2.1 ∧ S.1 230 12 = B.1.2.2.1 ∧ S.1 230 13 = B.1.2.2.2.1 ∧ S.1 230 14 = B.1.2.2.2.2.1 ∧ S.1 230 15 = B.1.2.2.2.2.2
/-- the class's hall holds a state -/
def HB (S : GS) (nl nro : Nat) (B : BSt) : Prop := FiC S B ∧ (∀ r, r < nro → RoC S r (B.2.1 r)) ∧ (∀ r, nro ≤ r → r < 4 → S.1 232 r = 0) ∧ ∀ l, l < nl → LaC S l (B.2.2 l)
theorem bi0 (b : Bool) : (bi b = 0) = (b = false) := by cases b <;> simp [bi]
theorem bi_and (b : Bool) : bi b &&& 1 = bi b := by cases b <;> rfl
theorem isUpC (hW : Wr S) {l : Nat} (hl : l < 8) {L : BLs} (hL : LaC S l L) (hr : L.2.2.1 ≤ 9) : f_X2_isUp 230 (nI l) S = some (bi (upL L)) := by
  obtain ⟨a1, a2, a3, a4, a5, a6⟩ := hL
  unfold f_X2_isUp upL
  rw [if_neg (nI_pos (by omega)), if_neg (show ¬ (8 : Int32) ≤ nI l from nI_ge (b := 8) hl (by decide)), r_230_5 hW, y_236 hW hl, a4, r_230_4 hW, y_235 hW hl, a3]
  cases L.2.2.2.1
  · rw [if_pos (show bi false = 0 from rfl)]
    by_cases q : L.2.2.1 = 0
    · rw [q, if_pos nI_0, decide_eq_true rfl]
      rfl
    · rw [if_neg (nI_ne0 (by omega) (by omega)), decide_eq_false q]
      rfl
  · rw [if_neg (show ¬ bi true = 0 by decide)]
    rfl
theorem pressC (h : Hx S co nl nro D) {gl : Int32} {R : Nat → Int32 × Bool} {r : Nat} (hg : S.1 230 10 = gl) (hR : RoC S r (R r)) (hr : r < nro) : f_X2_pressureIn 230 (nI r) S = some (prB D gl R r) := by
  obtain ⟨h1, h2, h3, h4, h5, h6, h7, h8, h9, h10, h11⟩ := id h
  have hc : f_X7_cell (co + 1) (nI r) 1 S = some (D.1 r) := by rw [h.ro.cellL 1 1 rfl (by rw [h5]; exact hr) (by decide), (h7 r hr).1]
  have e32 (y : Int32) : f_X2_pressureIn_32 230 S (nI r) y = some (y - D.1 r) := by
    unfold f_X2_pressureIn_32
    rw [r_230_8 h, xR_s h4.1, h4.2.1, c1_s h.ro.1, hc, b1_s]
  unfold f_X2_pressureIn prB
  rw [k_230 h1, hasRoomC h, inQ_y hr (by omega), b1_s, if_neg (show ¬ bi true = 0 by decide), r_230_1 h1, y_232 h1 (by omega), hR.1, i_230 h1, hg, r_230_0 h1, y_231 h1 (by omega), e32, e32]
  cases hs : (R r).2
  · rw [if_pos (show bi false = 0 from rfl), if_neg Bool.false_ne_true]
  · rw [if_neg (show ¬ bi true = 0 by decide), if_pos rfl, hR.2 hs]
theorem bitsS_set (p : Nat → Bool) : ∀ (d k a : Nat), k + d ≤ 10 → a < 2 ^ k → bitsS p d k (nI a) = nI (setN p d k a)
  | 0, _, _, _, _ => rfl
  | d + 1, k, a, h, ha => by
    show bitsS p d (k + 1) (if p k = true then nI a ||| jshl 1 (nI k) else nI a) = nI (setN p d (k + 1) (if p k = true then a + 2 ^ k else a))
    have h2 : (if p k = true then a + 2 ^ k else a) < 2 ^ (k + 1) := by
      rw [Nat.pow_succ]
      split <;> omega
    rw [← bitsS_set p d (k + 1) _ (by omega) h2]
    congr 1
    split
    · exact or_k k (by omega) a ha
    · rfl
/-- who is up, down, burst: as a set -/
def whoL (w : Nat) (L : BLs) : Bool := if w = 0 then upL L else if w = 2 then buL L else dnL L
theorem isOneC (hW : Wr S) {l w : Nat} (hl : l < 8) (hw : w < 3) {L : BLs} (hL : LaC S l L) (hr : L.2.2.1 ≤ 9) : f_X2_isOne 230 (nI l) (nI w) S = some (bi (whoL w L)) := by
  unfold f_X2_isOne f_X2_isOne_14 whoL
  rw [if_neg (nI_pos (by omega)), if_neg (show ¬ (8 : Int32) ≤ nI l from nI_ge (b := 8) hl (by decide)), k_230 hW, isUpC hW hl hL hr, b1_s, bi_tz]
  obtain ⟨a1, a2, a3, a4, a5, a6⟩ := hL
  rw [r_230_5 hW, y_236 hW hl, a4, bi_tz, r_230_4 hW, y_235 hW hl, a3]
  rcases (show w = 0 ∨ w = 1 ∨ w = 2 by omega) with rfl | rfl | rfl
  · rw [if_pos nI_0, if_pos rfl]
  · rw [if_neg (show ¬ nI 1 = 0 by decide), if_neg (show ¬ nI 1 = 2 by decide), if_neg (show ¬ (1 : Nat) = 0 by decide), if_neg (show ¬ (1 : Nat) = 2 by decide)]
    unfold dnL
    by_cases q : L.2.2.1 = 0
    · rw [q, if_pos (by decide)]
      rfl
    · rw [if_neg (nI_nle (by omega) (by omega)), decide_eq_true q]
      rfl
  · rw [if_neg (show ¬ nI 2 = 0 by decide), if_pos (show nI 2 = 2 from rfl), if_neg (show ¬ (2 : Nat) = 0 by decide), if_pos rfl]
    rfl
theorem whoC_l (h : Hx S co nl nro D) {A : Nat → BLs} (hA : ∀ l, l < nl → LaC S l (A l) ∧ (A l).2.2.1 ≤ 9) {w : Nat} (hw : w < 3) : ∀ (d l n : Nat) (x : Int32), l + d = 8 → d < n → f_X2_ladiesWho_4 230 S n (nI w) x (nI l) = some (bitsS (fun l => decide (l < nl) && whoL w (A l)) d l x)
  | _, _, 0, _, _, hn => absurd hn (Nat.not_lt_zero _)
  | 0, l, n + 1, x, hl, _ => by
    rw [f_X2_ladiesWho_4, if_pos (show (8 : Int32) ≤ nI l from nI_le (a := 8) (by omega) (by omega))]
    rfl
  | d + 1, l, n + 1, x, hl, hn => by
    have ih := fun y => whoC_l h hA hw d (l + 1) n y (by omega) (by omega)
    rw [f_X2_ladiesWho_4, if_neg (show ¬ (8 : Int32) ≤ nI l from nI_ge (b := 8) (by omega) (by omega)), k_230 h.1, hasLadyC h, b1_s]
    unfold f_X2_ladiesWho_33
    rw [nI_1]
    show _ = some (bitsS _ d (l + 1) (if (decide (l < nl) && whoL w (A l)) = true then x ||| jshl 1 (nI l) else x))
    by_cases q : l < nl
    · have hn8 := h.2.2.2.2.2.2.2.2.2.1
      rw [inQ_y q (by omega), if_neg (show ¬ bi true = 0 by decide), k_230 h.1, isOneC h.1 (by omega) hw (hA l q).1 (hA l q).2, b1_s, decide_eq_true q, Bool.true_and]
      cases whoL w (A l)
      · rw [if_pos (show bi false = 0 from rfl), if_neg Bool.false_ne_true]
        exact ih _
      · rw [if_neg (show ¬ bi true = 0 by decide), if_pos rfl]
        exact ih _
    · rw [show inQ (nI l) nl = false from decide_eq_false (fun z => q (by have := z.2; rwa [nI_clamp (by omega)] at this)), if_pos (show bi false = 0 from rfl), decide_eq_false q, Bool.false_and, if_neg Bool.false_ne_true]
      exact ih _
theorem whoC (h : Hx S co nl nro D) {A : Nat → BLs} (hA : ∀ l, l < nl → LaC S l (A l) ∧ (A l).2.2.1 ≤ 9) {w : Nat} (hw : w < 3) : f_X2_ladiesWho 230 (nI w) S = some (nI (setN (fun l => decide (l < nl) && whoL w (A l)) 8 0 0)) := by
  rw [← bitsS_set _ 8 0 0 (by decide) (by decide)]
  exact whoC_l h hA hw 8 0 fu 0 (by omega) (by unfold fu; omega)
/-- the hall's own numbers alone are written; how many deeds were done stays -/
def Hd (S S' : GS) : Prop := OfA 230 247 S S' ∧ S'.1 230 9 = S.1 230 9
theorem Hd.rf (S : GS) : Hd S S := ⟨OfA.rf _ _ _, rfl⟩
theorem Hd.tr {S S1 S2 : GS} (h : Hd S S1) (h2 : Hd S1 S2) : Hd S S2 := ⟨h.1.tr h2.1, h2.2.trans h.2⟩
theorem hd_I {a i : Nat} {v : Int32} (h1 : 230 ≤ a) (h2 : a < 247) (h3 : ¬ (a = 230 ∧ i = 9)) : Hd S (sI S a i v) := ⟨of_I.ra h1 h2, by
  by_cases q : a = 230
  · subst q
    rw [sI_at, if_neg (fun z => h3 ⟨rfl, z.symm⟩)]
  · rw [sI_o (fun z => q z.symm)]⟩
theorem bool_eq {a b : Bool} : (bi a = bi b) = (a = b) := by cases a <;> cases b <;> simp [bi]
theorem turnC (h : Hx S co nl nro D) (hB : HB S nl nro B) (x : Int32) (op : Bool) : ∃ S', f_X2_turnDoor 230 x (bi op) S = some (bi (turnB nro x op B).1, S') ∧ Hd S S' ∧ HB S' nl nro (turnB nro x op B).2 := by
  obtain ⟨f1, f2, f3, f4⟩ := hB
  have hW := h.1
  have hn4 := h.2.2.2.2.2.2.2.2.2.2
  unfold f_X2_turnDoor turnB
  rw [k_230 hW, hasRoomC h, b1_s]
  by_cases q : x < 0
  · rw [show inQ x nro = false from decide_eq_false (fun z => z.1 q), if_pos (show bi false = 0 from rfl), if_pos (Or.inl q)]
    exact ⟨S, rfl, Hd.rf S, f1, f2, f3, f4⟩
  obtain ⟨r, hr, rfl⟩ := nI_of q
  rw [nI_clamp hr]
  by_cases z : r < nro
  · obtain ⟨g1, g2⟩ := f2 r z
    rw [inQ_y z (by omega), if_neg (show ¬ bi true = 0 by decide), r_230_1 hW, y_232 hW (by omega), g1]
    by_cases y : (B.2.1 r).2 = op
    · rw [if_pos (by rw [y]), if_neg (by rintro (w | w | w); exact q w; omega; exact w y)]
      refine ⟨sI (sI S 231 r B.1.1) 232 r (bi (!op)), ?_, (hd_I (by decide) (by decide) (by omega)).tr (hd_I (by decide) (by decide) (by omega)), ?_, ?_, ?_, ?_⟩
      · have hW7 : Wr (sI S 231 r B.1.1) := hW
        rw [r_230_0 hW, i_230 hW, f1.1, q_231 hW (by omega), r_230_1 hW7, q_232 hW7 (by omega), q_232 hW7 (by omega)]
        cases op
        · rw [if_pos (show bi false = 0 from rfl)]
          rfl
        · rw [if_neg (show ¬ bi true = 0 by decide)]
          rfl
      · unfold FiC
        rw [sI_o (by decide), sI_o (by decide)]
        exact f1
      · intro r' hr'
        show RoC _ r' (updF B.2.1 r (B.1.1, !op) r')
        unfold RoC
        rw [sI_at, sI_o (show (231 : Nat) ≠ 232 by decide), sI_at, sI_o (show (232 : Nat) ≠ 231 by decide)]
        by_cases w : r' = r
        · rw [w, updF_at, if_pos rfl, if_pos rfl]
          exact ⟨rfl, fun _ => rfl⟩
        · rw [updF_o w, if_neg w, if_neg w]
          exact f2 r' hr'
      · intro r' h1 h2
        rw [sI_at, if_neg (by omega), sI_o (by decide)]
        exact f3 r' h1 h2
      · intro l hl
        have := f4 l hl
        unfold LaC at this ⊢
        rw [sI_o (by decide), sI_o (by decide), sI_o (by decide), sI_o (by decide), sI_o (by decide), sI_o (by decide), sI_o (by decide), sI_o (by decide), sI_o (by decide), sI_o (by decide), sI_o (by decide), sI_o (by decide)]
        exact this
    · rw [if_neg (by rw [bool_eq]; exact y), if_pos (Or.inr (Or.inr y))]
      exact ⟨S, rfl, Hd.rf S, f1, f2, f3, f4⟩
  · rw [show inQ (nI r) nro = false from decide_eq_false (fun w => z (by have := w.2; rwa [nI_clamp hr] at this)), if_pos (show bi false = 0 from rfl), if_pos (Or.inr (Or.inl (by omega)))]
    exact ⟨S, rfl, Hd.rf S, f1, f2, f3, f4⟩
theorem FiC.o {a i : Nat} {v : Int32} (h : FiC S B) (ha : a ≠ 230) : FiC (sI S a i v) B := by
  unfold FiC
  rw [sI_o (fun z => ha z.symm)]
  exact h
theorem LaC.o {a i l : Nat} {v : Int32} {L : BLs} (h : LaC S l L) (ha : a < 233 ∨ 238 < a ∨ l ≠ i) : LaC (sI S a i v) l L := by
  obtain ⟨a1, a2, a3, a4, a5, a6⟩ := h
  have e : ∀ b, 233 ≤ b → b ≤ 238 → (sI S a i v).1 b l = S.1 b l := fun b h1 h2 => by
    by_cases q : b = a
    · subst q
      rw [sI_at, if_neg (by omega)]
    · rw [sI_o q]
  exact ⟨by rw [e 233 (by decide) (by decide)]; exact a1, by rw [e 234 (by decide) (by decide)]; exact a2, by rw [e 235 (by decide) (by decide)]; exact a3, by rw [e 236 (by decide) (by decide)]; exact a4, by rw [e 237 (by decide) (by decide)]; exact a5, by rw [e 238 (by decide) (by decide)]; exact a6⟩
theorem RoC.o {a i r : Nat} {v : Int32} {R : Int32 × Bool} (h : RoC S r R) (ha : a < 231 ∨ 232 < a ∨ r ≠ i) : RoC (sI S a i v) r R := by
  have e : ∀ b, 231 ≤ b → b ≤ 232 → (sI S a i v).1 b r = S.1 b r := fun b h1 h2 => by
    by_cases q : b = a
    · subst q
      rw [sI_at, if_neg (by omega)]
    · rw [sI_o q]
  unfold RoC at h ⊢
  rw [e 231 (by decide) (by decide), e 232 (by decide) (by decide)]
  exact h
theorem sighC (h : Hx S co nl nro D) (hI : BI nl nro D.2.2.2.2.2 B) (hB : HB S nl nro B) (x : Int32) : ∃ S', f_X2_sighs 230 x S = some (bi (sighB D nl x B).1, S') ∧ Hd S S' ∧ HB S' nl nro (sighB D nl x B).2 := by
  obtain ⟨f1, f2, f3, f4⟩ := id hB
  obtain ⟨h1, h2, h3, h4, h5, h6, h7, h8, h9, h10, h11⟩ := id h
  have hW := h.1
  unfold f_X2_sighs sighB
  rw [k_230 hW, hasLadyC h, b1_s]
  by_cases q : x < 0
  · rw [show inQ x nl = false from decide_eq_false (fun z => z.1 q), if_pos (show bi false = 0 from rfl), if_pos (Or.inl q)]
    exact ⟨S, rfl, Hd.rf S, hB⟩
  obtain ⟨l, hl, rfl⟩ := nI_of q
  rw [nI_clamp hl]
  by_cases z : l < nl
  · obtain ⟨i1, i2, i3⟩ := hI.2 l z
    have hL := f4 l z
    rw [inQ_y z (by omega), if_neg (show ¬ bi true = 0 by decide), k_230 hW, isUpC hW (by omega) hL i2, b1_s]
    cases hu : upL (B.2.2 l)
    · rw [if_pos (show bi false = 0 from rfl), if_pos (Or.inr (Or.inr rfl))]
      exact ⟨S, rfl, Hd.rf S, hB⟩
    · obtain ⟨g1, g2⟩ := f2 _ i1
      rw [if_neg (show ¬ bi true = 0 by decide), if_neg (by rintro (w | w | w); exact q w; omega; exact absurd w (by decide)), r_230_2 hW, y_233 hW (by omega), hL.1, k_230 hW, hasRoomC h, inQ_y i1 (by omega), b1_s, if_neg (show ¬ bi true = 0 by decide), r_230_1 hW, y_232 hW (by omega), g1, r_230_8 h, xR_s h4.1, h4.2.1, c1_s h.ro.1, h.ro.cellL 0 0 rfl (by rw [h5]; exact i1) (by decide), b1_s, (h7 _ i1).2]
      cases hs : (B.2.1 (B.2.2 l).1).2
      · rw [if_pos (show bi false = 0 from rfl), if_neg (fun y => absurd y.1 (by decide))]
        exact ⟨S, rfl, Hd.rf S, hB⟩
      · rw [if_neg (show ¬ bi true = 0 by decide)]
        by_cases y : (3 : Int32) < D.2.1 (B.2.2 l).1
        · rw [if_pos y, if_neg (fun w => w.2 y)]
          exact ⟨S, rfl, Hd.rf S, hB⟩
        · rw [if_neg y, if_pos ⟨rfl, y⟩]
          refine ⟨sI S 231 (B.2.2 l).1 (jmin 40 ((B.2.1 (B.2.2 l).1).1 + 1)), ?_, hd_I (by decide) (by decide) (by omega), f1.o (by decide), fun r' hr' => ?_, fun r' a b => ?_, fun l' hl' => (f4 l' hl').o (Or.inl (by decide))⟩
          · rw [r_230_0 hW, r_230_0 hW, y_231 hW (by omega), g2 hs, q_231 hW (by omega)]
            rfl
          · show RoC _ r' (updF B.2.1 (B.2.2 l).1 (jmin 40 ((B.2.1 (B.2.2 l).1).1 + 1), true) r')
            by_cases w : r' = (B.2.2 l).1
            · rw [w, updF_at]
              refine ⟨?_, fun _ => by rw [sI_at, if_pos rfl]⟩
              rw [sI_o (by decide), g1, hs]
            · rw [updF_o w]
              exact (f2 r' hr').o (Or.inr (Or.inr w))
          · rw [sI_o (by decide)]
            exact f3 r' a b
  · rw [show inQ (nI l) nl = false from decide_eq_false (fun w => z (by have := w.2; rwa [nI_clamp hl] at this)), if_pos (show bi false = 0 from rfl), if_pos (Or.inr (Or.inl (by omega)))]
    exact ⟨S, rfl, Hd.rf S, hB⟩
theorem knotC (h : Hx S co nl nro D) (hB : HB S nl nro B) (x y : Int32) : ∃ S', f_X2_knot 230 x y S = some (bi (knotB nl x y B).1, S') ∧ Hd S S' ∧ HB S' nl nro (knotB nl x y B).2 := by
  obtain ⟨f1, f2, f3, f4⟩ := id hB
  have hW := h.1
  have hn8 := h.2.2.2.2.2.2.2.2.2.1
  unfold f_X2_knot knotB
  rw [k_230 hW, hasLadyC h, b1_s]
  by_cases q : x < 0
  · rw [show inQ x nl = false from decide_eq_false (fun z => z.1 q), if_pos (show bi false = 0 from rfl), if_pos (Or.inl q)]
    exact ⟨S, rfl, Hd.rf S, hB⟩
  obtain ⟨l, hl, rfl⟩ := nI_of q
  rw [nI_clamp hl]
  by_cases z : l < nl
  · have hL := f4 l z
    obtain ⟨a1, a2, a3, a4, a5, a6⟩ := id hL
    rw [inQ_y z (by omega), if_neg (show ¬ bi true = 0 by decide), r_230_5 hW, y_236 hW (by omega), a4]
    cases hb : (B.2.2 l).2.2.2.1
    · rw [if_pos (show bi false = 0 from rfl), r_230_3 hW, y_234 hW (by omega), a2]
      unfold f_X11_isLace
      by_cases w : (B.2.2 l).2.1 + y < 0
      · rw [if_pos w, b1_s, if_pos rfl, if_pos (Or.inr (Or.inr (Or.inr (Or.inl w))))]
        exact ⟨S, rfl, Hd.rf S, hB⟩
      · by_cases w2 : (30 : Int32) < (B.2.2 l).2.1 + y
        · rw [if_neg w, if_pos w2, b1_s, if_pos rfl, if_pos (Or.inr (Or.inr (Or.inr (Or.inr w2))))]
          exact ⟨S, rfl, Hd.rf S, hB⟩
        · rw [if_neg w, if_neg w2, b1_s, if_neg n10, if_neg (by rintro (v | v | v | v | v); exact q v; omega; exact absurd v (by decide); exact w v; exact w2 v)]
          have hW2 : Wr (sI S 234 l ((B.2.2 l).2.1 + y)) := hW
          refine ⟨sI (sI S 234 l ((B.2.2 l).2.1 + y)) 230 12 (B.1.2.2.1 + jabs y), ?_, (hd_I (by decide) (by decide) (by omega)).tr (hd_I (by decide) (by decide) (by omega)), ?_, fun r' hr' => ((f2 r' hr').o (Or.inr (Or.inl (by decide)))).o (Or.inl (by decide)), fun r' a b => ?_, fun l' hl' => ?_⟩
          · rw [r_230_3 hW, y_234 hW (by omega), a2, q_234 hW (by omega), i_230 hW2, p_230 hW2, sI_o (by decide), f1.2.2.1]
            rfl
          · obtain ⟨b1', b2', b3', b4', b5', b6'⟩ := f1
            have e : ∀ i, i ≠ 12 → (sI (sI S 234 l ((B.2.2 l).2.1 + y)) 230 12 (B.1.2.2.1 + jabs y)).1 230 i = S.1 230 i := fun i hi => by rw [sI_at, if_neg hi, sI_o (by decide)]
            exact ⟨by rw [e 10 (by decide)]; exact b1', by rw [e 11 (by decide)]; exact b2', by rw [sI_at, if_pos rfl], by rw [e 13 (by decide)]; exact b4', by rw [e 14 (by decide)]; exact b5', by rw [e 15 (by decide)]; exact b6'⟩
          · rw [sI_o (by decide), sI_o (by decide)]
            exact f3 r' a b
          · show LaC _ l' (updF B.2.2 l _ l')
            refine LaC.o ?_ (Or.inl (by decide))
            by_cases v : l' = l
            · rw [v, updF_at]
              exact ⟨by rw [sI_o (by decide)]; exact a1, by rw [sI_at, if_pos rfl], by rw [sI_o (by decide)]; exact a3, by rw [sI_o (by decide)]; exact a4, by rw [sI_o (by decide)]; exact a5, by rw [sI_o (by decide)]; exact a6⟩
            · rw [updF_o v]
              exact (f4 l' hl').o (Or.inr (Or.inr v))
    · rw [if_neg (show ¬ bi true = 0 by decide), if_pos (Or.inr (Or.inr (Or.inl rfl)))]
      exact ⟨S, rfl, Hd.rf S, hB⟩
  · rw [show inQ (nI l) nl = false from decide_eq_false (fun w => z (by have := w.2; rwa [nI_clamp hl] at this)), if_pos (show bi false = 0 from rfl), if_pos (Or.inr (Or.inl (by omega)))]
    exact ⟨S, rfl, Hd.rf S, hB⟩
theorem goC2 (h : Hx S co nl nro D) (hI : BI nl nro D.2.2.2.2.2 B) (hB : HB S nl nro B) (x y : Int32) : ∃ S', f_X2_goTo 230 x y S = some (bi (goB nl nro x y B).1, S') ∧ Hd S S' ∧ HB S' nl nro (goB nl nro x y B).2 := by
  obtain ⟨f1, f2, f3, f4⟩ := id hB
  have hW := h.1
  have hn8 := h.2.2.2.2.2.2.2.2.2.1
  unfold f_X2_goTo goB
  rw [k_230 hW, hasLadyC h, b1_s]
  by_cases q : x < 0
  · rw [show inQ x nl = false from decide_eq_false (fun z => z.1 q), if_pos (show bi false = 0 from rfl), if_pos (Or.inl q)]
    exact ⟨S, rfl, Hd.rf S, hB⟩
  obtain ⟨l, hl, rfl⟩ := nI_of q
  rw [nI_clamp hl]
  by_cases z : l < nl
  · have hL := f4 l z
    rw [inQ_y z (by omega), if_neg (show ¬ bi true = 0 by decide), k_230 hW, hasRoomC h, b1_s]
    by_cases w : y < 0
    · rw [show inQ y nro = false from decide_eq_false (fun z => z.1 w), if_pos (show bi false = 0 from rfl), if_pos (Or.inr (Or.inr (Or.inl w)))]
      exact ⟨S, rfl, Hd.rf S, hB⟩
    obtain ⟨r, hr, rfl⟩ := nI_of w
    rw [nI_clamp hr]
    by_cases v : r < nro
    · have hn4 := h.2.2.2.2.2.2.2.2.2.2
      rw [inQ_y v (by omega), if_neg (show ¬ bi true = 0 by decide), k_230 hW, isUpC hW (by omega) hL (hI.2 l z).2.1, b1_s]
      cases hu : upL (B.2.2 l)
      · rw [if_pos (show bi false = 0 from rfl), if_pos (Or.inr (Or.inr (Or.inr (Or.inr rfl))))]
        exact ⟨S, rfl, Hd.rf S, hB⟩
      · rw [if_neg (show ¬ bi true = 0 by decide), if_neg (by rintro (s | s | s | s | s); exact q s; omega; exact w s; omega; exact absurd s (by decide))]
        obtain ⟨a1, a2, a3, a4, a5, a6⟩ := id hL
        refine ⟨sI S 233 l (nI r), ?_, hd_I (by decide) (by decide) (by omega), f1.o (by decide), fun r' hr' => (f2 r' hr').o (Or.inr (Or.inl (by decide))), fun r' a b => ?_, fun l' hl' => ?_⟩
        · rw [r_230_2 hW, q_233 hW (by omega)]
          rfl
        · rw [sI_o (by decide)]
          exact f3 r' a b
        · show LaC _ l' (updF B.2.2 l _ l')
          by_cases s : l' = l
          · rw [s, updF_at]
            exact ⟨by rw [sI_at, if_pos rfl], by rw [sI_o (by decide)]; exact a2, by rw [sI_o (by decide)]; exact a3, by rw [sI_o (by decide)]; exact a4, by rw [sI_o (by decide)]; exact a5, by rw [sI_o (by decide)]; exact a6⟩
          · rw [updF_o s]
            exact (f4 l' hl').o (Or.inr (Or.inr s))
    · rw [show inQ (nI r) nro = false from decide_eq_false (fun s => v (by have := s.2; rwa [nI_clamp hr] at this)), if_pos (show bi false = 0 from rfl), if_pos (Or.inr (Or.inr (Or.inr (Or.inl (by omega)))))]
      exact ⟨S, rfl, Hd.rf S, hB⟩
  · rw [show inQ (nI l) nl = false from decide_eq_false (fun w => z (by have := w.2; rwa [nI_clamp hl] at this)), if_pos (show bi false = 0 from rfl), if_pos (Or.inr (Or.inl (by omega)))]
    exact ⟨S, rfl, Hd.rf S, hB⟩
end BC
