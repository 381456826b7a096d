/-! the ball: the class begins, plays, tells -/
section BF
variable {S S' : GS} {o b co nl nro : Nat} {D : DSt} {B : BSt}
def dmS (S : GS) (b rs : Nat) : DSt := (fun r => S.1 319 (b + 9 + (2 * r + 1)), fun r => S.1 319 (b + 9 + (2 * r + 0)), fun l => S.1 319 (b + 29 + (5 * l + 3)), fun l => S.1 319 (b + 29 + (5 * l + 2)), fun l => S.1 319 (b + 29 + (5 * l + 4)), rs)
def rmS (S : GS) (b l : Nat) : Nat := (S.1 319 (b + 29 + (5 * l + 0))).toNatClampNeg
def lcS (S : GS) (b l : Nat) : Int32 := S.1 319 (b + 29 + (5 * l + 1))
def bgS (S : GS) (b : Nat) : BSt := begB (S.1 319 (b + 5)) (rmS S b) (lcS S b)
theorem OfB.rw {o m w : Nat} (hO : OfB S S') (q : o + 1 < 230) (hr : Rw S o m w) : Rw S' o m w := by
  have hgk : ∀ o, gk S' o = gk S o := fun o => by
    unfold gk
    rw [hO.2.1]
  have e : ∀ o, o < 230 → S'.1 o = S.1 o := fun o q => hO.2.2.2 o (Or.inl q)
  have r : ∀ i, S'.2.2.1 o i = S.2.2.1 o i := fun i => hO.2.2.1 o i (by omega)
  unfold Rw nr at hr ⊢
  rw [hgk, hgk, e o (by omega), r]
  exact hr
theorem OfB.wr (hO : OfB S S') (hW : Wr S) : Wr S' := ⟨hO.2.1.trans hW.1, fun o i q => (hO.2.2.1 o i q).trans (hW.2 o i q)⟩
theorem OfB.cw (hO : OfB S S') (ho : o + 7 < 230) (h4 : Cw S o) : Cw S' o := by
  have hgk : ∀ o, gk S' o = gk S o := fun o => by
    unfold gk
    rw [hO.2.1]
  have r : ∀ i, S'.2.2.1 o i = S.2.2.1 o i := fun i => hO.2.2.1 o i (by omega)
  obtain ⟨c0, c1, c2, c3, c4, c5, c6, c7, c8, c9⟩ := h4
  exact ⟨by rw [hgk]; exact c0, by rw [r]; exact c1, by rw [r]; exact c2, by rw [r]; exact c3, by rw [r]; exact c4, by rw [hgk]; exact c5, c6, hO.rw (by omega) c7, hO.rw (by omega) c8, hO.rw (by omega) c9⟩
theorem CF.hx {rs : Nat} (h : CF S o b) (hW : Wr S) (ho : o + 7 < 230) (hrs : S.1 o 5 = nI rs) (hO : OfB S S') (h8 : S'.2.2.1 230 8 = some o) : Hx S' o (nr S (o + 3)) (nr S (o + 1)) (dmS S b rs) := by
  obtain ⟨f0, f1, f2, f3, f4, f5, f6, f7, f8, f9, -⟩ := id h
  have e : ∀ o, o < 230 → S'.1 o = S.1 o := fun o q => hO.2.2.2 o (Or.inl q)
  refine ⟨hO.wr hW, h8, ho, hO.cw ho f0, by unfold nr; rw [e _ (by omega)], by unfold nr; rw [e _ (by omega)], fun r hr => ?_, fun l hl => ?_, by rw [e _ (by omega)]; exact hrs, h.n8, h.n4⟩
  · rw [e (o + 1 + 1) (by omega)]
    exact ⟨f4 r hr 1 (by omega), f4 r hr 0 (by omega)⟩
  · rw [e (o + 4) (by omega)]
    exact ⟨f5 l hl 3 (by omega), f5 l hl 2 (by omega), f5 l hl 4 (by omega)⟩
theorem CF.rm (h : CF S o b) {l : Nat} (hl : l < nr S (o + 3)) : S.1 319 (b + 29 + (5 * l + 0)) = nI (rmS S b l) ∧ rmS S b l < nr S (o + 1) := by
  obtain ⟨⟨r, g1, g3⟩, -⟩ := h.2.2.2.2.2.2.2.2.1 l hl
  have h4 := h.n4
  rw [h.2.1, nI_clamp (by omega)] at g3
  have e : rmS S b l = r := by
    unfold rmS
    rw [show S.1 319 (b + 29 + (5 * l + 0)) = nI r from g1, nI_clamp (by omega)]
  rw [e]
  exact ⟨g1, g3⟩
theorem CF.bi0 (h : CF S o b) {rs : Nat} (hr : rs ≤ 9) : BI (nr S (o + 3)) (nr S (o + 1)) rs (bgS S b) := ⟨hr, fun l hl => ⟨(h.rm hl).2, Nat.zero_le _, fun _ => rfl⟩⟩
theorem sR_O {v : Option Nat} : OfB S (sR S 230 8 v) := ⟨rfl, rfl, fun o i q => if_neg q, fun _ _ => rfl⟩
theorem beginH {rs : Nat} (h : CF S o b) (hW : Wr S) (ho : o + 7 < 230) (hrs : S.1 o 5 = nI rs) : ∃ S', f_X2_begin 230 (some o) S = some S' ∧ OfB S S' ∧ Hx S' o (nr S (o + 3)) (nr S (o + 1)) (dmS S b rs) ∧ HB S' (nr S (o + 3)) (nr S (o + 1)) (bgS S b) := by
  have h4 := h.n4
  generalize hS1 : sR S 230 8 (some o) = S1
  have o1 : OfB S S1 := by rw [← hS1]; exact sR_O
  have e8 : S1.2.2.1 230 8 = some o := by rw [← hS1]; rfl
  have hx1 := h.hx hW ho hrs o1 e8
  generalize hS2 : sI (sI (sI (sI (sI (sI S1 230 10 (S1.1 o 6)) 230 11 0) 230 12 0) 230 13 0) 230 14 0) 230 15 (-1) = S2
  have o2 : OfA 230 247 S1 S2 := by
    rw [← hS2]
    have z : ∀ {T : GS} {i : Nat} {v : Int32}, OfA 230 247 T (sI T 230 i v) := fun {T i v} => of_I.ra (by decide) (by decide)
    exact z.tr (z.tr (z.tr (z.tr (z.tr z))))
  have f2 : S2.1 230 10 = S1.1 o 6 ∧ S2.1 230 11 = 0 ∧ S2.1 230 12 = 0 ∧ S2.1 230 13 = 0 ∧ S2.1 230 14 = 0 ∧ S2.1 230 15 = -1 := by
    rw [← hS2]
    exact ⟨rfl, rfl, rfl, rfl, rfl, rfl⟩
  have hx2 := o2.hx (by decide) hx1
  obtain ⟨S3, g3, p3, q3⟩ := fill_v (a := 231) (S := S2) 0 (N := 4) rfl (by decide) (gk_n hx2.1 (by decide) rfl)
  have o3 : OfA 230 247 S2 S3 := p3.ra (by decide) (by decide)
  have hx3 := o3.hx (by decide) hx2
  obtain ⟨S4, g4, p4, q4⟩ := fill_v (a := 235) (S := S3) 0 (N := 8) rfl (by decide) (gk_n hx3.1 (by decide) rfl)
  have o4 : OfA 230 247 S3 S4 := p4.ra (by decide) (by decide)
  have hx4 := o4.hx (by decide) hx3
  obtain ⟨S5, g5, p5, q5⟩ := fill_v (a := 237) (S := S4) 0 (N := 8) rfl (by decide) (gk_n hx4.1 (by decide) rfl)
  have o5 : OfA 230 247 S4 S5 := p5.ra (by decide) (by decide)
  have hx5 := o5.hx (by decide) hx4
  obtain ⟨S6, g6, p6, q6⟩ := fill_v (a := 238) (S := S5) (-1) (N := 8) rfl (by decide) (gk_n hx5.1 (by decide) rfl)
  have o6 : OfA 230 247 S5 S6 := p6.ra (by decide) (by decide)
  have hx6 := o6.hx (by decide) hx5
  have o26 : OfA 230 247 S2 S6 := o3.tr (o4.tr (o5.tr o6))
  have n8 := h.n8
  obtain ⟨S', k1, k2, k3, k4, k5⟩ := beg72 (S := S6) (rm := rmS S b) (lc := lcS S b) (fun l hl => by
    have e : S6.1 (o + 3 + 1) = S.1 (o + 3 + 1) := ((o2.tr o26).2 _ (by omega)).trans (o1.2.2.2 _ (by omega))
    rw [e]
    exact ⟨(h.2.2.2.2.2.1 l hl 0 (by omega)).trans (h.rm hl).1, h.2.2.2.2.2.1 l hl 1 (by omega)⟩) 4 0 fu S6 hx6 (OfA.rf _ _ _) (fun j hj => ⟨by rw [p6.2 235 (by decide), p5.2 235 (by decide)]; exact q4 j (by omega), by rw [p6.2 237 (by decide)]; exact q5 j (by omega), q6 j (by omega)⟩) (fun j hj => absurd hj (Nat.not_lt_zero _)) (by omega) (by unfold fu; omega)
  have e30 : S'.1 230 = S2.1 230 := by rw [k3, p6.2 230 (by decide), p5.2 230 (by decide), p4.2 230 (by decide), p3.2 230 (by decide)]
  have e6 : S1.1 o 6 = S.1 319 (b + 5) := by rw [o1.2.2.2 o (by omega)]; exact h.2.2.2.2.2.2.2.2.2.2.2.2.1
  refine ⟨S', ?_, o1.tr ((o2.tr (o26.tr k2)).ob), k2.hx (by decide) hx6, ?_, fun r hr => ⟨k4 r (by omega), fun z => absurd z Bool.false_ne_true⟩, fun r _ hr => k4 r hr, k5⟩
  · have hW1 := hx1.1
    unfold f_X2_begin
    rw [pR_s (gk_n (o := 230) (c := 2) hW (by decide) rfl), hS1, xI_s hx1.2.2.2.1.1, p_230 hW1, p_230 (S := sI S1 230 10 (S1.1 o 6)) hW1, p_230 (S := sI (sI S1 230 10 (S1.1 o 6)) 230 11 0) hW1, p_230 (S := sI (sI (sI S1 230 10 (S1.1 o 6)) 230 11 0) 230 12 0) hW1, p_230 (S := sI (sI (sI (sI S1 230 10 (S1.1 o 6)) 230 11 0) 230 12 0) 230 13 0) hW1, p_230 (S := sI (sI (sI (sI (sI S1 230 10 (S1.1 o 6)) 230 11 0) 230 12 0) 230 13 0) 230 14 0) hW1, hS2, r_230_0 hx2.1, g3, b1_s, r_230_4 hx3.1, g4, b1_s, r_230_6 hx4.1, g5, b1_s, r_230_7 hx5.1, g6, b1_s]
    exact k1
  · obtain ⟨a1, a2, a3, a4, a5, a6⟩ := f2
    unfold FiC
    rw [e30]
    exact ⟨a1.trans e6, a2, a3, a4, a5, a6⟩
/-- the class plays so many deeds of a ball on a court -/
theorem playH {rs bo : Nat} (h : CF S o b) (hW : Wr S) (ho : o + 7 < 230) (hrs : S.1 o 5 = nI rs) (hr9 : rs ≤ 9) (hbo : bo + 1 < 230) (hR : Rw S bo 40 3) {dk dx dy : Nat → Int32} (hd : ∀ j, j < nr S bo → dkOk (dk j) ∧ S.1 (bo + 1) (3 * j + 0) = dk j ∧ S.1 (bo + 1) (3 * j + 1) = dx j ∧ S.1 (bo + 1) (3 * j + 2) = dy j) {n : Nat} (hn : n ≤ nr S bo) : ∃ S', f_X2_play 230 (some o) (some bo) (nI n) S = some (bi (decide ((playB (dmS S b rs) (nr S (o + 3)) (nr S (o + 1)) dk dx dy n 0 (bgS S b)).1 = n)), S') ∧ OfB S S' ∧ Hx S' o (nr S (o + 3)) (nr S (o + 1)) (dmS S b rs) ∧ HB S' (nr S (o + 3)) (nr S (o + 1)) (playB (dmS S b rs) (nr S (o + 3)) (nr S (o + 1)) dk dx dy n 0 (bgS S b)).2 ∧ S'.1 230 9 = nI (playB (dmS S b rs) (nr S (o + 3)) (nr S (o + 1)) dk dx dy n 0 (bgS S b)).1 ∧ BI (nr S (o + 3)) (nr S (o + 1)) rs (playB (dmS S b rs) (nr S (o + 3)) (nr S (o + 1)) dk dx dy n 0 (bgS S b)).2 ∧ (playB (dmS S b rs) (nr S (o + 3)) (nr S (o + 1)) dk dx dy n 0 (bgS S b)).1 ≤ n := by
  have hb40 : nr S bo ≤ 40 := hR.2.2.2.2.2.2.2.1
  obtain ⟨S1, g1, g2, g3, g4⟩ := beginH h hW ho hrs
  obtain ⟨a1, a2, a3, a4⟩ := g4
  have hx2 : Hx (sI S1 230 9 (nI 0)) o (nr S (o + 3)) (nr S (o + 1)) (dmS S b rs) := OfA.hx (a := 230) (b := 247) (of_I.ra (by decide) (by decide)) (by decide) g3
  have o2 : OfB S1 (sI S1 230 9 (nI 0)) := OfA.ob (of_I.ra (by decide) (by decide))
  have e : ∀ i, i ≠ 9 → (sI S1 230 9 (nI 0)).1 230 i = S1.1 230 i := fun i hi => by rw [sI_at, if_neg hi]
  have hB2 : HB (sI S1 230 9 (nI 0)) (nr S (o + 3)) (nr S (o + 1)) (bgS S b) := ⟨by
    unfold FiC
    rw [e 10 (by decide), e 11 (by decide), e 12 (by decide), e 13 (by decide), e 14 (by decide), e 15 (by decide)]
    exact a1, fun r hr => (a2 r hr).o (Or.inl (by decide)), fun r q hr => by rw [sI_o (by decide)]; exact a3 r q hr, fun l hl => (a4 l hl).o (Or.inl (by decide))⟩
  have o3 := g2.tr o2
  obtain ⟨S', k1, k2, k3, k4, k5, k6, k7⟩ := play32 (bo := bo) (nb := nr S bo) (dk := dk) (dx := dx) (dy := dy) hn hb40 (fun j hj => (hd j hj).1) hbo n 0 fu (sI S1 230 9 (nI 0)) (bgS S b) hx2 (h.bi0 hr9) hB2 ⟨o3.rw hbo hR, by unfold nr; rw [o3.2.2.2 _ (by omega)], fun j hj => by rw [o3.2.2.2 (bo + 1) (by omega)]; exact (hd j hj).2⟩ (by rw [sI_at, if_pos rfl]) (by omega) (by unfold fu; omega)
  refine ⟨S', ?_, o3.tr k2.ob, k3, k4, k5, k6, k7⟩
  unfold f_X2_play
  rw [nul_s, nul_s, if_neg (nI_pos (by omega)), xI_s hR.1, hR.2.2.2.2.2.2.1, if_pos (nI_le (by omega) (by omega)), k_230 hW, g1, b1_s, p_230 g3.1]
  exact k1
end BF
