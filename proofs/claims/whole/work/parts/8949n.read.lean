/-! texts: the end of a text's reading, both sides -/
/-- what the reference does behind the lines -/
def endM (x : Int32) (v7 : Int32) (S8 : GS) : Option (Int32 × GS) := (if v7 = 0 then (f_X12_readText_164 313 v7 S8) else (if x = 0 then (xI (some 313) 12 19 S8 fun v9 => (if v9 = 0 then (xI (some 313) 12 23 S8 fun v10 => (xR (some 313) 12 21 S8 fun v11 => (yI v11 14 0 S8 fun v12 => (if v12 ≤ v10 then (f_X12_readText_155 313 v7 S8) else (xR (some 313) 12 21 S8 fun v13 => (yI v13 14 6 S8 fun v14 => (xR (some 313) 12 21 S8 fun v15 => (yI v15 14 7 S8 fun v16 => (xR (some 313) 12 21 S8 fun v17 => (yI v17 14 8 S8 fun v18 => (if ((v14 + v16) + v18) = 0 then (f_X12_readText_155 313 v7 S8) else (f_X12_readText_164 313 v7 S8)))))))))))) else (f_X12_readText_164 313 v7 S8))) else (f_X12_readText_164 313 v7 S8)))
section MD
variable {α : Type} {L : Nat} {B : Nat → Nat} {S S' T T' S0 T0 : GS} {s e k f c o w m p q n d e0 v sl srt : Nat} {R : GS → GS → Prop} {V : (Nat → Int32) → Prop}
theorem fin_b (hS : Wr S) (hT : Wr T) (fs : FCx S0 S) (fm : FMx T0 T) (hs : srt < 6) (h11 : S.1 207 11 = 1) (h12 : S.1 207 12 = T.1 313 18) (hD : RwD S) : RdE srt R S0 T0 (f_X5_readAll_113 207 (nI srt) S) (endM (nI srt) 0 T) := by
  have hok : ¬ ok S := fun z => by
    unfold ok at z
    rw [h11] at z
    exact absurd z (by decide)
  have hC : f_X5_readAll_113 207 (nI srt) S = some S := by
    by_cases q : srt = 0
    · subst q
      obtain ⟨b, x, -⟩ := r113_0 hS hD
      rw [show f_X5_readAll_113 207 (nI 0) S = _ from x, r137 hS hok]
      split <;> rfl
    · exact r113 q hs
  refine ⟨S, 0, _, hC, ?_, fs, fm.y.tr fmy_w, hS, hT, hD, h11, h12, Or.inr ⟨rfl, hok⟩⟩
  unfold endM
  rw [if_pos rfl, e164_0 hT]
/-- no text was broken: faults that were noted, or none -/
theorem fin_g (h : TB L B S T) (hF : FA s S T) (hs : s ≤ 600) (fs : FCx S0 S) (fm : FMx T0 T) (hD : RwD S) (hR : R S T) (hX : ok S → srt = 0 → CX S T) : RdE srt R S0 T0 (some S) (f_X12_readText_164 313 1 T) := by
  rw [e164_1 h.2.1]
  refine ⟨S, _, _, rfl, rfl, fs, fm.y.tr fmy_w, h.1, h.2.1, hD, ?_, ?_, ?_⟩
  · show S.1 207 11 = T.1 313 19
    rcases hF with ⟨z1, z2, z3⟩ | ⟨f, p, z1, z2, z3, z4, z5, z6⟩
    · rw [z1, z2]
    · rw [z3, z5]
  · show S.1 207 12 = (if T.1 313 19 ≤ 0 then -1 else T.1 313 20)
    rcases hF with ⟨z1, z2, z3⟩ | ⟨f, p, z1, z2, z3, z4, z5, z6⟩
    · rw [z2, if_pos (by decide), z3]
    · rw [z5, if_neg (by rcases z1 with rfl | rfl <;> decide), z4, z6]
  · by_cases z : ok S
    · exact Or.inl ⟨by rw [if_pos ((FAv.z hF).mp z)], z, T, rfl, hR, fun y => hX z y⟩
    · exact Or.inr ⟨by rw [if_neg (fun y => z ((FAv.z hF).mpr y))], z⟩
theorem fin_n (h : TB L B S T) (hF : FA s S T) (hs : s ≤ 600) (fs : FCx S0 S) (fm : FMx T0 T) (hD : RwD S) (hR : R S T) (hn : srt ≠ 0) (hs6 : srt < 6) : RdE srt R S0 T0 (f_X5_readAll_113 207 (nI srt) S) (endM (nI srt) 1 T) := by
  rw [r113 hn hs6]
  unfold endM
  rw [if_neg n10, if_neg (show ¬ nI srt = 0 from fun z => hn ((nI_eq (b := 0) (by omega) (by decide)).mp z))]
  exact fin_g h hF hs fs fm hD hR (fun _ z => absurd z hn)
theorem fin_c (h : TB L B S T) (hk : Tk L B S T L L 0) (hF : FA L S T) (fs : FCx S0 S) (fm : FMx T0 T) (hR : GQ S T) : RdE 0 GQ S0 T0 (f_X5_readAll_113 207 (nI 0) S) (endM (nI 0) 1 T) := by
  have hL := h.2.2.1
  have hD := hR.1
  obtain ⟨b, x1, nR, nL, x2, x3, x4, x5, x6⟩ := r113_0 h.1 hD
  rw [show f_X5_readAll_113 207 (nI 0) S = _ from x1]
  unfold endM
  rw [if_neg n10, if_pos (show nI 0 = 0 from rfl), i_313 h.2.1]
  by_cases ho : ok S
  · have ho' : S.1 207 11 = 0 := ho
    have h19 : T.1 313 19 = 0 := (FAv.z hF).mp ho
    obtain ⟨-, ⟨n1, hR1⟩, ⟨n2, hR2, hf⟩, -, hs⟩ := id hR
    have e1 : n1 = nR := (nI_eq (by have := hR1.2.2.1; omega) (by omega)).mp (hR1.2.2.2.1.symm.trans x2)
    have e2 : n2 = nL := (nI_eq (by have := hR2.2.2.1; omega) (by omega)).mp (hR2.2.2.2.1.symm.trans x3)
    subst e1 e2
    have t0 := hR1.2.2.2.2.1
    have t1 := hR2.2.2.2.2.1
    obtain ⟨y1, y2⟩ := hR2.2.2.2.2.2 ho
    have room : ∀ k, k < n2 → S.1 213 (5 * k + 0) = T.1 325 (29 + 5 * k) := fun k hk => (y1 k hk 0 (by decide)).trans (by rw [Nat.add_zero])
    have hb := x6 (fun k hk => by
      obtain ⟨⟨r, r1, r2⟩, -⟩ := y2 k hk
      rw [nI_clamp (by decide)] at r2
      exact ⟨r, by omega, (y1 k hk 0 (by decide)).trans r1⟩)
    obtain ⟨⟨-, -, -, s6, s7, s8⟩, -⟩ := hs ho
    -- the reference sees the same
    have hfar : (nI n1 ≤ T.1 313 23) ↔ b = false := by
      rcases hf ho with ⟨z0, z1⟩ | ⟨z0, F, z1, z2, ⟨k, z3, z4⟩, z5⟩
      · rw [z1]
        have : b = true := hb.mpr (fun k hk => absurd hk (by omega))
        rw [this]
        have : ¬ nI n1 ≤ -1 := by
          rcases (show n1 = 0 ∨ n1 = 1 ∨ n1 = 2 ∨ n1 = 3 ∨ n1 = 4 by omega) with rfl | rfl | rfl | rfl | rfl <;> decide
        exact ⟨fun w => absurd w this, fun w => absurd w (by decide)⟩
      · rw [z2]
        constructor
        · intro w
          rw [Bool.eq_false_iff]
          intro u
          obtain ⟨r, r1, r2⟩ := hb.mp u k z3
          rw [room k z3, z4] at r2
          have := (nI_eq (by omega) (by omega)).mp r2
          have := (nI_leI (by omega) (by omega)).mp w
          omega
        · intro w
          by_cases u : n1 ≤ F
          · exact nI_le u (by omega)
          · have : b = true := hb.mpr (fun k hk => by
              obtain ⟨r, r1, r2⟩ := z5 k hk
              exact ⟨r, by omega, (room k hk).trans r2⟩)
            rw [this] at w
            exact absurd w (by decide)
    have h155 : f_X12_readText_155 313 1 T = f_X12_readText_164 313 1 (sI (sI T 313 19 4) 313 20 (nI L)) := by
      unfold f_X12_readText_155
      have := later_v (T := T) (s := L) h.2.1 (Or.inl ⟨rfl, h19, rfl⟩ : FAv L 0 (-1) T) hL 4
      rw [if_pos rfl] at this
      rw [i_313 h.2.1, hk.2.2.2.1, k_313 h.2.1, this, b1_s]
    have bad : RdE 0 GQ S0 T0 (f_X5_readAll_137 207 S) (f_X12_readText_155 313 1 T) := by
      have hW1 : Wr (sI (sI T 313 19 4) 313 20 (nI L)) := h.2.1
      have hC : f_X5_readAll_137 207 S = some (sI (sI S 207 11 4) 207 12 (nI L)) := by
        unfold f_X5_readAll_137
        rw [i_207 h.1, h.2.2.2.1, k_207 h.1, note_v h.1, if_pos ho', b1_s]
      have f1 : FU S (sI (sI S 207 11 4) 207 12 (nI L)) := (FU.I (by decide) (by decide)).tr (FU.I (by decide) (by decide))
      have f2 : FM T (sI (sI T 313 19 4) 313 20 (nI L)) := (FM.I (by omega)).tr (FM.I (by omega))
      rw [hC, h155, e164_1 hW1]
      refine ⟨_, _, _, rfl, rfl, fs.tr f1.x, (fm.tr f2.x).y.tr fmy_w, h.1, h.2.1, hD.at (fun o a b c => f1.at (by omega)), rfl, ?_, Or.inr ⟨?_, ?_⟩⟩
      · show nI L = (if (4 : Int32) ≤ 0 then -1 else nI L)
        rw [if_neg (by decide)]
      · rfl
      · show ¬ (4 : Int32) = 0
        decide
    rw [h19, if_pos rfl, i_313 h.2.1, r_313_21 h.2.1, show yI (some 325) 14 0 T _ = _ from y_325 (k := 0) h.2.1 (by decide), t0]
    by_cases z : b = false
    · rw [if_pos (Or.inl z), if_pos (hfar.mpr z)]
      exact bad
    · rw [if_neg (fun w => z (hfar.mp w)), r_313_21 h.2.1, show yI (some 325) 14 6 T _ = _ from y_325 (k := 6) h.2.1 (by decide), r_313_21 h.2.1, show yI (some 325) 14 7 T _ = _ from y_325 (k := 7) h.2.1 (by decide), r_313_21 h.2.1, show yI (some 325) 14 8 T _ = _ from y_325 (k := 8) h.2.1 (by decide), ← s6, ← s7, ← s8]
      by_cases y : S.1 216 0 + S.1 216 1 + S.1 216 2 = 0
      · rw [if_pos (Or.inr y), if_pos y]
        exact bad
      · rw [if_neg (fun w => by
          rcases w with w | w
          · exact z w
          · exact y w), if_neg y]
        have hbt : b = true := by
          cases b with
          | false => exact absurd rfl z
          | true => rfl
        refine fin_g h hF hL fs fm hD hR (fun _ _ => ⟨⟨n1, n2, by omega, by omega, t0, t1, fun k hk => ?_⟩, ?_⟩)
        · obtain ⟨r, r1, r2⟩ := hb.mp hbt k hk
          exact ⟨r, r1, (room k hk).symm.trans r2⟩
        · rw [← s6, ← s7, ← s8]
          exact y
  · have h19 : ¬ T.1 313 19 = 0 := fun z => ho ((FAv.z hF).mpr z)
    have hC : (if b = false ∨ S.1 216 0 + S.1 216 1 + S.1 216 2 = 0 then f_X5_readAll_137 207 S else some S) = some S := by
      rw [r137 h.1 ho]
      split <;> rfl
    rw [hC, if_neg h19]
    exact fin_g h hF hL fs fm hD hR (fun z => absurd z ho)
end MD
