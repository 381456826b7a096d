/-! the start meets the relation; the law's rounds from there -/
abbrev rz (o m w : Nat) : Prop := lkI IZ o 0 = nI m ∧ lkI IZ o 1 = nI w ∧ lkI IZ o 3 = 0
section MT
variable {S : GS} {o w m a p q j k : Nat} {V : (Nat → Int32) → Prop} {xs : Nat → Int32} {L : Nat}
theorem rows_z1 : ∀ j, j < 4 → ∀ k, k < 2 → rz (tO j + (9 + 21 * k) + 1) 4 2 ∧ rz (tO j + (9 + 21 * k) + 3) 8 5 ∧ rz (tO j + (9 + 21 * k) + 5) 6 2 := by decide +kernel
theorem rows_z2 : ∀ j, j < 4 → ∀ k, k < 2 → rz (tO j + (18 + 21 * k)) 20 3 ∧ rz (tO j + (20 + 21 * k)) 20 3 ∧ rz (tO j + (22 + 21 * k)) 40 3 := by decide +kernel
theorem rows_z3 : ∀ j, j < 4 → ∀ k, k < 2 → rz (tO j + (24 + 21 * k)) 16 1 ∧ rz (tO j + (26 + 21 * k)) 30 3 ∧ rz (tO j + (28 + 21 * k)) 10 2 := by decide +kernel
theorem cour_z : ∀ j, j < 4 → ∀ k, k < 2 → (lkI IZ (tO j + (9 + 21 * k)) 4 = 0 ∧ lkI IZ (tO j + (9 + 21 * k)) 5 = 0 ∧ lkI IZ (tO j + (9 + 21 * k)) 6 = 0) ∧ lkI IZ (tO j + (9 + 21 * k) + 7) 0 = 0 ∧ lkI IZ (tO j + (9 + 21 * k) + 7) 1 = 0 ∧ lkI IZ (tO j + (9 + 21 * k) + 7) 2 = 0 := by decide +kernel
theorem told_z : ∀ j, j < 4 → lkI IZ (tO j) 8 = 0 ∧ lkI IZ (tO j) 9 = 0 ∧ (∀ s, s < 6 → lkI IZ (tO j + 2) s = 0) ∧ (IZ.all fun e => !(Nat.beq e.1 (tO j + 1))) = true := by decide +kernel
theorem arr_z : ∀ a, a < 11 → a = 3 ∨ (IZ.all fun e => !(Nat.beq e.1 (314 + a))) = true := by decide +kernel
theorem oth_z : (IZ.all fun e => !(Nat.beq e.1 206)) = true ∧ (IZ.all fun e => !(Nat.beq e.1 342)) = true ∧ (IZ.all fun e => !(Nat.beq e.1 309)) = true ∧ lkI IZ 317 0 = -1 ∧ lkI IZ 1 10 = -1 := by decide +kernel
theorem rd_z : rz 210 4 2 ∧ rz 212 8 5 ∧ rz 214 6 2 ∧ rz 218 20 3 ∧ rz 220 20 3 ∧ rz 222 40 3 ∧ rz 224 16 1 ∧ rz 226 30 3 ∧ rz 228 10 2 := by decide +kernel
theorem arr0 (h1 : 314 ≤ a) (h2 : a < 325) (h3 : a ≠ 317) (i : Nat) : lkI IZ a i = 0 := by
  have := arr_z (a - 314) (by omega)
  rw [show 314 + (a - 314) = a by omega] at this
  exact lkI_no IZ a i (this.resolve_left (by omega))
theorem rwl_z (hS : ∀ o i, S.1 o i = lkI IZ o i) (h : rz o m w) (h1 : 314 ≤ a) (h2 : a < 325) (h3 : a ≠ 317) : RwL S o w m a p q V := ⟨by rw [hS]; exact h.1, by rw [hS]; exact h.2.1, 0, Nat.zero_le _, by rw [hS]; exact h.2.2, by rw [hS]; exact arr0 h1 h2 h3 p, fun k hk => absurd hk (Nat.not_lt_zero _), fun k hk => absurd hk (Nat.not_lt_zero _)⟩
theorem rwr_z (hS : ∀ o i, S.1 o i = lkI IZ o i) (h : rz o m w) : RwR S o w m := ⟨by rw [hS]; exact h.1, by rw [hS]; exact h.2.1, 0, Nat.zero_le _, by rw [hS]; exact h.2.2⟩
theorem rwk_z (hS : ∀ o i, S.1 o i = lkI IZ o i) (hj : j < 4) (hk : k < 2) : RwK S (tO j) j k := by
  obtain ⟨c1, c2, c3⟩ := rows_z1 j hj k hk
  obtain ⟨c4, c5, c6⟩ := rows_z2 j hj k hk
  obtain ⟨c7, c8, c9⟩ := rows_z3 j hj k hk
  obtain ⟨⟨d4, d5, d6⟩, d7, d8, d9⟩ := cour_z j hj k hk
  have z : ∀ i, lkI IZ 319 i = 0 := fun i => arr0 (by decide) (by decide) (by decide) i
  refine ⟨⟨rwl_z hS c1 (by decide) (by decide) (by decide), rwl_z hS c2 (by decide) (by decide) (by decide), rwl_z hS c3 (by decide) (by decide) (by decide), ?_, ?_, ?_, ?_, ?_, ?_⟩, ?_, rwl_z hS c4 (by decide) (by decide) (by decide), rwl_z hS c5 (by decide) (by decide) (by decide), rwl_z hS c6 (by decide) (by decide) (by decide), rwl_z hS c7 (by decide) (by decide) (by decide), rwl_z hS c8 (by decide) (by decide) (by decide), rwl_z hS c9 (by decide) (by decide) (by decide)⟩
  · rw [hS, hS, z, d4]
  · rw [hS, hS, z, d5]
  · rw [hS, hS, z, d6]
  · rw [hS, hS, z, d7]
  · rw [hS, hS, z, d8]
  · rw [hS, hS, z, d9]
  · rintro ⟨n, n1, n2, n3⟩
    rw [hS, arr0 (by decide) (by decide) (by decide)] at n1
    have : 0 = n := (nI_eq (a := 0) (by decide) (by omega)).mp n1
    omega
theorem inv_g (hW : Wr S) (hS : ∀ o i, S.1 o i = lkI IZ o i) : Inv S := by
  obtain ⟨o1, o2, o3, o4, o5⟩ := oth_z
  obtain ⟨r1, r2, r3, r4, r5, r6, r7, r8, r9⟩ := rd_z
  refine ⟨hW, fun j hj => ?_, ⟨fun k _ => ⟨?_, ?_⟩, ?_, fun i => ?_⟩, rwr_z hS r1, rwr_z hS r2, rwr_z hS r3, rwr_z hS r4, rwr_z hS r5, rwr_z hS r6, rwr_z hS r7, rwr_z hS r8, rwr_z hS r9⟩
  · obtain ⟨t1, t2, t3, t4⟩ := told_z j hj
    refine ⟨fun i _ => ?_, ⟨0, by decide, ?_, ?_⟩, ?_, ?_, fun s hs => ⟨0, by decide, ?_, ?_⟩, rwk_z hS hj (by decide), rwk_z hS hj (by decide)⟩
    · rw [hS, hS, lkI_no IZ _ i t4, arr0 (by decide) (by decide) (by decide)]
    · rw [hS]
      exact t1
    · rw [hS]
      exact arr0 (by decide) (by decide) (by decide) j
    · rw [hS, hS, t2, arr0 (by decide) (by decide) (by decide)]
    · by_cases z : j = 0
      · subst z
        rw [hS, hS, hS, o4]
        exact Or.inr o5
      · rw [hS, lkI_no IZ 206 _ o1]
        exact Or.inl ⟨z, rfl⟩
    · rw [hS]
      exact t3 s hs
    · rw [hS]
      exact arr0 (by decide) (by decide) (by decide) _
  · rw [hS, hS, lkI_no IZ 206 k o1, lkI_no IZ 342 k o2]
  · rw [hS, lkI_no IZ 206 k o1]
    exact ⟨0, by decide, by decide, rfl⟩
  · rw [hS]
    exact lkI_no IZ 309 0 o3
  · rw [hS, arr0 (by decide) (by decide) (by decide)]
    rfl
theorem inv_z : Inv (dec IZ JK RWz 343) := inv_g wr_Z (fun _ _ => rfl)
theorem S0_d : S0 = dec [] [] [] 0 := rfl
/-- the pure half -/
theorem pure_whole (hL : L ≤ 3072) (xs : Nat → Int32) : f_L_law L xs S0 = some () := by
  obtain ⟨g1, h1⟩ := mk11
  have h0 : Bd [] [] [] 0 := Bd.nil
  unfold f_L_law
  rw [S0_d, nw_d (n := 0) (c := 11) h0 (by decide) rfl, c1_d (o := 0) (c := 11) (by decide) rfl, g1, b1_s, nw_d (n := 313) (c := 12) h1 (by decide) rfl, c1_d (o := 313) (c := 12) (by decide) rfl, show f_X12_init 313 _ = _ from mk12 h1, b1_s]
  exact law_l (fun S a b h => both_text h a b) hL fu 0 (dec IZ JK RWz 343) inv_z (Nat.zero_le _) (by have : fu = 4096 := rfl; omega)
end MT
