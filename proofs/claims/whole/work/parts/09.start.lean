/-! the start: classes, arrays, texts, statics, out of the Statement's words -/
theorem zi_0 : ∀ w ∈ u_ws RX0 TX0 7, w ∈ lw_tbl := by decide +kernel
theorem zn_0 : Cond.instantiable RX0 7 ∈ lw_tbl := by decide +kernel
theorem zi_1 : ∀ w ∈ u_ws RX1 TX1 2, w ∈ lw_tbl := by decide +kernel
theorem zn_1 : Cond.instantiable RX1 2 ∈ lw_tbl := by decide +kernel
theorem zi_2 : ∀ w ∈ u_ws RX2 TX2 16, w ∈ lw_tbl := by decide +kernel
theorem zn_2 : Cond.instantiable RX2 16 ∈ lw_tbl := by decide +kernel
theorem zi_3 : ∀ w ∈ u_ws RX3 TX3 4, w ∈ lw_tbl := by decide +kernel
theorem zn_3 : Cond.instantiable RX3 4 ∈ lw_tbl := by decide +kernel
theorem zi_4 : ∀ w ∈ u_ws RX4 TX4 4, w ∈ lw_tbl := by decide +kernel
theorem zn_4 : Cond.instantiable RX4 4 ∈ lw_tbl := by decide +kernel
theorem zi_5 : ∀ w ∈ u_ws RX5 TX5 13, w ∈ lw_tbl := by decide +kernel
theorem zn_5 : Cond.instantiable RX5 13 ∈ lw_tbl := by decide +kernel
theorem zi_6 : ∀ w ∈ u_ws RX6 TX6 1, w ∈ lw_tbl := by decide +kernel
theorem zn_6 : Cond.instantiable RX6 1 ∈ lw_tbl := by decide +kernel
theorem zi_7 : ∀ w ∈ u_ws RX7 TX7 4, w ∈ lw_tbl := by decide +kernel
theorem zn_7 : Cond.instantiable RX7 4 ∈ lw_tbl := by decide +kernel
theorem zi_8 : ∀ w ∈ u_ws RX8 TX8 2, w ∈ lw_tbl := by decide +kernel
theorem zn_8 : Cond.instantiable RX8 2 ∈ lw_tbl := by decide +kernel
theorem zi_9 : ∀ w ∈ u_ws RX9 TX9 11, w ∈ lw_tbl := by decide +kernel
theorem zn_9 : Cond.instantiable RX9 11 ∈ lw_tbl := by decide +kernel
theorem zi_10 : ∀ w ∈ u_ws RX10 TX10 3, w ∈ lw_tbl := by decide +kernel
theorem zn_10 : Cond.instantiable RX10 3 ∈ lw_tbl := by decide +kernel
theorem zi_11 : ∀ w ∈ u_ws RX11 TX11 10, w ∈ lw_tbl := by decide +kernel
theorem zn_11 : Cond.instantiable RX11 10 ∈ lw_tbl := by decide +kernel
theorem zi_12 : ∀ w ∈ u_ws RX12 TX12 62, w ∈ lw_tbl := by decide +kernel
theorem zn_12 : Cond.instantiable RX12 62 ∈ lw_tbl := by decide +kernel
theorem z_cls {s : State} {v : Array Value} (hts : ∀ w ∈ lw_tbl, w.before v s = true) : ∃ D : va_G, ∀ (k : Nat) (q : vw_C), vwCl[k]? = some q → u_Kn s q.1 q.2.1 q.2.2 (D.1 k) (D.2 k) := by
  obtain ⟨c0, i0, h0⟩ := u_known (C := RX0) (T := TX0) (N := 7) (n := 7) hts zi_0 (hts _ zn_0)
  obtain ⟨c1, i1, h1⟩ := u_known (C := RX1) (T := TX1) (N := 2) (n := 2) hts zi_1 (hts _ zn_1)
  obtain ⟨c2, i2, h2⟩ := u_known (C := RX2) (T := TX2) (N := 16) (n := 16) hts zi_2 (hts _ zn_2)
  obtain ⟨c3, i3, h3⟩ := u_known (C := RX3) (T := TX3) (N := 4) (n := 4) hts zi_3 (hts _ zn_3)
  obtain ⟨c4, i4, h4⟩ := u_known (C := RX4) (T := TX4) (N := 4) (n := 4) hts zi_4 (hts _ zn_4)
  obtain ⟨c5, i5, h5⟩ := u_known (C := RX5) (T := TX5) (N := 13) (n := 13) hts zi_5 (hts _ zn_5)
  obtain ⟨c6, i6, h6⟩ := u_known (C := RX6) (T := TX6) (N := 1) (n := 1) hts zi_6 (hts _ zn_6)
  obtain ⟨c7, i7, h7⟩ := u_known (C := RX7) (T := TX7) (N := 4) (n := 4) hts zi_7 (hts _ zn_7)
  obtain ⟨c8, i8, h8⟩ := u_known (C := RX8) (T := TX8) (N := 2) (n := 2) hts zi_8 (hts _ zn_8)
  obtain ⟨c9, i9, h9⟩ := u_known (C := RX9) (T := TX9) (N := 11) (n := 11) hts zi_9 (hts _ zn_9)
  obtain ⟨c10, i10, h10⟩ := u_known (C := RX10) (T := TX10) (N := 3) (n := 3) hts zi_10 (hts _ zn_10)
  obtain ⟨c11, i11, h11⟩ := u_known (C := RX11) (T := TX11) (N := 10) (n := 10) hts zi_11 (hts _ zn_11)
  obtain ⟨c12, i12, h12⟩ := u_known (C := RX12) (T := TX12) (N := 62) (n := 62) hts zi_12 (hts _ zn_12)
  refine ⟨(fun k => if k = 0 then c0 else if k = 1 then c1 else if k = 2 then c2 else if k = 3 then c3 else if k = 4 then c4 else if k = 5 then c5 else if k = 6 then c6 else if k = 7 then c7 else if k = 8 then c8 else if k = 9 then c9 else if k = 10 then c10 else if k = 11 then c11 else c12, fun k => if k = 0 then i0 else if k = 1 then i1 else if k = 2 then i2 else if k = 3 then i3 else if k = 4 then i4 else if k = 5 then i5 else if k = 6 then i6 else if k = 7 then i7 else if k = 8 then i8 else if k = 9 then i9 else if k = 10 then i10 else if k = 11 then i11 else i12), ?_⟩
  intro k q hq
  match k, hq with
  | 0, hq => cases hq; exact h0
  | 1, hq => cases hq; exact h1
  | 2, hq => cases hq; exact h2
  | 3, hq => cases hq; exact h3
  | 4, hq => cases hq; exact h4
  | 5, hq => cases hq; exact h5
  | 6, hq => cases hq; exact h6
  | 7, hq => cases hq; exact h7
  | 8, hq => cases hq; exact h8
  | 9, hq => cases hq; exact h9
  | 10, hq => cases hq; exact h10
  | 11, hq => cases hq; exact h11
  | 12, hq => cases hq; exact h12
  | k + 13, hq => exact absurd hq (by rw [List.getElem?_eq_none (by show 13 ≤ k + 13; omega)]; exact fun z => nomatch z)
theorem z_arr {s : State} {v : Array Value} {ty : FieldType} (hno : ∀ C, ty ≠ .object C) (h : (Cond.arrayClass ty).before v s = true) : ∃ cA, ArrOfT s cA ty ∧ va_RA s cA ty := by
  obtain ⟨c, k, comp, h1, h2, h3⟩ := Cond.arrayClass_spec h
  refine ⟨c, fun n z => ⟨(fun k h => by cases h), k, h2, comp, h3⟩, ?_⟩
  cases ty with
  | object C => exact absurd rfl (hno C)
  | _ => exact h1
theorem z_obj {s : State} {v : Array Value} {C : String} (h : (Cond.arrayOver (.object C)).before v s = true) : ∃ cA, ArrOfT s cA (.object C) ∧ va_RA s cA (.object C) := by
  obtain ⟨comp, c, k, h1, h2, h3, h4, h5⟩ := Cond.arrayOver_spec h
  exact ⟨c, fun n z => ⟨(fun k h => by cases h), k, h3, comp, h4⟩, k, comp, h3, h4, h1, h5⟩
theorem z_aa {s : State} {v : Array Value} (h : (Cond.arrayOver (.array .int)).before v s = true) : ∃ cA, ArrOfT s cA (.array .int) ∧ va_RA s cA (.array .int) := by
  obtain ⟨comp, c, k, h1, h2, h3, h4⟩ := Cond.arrayOver_specA h
  exact ⟨c, fun n z => ⟨(fun k h => by cases h), k, h2, comp, h3⟩, h4⟩
theorem z_gty {s : State} {v : Array Value} (hts : ∀ w ∈ lw_tbl, w.before v s = true) : ∃ cy : Nat → ClassId, ∀ k, 13 ≤ k → k < 22 → ArrOfT s (cy k) (gaty k) ∧ va_RA s (cy k) (gaty k) := by
  obtain ⟨a13, h13⟩ := z_arr (ty := .byte) (fun C h => nomatch h) (hts _ (by decide +kernel))
  obtain ⟨a14, h14⟩ := z_arr (ty := .int) (fun C h => nomatch h) (hts _ (by decide +kernel))
  obtain ⟨a15, h15⟩ := z_arr (ty := .long) (fun C h => nomatch h) (hts _ (by decide +kernel))
  obtain ⟨a16, h16⟩ := z_arr (ty := .boolean) (fun C h => nomatch h) (hts _ (by decide +kernel))
  obtain ⟨a17, h17⟩ := z_obj (C := "GlassLaces$Court") (hts _ (by decide +kernel))
  obtain ⟨a18, h18⟩ := z_obj (C := "GlassLaces$Rows") (hts _ (by decide +kernel))
  obtain ⟨a19, h19⟩ := z_obj (C := "GlassLaces$Sight") (hts _ (by decide +kernel))
  obtain ⟨a20, h20⟩ := z_obj (C := "GlassLaces$Told") (hts _ (by decide +kernel))
  obtain ⟨a21, h21⟩ := z_aa (hts _ (by decide +kernel))
  refine ⟨fun k => if k = 13 then a13 else if k = 14 then a14 else if k = 15 then a15 else if k = 16 then a16 else if k = 17 then a17 else if k = 18 then a18 else if k = 19 then a19 else if k = 20 then a20 else a21, ?_⟩
  intro k h1 h2
  rcases (show k = 13 ∨ k = 14 ∨ k = 15 ∨ k = 16 ∨ k = 17 ∨ k = 18 ∨ k = 19 ∨ k = 20 ∨ k = 21 by omega) with rfl | rfl | rfl | rfl | rfl | rfl | rfl | rfl | rfl
  · exact h13
  · exact h14
  · exact h15
  · exact h16
  · exact h17
  · exact h18
  · exact h19
  · exact h20
  · exact h21
abbrev zT (i : Nat) : Term := .string "GlassLaces$Reader" (gSix.getD i 0)
def zne (c : Cond) : Bool := match c with
  | .not (.eq _ _) => true
  | _ => false
def zneL : List Cond := (List.range 21).flatMap fun j => (List.range j).map fun i => Cond.not (Cond.eq (zT i) (zT j))
theorem zne_ok : (flatC (Jvm.Cond.and given_1 narrow_1)).filter zne = zneL := by decide +kernel
theorem zne_in {i j : Nat} (h : i < j) (hj : j < gSN) : Cond.not (Cond.eq (zT i) (zT j)) ∈ flatC (Jvm.Cond.and given_1 narrow_1) := by
  have : Cond.not (Cond.eq (zT i) (zT j)) ∈ zneL := List.mem_flatMap.mpr ⟨j, List.mem_range.mpr hj, List.mem_map.mpr ⟨i, List.mem_range.mpr h, rfl⟩⟩
  rw [← zne_ok] at this
  exact (List.mem_filter.mp this).1
theorem z_str {s : State} {b : Nat} (hts : ∀ w ∈ lw_tbl, w.before #[Value.ref b] s = true) (hgv : (Jvm.Cond.and given_1 narrow_1).before #[Value.ref b] s = true) : ∃ sa sv : Nat → Nat, vk_S gSN gSlen gSbyt sa sv (fun q => s.heap.size ≤ q) s s.heap ∧ ∀ i, i < gSN → vk_R "GlassLaces$Reader" (gSix.getD i 0) (gStx.getD i "") (sa i) s := by
  have hs := flat_of_before _ hgv
  obtain ⟨sa, sv, h1, h2⟩ := vk_Sof (args := #[Value.ref b]) (s := s) (N := gSN) (tm := zT) (len := gSlen) (byt := gSbyt) (A := fun q => s.heap.size ≤ q) (by decide +kernel)
    (fun i hi => hs _ ((by decide +kernel : ∀ i, i < gSN → Cond.exactly (zT i) "java/lang/String" ∈ flatC (Jvm.Cond.and given_1 narrow_1)) i hi))
    (fun i hi => hs _ ((by decide +kernel : ∀ i, i < gSN → Cond.eq (.field (zT i) "java/lang/String" "coder" "B") (.int 0) ∈ flatC (Jvm.Cond.and given_1 narrow_1)) i hi))
    (fun i hi => hs _ ((by decide +kernel : ∀ i, i < gSN → Cond.arrayOf (.field (zT i) "java/lang/String" "value" "[B") .byte ∈ flatC (Jvm.Cond.and given_1 narrow_1)) i hi))
    (fun i hi => hs _ ((by decide +kernel : ∀ i, i < gSN → Cond.eq (.length (.field (zT i) "java/lang/String" "value" "[B")) (.int (Int32.ofNat (gSlen.getD i 0))) ∈ flatC (Jvm.Cond.and given_1 narrow_1)) i hi))
    (fun i hi j hj => hs _ ((by decide +kernel : ∀ i, i < gSN → ∀ j, j < gSlen.getD i 0 → Cond.eq (.elem (.field (zT i) "java/lang/String" "value" "[B") (.int (Int32.ofNat j))) (.int ((gSbyt.getD i []).getD j 0)) ∈ flatC (Jvm.Cond.and given_1 narrow_1)) i hi j hj))
    (fun i j hi hj hij => by
      rcases Nat.lt_or_gt_of_ne hij with q | q
      · exact Or.inl (hs _ (zne_in q hj))
      · exact Or.inr (hs _ (zne_in q hi))) (fun a h q => by omega)
  refine ⟨sa, sv, h1, fun i hi => vk_R.of (hts _ ((by decide +kernel : ∀ i, i < gSN → Cond.stringRef "GlassLaces$Reader" (gSix.getD i 0) (gStx.getD i "") ∈ lw_tbl) i hi)) (h2 i hi)⟩
/-- the start: all that the layer asks of the machine -/
theorem z_start {p : Program} {s : State} {m : MethodId} {meth : Method} {c : Code} {b L : Nat} {xs : Nat → Int32} (C0 : lw_At p s m meth c b L xs) : ∃ E : GE, E.1 = s.heap.size ∧ E.2.2.2.1 = s.heap ∧ E.2.2.2.2.2.2.2 = b ∧ gK E s := by
  obtain ⟨hx, hb, hr, hml, hown, hts, hX, hbl, hlocks, hgv⟩ := C0
  have hs := flat_of_before _ hgv
  obtain ⟨D, hD⟩ := z_cls hts
  obtain ⟨cy, hcy⟩ := z_gty hts
  obtain ⟨sa, sv, h1, h2⟩ := z_str hts hgv
  have hA : ∀ a : Nat, a < s.heap.size → ¬ (fun q => s.heap.size ≤ q) a := fun a h q => by
    have q : s.heap.size ≤ a := q
    omega
  have z1 : va_Z "java/lang/String" "COMPACT_STRINGS" "Z" (.int 1) (fun q => s.heap.size ≤ q) s s.heap := va_Zof (args := #[Value.ref b]) (hts _ (by decide +kernel)) (hts _ (by decide +kernel)) (va_eqi (hs _ (by decide +kernel))) hA
  have z2 : va_Zq "jdk/internal/util/Preconditions" "SIOOBE_FORMATTER" "Ljava/util/function/BiFunction;" (fun q => s.heap.size ≤ q) s s.heap := va_Zqof (args := #[Value.ref b]) (hts _ (by decide +kernel)) (hts _ (by decide +kernel)) (hs _ (by decide +kernel)) hA
  obtain ⟨v, fm, hv, hz⟩ : ∃ (v : Value) (fm : Nat), (v = .null ∨ v = .ref fm) ∧ va_Z "jdk/internal/util/Preconditions" "SIOOBE_FORMATTER" "Ljava/util/function/BiFunction;" v (fun q => s.heap.size ≤ q) s s.heap := by
    rcases z2 with h | ⟨t, h⟩
    · exact ⟨.null, 0, Or.inl rfl, h⟩
    · exact ⟨.ref t, t, Or.inr rfl, h⟩
  refine ⟨(s.heap.size, cy, D, s.heap, sa, sv, fm, b), rfl, rfl, rfl, ⟨hD, ?_⟩, ?_, ⟨h1, h2, z1, v, hz, hv⟩, rfl, fun C hC => va_AO.of (hts _ hC), ?_⟩
  · intro k q hq
    have hk : k < 9 := by
      have := (List.getElem?_eq_some_iff.mp hq).1
      simpa [gty] using this
    have e := gty_at (s.heap.size, cy, D, s.heap, sa, sv, fm, b) (k := 13 + k) (by omega) (by omega)
    rw [show 13 + k - 13 = k by omega] at e
    rw [e] at hq
    cases hq
    exact hcy (13 + k) (by omega) (by omega)
  · intro own ix y host hm
    exact va_Nw.of rfl (hts _ hm)
  · exact hts (Cond.arrayOver (.array .int)) (by decide +kernel)

/-- nothing is made yet -/
def S0 : GS := (fun _ _ => 0, fun _ _ => 0, fun _ _ => none, 0)
theorem z_gH {E : GE} (hz : E.2.2.2.1.size = E.1) : gH E S0 E.2.2.2.1 := ⟨by show E.2.2.2.1.size = E.1 + 0; omega, fun q _ => rfl, fun o h => absurd h (Nat.not_lt_zero o), fun o i _ => by show fits .byte (.int (0 : Int32)) = true; decide +kernel, Nat.zero_le _⟩
theorem whole_of {p : Program} {e : Env} {s : State} {m : MethodId} {below : List Frame} {meth : Method} {c : Code} (l : Launch) {b L : Nat} {xs : Nat → Int32} (C0 : lw_At p s m meth c b L xs)
    (hw : ∀ (Γ : GC) (E : GE) (nm : String), gOk Γ E code RL 4 room_1 ret nm → gX Γ E L xs → Go Γ E (gBL Γ) 4 (0, 0) 0 S0 [(0, vA (some 400000))] [] (f_L_law L xs S0))
    (hf : f_L_law L xs S0 = some ()) : W p l e room_1 s m #[Value.ref b] below meth c s.heap [] 0 0 (lw_Z below #[Value.ref b] s) (entryFrame m ([Value.ref b] : List Value).toArray 4) := by
  obtain ⟨E, e1, e2, e3, hK⟩ := z_start C0
  obtain ⟨hx, hb, hr, hml, hown, hts, hX, hbl, hlocks, hgv⟩ := C0
  have hO : gOk (p, l, e, room_1, s, m, #[Value.ref b], below, meth, c) E code RL 4 room_1 ret meth.name := ⟨hx, hb, hml, hown, fun w hw => hts w (gT_in hw), hK, hlocks, rfl, hr, rfl⟩
  have hXX : gX (p, l, e, room_1, s, m, #[Value.ref b], below, meth, c) E L xs := ⟨by rw [e2, e3]; exact hX, by rw [e1, e3]; exact hbl, e2.symm, by rw [e3], rfl⟩
  have hl := lv_entry ([.ref b]) (n := 4) (Nat.le_of_ble_eq_true rfl)
  rw [lg_entry_eq]
  generalize (lg_sl ([.ref b]) ++ List.replicate (4 - (lg_sl ([.ref b])).length) Slot.unset).toArray = ls at hl ⊢
  have hl : lv_has ls 4 [(0, .ref b)] := hl
  have hl2 : lv_has ls 4 (gcv E [(0, vA (some 400000))]) := by
    show lv_has ls 4 [(0, gr E (some 400000))]
    rw [gr_x, e3]
    exact hl
  have h := hw _ E meth.name hO hXX () hf s.heap [] ls (by rw [← e2]; exact z_gH (by rw [e2, e1])) (fun q hq => by cases hq) hl2
  exact h

