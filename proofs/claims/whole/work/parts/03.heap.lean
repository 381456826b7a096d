/-! the heap: fields and arrays -/
theorem gl_lt {E : GE} {S : GS} {H : Heap} {o : Nat} (h : gH E S H) (ho : o < S.2.2.2) : gl E o = E.1 + o := by
  have h5 := h.2.2.2.2
  unfold gl
  rw [if_pos (by omega)]
theorem gk_lt {S : GS} {o c : Nat} (h : gk S o = c) (hc : c < 99) : o < S.2.2.2 ∧ kd o = c := by
  unfold gk at h
  split at h
  · next q => exact ⟨q, h⟩
  · omega
theorem gH_at {E : GE} {S : GS} {H : Heap} {o : Nat} (h : gH E S H) (ho : o < S.2.2.2) : va_at E.2.2.1 vwCl (gl E o, gent E S o) H := by
  rw [gl_lt h ho]
  exact h.2.2.1 o ho
theorem gent_o {E : GE} {S : GS} {o c : Nat} (h : kd o = c) (hc : c < 13) : gent E S o = .inr (c, (gFl c).mapIdx (gfv E S o)) := by
  unfold gent
  rw [h, if_pos hc]
theorem gent_a {E : GE} {S : GS} {o c : Nat} (h : kd o = c) (hc : 13 ≤ c) : gent E S o = .inl (E.2.1 c, gcon E S o c) := by
  unfold gent
  rw [h, if_neg (by omega)]
theorem gH_obj {E : GE} {S : GS} {H : Heap} {o c : Nat} (h : gH E S H) (ho : gk S o = c) (hc : c < 13) : va_P E.2.2.1 vwCl [(gl E o, .inr (c, (gFl c).mapIdx (gfv E S o)))] H := by
  obtain ⟨h1, h2⟩ := gk_lt ho (by omega)
  intro k q hq
  have hk : k = 0 := by
    have := (List.getElem?_eq_some_iff.mp hq).1
    simp at this
    exact this
  subst hk
  cases hq
  have := gH_at h h1
  rw [gent_o h2 hc] at this
  exact this
theorem gH_arr {E : GE} {S : GS} {H : Heap} {o c : Nat} (h : gH E S H) (ho : gk S o = c) (hc : 13 ≤ c) (hc2 : c < 22) : H[gl E o]? = some (vp_cell (E.2.1 c) (gcon E S o c)) := by
  obtain ⟨h1, h2⟩ := gk_lt ho (by omega)
  have := gH_at h h1
  rw [gent_a h2 hc] at this
  exact this
theorem gFl_at {E : GE} {S : GS} {o c i t : Nat} (h : (gFl c)[i]? = some t) : ((gFl c).mapIdx (gfv E S o))[i]? = some (gfv E S o i t) := by
  rw [List.getElem?_mapIdx, h]
  rfl
/-- one object is written -/
theorem gH_set {E : GE} {S S' : GS} {H H1 : Heap} {o : Nat} (h : gH E S H) (ho : o < S.2.2.2) (hz : H1.size = H.size) (hq : ∀ q : Nat, q ≠ gl E o → H1[q]? = H[q]?) (ha : va_at E.2.2.1 vwCl (gl E o, gent E S' o) H1) (hn : S'.2.2.2 = S.2.2.2) (hx : ∀ o' : Nat, o' ≠ o → gent E S' o' = gent E S o') (hb : ∀ o' i : Nat, kd o' = 13 → fits .byte (.int (S'.1 o' i)) = true) : gH E S' H1 := by
  have hg := gl_lt h ho
  obtain ⟨h1, h2, h3, h4, h5⟩ := h
  refine ⟨by rw [hz, hn, h1], fun q hlt => ?_, fun o' ho' => ?_, hb, by rw [hn]; exact h5⟩
  · rw [hq q (by rw [hg]; omega)]
    exact h2 q hlt
  · rw [hn] at ho'
    by_cases e : o' = o
    · subst e
      rw [← hg]
      exact ha
    · rw [hx o' e]
      exact (h3 o' ho').kept (hq _ (by rw [hg]; show E.1 + o' ≠ E.1 + o; omega))
theorem gfv_I {E : GE} {S : GS} {o i : Nat} {v : Int32} {j t : Nat} : gfv E (sI S o i v) o j t = if j = i ∧ t = 0 then .int v else gfv E S o j t := by
  unfold gfv sI
  by_cases h0 : t = 0
  · subst h0
    by_cases hj : j = i <;> simp [hj]
  · simp [h0]
theorem gent_I {E : GE} {S : GS} {o i : Nat} {v : Int32} {o' : Nat} (h : o' ≠ o) : gent E (sI S o i v) o' = gent E S o' := by
  unfold gent gcon sI
  have e : gfv E ((fun o'' i' => if o'' = o ∧ i' = i then v else S.1 o'' i', S.2) : GS) o' = gfv E S o' := by
    funext j t
    unfold gfv
    simp [h]
  rw [e]
  have e2 : (fun i' => if o' = o ∧ i' = i then v else S.1 o' i') = S.1 o' := by
    funext j
    simp [h]
  simp [e2]
theorem gfv_J {E : GE} {S : GS} {o i : Nat} {v : Int64} {j t : Nat} : gfv E (sJ S o i v) o j t = if j = i ∧ t = 1 then .long v else gfv E S o j t := by
  unfold gfv sJ
  by_cases h0 : t = 1
  · subst h0
    by_cases hj : j = i <;> simp [hj]
  · simp [h0]
theorem gent_J {E : GE} {S : GS} {o i : Nat} {v : Int64} {o' : Nat} (h : o' ≠ o) : gent E (sJ S o i v) o' = gent E S o' := by
  unfold gent gcon sJ
  have e : gfv E ((S.1, fun o'' i' => if o'' = o ∧ i' = i then v else S.2.1 o'' i', S.2.2) : GS) o' = gfv E S o' := by
    funext j t
    unfold gfv
    simp [h]
  rw [e]
  have e2 : (fun i' => if o' = o ∧ i' = i then v else S.2.1 o' i') = S.2.1 o' := by
    funext j
    simp [h]
  simp [e2]
theorem gfv_R {E : GE} {S : GS} {o i : Nat} {v : Option Nat} {j t : Nat} (ht : 2 ≤ t) : gfv E (sR S o i v) o j t = if j = i then gr E v else gfv E S o j t := by
  unfold gfv sR
  have h0 : ¬ t = 0 := by omega
  have h1 : ¬ t = 1 := by omega
  by_cases hj : j = i <;> simp [hj, h0, h1]
theorem gfv_R' {E : GE} {S : GS} {o i : Nat} {v : Option Nat} {j t : Nat} (hj : j ≠ i) : gfv E (sR S o i v) o j t = gfv E S o j t := by
  unfold gfv sR
  simp [hj]
theorem gent_R {E : GE} {S : GS} {o i : Nat} {v : Option Nat} {o' : Nat} (h : o' ≠ o) : gent E (sR S o i v) o' = gent E S o' := by
  unfold gent gcon sR
  have e : gfv E ((S.1, S.2.1, fun o'' i' => if o'' = o ∧ i' = i then v else S.2.2.1 o'' i', S.2.2.2) : GS) o' = gfv E S o' := by
    funext j t
    unfold gfv
    simp [h]
  rw [e]
  have e2 : (fun i' => (if o' = o ∧ i' = i then v else S.2.2.1 o' i').map (gl E)) = (fun i' => (S.2.2.1 o' i').map (gl E)) := by
    funext j
    simp [h]
  simp [e2]
/-- a class: its place among the classes, its fields' rows -/
def gCl (c : Nat) (C : String) (T : u_T) (N : Nat) : Prop := c < 13 ∧ vwCl[c]? = some (C, T, N) ∧ (∀ w ∈ u_ws C T N, w ∈ gT) ∧ (gFl c).length = N ∧ (∀ a, a < N → ∀ b, b < N → a ≠ b → (T a).2.1 ≠ (T b).2.1) ∧ (∃ ty : Nat → FieldType, ∀ k, k < N → parseFieldDescriptor (T k).2.2.1 = some (ty k))
section GO2
variable {α : Type} {Γ : GC} {E : GE} {B : α → State → Prop} {nL : Nat} {kn : Nat × Nat} {pc pc' : Nat} {S : GS} {lv lv' : List (Nat × AV)} {st : List AV} {res : Option α} {cc : ByteArray} {own nm : String} {rm : Room} {ret : Option FieldType}
theorem g_getI (hO : gOk Γ E cc own nL rm ret nm) {c N ix : Nat} {C : String} {T : u_T} (hC : gCl c C T N) (i : Nat) (hi : (gFl c)[i]? = some 0) (hw : Cond.fieldLink own ix (T i).1 (T i).2.1 (T i).2.2.1 ∈ gT) {r : Option Nat} {g : Int32 → Option α} (hd : gD cc pc (.getfield ix) 3 pc') (k : ∀ v, Go Γ E B nL kn pc' S lv (vI v :: st) (g v)) : Go Γ E B nL kn pc S lv (vA r :: st) (rn r c S fun o => g (S.1 o i)) := by
  obtain ⟨hd, rfl⟩ := hd
  intro a ha H locs ls hH hlo hls
  cases r with
  | none => cases ha
  | some o =>
    unfold rn at ha
    simp only at ha
    split at ha
    · next hk =>
      have hN : i < N := hC.2.2.2.1 ▸ (List.getElem?_eq_some_iff.mp hi).1
      exact va_get (D := E.2.2.1) (ci := c) (v := .int (S.1 o i)) (C := C) (T := T) (N := N) (ref := (T i).1) hO.1 hO.2.1 hO.2.2.2.2.1 hC.2.2.1 hO.2.2.2.1 hO.2.2.2.2.2.1.1 (gH_obj hH hk hC.1) 0 rfl hC.2.1 i hN (hO.2.2.2.2.1 _ hw) (fun _ h9 => h9) ((gFl_at hi).trans rfl) hd (k _ a ha H locs ls hH hlo hls)
    · cases ha
theorem g_getJ (hO : gOk Γ E cc own nL rm ret nm) {c N ix : Nat} {C : String} {T : u_T} (hC : gCl c C T N) (i : Nat) (hi : (gFl c)[i]? = some 1) (hw : Cond.fieldLink own ix (T i).1 (T i).2.1 (T i).2.2.1 ∈ gT) {r : Option Nat} {g : Int64 → Option α} (hd : gD cc pc (.getfield ix) 3 pc') (k : ∀ v, Go Γ E B nL kn pc' S lv (vJ v :: st) (g v)) : Go Γ E B nL kn pc S lv (vA r :: st) (rn r c S fun o => g (S.2.1 o i)) := by
  obtain ⟨hd, rfl⟩ := hd
  intro a ha H locs ls hH hlo hls
  cases r with
  | none => cases ha
  | some o =>
    unfold rn at ha
    simp only at ha
    split at ha
    · next hk =>
      have hN : i < N := hC.2.2.2.1 ▸ (List.getElem?_eq_some_iff.mp hi).1
      exact va_get (D := E.2.2.1) (ci := c) (v := .long (S.2.1 o i)) (C := C) (T := T) (N := N) (ref := (T i).1) hO.1 hO.2.1 hO.2.2.2.2.1 hC.2.2.1 hO.2.2.2.1 hO.2.2.2.2.2.1.1 (gH_obj hH hk hC.1) 0 rfl hC.2.1 i hN (hO.2.2.2.2.1 _ hw) (fun _ h9 => h9) ((gFl_at hi).trans rfl) hd (k _ a ha H locs ls hH hlo hls)
    · cases ha
theorem g_getR (hO : gOk Γ E cc own nL rm ret nm) {c N ix : Nat} {C : String} {T : u_T} (hC : gCl c C T N) (i : Nat) (hi : (gFl c)[i]? = some 2) (hw : Cond.fieldLink own ix (T i).1 (T i).2.1 (T i).2.2.1 ∈ gT) {r : Option Nat} {g : Option Nat → Option α} (hd : gD cc pc (.getfield ix) 3 pc') (k : ∀ v, Go Γ E B nL kn pc' S lv (vA v :: st) (g v)) : Go Γ E B nL kn pc S lv (vA r :: st) (rn r c S fun o => g (S.2.2.1 o i)) := by
  obtain ⟨hd, rfl⟩ := hd
  intro a ha H locs ls hH hlo hls
  cases r with
  | none => cases ha
  | some o =>
    unfold rn at ha
    simp only at ha
    split at ha
    · next hk =>
      have hN : i < N := hC.2.2.2.1 ▸ (List.getElem?_eq_some_iff.mp hi).1
      exact va_get (D := E.2.2.1) (ci := c) (v := gr E (S.2.2.1 o i)) (C := C) (T := T) (N := N) (ref := (T i).1) hO.1 hO.2.1 hO.2.2.2.2.1 hC.2.2.1 hO.2.2.2.1 hO.2.2.2.2.2.1.1 (gH_obj hH hk hC.1) 0 rfl hC.2.1 i hN (hO.2.2.2.2.1 _ hw) (fun _ h9 => h9) ((gFl_at hi).trans rfl) hd (k _ a ha H locs ls hH hlo hls)
    · cases ha
/-- a field is written: not final, or in its own constructor -/
theorem g_putW (hO : gOk Γ E cc own nL rm ret nm) {c N ix : Nat} {C : String} {T : u_T} (hC : gCl c C T N) (i : Nat) (hi : i < N) (hw : Cond.fieldLink own ix (T i).1 (T i).2.1 (T i).2.2.1 ∈ gT) (hf : (T i).2.2.2 = false ∨ ((T i).2.2.2 = true ∧ nm = "<init>" ∧ (T i).1 = own)) {o : Nat} {H : Heap} {locs : List Loc} {ls : Array Slot} {Q : State → Prop} {v : Value} {ty : FieldType} (ht : parseFieldDescriptor (T i).2.2.1 = some ty) (hn : narrow ty v = v) (hv : fits ty v = true) (hH : gH E S H) (hlo : ∀ q ∈ locs, E.1 ≤ q.base) (hk : gk S o = c) (hd : decode cc pc = .ok (.putfield ix, 3)) {S' : GS} (hS : S'.2.2.2 = S.2.2.2) (hx : ∀ o' : Nat, o' ≠ o → gent E S' o' = gent E S o') (hb : ∀ o' i : Nat, kd o' = 13 → fits .byte (.int (S'.1 o' i)) = true)
    (he : ∀ j, j < N → vp_V ((gFl c).mapIdx (gfv E S' o)) j = updV (vp_V ((gFl c).mapIdx (gfv E S o))) i v j) {rest : List Value}
    (kk : ∀ (H1 : Heap) (locs1 : List Loc), gH E S' H1 → (∀ q ∈ locs1, E.1 ≤ q.base) → gW Γ H1 locs1 kn.1 kn.2 Q (F0 Γ.2.2.2.2.2.1 (pc + 3) ls rest)) : gW Γ H locs kn.1 kn.2 Q (F0 Γ.2.2.2.2.2.1 pc ls (v :: .ref (gl E o) :: rest)) := by
  obtain ⟨hx1, hb1, -, hown, hts, ⟨hK, -⟩, -, -, -, hnm⟩ := hO
  obtain ⟨hc13, hc, hin, hlen, hnm2, ty0, hty⟩ := hC
  have hap := va_apart (own := own) hts hin ty0 hty hnm2 hK hc
  have hlt := (gk_lt hk (by omega)).1
  obtain ⟨r, h1, cell, q1, q2, q3, q4⟩ := gH_obj hH hk hc13 0 _ rfl
  have hr : r = (C, T, N) := Option.some.inj (h1.symm.trans hc)
  subst hr
  obtain ⟨hS4, hfc, kC, hkC, hkind⟩ := hK.1 c _ hc
  obtain ⟨cf, kf, fi, f, hi5, hsl⟩ := hS4 i hi
  have hlay := hts _ (hin _ (u_in_lay hi))
  unfold u_lay at hlay
  have hst := (u_facts hfc hkC (u_lays hts hin hi) hi5).1
  have go : ∀ H1 : Heap, H1[gl E o]? = some (cell.setSlot f.slot v) → H1.size = H.size → (∀ q : Nat, q ≠ gl E o → H1[q]? = H[q]?) → gH E S' H1 := fun H1 e1 e2 e3 => by
    refine gH_set hH hlt e2 e3 ?_ hS hx hb
    rw [gent_o (gk_lt hk (by omega)).2 hc13]
    refine ⟨_, hc, ?_⟩
    rw [hsl] at e1
    exact t_OB.to (V := updV (vp_V ((gFl c).mapIdx (gfv E S o))) i v) ⟨_, e1, q2, q3, t_set q4 hap hi v⟩ (fun j hj => (he j hj).symm)
  have hlo' : ∀ q ∈ locs ++ [⟨gl E o, f.slot⟩], E.1 ≤ q.base := fun q hq => by
    rcases List.mem_append.mp hq with h | h
    · exact hlo q h
    · rw [List.mem_singleton.mp h]
      show E.1 ≤ gl E o
      rw [gl_lt hH hlt]
      omega
  rcases hf with hf | ⟨hf, hini, hdecl⟩
  · rw [if_neg (by rw [hf]; decide)] at hlay
    have h6 := u_store hfc hkC hkind hlay hi5 ht hn hv
    refine W.putK hx1 hb1 (f := f) ⟨hown, hts _ hw, ⟨_, _, _, hi5⟩, hst⟩ (by rw [q2]; exact h6) q1 q3 (by rw [hsl]; exact k2_hasslot (q4 i hi)) rfl rfl hd fun H' e1 e2 e3 => ?_
    exact kk H' _ (go H' e1 e2 e3) hlo'
  · rw [if_pos hf] at hlay
    have hcf : Γ.2.2.2.2.2.1.cls = cf := by
      obtain ⟨_, _, c', _, _, _, -, -, hf', -, -, -, hown2, -⟩ := Cond.laysFinal_spec hlay
      have e1 : c' = cf := by have := hi5.symm.trans hf'; simp at this; exact this.1.symm
      rw [hdecl] at hown2
      rw [← e1]; exact Option.some.inj (hown.symm.trans hown2)
    have h6 := u_fits hfc hkC hkind (Or.inr hlay) hi5 ht hn hv
    refine W.putFinK hx1 hb1 hown (hts _ hw) hi5 hst hcf (by rw [hnm]; exact hini) (by rw [q2]; exact h6) q1 q3 (by rw [hsl]; exact k2_hasslot (q4 i hi)) rfl rfl hd fun H' e1 e2 e3 => ?_
    exact kk H' _ (go H' e1 e2 e3) hlo'
theorem g_upd {E : GE} {S S' : GS} {c i o t : Nat} {v : Value} (hi : (gFl c)[i]? = some t) (h0 : gfv E S' o i t = v) (h1 : ∀ j t', j ≠ i → gfv E S' o j t' = gfv E S o j t') (j : Nat) : vp_V ((gFl c).mapIdx (gfv E S' o)) j = updV (vp_V ((gFl c).mapIdx (gfv E S o))) i v j := by
  unfold updV vp_V
  by_cases e : j = i
  · subst e
    rw [if_pos rfl, List.getD_eq_getElem?_getD, gFl_at hi, h0]
    rfl
  · rw [if_neg e, List.getD_eq_getElem?_getD, List.getD_eq_getElem?_getD, List.getElem?_mapIdx, List.getElem?_mapIdx]
    cases hq : (gFl c)[j]? with
    | none => rfl
    | some t' =>
      show gfv E S' o j t' = gfv E S o j t'
      exact h1 j t' e
theorem fits_b {E : GE} {S : GS} {o i : Nat} {v : Int32} (h : ∀ o' i : Nat, kd o' = 13 → fits .byte (.int (S.1 o' i)) = true) (ho : kd o ≠ 13 ∨ fits .byte (.int v) = true) : ∀ o' i' : Nat, kd o' = 13 → fits .byte (.int ((sI S o i v).1 o' i')) = true := by
  intro o' i' h13
  unfold sI
  show fits .byte (.int (if o' = o ∧ i' = i then v else S.1 o' i')) = true
  split
  · next q =>
    rcases ho with ho | ho
    · exact absurd (q.1 ▸ h13) ho
    · exact ho
  · exact h o' i' h13
theorem g_putI (hO : gOk Γ E cc own nL rm ret nm) {c N ix : Nat} {C : String} {T : u_T} (hC : gCl c C T N) (i : Nat) (hi : (gFl c)[i]? = some 0) (hT : (T i).2.2.1 = "I") (hw : Cond.fieldLink own ix (T i).1 (T i).2.1 (T i).2.2.1 ∈ gT) (hf : (T i).2.2.2 = false ∨ ((T i).2.2.2 = true ∧ nm = "<init>" ∧ (T i).1 = own)) {r : Option Nat} {v : Int32} {g : GS → Option α} (hd : gD cc pc (.putfield ix) 3 pc') (k : ∀ S', Go Γ E B nL kn pc' S' lv st (g S')) : Go Γ E B nL kn pc S lv (vI v :: vA r :: st) (rn r c S fun o => g (sI S o i v)) := by
  obtain ⟨hd, rfl⟩ := hd
  intro a ha H locs ls hH hlo hls
  cases r with
  | none => cases ha
  | some o =>
    unfold rn at ha
    simp only at ha
    split at ha
    · next hk =>
      have hN : i < N := hC.2.2.2.1 ▸ (List.getElem?_eq_some_iff.mp hi).1
      have hk13 : kd o ≠ 13 := by
        have := (gk_lt hk (by have := hC.1; omega)).2
        have := hC.1
        omega
      refine g_putW (S' := sI S o i v) (ty := .int) hO hC i hN hw hf (by rw [hT]; decide +kernel) rfl rfl hH hlo hk hd rfl (fun o' h => gent_I h) (fits_b (E := E) hH.2.2.2.1 (Or.inl hk13)) (fun j _ => g_upd hi (by rw [gfv_I, if_pos ⟨rfl, rfl⟩]; rfl) (fun j t' h => by rw [gfv_I, if_neg (fun q => h q.1)]) j) fun H1 locs1 hH1 hlo1 => k _ a ha H1 locs1 ls hH1 hlo1 hls
    · cases ha
theorem g_putJ (hO : gOk Γ E cc own nL rm ret nm) {c N ix : Nat} {C : String} {T : u_T} (hC : gCl c C T N) (i : Nat) (hi : (gFl c)[i]? = some 1) (hT : (T i).2.2.1 = "J") (hw : Cond.fieldLink own ix (T i).1 (T i).2.1 (T i).2.2.1 ∈ gT) (hf : (T i).2.2.2 = false ∨ ((T i).2.2.2 = true ∧ nm = "<init>" ∧ (T i).1 = own)) {r : Option Nat} {v : Int64} {g : GS → Option α} (hd : gD cc pc (.putfield ix) 3 pc') (k : ∀ S', Go Γ E B nL kn pc' S' lv st (g S')) : Go Γ E B nL kn pc S lv (vJ v :: vA r :: st) (rn r c S fun o => g (sJ S o i v)) := by
  obtain ⟨hd, rfl⟩ := hd
  intro a ha H locs ls hH hlo hls
  cases r with
  | none => cases ha
  | some o =>
    unfold rn at ha
    simp only at ha
    split at ha
    · next hk =>
      have hN : i < N := hC.2.2.2.1 ▸ (List.getElem?_eq_some_iff.mp hi).1
      refine g_putW (S' := sJ S o i v) (ty := .long) hO hC i hN hw hf (by rw [hT]; decide +kernel) rfl rfl hH hlo hk hd rfl (fun o' h => gent_J h) hH.2.2.2.1 (fun j _ => g_upd hi (by rw [gfv_J, if_pos ⟨rfl, rfl⟩]; rfl) (fun j t' h => by rw [gfv_J, if_neg (fun q => h q.1)]) j) fun H1 locs1 hH1 hlo1 => k _ a ha H1 locs1 ls hH1 hlo1 hls
    · cases ha
theorem gr_fits {E : GE} {v : Option Nat} {ty : FieldType} (h : (∃ n, ty = .object n) ∨ ∃ t, ty = .array t) : narrow ty (gr E v) = gr E v ∧ fits ty (gr E v) = true := by
  rcases h with ⟨n, rfl⟩ | ⟨t, rfl⟩ <;> cases v <;> exact ⟨rfl, rfl⟩
theorem g_putR (hO : gOk Γ E cc own nL rm ret nm) {c N ix : Nat} {C : String} {T : u_T} (hC : gCl c C T N) (i : Nat) (hi : (gFl c)[i]? = some 2) {ty : FieldType} (hT : parseFieldDescriptor (T i).2.2.1 = some ty) (hty : (∃ n, ty = .object n) ∨ ∃ t, ty = .array t) (hw : Cond.fieldLink own ix (T i).1 (T i).2.1 (T i).2.2.1 ∈ gT) (hf : (T i).2.2.2 = false ∨ ((T i).2.2.2 = true ∧ nm = "<init>" ∧ (T i).1 = own)) {r : Option Nat} {v : Option Nat} {g : GS → Option α} (hd : gD cc pc (.putfield ix) 3 pc') (k : ∀ S', Go Γ E B nL kn pc' S' lv st (g S')) : Go Γ E B nL kn pc S lv (vA v :: vA r :: st) (rn r c S fun o => g (sR S o i v)) := by
  obtain ⟨hd, rfl⟩ := hd
  intro a ha H locs ls hH hlo hls
  cases r with
  | none => cases ha
  | some o =>
    unfold rn at ha
    simp only at ha
    split at ha
    · next hk =>
      have hN : i < N := hC.2.2.2.1 ▸ (List.getElem?_eq_some_iff.mp hi).1
      obtain ⟨n1, n2⟩ := gr_fits (E := E) (v := v) hty
      refine g_putW (S' := sR S o i v) hO hC i hN hw hf hT n1 n2 hH hlo hk hd rfl (fun o' h => gent_R h) hH.2.2.2.1 (fun j _ => g_upd hi (by rw [gfv_R (by omega), if_pos rfl]) (fun j t' h => gfv_R' h) j) fun H1 locs1 hH1 hlo1 => k _ a ha H1 locs1 ls hH1 hlo1 hls
    · cases ha
end GO2
