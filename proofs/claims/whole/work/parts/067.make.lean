/-! making objects and arrays -/
def gdv (t : Nat) : Value := if t = 0 then .int 0 else if t = 1 then .long 0 else .null
theorem ln_le (o : Nat) : ln o ≤ 2400 := by
  unfold ln
  by_cases h : o < gLnL.length
  · have := (show ∀ x ∈ gLnL, x ≤ 2400 by decide +kernel) (gLnL.getD o 0) (by rw [List.getD_eq_getElem?_getD, List.getElem?_eq_getElem h]; exact List.getElem_mem h)
    exact this
  · rw [List.getD_eq_getElem?_getD, List.getElem?_eq_none (by omega)]
    exact Nat.zero_le _
theorem gent_N {E : GE} {S : GS} {o : Nat} (h : o ≠ S.2.2.2) : gent E (sN S) o = gent E S o := by
  have e1 : (sN S).1 o = S.1 o := by funext i; unfold sN; simp [h]
  have e2 : (sN S).2.1 o = S.2.1 o := by funext i; unfold sN; simp [h]
  have e3 : (sN S).2.2.1 o = S.2.2.1 o := by funext i; unfold sN; simp [h]
  unfold gent gcon
  have e : gfv E (sN S) o = gfv E S o := by
    funext j t
    unfold gfv
    rw [e1, e2, e3]
  rw [e, e1, e2, e3]
theorem gfv_N {E : GE} {S : GS} {i t : Nat} : gfv E (sN S) S.2.2.2 i t = gdv t := by
  unfold gfv gdv sN
  simp [gr, va_rf]
/-- one object more -/
theorem gH_new {E : GE} {S : GS} {H H1 : Heap} (h : gH E S H) (hz : H1.size = H.size + 1) (hq : ∀ q : Nat, q < H.size → H1[q]? = H[q]?) (ha : va_at E.2.2.1 vwCl (H.size, gent E (sN S) S.2.2.2) H1) (hn : S.2.2.2 < 99999) : gH E (sN S) H1 := by
  obtain ⟨h1, h2, h3, h4, h5⟩ := h
  refine ⟨by rw [hz, h1]; rfl, fun q hlt => ?_, fun o ho => ?_, fun o i h13 => ?_, by show S.2.2.2 + 1 ≤ 100000; omega⟩
  · rw [hq q (by omega)]
    exact h2 q hlt
  · have ho' : o < S.2.2.2 + 1 := ho
    by_cases e : o = S.2.2.2
    · subst e
      rw [← h1]
      exact ha
    · rw [gent_N e]
      exact (h3 o (by omega)).kept (hq _ (by show E.1 + o < H.size; omega))
  · unfold sN
    show fits .byte (.int (if o = S.2.2.2 then 0 else S.1 o i)) = true
    split
    · rfl
    · exact h4 o i h13
theorem gl_new {E : GE} {S : GS} {H : Heap} (h : gH E S H) (hn : S.2.2.2 < 99999) : gl E S.2.2.2 = H.size := by
  unfold gl
  rw [if_pos (by omega), h.1]
def nw {α : Type} (c : Nat) (S : GS) (g : Option Nat → GS → Option α) : Option α := if S.2.2.2 < 99999 ∧ kd S.2.2.2 = c then g (some S.2.2.2) (sN S) else none
def na {α : Type} (c : Nat) (j : Int32) (S : GS) (g : Option Nat → GS → Option α) : Option α := if S.2.2.2 < 99999 ∧ kd S.2.2.2 = c ∧ ¬ j < 0 ∧ j.toNatClampNeg = ln S.2.2.2 then g (some S.2.2.2) (sN S) else none
def sM (S : GS) (m : Nat) : GS := (fun o i => if S.2.2.2 ≤ o then 0 else S.1 o i, fun o i => if S.2.2.2 ≤ o then 0 else S.2.1 o i, fun o i => if o = S.2.2.2 then (if i < m then some (S.2.2.2 + 1 + i) else none) else if S.2.2.2 ≤ o then none else S.2.2.1 o i, S.2.2.2 + 1 + m)
def nm2 {α : Type} (j k : Int32) (S : GS) (g : Option Nat → GS → Option α) : Option α := if S.2.2.2 + 1 + j.toNatClampNeg < 99999 ∧ kd S.2.2.2 = 21 ∧ ln S.2.2.2 = j.toNatClampNeg ∧ (List.range j.toNatClampNeg).all (fun i => kd (S.2.2.2 + 1 + i) == 14 && ln (S.2.2.2 + 1 + i) == k.toNatClampNeg) = true then g (some S.2.2.2) (sM S j.toNatClampNeg) else none
def qR {α : Type} (r : Option Nat) (c : Nat) (j : Int32) (v : Option Nat) (cw : Nat) (S : GS) (g : GS → Option α) : Option α := rn r c S fun o => ix j (ln o) fun i => rn v cw S fun w => g (sR S o i (some w))
section GO8
variable {α β : Type} {Γ : GC} {E : GE} {B : α → State → Prop} {nL : Nat} {kn kn' : Nat × Nat} {pc pc' : Nat} {S : GS} {lv lv' : List (Nat × AV)} {st : List AV} {res : Option α} {cc : ByteArray} {own nm : String} {rm rm' : Room} {ret ret' : Option FieldType}
theorem h_new (hO : gOk Γ E cc own nL rm ret nm) {c N ix : Nat} {C : String} {T : u_T} (hC : gCl c C T N) (ty : Nat → FieldType) (hty : ∀ k, k < N → parseFieldDescriptor (T k).2.2.1 = some (ty k)) (hdv : ∀ j, j < N → defaultValue (ty j) = gdv ((gFl c).getD j 9)) (w1 : Cond.classLink own ix C ∈ gT) (w2 : Cond.instantiable C N ∈ gT) (w3 : Cond.initialized C ∈ gT) (hkn : (kn.1 + 1, kn.2 + N) = kn') (hR : kn'.1 ≤ rm.cells ∧ kn'.2 ≤ rm.slots) {g : Option Nat → GS → Option α} (hd : gD cc pc (.new ix) 3 pc') (k : ∀ v S1, Go Γ E B nL kn' pc' S1 lv (vA v :: st) (g v S1)) : Go Γ E B nL kn pc S lv st (nw c S g) := by
  obtain ⟨hd, rfl⟩ := hd
  subst hkn
  intro a ha H locs ls hH hlo hls
  unfold nw at ha
  split at ha
  · next h =>
    obtain ⟨hn, hk⟩ := h
    have hKn := hO.2.2.2.2.2.1.1.1 c _ hC.2.1
    have hts := hO.2.2.2.2.1
    refine W.newcK hO.1 hO.2.1 hO.2.2.2.1 (hts _ w1) (hts _ w2) (hts _ w3) rfl hd (by rw [hO.2.2.2.2.2.2.2.1]; exact hR.1) (by rw [hO.2.2.2.2.2.2.2.1]; exact hR.2) hKn.2.1 (gl_new hH hn).symm fun H1 kC hkC e1 z1 o1 => ?_
    rw [gl_new hH hn] at e1 z1 o1
    refine k _ _ a ha H1 locs ls (gH_new hH z1 o1 ?_ hn) hlo hls
    rw [gent_o hk hC.1]
    refine ⟨_, hC.2.1, (u_born ty hts hC.2.2.1 hKn hkC e1 hty).to fun j hj => ?_⟩
    rw [hdv j hj]
    unfold vp_V
    show _ = ((gFl c).mapIdx (gfv E (sN S) S.2.2.2)).getD j .null
    rw [List.getD_eq_getElem?_getD (l := (gFl c).mapIdx (gfv E (sN S) S.2.2.2)), List.getElem?_mapIdx]
    have hj2 : j < (gFl c).length := by rw [hC.2.2.2.1]; exact hj
    rw [List.getD_eq_getElem?_getD, List.getElem?_eq_getElem hj2]
    exact (gfv_N).symm
  · cases ha
theorem g_newA {E : GE} {S : GS} {H H1 : Heap} {c : Nat} (hH : gH E S H) (hn : S.2.2.2 < 99999) (hk : kd S.2.2.2 = c) (h1 : 13 ≤ c) (h2 : c < 22) {dv : Value} (hdv : dv = if c = 15 then .long 0 else if c < 17 then .int 0 else .null) (e1 : H1[H.size]? = some (arrV (E.2.1 c) (ln S.2.2.2) (fun _ => dv))) (z1 : H1.size = H.size + 1) (o1 : ∀ q : Nat, q < H.size → H1[q]? = H[q]?) : gH E (sN S) H1 := by
  refine gH_new hH z1 o1 ?_ hn
  rw [gent_a hk h1]
  show H1[H.size]? = some (vp_cell _ _)
  rw [e1, hdv]
  unfold gcon vp_cell sN
  by_cases q1 : c = 15
  · simp [q1]
  · by_cases q2 : c < 17
    · simp [q1, q2]
    · simp [q1, q2, va_rf]
theorem g_cy {U : State} (h : gK E U) {c : Nat} (h1 : 13 ≤ c) (h2 : c < 22) {cA : ClassId} (hf : U.vm.findClass ("[" ++ (gaty c).toString) = some cA) : E.2.1 c = cA := by
  have hr := (h.1.2 (c - 13) _ (gty_at E h1 h2)).2
  unfold va_RA at hr
  revert hr hf
  cases hg : gaty c with
  | object C =>
    intro hf hr
    obtain ⟨kA, comp, -, -, -, h4⟩ := hr
    exact Option.some.inj (h4.symm.trans hf)
  | _ =>
    intro hf hr
    exact Option.some.inj (hr.symm.trans hf)
theorem h_na (hO : gOk Γ E cc own nL rm ret nm) (c : Nat) {atype : ArrayType} (hc : c = 13 ∨ c = 14 ∨ c = 15 ∨ c = 16) (hat : newarray.typeOf atype = gaty c) (w1 : Cond.arrayClass (newarray.typeOf atype) ∈ gT) {j : Int32} (N : Nat) (hN : j.toNatClampNeg = N) (hkn : (kn.1 + 1, kn.2 + N) = kn') (hR : kn'.1 ≤ rm.cells ∧ kn'.2 ≤ rm.slots) {g : Option Nat → GS → Option α} (hd : gD cc pc (.newarray atype) 2 pc') (k : ∀ v S1, Go Γ E B nL kn' pc' S1 lv (vA v :: st) (g v S1)) : Go Γ E B nL kn pc S lv (vI j :: st) (na c j S g) := by
  obtain ⟨hd, rfl⟩ := hd
  subst hkn
  intro a ha H locs ls hH hlo hls
  unfold na at ha
  split at ha
  · next h =>
    obtain ⟨hn, hk, h0, hln⟩ := h
    have hll := ln_le S.2.2.2
    have hcb : componentBytes (newarray.typeOf atype) ≤ 8 := by
      rw [hat]
      rcases hc with rfl | rfl | rfl | rfl <;> decide
    refine va_newaK hO.1 hO.2.1 (hO.2.2.2.2.1 _ w1) rfl hd rfl h0 hN (by
      have : N * componentBytes (newarray.typeOf atype) ≤ 2400 * 8 := Nat.mul_le_mul (by omega) hcb
      omega) (by rw [hO.2.2.2.2.2.2.2.1]; exact hR.1) (by rw [hO.2.2.2.2.2.2.2.1]; exact hR.2) (gl_new hH hn).symm fun H1 cA e1 z1 o1 hA hf => ?_
    rw [gl_new hH hn] at e1 z1 o1
    rw [hat] at e1 hf
    have hcy := g_cy hO.2.2.2.2.2.1 (c := c) (by omega) (by omega) hf
    refine k _ _ a ha H1 locs ls (g_newA hH hn hk (by omega) (by omega) (dv := defaultValue (gaty c)) ?_ (by rw [e1, hcy, ← hN, hln]) z1 o1) hlo hls
    rcases hc with rfl | rfl | rfl | rfl <;> rfl
  · cases ha
theorem h_nar (hO : gOk Γ E cc own nL rm ret nm) (c : Nat) {C : String} (hc : 17 ≤ c ∧ c < 21) (hat : gaty c = .object C) {ix : Nat} (w1 : Cond.classLink own ix C ∈ gT) (w2 : Cond.arrayOver (.object C) ∈ lw_tbl) {j : Int32} (N : Nat) (hN : j.toNatClampNeg = N) (hkn : (kn.1 + 1, kn.2 + N) = kn') (hR : kn'.1 ≤ rm.cells ∧ kn'.2 ≤ rm.slots) {g : Option Nat → GS → Option α} (hd : gD cc pc (.anewarray ix) 3 pc') (k : ∀ v S1, Go Γ E B nL kn' pc' S1 lv (vA v :: st) (g v S1)) : Go Γ E B nL kn pc S lv (vI j :: st) (na c j S g) := by
  obtain ⟨hd, rfl⟩ := hd
  subst hkn
  intro a ha H locs ls hH hlo hls
  unfold na at ha
  split at ha
  · next h =>
    obtain ⟨hn, hk, h0, hln⟩ := h
    have hll := ln_le S.2.2.2
    subst hN
    refine W.anew hO.1 hO.2.1 hO.2.2.2.1 (hO.2.2.2.2.1 _ w1) (va_AO.use (hO.2.2.2.2.2.1.2.2.2.2.1 C w2)) rfl hd rfl h0 (by omega) (by rw [hO.2.2.2.2.2.2.2.1]; exact hR.1) (by rw [hO.2.2.2.2.2.2.2.1]; exact hR.2) fun cA kA comp h1 h2 h3 h4 => ?_
    have hcy := g_cy hO.2.2.2.2.2.1 (c := c) (by omega) (by omega) (cA := cA) (by rw [hat]; exact h1)
    have hg : gH E (sN S) (H.push { cls := cA, slots := Array.replicate j.toNatClampNeg .null, vm := .none }) := by
      refine g_newA hH hn hk (by omega) (by omega) (dv := .null) (by rw [if_neg (by omega), if_neg (by omega)]) ?_ (by simp) (fun q hq => by rw [Array.getElem?_push, if_neg (Nat.ne_of_lt hq)])
      rw [arrV_new, hcy, hln]
      simp
    rw [← gl_new hH hn]
    exact k _ _ a ha _ locs ls hg hlo hls
  · cases ha
theorem h_aast (hO : gOk Γ E cc own nL rm ret nm) (c cw : Nat) {C : String} {T : u_T} {N : Nat} (hc : 17 ≤ c ∧ c < 21) (hat : gaty c = .object C) (hC : gCl cw C T N) {r v : Option Nat} {j : Int32} {g : GS → Option α} (hd : gD cc pc .aastore 1 pc') (k : ∀ S', Go Γ E B nL kn pc' S' lv st (g S')) : Go Γ E B nL kn pc S lv (vA v :: vI j :: vA r :: st) (qR r c j v cw S g) := by
  obtain ⟨hd, rfl⟩ := hd
  intro a ha H locs ls hH hlo hls
  unfold qR rn at ha
  cases r with
  | none => cases ha
  | some o =>
    simp only at ha
    split at ha
    · next hk =>
      obtain ⟨hin, ha⟩ := ix_in ha
      cases v with
      | none => cases ha
      | some w =>
        simp only at ha
        split at ha
        · next hw =>
          have hlt : j.toNatClampNeg < ln o := Nat.not_le.mp fun q => hin (Or.inr q)
          have h0 : ¬ j < 0 := fun q => hin (Or.inl q)
          have hcell : H[gl E o]? = some (arrV (E.2.1 c) (ln o) (fun j => gr E (S.2.2.1 o j))) := by
            rw [gH_arr hH hk (by omega) (by omega)]
            unfold gcon vp_cell
            rw [if_neg (by omega), if_neg (by omega)]
            rfl
          obtain ⟨r', hr', cellV, g1, g2, g3, -⟩ := gH_obj hH hw hC.1 0 _ rfl
          have hcls := (hO.2.2.2.2.2.1.1.1 cw _ hC.2.1).2
          have hra := (hO.2.2.2.2.2.1.1.2 (c - 13) _ (gty_at E (k := c) (by omega) (by omega))).2
          rw [hat] at hra
          obtain ⟨kA, comp, k1, k2, k3, -⟩ := hra
          have hcomp : comp = E.2.2.1.1 cw := Option.some.inj (k3.symm.trans hcls.1)
          subst hcomp
          obtain ⟨kC, hkC, -⟩ := hcls.2
          refine W.aast (v := gl E w) hO.1 hO.2.1 hcell (fun q h => by cases h) (fun h => by cases h) k1 k2 rfl hkC ⟨h0, by show _ < (arrV _ _ _).slots.size; rw [arrV_size]; exact hlt⟩ g1 (fun q h => by rw [g3] at h; cases h) (by rw [g2]; exact hkC) (by rw [g2]; exact va_assign hcls) rfl rfl hd fun H1 e z oq => ?_
          refine k _ a ha H1 _ ls (gH_ast hH hk (by omega) (by omega) z oq ?_ rfl (fun o' h => gent_R h) hH.2.2.2.1) (gH_lo hH (gk_lt hk (by omega)).1 hlo) hls
          rw [e, arrV_store]
          unfold gcon vp_cell
          rw [if_neg (by omega), if_neg (by omega)]
          show some (arrV (E.2.1 c) (ln o) _) = some (arrV (E.2.1 c) (ln o) _)
          congr 2
          funext q
          show updV _ _ _ q = va_rf (Option.map (gl E) (if o = o ∧ q = j.toNatClampNeg then some w else S.2.2.1 o q))
          by_cases hq : q = j.toNatClampNeg
          · subst hq
            simp [updV, va_rf]
          · simp [updV, hq, gr]
        · cases ha
    · cases ha
theorem h_mna (hO : gOk Γ E cc own nL rm ret nm) {ix : Nat} (w1 : Cond.classLink own ix ("[" ++ (FieldType.array .int).toString) ∈ gT) (w2 : Cond.arrayClass .int ∈ gT) {j m : Int32} (N M : Nat) (hN : j.toNatClampNeg = N) (hM : m.toNatClampNeg = M) (hj : ¬ j < 0) (hm : ¬ m < 0) (hkn : (kn.1 + 1 + N, kn.2 + N + N * M) = kn') (hR : kn'.1 ≤ rm.cells ∧ kn'.2 ≤ rm.slots) (hs : N < 1000 ∧ M < 1000) {g : Option Nat → GS → Option α} (hd : gD cc pc (.multianewarray ix 2) 4 pc') (k : ∀ v S1, Go Γ E B nL kn' pc' S1 lv (vA v :: st) (g v S1)) : Go Γ E B nL kn pc S lv (vI m :: vI j :: st) (nm2 j m S g) := by
  obtain ⟨hd, rfl⟩ := hd
  subst hkn
  intro a ha H locs ls hH hlo hls
  unfold nm2 at ha
  rw [hN, hM] at ha
  split at ha
  · next h =>
    obtain ⟨hn, hk, hln, hall⟩ := h
    have hal : ∀ i, i < N → kd (S.2.2.2 + 1 + i) = 14 ∧ ln (S.2.2.2 + 1 + i) = M := fun i hi => by
      have := List.all_eq_true.mp hall i (List.mem_range.mpr hi)
      simpa using this
    intro T hT Xs
    have hR1 : kn.1 + (1 + j.toNatClampNeg) ≤ Γ.2.2.2.1.cells := by rw [hO.2.2.2.2.2.2.2.1, hN]; have := hR.1; simp only at this; omega
    have hR2 : kn.2 + (j.toNatClampNeg + j.toNatClampNeg * m.toNatClampNeg) ≤ Γ.2.2.2.1.slots := by rw [hO.2.2.2.2.2.2.2.1, hN, hM]; have := hR.2; simp only at this; omega
    obtain ⟨vm₁, cA, comp, -, fA, fC, -, -, X', step⟩ := Jvm.Stand.multianewarray2F Xs hO.1 hO.2.2.2.1 (hO.2.2.2.2.1 _ w1) hO.2.2.2.2.2.1.2.2.2.2.2 (hO.2.2.2.2.1 _ w2) (g := F0 Γ.2.2.2.2.2.1 pc ls (.int m :: .int j :: st.map (cv E))) rfl (by rw [hO.2.1]; exact hd) rfl hj hm (by rw [hN]; omega) (by rw [hM]; show M * 4 ≤ _; omega) (by rw [hM]; omega) rfl rfl hR1 hR2
    rw [hN, hM] at X' step
    generalize hF : Jvm.Free.Multi.fill (T.setVm vm₁) cA comp N M (defaultValue .int) N = F at X' step
    have hTh : (T.setVm vm₁).heap = H := hT
    obtain ⟨f1, f2, -, -⟩ := Jvm.Free.Multi.fill_facts (T.setVm vm₁) cA comp N M (defaultValue .int) N
    rw [hF, hTh] at f1 f2
    have hold : ∀ x : Nat, x < H.size → F.heap[x]? = H[x]? := fun x hx => by
      have := Jvm.Free.Multi.fill_old (T.setVm vm₁) cA comp N M (defaultValue .int) (a := x) (by rw [hTh]; exact hx) N
      rw [hF, hTh] at this
      exact this
    have hrow : ∀ i : Nat, i < N → F.heap[H.size + 1 + i]? = some (Jvm.Free.Multi.innerC comp M (defaultValue .int)) := fun i hi => by
      have := Jvm.Free.Multi.fill_inner (T.setVm vm₁) cA comp N M (defaultValue .int) N i hi
      rw [hF, hTh] at this
      exact this
    have hcy21 : E.2.1 21 = cA := g_cy hO.2.2.2.2.2.1 (c := 21) (by omega) (by omega) fA
    have hcy14 : E.2.1 14 = comp := g_cy hO.2.2.2.2.2.1 (c := 14) (by omega) (by omega) fC
    have hsz := hH.1
    have hout : ∀ i : Nat, Jvm.Free.Multi.outerC cA N H.size i = arrV cA N (fun q => va_rf (if q < i then some (H.size + 1 + q) else none)) := by
      intro i
      induction i with
      | zero =>
        show ({ cls := cA, slots := Array.replicate N .null, vm := .none } : Cell) = _
        rw [arrV_new]
        refine congrArg (arrV cA N) (funext fun q => ?_)
        simp [va_rf]
      | succ i ih =>
        show (Jvm.Free.Multi.outerC cA N H.size i).setSlot i (.ref (H.size + 1 + i)) = _
        rw [ih, arrV_store]
        refine congrArg (arrV cA N) (funext fun q => ?_)
        by_cases e : q = i
        · subst e
          simp [updV, va_rf]
        · by_cases h : q < i
          · simp [updV, e, h, Nat.lt_succ_of_lt h]
          · simp [updV, e, h, show ¬ q < i + 1 by omega]
    rw [hout] at f2
    have hnew : gH E (sM S N) F.heap := by
      refine ⟨by rw [f1, hsz]; show _ = E.1 + (S.2.2.2 + 1 + N); omega, fun q hlt => ?_, fun o ho => ?_, fun o i h13 => ?_, by show S.2.2.2 + 1 + N ≤ 100000; omega⟩
      · rw [hold q (by omega)]
        exact hH.2.1 q hlt
      · have ho' : o < S.2.2.2 + 1 + N := ho
        by_cases e1 : o < S.2.2.2
        · have hge : gent E (sM S N) o = gent E S o := by
            have x1 : (sM S N).1 o = S.1 o := by funext i; unfold sM; simp [show ¬ S.2.2.2 ≤ o by omega]
            have x2 : (sM S N).2.1 o = S.2.1 o := by funext i; unfold sM; simp [show ¬ S.2.2.2 ≤ o by omega]
            have x3 : (sM S N).2.2.1 o = S.2.2.1 o := by funext i; unfold sM; simp [show ¬ S.2.2.2 ≤ o by omega, show ¬ o = S.2.2.2 by omega]
            unfold gent gcon
            have e : gfv E (sM S N) o = gfv E S o := by
              funext j t
              unfold gfv
              rw [x1, x2, x3]
            rw [e, x1, x2, x3]
          rw [hge]
          exact (hH.2.2.1 o e1).kept (hold _ (by show E.1 + o < H.size; omega))
        · by_cases e2 : o = S.2.2.2
          · subst e2
            rw [gent_a hk (by omega)]
            show F.heap[E.1 + S.2.2.2]? = some (vp_cell _ _)
            rw [← hsz, f2, hcy21]
            unfold gcon vp_cell
            rw [if_neg (by omega), if_neg (by omega), hln]
            show some (arrV cA N _) = some (arrV cA N _)
            congr 2
            funext q
            show va_rf _ = va_rf (Option.map (gl E) ((sM S N).2.2.1 S.2.2.2 q))
            unfold sM
            simp only [if_true]
            by_cases hq : q < N
            · rw [if_pos hq, if_pos hq]
              show Value.ref (H.size + 1 + q) = Value.ref (gl E (S.2.2.2 + 1 + q))
              have hgl : gl E (S.2.2.2 + 1 + q) = H.size + 1 + q := by
                unfold gl
                rw [if_pos (by omega), hsz]
                omega
              rw [hgl]
            · rw [if_neg hq, if_neg hq]
              rfl
          · obtain ⟨i, rfl⟩ : ∃ i, o = S.2.2.2 + 1 + i := ⟨o - (S.2.2.2 + 1), by omega⟩
            have hi : i < N := by omega
            obtain ⟨k1, k2⟩ := hal i hi
            rw [gent_a k1 (by omega)]
            show F.heap[E.1 + (S.2.2.2 + 1 + i)]? = some (vp_cell _ _)
            rw [show E.1 + (S.2.2.2 + 1 + i) = H.size + 1 + i by omega, hrow i hi, hcy14]
            unfold gcon vp_cell Jvm.Free.Multi.innerC
            rw [if_neg (by omega), if_pos (by omega), k2, arrV_new]
            show some (arrV comp M _) = some (arrV comp M _)
            congr 2
            funext q
            show Value.int 0 = Value.int ((sM S N).1 (S.2.2.2 + 1 + i) q)
            unfold sM
            simp [show S.2.2.2 ≤ S.2.2.2 + 1 + i by omega]
      · unfold sM
        show fits .byte (.int (if S.2.2.2 ≤ o then 0 else S.1 o i)) = true
        split
        · rfl
        · exact hH.2.2.2.1 o i h13
    obtain ⟨t, a1, b1⟩ := k _ _ a ha F.heap locs ls hnew hlo hls F rfl X'
    refine ⟨t, step t ?_, b1⟩
    have hg2 : gl E S.2.2.2 = T.heap.size := by
      rw [hT]
      unfold gl
      rw [if_pos (by omega), hsz]
    rw [← hg2]
    exact a1
  · cases ha
end GO8
