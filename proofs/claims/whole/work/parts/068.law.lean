def R_law : String := "GlassLacesLaw"
def lw_P (b : Addr) (xs : List Int32) (args : Array Value) (s : State) : Prop := args = #[.ref b] ∧ s.IntsAt b xs ∧ xs.length ≤ 3072 ∧ (Jvm.Cond.and given_1 narrow_1).before args s = true
def lw_Q (_ : Array Value) (s : State) (o : Outcome) (t : State) : Prop := o = .returned (some (.int 1)) ∧ Framed s o t [] 600000 7302249
def lw_Z (below : List Frame) (a : Array Value) (s : State) : State → Prop := fun t => ∃ o, t.status = .running ∧ Ended t below o ∧ lw_Q a s o t
/-- the law's own end, with 1 on the stack, nothing written that was there before, its room as the claim has it -/
theorem lw_ret {p : Program} {l : Launch} {e : Env} {s : State} {m : MethodId} {below : List Frame} {meth : Method} {c : Code} {b : Nat} (hx : p.tables.exec = Jvm.exec) (hb : c.code = code) (hr : meth.sig.returnType = ret) (hlocks : meth.locks = false) {pc : Nat} {H : Heap} {ls : Array Slot} (hdg : decode code pc = .ok (.ireturn, 1)) : W p l e room_1 s m #[Value.ref b] below meth c H [] 600000 7302249 (lw_Z below #[Value.ref b] s) (F0 m pc ls [.int 1]) := by
  intro T hT X
  obtain ⟨fs, hret, hrun, hended, hW, hframe⟩ := X.leave (v := some (.int 1)) (hlocks := hlocks) (fun h => by rw [hr] at h; cases h)
  have hmeth' : T.vm.method? m = some meth := X.method'
  refine ⟨T.setFrames fs, ?_, .returned (some (.int 1)), hrun, hended, rfl, ⟨_, rfl⟩, hW, hframe⟩
  jvm_step X.here [X.here.top, hx, hb, hdg, hmeth', hr, ret, narrow_b1]
  (try refine ⟨rfl, ?_⟩); (try refine ⟨rfl, ?_⟩)
  first | (intro acts; rw [hret _ acts rfl rfl rfl]) | rw [hret _ _ rfl rfl rfl]
  exact Steps.refl _
/-- what holds at the law's entry: the machine, the code, the tables' words (any of lw_tbl by 'hts w (by decide +kernel)'), the script of L ints xs at the cell b, what the Statement gives of the start (any of its parts by flat_of_before) -/
def lw_At (p : Program) (s : State) (m : MethodId) (meth : Method) (c : Code) (b L : Nat) (xs : Nat → Int32) : Prop :=
  p.tables.exec = Jvm.exec ∧ c.code = code ∧ meth.sig.returnType = ret ∧ c.maxLocals = 4 ∧ s.vm.findClass R_law = some m.cls ∧ (∀ w ∈ lw_tbl, w.before #[Value.ref b] s = true) ∧ va_X b L xs s s.heap ∧ b < s.heap.size ∧ meth.locks = false ∧ (Jvm.Cond.and given_1 narrow_1).before #[Value.ref b] s = true
/-! the law's own rows: the script, the end -/
def sl {α : Type} (L : Nat) (g : Int32 → Option α) : Option α := g (Int32.ofNat L)
def sx {α : Type} (L : Nat) (xs : Nat → Int32) (j : Int32) (g : Int32 → Option α) : Option α := ix j L fun i => g (xs i)
def gX (Γ : GC) (E : GE) (L : Nat) (xs : Nat → Int32) : Prop := va_X E.2.2.2.2.2.2.2 L xs Γ.2.2.2.2.1 E.2.2.2.1 ∧ E.2.2.2.2.2.2.2 < E.1 ∧ Γ.2.2.2.2.1.heap = E.2.2.2.1 ∧ Γ.2.2.2.2.2.2.1 = #[Value.ref E.2.2.2.2.2.2.2] ∧ Γ.2.2.2.1 = room_1
def gBL (Γ : GC) : Unit → State → Prop := fun _ => lw_Z Γ.2.2.2.2.2.2.2.1 Γ.2.2.2.2.2.2.1 Γ.2.2.2.2.1
theorem gl_x {E : GE} : gl E 400000 = E.2.2.2.2.2.2.2 := by
  unfold gl
  rw [if_neg (by omega), if_neg (by omega), if_neg (by omega), if_neg (by omega)]
theorem gr_x {E : GE} : gr E (some 400000) = .ref E.2.2.2.2.2.2.2 := by
  show Value.ref (gl E 400000) = _
  rw [gl_x]
section GO9
variable {α : Type} {Γ : GC} {E : GE} {B : α → State → Prop} {nL : Nat} {kn : Nat × Nat} {pc pc' : Nat} {S : GS} {lv : List (Nat × AV)} {st : List AV} {cc : ByteArray} {own nm : String} {rm : Room} {ret' : Option FieldType} {L : Nat} {xs : Nat → Int32}
theorem g_vaS {H : Heap} {locs : List Loc} {U : State} (hK : gK E U) (hH : gH E S H) (hlo : ∀ q ∈ locs, E.1 ≤ q.base) : va_S (fun q => E.1 ≤ q) E.2.2.2.1 H locs := ⟨by rw [hK.2.2.2.1, hH.1]; omega, fun q hq hn => hH.2.1 q (by omega), hlo⟩
theorem h_sl (hO : gOk Γ E cc own nL rm ret' nm) (hX : gX Γ E L xs) {g : Int32 → Option α} (hd : gD cc pc .arraylength 1 pc') (k : ∀ v, Go Γ E B nL kn pc' S lv (vI v :: st) (g v)) : Go Γ E B nL kn pc S lv (vA (some 400000) :: st) (sl L g) := by
  obtain ⟨hd, rfl⟩ := hd
  intro a ha H locs ls hH hlo hls
  have hbl : E.2.2.2.2.2.2.2 < E.2.2.2.1.size := by rw [hO.2.2.2.2.2.1.2.2.2.1]; exact hX.2.1
  have := va_slen (cc := cc) hO.1 hO.2.1 hX.1 hbl (by have := hX.2.1; omega) (g_vaS hO.2.2.2.2.2.1 hH hlo) hd (k _ a ha H locs ls hH hlo hls)
  show gW Γ H locs kn.1 kn.2 (B a) (F0 Γ.2.2.2.2.2.1 pc ls (gr E (some 400000) :: st.map (cv E)))
  rw [gr_x]
  exact this
theorem h_sx (hO : gOk Γ E cc own nL rm ret' nm) (hX : gX Γ E L xs) {j : Int32} {g : Int32 → Option α} (hd : gD cc pc .iaload 1 pc') (k : ∀ v, Go Γ E B nL kn pc' S lv (vI v :: st) (g v)) : Go Γ E B nL kn pc S lv (vI j :: vA (some 400000) :: st) (sx L xs j g) := by
  obtain ⟨hd, rfl⟩ := hd
  intro a ha H locs ls hH hlo hls
  obtain ⟨hin, ha⟩ := ix_in ha
  have hbl : E.2.2.2.2.2.2.2 < E.2.2.2.1.size := by rw [hO.2.2.2.2.2.1.2.2.2.1]; exact hX.2.1
  have := va_sld (cc := cc) hO.1 hO.2.1 hX.1 hbl (by have := hX.2.1; omega) (g_vaS hO.2.2.2.2.2.1 hH hlo) hin hd (k _ a ha H locs ls hH hlo hls)
  show gW Γ H locs kn.1 kn.2 (B a) (F0 Γ.2.2.2.2.2.1 pc ls (.int j :: gr E (some 400000) :: st.map (cv E)))
  rw [gr_x]
  exact this
theorem g_law (hO : gOk Γ E code own nL rm ret nm) (hX : gX Γ E L xs) (hk : kn.1 ≤ 600000 ∧ kn.2 ≤ 7302249) (hd : decode code pc = .ok (.ireturn, 1)) : Go Γ E (gBL Γ) nL kn pc S lv [vI 1] (some ()) := by
  intro a ha H locs ls hH hlo hls
  obtain ⟨p, l, e, R, s, m, args, below, meth, c⟩ := Γ
  obtain ⟨x1, x2, x3, x4, x5⟩ := hX
  simp only at x1 x2 x3 x4 x5
  subst x5 x4
  refine va_forget (by rw [x3]; intro q hq; have := hlo q hq; have := hO.2.2.2.2.2.1.2.2.2.1; omega) ?_
  refine W.widen hk.1 hk.2 ?_
  exact lw_ret hO.1 hO.2.1 hO.2.2.2.2.2.2.2.2.1 hO.2.2.2.2.2.2.1 hd
end GO9
