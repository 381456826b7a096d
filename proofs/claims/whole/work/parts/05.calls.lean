/-! contracts, calls, answers -/
/-- what a method does, from this state, with these arguments: its answer, and the state behind it -/
def Ct (l : Launch) (E : GE) (y : MethodName) (bytes : ByteArray) (maxL : Nat) (ret : Option FieldType) (rm : Room) (av : List AV) (S : GS) (r : Option AV) (S' : GS) : Prop :=
  Met l y (gws y bytes maxL ret) rm (va_Pc (av.map (cv E)) (fun U => gH E S U.heap ∧ gK E U)) (fun _ _ o t => o = .returned (r.map (cv E)) ∧ gH E S' t.heap) rm.cells rm.slots (fun q => E.1 ≤ q)
def gargs : Nat → List AV → List (Nat × AV)
  | _, [] => []
  | i, v :: vs => (i, v) :: gargs (i + cat v) vs
theorem gargs_lv (E : GE) : ∀ (av : List AV) (i : Nat), lv_args i (av.map (cv E)) = gcv E (gargs i av)
  | [], _ => rfl
  | v :: vs, i => by
    show lv_args i (cv E v :: vs.map (cv E)) = (i, cv E v) :: gcv E (gargs (i + cat v) vs)
    rw [lv_args, cv_cat, ← gargs_lv E vs]
    have : cat v = 1 ∨ cat v = 2 := by
      rcases v with x | x | r
      · exact Or.inl rfl
      · exact Or.inr rfl
      · exact Or.inl rfl
    rcases this with h | h <;> rw [h] <;> rfl
theorem gsl_len (E : GE) : ∀ av : List AV, (lg_sl (av.map (cv E))).length = (av.map cat).sum
  | [] => rfl
  | v :: vs => by
    have h := gsl_len E vs
    unfold lg_sl at h ⊢
    rw [List.map_cons, List.flatMap_cons, List.length_append, h, cv_cat, List.map_cons, List.sum_cons]
    congr 1
    rcases v with x | x | r <;> rfl
def gB {α : Type} (Γ : GC) (E : GE) (val : α → Option AV) (nxt : α → GS) : α → State → Prop := fun a =>
  MQ Γ.2.2.2.2.2.2.2.1 (fun _ _ o t => o = .returned ((val a).map (cv E)) ∧ gH E (nxt a) t.heap) Γ.2.2.2.2.2.2.1 Γ.2.2.2.2.1 Γ.2.2.2.1.cells Γ.2.2.2.1.slots (fun q => E.1 ≤ q)
theorem Ct_of {α : Type} {l : Launch} {E : GE} {y : MethodName} {bytes : ByteArray} {maxL : Nat} {ret : Option FieldType} {rm : Room} {av : List AV} {S : GS} {val : α → Option AV} {nxt : α → GS} {res : Option α} (hy : plainName y.cls = true) (hlen : (av.map cat).sum ≤ maxL)
    (h : ∀ Γ : GC, Γ.2.1 = l → gOk Γ E bytes y.cls maxL rm ret y.name → Go Γ E (gB Γ E val nxt) maxL (0, 0) 0 S (gargs 0 av) [] res) : ∀ a, res = some a → Ct l E y bytes maxL ret rm av S (val a) (nxt a) := by
  intro a ha
  refine Met.ofW (cc := bytes) (maxL := maxL) (ret := ret) hy rfl ?_
  intro p e s m args below meth c s₁ Bd hml hv
  obtain ⟨rfl, hH, hK⟩ := hv
  have hts := atoms_spec (ws := gws y bytes maxL ret) Bd.pre
  have G := h (p, l, e, (headSpec (gws y bytes maxL ret) rm).room, s, m, (av.map (cv E)).toArray, below, meth, c) rfl ⟨Bd.exec, Bd.bytes, hml, findClass_of_methodNamed Bd.named, fun w hw => hts w (List.mem_cons_of_mem _ hw), hK, Bd.notSynchronized, rfl, Bd.returns, (name_of_methodNamed Bd.named Bd.method).1⟩
  rw [lg_entry_eq]
  have hl := lv_entry (av.map (cv E)) (n := maxL) (by rw [gsl_len]; exact hlen)
  rw [gargs_lv] at hl
  exact G a ha s.heap [] _ hH (fun q hq => by cases hq) hl
/-- what the tables say of a method -/
def gM (y : MethodName) (bytes : ByteArray) (maxL : Nat) (ret : Option FieldType) (n : Nat) : Prop :=
  Cond.code y bytes maxL ret ∈ gT ∧ Cond.initialized y.cls ∈ gT ∧ (y.cls ≠ "java/lang/invoke/MethodHandle" ∧ y.cls ≠ "java/lang/invoke/VarHandle" ∧ (parseMethodDescriptor y.desc).map (fun d => d.parameters.length) = some n)
/-- how a call finds it: virtually on its class, statically, at a making; by a nest mate -/
def gLV (own : String) (ix : Nat) (y : MethodName) : Prop := Cond.methodLink own ix y ∈ gT ∧ Cond.instanceMethod y ∈ gT ∧ Cond.selects y.cls y y ∈ gT
def gLS (own : String) (ix : Nat) (y : MethodName) : Prop := Cond.methodLink own ix y ∈ gT ∧ Cond.static y ∈ gT
def gLSN (own : String) (ix : Nat) (y : MethodName) (host : String) : Prop := Cond.methodLinkNest own ix y host ∈ lw_tbl ∧ Cond.static y ∈ gT
def gLI (own : String) (ix : Nat) (y : MethodName) : Prop := Cond.methodLink own ix y ∈ gT ∧ Cond.instanceMethod y ∈ gT ∧ y.name = "<init>"
def gLIN (own : String) (ix : Nat) (y : MethodName) (host : String) : Prop := Cond.methodLinkNest own ix y host ∈ lw_tbl ∧ Cond.instanceMethod y ∈ gT ∧ y.name = "<init>"
/-- the room: one frame, the locals, the cells -/
def gRm (rm rm' : Room) (maxL : Nat) (kn : Nat × Nat) : Prop := (rm'.frames + 1 ≤ rm.frames ∧ 8 + (maxL + 11) + rm'.locals ≤ rm.locals) ∧ kn.1 + rm'.cells ≤ rm.cells ∧ kn.2 + rm'.slots ≤ rm.slots
section GO4
variable {α β : Type} {Γ : GC} {E : GE} {B : α → State → Prop} {nL : Nat} {kn : Nat × Nat} {pc pc' : Nat} {S : GS} {lv lv' : List (Nat × AV)} {st : List AV} {res : Option α} {cc : ByteArray} {own nm : String} {rm rm' : Room} {ret ret' : Option FieldType}
theorem g_pre {l : Launch} {y : MethodName} {bytes : ByteArray} {maxL : Nat} {S' : GS} {r : Option AV} {av : List AV} {H : Heap} (hK : gK E Γ.2.2.2.2.1) (hH : gH E S H) : PreS Γ.2.2.2.2.1 H (va_Pc (av.map (cv E)) (fun U => gH E S U.heap ∧ gK E U)) (av.map (cv E)) :=
  ⟨fun a U g mk q => ⟨q.1, q.2.1, gK.same (u := U) (U := U.calling g mk a) rfl q.2.2⟩, fun U hU hW => ⟨rfl, by rw [hU]; exact hH, gK.warm hW hK⟩⟩
/-- behind a call -/
theorem g_back {r : Option AV} {S' : GS} {H : Heap} {locs : List Loc} {ls : Array Slot} {st0 : List Value} {Q : State → Prop} {mc ms : Nat}
    (hr : va_Run Γ.1 Γ.2.1 Γ.2.2.1 Γ.2.2.2.1 Γ.2.2.2.2.1 Γ.2.2.2.2.2.1 Γ.2.2.2.2.2.2.1 Γ.2.2.2.2.2.2.2.1 Γ.2.2.2.2.2.2.2.2.1 Γ.2.2.2.2.2.2.2.2.2 H locs kn.1 kn.2 mc ms (F0 Γ.2.2.2.2.2.1 pc ls st0) (st.map (cv E)) (fun _ o t => o = .returned (r.map (cv E)) ∧ gH E S' t.heap) (fun q => E.1 ≤ q)) (hlo : ∀ q ∈ locs, E.1 ≤ q.base)
    (kk : ∀ (H1 : Heap) (locs1 : List Loc), gH E S' H1 → (∀ q ∈ locs1, E.1 ≤ q.base) → gW Γ H1 locs1 (kn.1 + mc) (kn.2 + ms) Q (F0 Γ.2.2.2.2.2.1 (pc + 3) ls ((r.toList ++ st).map (cv E)))) : gW Γ H locs kn.1 kn.2 Q (F0 Γ.2.2.2.2.2.1 pc ls st0) := by
  intro T hT X
  obtain ⟨v, st₀, t, T', L, h0, X', hL, e1, e2, ⟨hv, hb⟩, sg⟩ := hr T hT X
  have hv' : v = r.map (cv E) := by injection hv
  subst hv'
  obtain ⟨t2, a1, b1⟩ := kk T'.heap (locs ++ L) (by rw [e1]; exact hb) (fun q hq => by
    rcases List.mem_append.mp hq with h | h
    · exact hlo q h
    · exact hL q h) T' rfl X'
  refine ⟨t2, sg t2 ?_, b1⟩
  have e : (Option.map (cv E) r).toList ++ List.map (cv E) st = List.map (cv E) (r.toList ++ st) := by
    cases r <;> rfl
  rw [e]
  exact a1
theorem g_fix (hO : gOk Γ E cc own nL rm ret nm) : CallFix Γ.1 Γ.2.2.2.2.2.1 Γ.2.2.2.2.2.2.2.2.2 cc nL Γ.2.2.2.2.1 Γ.2.2.2.2.2.2.1 gT own := ⟨hO.1, hO.2.1, hO.2.2.1, hO.2.2.2.1, hO.2.2.2.2.1⟩
theorem g_gI {y : MethodName} {bytes : ByteArray} {maxL n : Nat} (hM : gM y bytes maxL ret' n) : GoodIn gT (gws y bytes maxL ret') := gT_good (ws := gT) (fun _ h => h) hM.1
theorem g_cB (hO : gOk Γ E cc own nL rm ret nm) {y : MethodName} {bytes : ByteArray} {maxL n ix : Nat} (hM : gM y bytes maxL ret' n) (hl : Cond.methodLink own ix y ∈ gT) (hR : gRm rm rm' maxL kn) : CallB Γ.2.2.2.1 Γ.2.2.2.2.1 Γ.2.2.2.2.2.2.1 own ix y bytes maxL ret' (gws y bytes maxL ret') rm' rm'.cells rm'.slots n :=
  callB_of n hO.2.2.2.2.1 (g_gI hM) rfl rfl rfl (hO.2.2.2.2.1 _ hM.2.1) (hO.2.2.2.2.1 _ hl) hM.2.2 (by rw [hO.2.2.2.2.2.2.2.1]; exact hR.1)
theorem g_cN (hO : gOk Γ E cc own nL rm ret nm) {y : MethodName} {bytes : ByteArray} {maxL n ix : Nat} {host : String} (hM : gM y bytes maxL ret' n) (hl : Cond.methodLinkNest own ix y host ∈ lw_tbl) (hR : gRm rm rm' maxL kn) : va_CN Γ.2.2.2.1 Γ.2.2.2.2.1 Γ.2.2.2.2.2.2.1 own ix y host bytes maxL ret' (gws y bytes maxL ret') rm' rm'.cells rm'.slots n :=
  va_cnB n hO.2.2.2.2.1 (g_gI hM) rfl rfl rfl (hO.2.2.2.2.2.1.2.1 _ _ _ _ hl) (hO.2.2.2.2.1 _ hM.2.1) hM.2.2 (by rw [hO.2.2.2.2.2.2.2.1]; exact hR.1)
theorem g_recv {c N : Nat} {C : String} {T : u_T} (hC : gCl c C T N) {o : Nat} {H : Heap} (hK : gK E Γ.2.2.2.2.1) (hH : gH E S H) (hk : gk S o = c) : ∃ cell : Cell, H[gl E o]? = some cell ∧ cell.vm.isStatics = false ∧ Γ.2.2.2.2.1.vm.findClass C = some cell.cls :=
  va_recv (ci := c) (q0 := 0) hK.1 (gH_obj hH hk hC.1) hC.2.1 rfl
/-- a virtual call -/
theorem g_virt (hO : gOk Γ E cc own nL rm ret nm) {c N ix n : Nat} {T : u_T} {y : MethodName} {bytes : ByteArray} {maxL : Nat} (hC : gCl c y.cls T N) (hM : gM y bytes maxL ret' n) (hL : gLV own ix y) (hR : gRm rm rm' maxL kn) {As : List AV} (hn : As.length = n) (hst : (st.map cat).sum ≤ 8) {val : β → Option AV} {nxt : β → GS} {f : Nat → Option β} {g : β → Option α} {r : Option Nat}
    (hF : ∀ o, gk S o = c → ∀ b, f o = some b → Ct Γ.2.1 E y bytes maxL ret' rm' (vA (some o) :: As) S (val b) (nxt b)) (hd : gD cc pc (.invokevirtual ix) 3 pc') {st0 : List AV} (hs0 : As.reverse ++ vA r :: st = st0)
    (k : ∀ b, Go Γ E B nL (kn.1 + rm'.cells, kn.2 + rm'.slots) pc' (nxt b) lv ((val b).toList ++ st) (g b)) : Go Γ E B nL kn pc S lv st0 (rn r c S fun o => b1 (f o) g) := by
  obtain ⟨hd, rfl⟩ := hd
  subst hs0
  intro a ha H locs ls hH hlo hls
  cases r with
  | none => cases ha
  | some o =>
    unfold rn at ha
    simp only at ha
    split at ha
    · next hk =>
      cases hb : f o with
      | none => rw [hb] at ha; cases ha
      | some b =>
        rw [hb] at ha
        have hct := hF o hk b hb
        obtain ⟨bl, pr⟩ := g_pre (Γ := Γ) (l := Γ.2.1) (y := y) (bytes := bytes) (maxL := maxL) (S' := nxt b) (r := val b) (av := vA (some o) :: As) hO.2.2.2.2.2.1 hH
        refine g_back (r := val b) (S' := nxt b) (va_runV (C := y.cls) (b := gl E o) (As := As.map (cv E)) (g_fix hO) hct ⟨g_cB hO hM hL.1 hR, hO.2.2.2.2.1 _ hL.2.1, hO.2.2.2.2.1 _ hL.2.2⟩ ⟨bl, g_recv hC hO.2.2.2.2.2.1 hH hk, pr⟩ rfl (by rw [List.length_map]; exact hn) hls.1 (by rw [List.map_append, List.map_reverse]; rfl) (lv_room (by rw [cv_cats]; exact hst)) hd (by rw [hO.2.2.2.2.2.2.2.1]; exact hR.2)) hlo fun H1 locs1 hH1 hlo1 => k b a ha H1 locs1 ls hH1 hlo1 hls
    · cases ha
/-- a static call -/
theorem g_stat (hO : gOk Γ E cc own nL rm ret nm) {ix n : Nat} {y : MethodName} {bytes : ByteArray} {maxL : Nat} (hM : gM y bytes maxL ret' n) (hL : gLS own ix y) (hR : gRm rm rm' maxL kn) {As : List AV} (hn : As.length = n) (hst : (st.map cat).sum ≤ 8) {val : β → Option AV} {nxt : β → GS} {f : Option β} {g : β → Option α}
    (hF : ∀ b, f = some b → Ct Γ.2.1 E y bytes maxL ret' rm' As S (val b) (nxt b)) (hd : gD cc pc (.invokestatic ix) 3 pc') {st0 : List AV} (hs0 : As.reverse ++ st = st0)
    (k : ∀ b, Go Γ E B nL (kn.1 + rm'.cells, kn.2 + rm'.slots) pc' (nxt b) lv ((val b).toList ++ st) (g b)) : Go Γ E B nL kn pc S lv st0 (b1 f g) := by
  obtain ⟨hd, rfl⟩ := hd
  subst hs0
  intro a ha H locs ls hH hlo hls
  cases hb : f with
  | none => rw [hb] at ha; cases ha
  | some b =>
    rw [hb] at ha
    have hct := hF b hb
    refine g_back (r := val b) (S' := nxt b) (va_runS (As := As.map (cv E)) (g_fix hO) hct ⟨g_cB hO hM hL.1 hR, hO.2.2.2.2.1 _ hL.2⟩ (g_pre (Γ := Γ) (l := Γ.2.1) (y := y) (bytes := bytes) (maxL := maxL) (S' := nxt b) (r := val b) hO.2.2.2.2.2.1 hH) rfl (by rw [List.length_map]; exact hn) hls.1 (by rw [List.map_append, List.map_reverse]) (lv_room (by rw [cv_cats]; exact hst)) hd (by rw [hO.2.2.2.2.2.2.2.1]; exact hR.2)) hlo fun H1 locs1 hH1 hlo1 => k b a ha H1 locs1 ls hH1 hlo1 hls
theorem g_statN (hO : gOk Γ E cc own nL rm ret nm) {ix n : Nat} {y : MethodName} {host : String} {bytes : ByteArray} {maxL : Nat} (hM : gM y bytes maxL ret' n) (hL : gLSN own ix y host) (hR : gRm rm rm' maxL kn) {As : List AV} (hn : As.length = n) (hst : (st.map cat).sum ≤ 8) {val : β → Option AV} {nxt : β → GS} {f : Option β} {g : β → Option α}
    (hF : ∀ b, f = some b → Ct Γ.2.1 E y bytes maxL ret' rm' As S (val b) (nxt b)) (hd : gD cc pc (.invokestatic ix) 3 pc') {st0 : List AV} (hs0 : As.reverse ++ st = st0)
    (k : ∀ b, Go Γ E B nL (kn.1 + rm'.cells, kn.2 + rm'.slots) pc' (nxt b) lv ((val b).toList ++ st) (g b)) : Go Γ E B nL kn pc S lv st0 (b1 f g) := by
  obtain ⟨hd, rfl⟩ := hd
  subst hs0
  intro a ha H locs ls hH hlo hls
  cases hb : f with
  | none => rw [hb] at ha; cases ha
  | some b =>
    rw [hb] at ha
    have hct := hF b hb
    refine g_back (r := val b) (S' := nxt b) (va_runSN (host := host) (As := As.map (cv E)) (g_fix hO) hct ⟨g_cN hO hM hL.1 hR, hO.2.2.2.2.1 _ hL.2, trivial⟩ (g_pre (Γ := Γ) (l := Γ.2.1) (y := y) (bytes := bytes) (maxL := maxL) (S' := nxt b) (r := val b) hO.2.2.2.2.2.1 hH) rfl (by rw [List.length_map]; exact hn) hls.1 (by rw [List.map_append, List.map_reverse]) (lv_room (by rw [cv_cats]; exact hst)) hd (by rw [hO.2.2.2.2.2.2.2.1]; exact hR.2)) hlo fun H1 locs1 hH1 hlo1 => k b a ha H1 locs1 ls hH1 hlo1 hls
/-- a making: <init> on a fresh object -/
theorem g_init (hO : gOk Γ E cc own nL rm ret nm) {ix n c : Nat} {y : MethodName} {bytes : ByteArray} {maxL : Nat} (hM : gM y bytes maxL none n) (hL : gLI own ix y) (hR : gRm rm rm' maxL kn) {As : List AV} (hn : As.length = n) (hst : (st.map cat).sum ≤ 8) {val : β → Option AV} {nxt : β → GS} {f : Nat → Option β} {g : β → Option α} {r : Option Nat}
    (hF : ∀ o, gk S o = c → ∀ b, f o = some b → Ct Γ.2.1 E y bytes maxL none rm' (vA (some o) :: As) S (val b) (nxt b)) (hd : gD cc pc (.invokespecial ix) 3 pc') {st0 : List AV} (hs0 : As.reverse ++ vA r :: st = st0)
    (k : ∀ b, Go Γ E B nL (kn.1 + rm'.cells, kn.2 + rm'.slots) pc' (nxt b) lv ((val b).toList ++ st) (g b)) : Go Γ E B nL kn pc S lv st0 (rn r c S fun o => b1 (f o) g) := by
  obtain ⟨hd, rfl⟩ := hd
  subst hs0
  intro a ha H locs ls hH hlo hls
  cases r with
  | none => cases ha
  | some o =>
    unfold rn at ha
    simp only at ha
    split at ha
    · next hk =>
      cases hb : f o with
      | none => rw [hb] at ha; cases ha
      | some b =>
        rw [hb] at ha
        have hct := hF o hk b hb
        refine g_back (r := val b) (S' := nxt b) (va_runI (b := gl E o) (As := As.map (cv E)) (g_fix hO) hct ⟨g_cB hO hM hL.1 hR, hL.2.2, hO.2.2.2.2.1 _ hL.2.1⟩ (g_pre (Γ := Γ) (l := Γ.2.1) (y := y) (bytes := bytes) (maxL := maxL) (S' := nxt b) (r := val b) (av := vA (some o) :: As) hO.2.2.2.2.2.1 hH) rfl (by rw [List.length_map]; exact hn) hls.1 (by rw [List.map_append, List.map_reverse]; rfl) (lv_room (by rw [cv_cats]; exact hst)) hd (by rw [hO.2.2.2.2.2.2.2.1]; exact hR.2)) hlo fun H1 locs1 hH1 hlo1 => k b a ha H1 locs1 ls hH1 hlo1 hls
    · cases ha
theorem g_initN (hO : gOk Γ E cc own nL rm ret nm) {ix n c : Nat} {y : MethodName} {host : String} {bytes : ByteArray} {maxL : Nat} (hM : gM y bytes maxL none n) (hL : gLIN own ix y host) (hR : gRm rm rm' maxL kn) {As : List AV} (hn : As.length = n) (hst : (st.map cat).sum ≤ 8) {val : β → Option AV} {nxt : β → GS} {f : Nat → Option β} {g : β → Option α} {r : Option Nat}
    (hF : ∀ o, gk S o = c → ∀ b, f o = some b → Ct Γ.2.1 E y bytes maxL none rm' (vA (some o) :: As) S (val b) (nxt b)) (hd : gD cc pc (.invokespecial ix) 3 pc') {st0 : List AV} (hs0 : As.reverse ++ vA r :: st = st0)
    (k : ∀ b, Go Γ E B nL (kn.1 + rm'.cells, kn.2 + rm'.slots) pc' (nxt b) lv ((val b).toList ++ st) (g b)) : Go Γ E B nL kn pc S lv st0 (rn r c S fun o => b1 (f o) g) := by
  obtain ⟨hd, rfl⟩ := hd
  subst hs0
  intro a ha H locs ls hH hlo hls
  cases r with
  | none => cases ha
  | some o =>
    unfold rn at ha
    simp only at ha
    split at ha
    · next hk =>
      cases hb : f o with
      | none => rw [hb] at ha; cases ha
      | some b =>
        rw [hb] at ha
        have hct := hF o hk b hb
        refine g_back (r := val b) (S' := nxt b) (va_runIN (host := host) (b := gl E o) (As := As.map (cv E)) (g_fix hO) hct ⟨g_cN hO hM hL.1 hR, hL.2.2, hO.2.2.2.2.1 _ hL.2.1⟩ (g_pre (Γ := Γ) (l := Γ.2.1) (y := y) (bytes := bytes) (maxL := maxL) (S' := nxt b) (r := val b) (av := vA (some o) :: As) hO.2.2.2.2.2.1 hH) rfl (by rw [List.length_map]; exact hn) hls.1 (by rw [List.map_append, List.map_reverse]; rfl) (lv_room (by rw [cv_cats]; exact hst)) hd (by rw [hO.2.2.2.2.2.2.2.1]; exact hR.2)) hlo fun H1 locs1 hH1 hlo1 => k b a ha H1 locs1 ls hH1 hlo1 hls
    · cases ha
/-- Object's own making -/
theorem g_oinit (hO : gOk Γ E cc own nL rm ret nm) {ix : Nat} (h1 : Cond.methodLink own ix objectInit ∈ gT) (h2 : Cond.instanceMethod objectInit ∈ gT) (h3 : Cond.code objectInit ⟨#[0xb1]⟩ 1 none ∈ gT) (hf : 1 ≤ rm.frames) (hlc : (st.map cat).sum + 12 ≤ rm.locals) {r : Option Nat} (hr : r ≠ none) (hd : gD cc pc (.invokespecial ix) 3 pc') (k : Go Γ E B nL kn pc' S lv st res) : Go Γ E B nL kn pc S lv (vA r :: st) res := by
  obtain ⟨hd, rfl⟩ := hd
  intro a ha H locs ls hH hlo hls
  cases r with
  | none => exact absurd rfl hr
  | some o =>
    exact W.objInit hO.1 hO.2.1 hO.2.2.2.1 (hO.2.2.2.2.1 _ h1) (hO.2.2.2.2.1 _ h2) (hO.2.2.2.2.1 _ h3) rfl (hls.1.trans hO.2.2.1.symm) rfl hd (by rw [hO.2.2.2.2.2.2.2.1]; exact hf) (by rw [hO.2.2.2.2.2.2.2.1, cv_cats]; show 2 * 0 + _ + 12 ≤ _; omega) (k a ha H locs ls hH hlo hls)
/-- answers -/
theorem g_ret (hO : gOk Γ E cc own nL rm ret nm) {val : α → Option AV} {nxt : α → GS} {x : Int32} {b : α} {ty : FieldType} (hr : ret = some ty) (hty : narrow ty (.int x) = .int x) (hk : kn.1 ≤ rm.cells ∧ kn.2 ≤ rm.slots) (hv : val b = some (vI x)) (hn : nxt b = S) (hd : decode cc pc = .ok (.ireturn, 1)) : Go Γ E (gB Γ E val nxt) nL kn pc S lv [vI x] (some b) := by
  intro a ha H locs ls hH hlo hls
  cases ha
  unfold gB
  rw [← hO.2.2.2.2.2.2.2.1] at hk
  refine W.widen hk.1 hk.2 ?_
  exact W.zret (ty := ty) hO.1 hO.2.1 (hO.2.2.2.2.2.2.2.2.1.trans hr) hty (fun t ht hW => ⟨by rw [hv]; rfl, by rw [hn, ht]; exact hH⟩) hlo hd hO.2.2.2.2.2.2.1
theorem g_lret (hO : gOk Γ E cc own nL rm ret nm) {val : α → Option AV} {nxt : α → GS} {x : Int64} {b : α} (hr : ret = some .long) (hk : kn.1 ≤ rm.cells ∧ kn.2 ≤ rm.slots) (hv : val b = some (vJ x)) (hn : nxt b = S) (hd : decode cc pc = .ok (.lreturn, 1)) : Go Γ E (gB Γ E val nxt) nL kn pc S lv [vJ x] (some b) := by
  intro a ha H locs ls hH hlo hls
  cases ha
  unfold gB
  rw [← hO.2.2.2.2.2.2.2.1] at hk
  refine W.widen hk.1 hk.2 ?_
  exact W.lret hO.1 hO.2.1 (hO.2.2.2.2.2.2.2.2.1.trans hr) (fun t ht hW => ⟨by rw [hv]; rfl, by rw [hn, ht]; exact hH⟩) hlo hd hO.2.2.2.2.2.2.1
theorem g_aret (hO : gOk Γ E cc own nL rm ret nm) {val : α → Option AV} {nxt : α → GS} {x : Option Nat} {b : α} {ty : FieldType} (hr : ret = some ty) (hty : (∃ n, ty = .object n) ∨ ∃ t, ty = .array t) (hk : kn.1 ≤ rm.cells ∧ kn.2 ≤ rm.slots) (hv : val b = some (vA x)) (hn : nxt b = S) (hd : decode cc pc = .ok (.areturn, 1)) : Go Γ E (gB Γ E val nxt) nL kn pc S lv [vA x] (some b) := by
  intro a ha H locs ls hH hlo hls
  cases ha
  unfold gB
  rw [← hO.2.2.2.2.2.2.2.1] at hk
  refine W.widen hk.1 hk.2 ?_
  exact W.aret (v := gr E x) hO.1 hO.2.1 (hO.2.2.2.2.2.2.2.2.1.trans hr) hty (by cases x; exact Or.inl rfl; exact Or.inr ⟨_, rfl⟩) (fun t ht hW => ⟨by rw [hv]; rfl, by rw [hn, ht]; exact hH⟩) hlo hd hO.2.2.2.2.2.2.1
theorem g_vret (hO : gOk Γ E cc own nL rm ret nm) {val : α → Option AV} {nxt : α → GS} {b : α} (hr : ret = none) (hk : kn.1 ≤ rm.cells ∧ kn.2 ≤ rm.slots) (hv : val b = none) (hn : nxt b = S) (hd : decode cc pc = .ok (.return_, 1)) : Go Γ E (gB Γ E val nxt) nL kn pc S lv [] (some b) := by
  intro a ha H locs ls hH hlo hls
  cases ha
  unfold gB
  rw [← hO.2.2.2.2.2.2.2.1] at hk
  refine W.widen hk.1 hk.2 ?_
  exact W.vret hO.1 hO.2.1 (hO.2.2.2.2.2.2.2.2.1.trans hr) (fun t ht hW => ⟨by rw [hv]; rfl, by rw [hn, ht]; exact hH⟩) hlo hd hO.2.2.2.2.2.2.1
/-- a truth value is answered -/
theorem g_zret (hO : gOk Γ E cc own nL rm ret nm) {val : α → Option AV} {nxt : α → GS} {x : Int32} {b : α} (hr : ret = some .boolean) (hk : kn.1 ≤ rm.cells ∧ kn.2 ≤ rm.slots) (hv : val b = some (vI x)) (hn : nxt b = S) (hd : decode cc pc = .ok (.ireturn, 1)) : Go Γ E (gB Γ E val nxt) nL kn pc S lv [vI x] (tz x (some b)) := by
  intro a ha
  unfold tz at ha
  split at ha
  · next h =>
    refine g_ret hO hr ?_ hk hv hn hd a ha
    rcases h with rfl | rfl <;> rfl
  · cases ha
/-- Math -/
theorem g_mmax (hO : gOk Γ E cc own nL rm ret nm) {ix : Nat} (h1 : Cond.methodLink own ix Lib.Math.max.name ∈ gT) (h2 : Cond.static Lib.Math.max.name ∈ gT) (h3 : Cond.initialized "java/lang/Math" ∈ gT) (h4 : Cond.code Lib.Math.max.name Lib.Math.max.code 2 (some .int) ∈ gT) (hf : 1 ≤ rm.frames ∧ (st.map cat).sum + 13 ≤ rm.locals ∧ kn.1 ≤ rm.cells ∧ kn.2 ≤ rm.slots) {x y : Int32} (hd : gD cc pc (.invokestatic ix) 3 pc') (k : Go Γ E B nL kn pc' S lv (vI (jmax x y) :: st) res) : Go Γ E B nL kn pc S lv (vI y :: vI x :: st) res := by
  obtain ⟨hd, rfl⟩ := hd
  intro a ha H locs ls hH hlo hls
  rw [← hO.2.2.2.2.2.2.2.1] at hf
  exact va_mmax hO.1 hO.2.1 (hO.2.2.1.trans hls.1.symm) hO.2.2.2.1 (hO.2.2.2.2.1 _ h1) (hO.2.2.2.2.1 _ h2) (hO.2.2.2.2.1 _ h3) (hO.2.2.2.2.1 _ h4) hf.1 (by rw [cv_cats]; exact hf.2.1) hf.2.2.1 hf.2.2.2 hd (k a ha H locs ls hH hlo hls)
theorem g_mmin (hO : gOk Γ E cc own nL rm ret nm) {ix : Nat} (h1 : Cond.methodLink own ix Lib.Math.min.name ∈ gT) (h2 : Cond.static Lib.Math.min.name ∈ gT) (h3 : Cond.initialized "java/lang/Math" ∈ gT) (h4 : Cond.code Lib.Math.min.name Lib.Math.min.code 2 (some .int) ∈ gT) (hf : 1 ≤ rm.frames ∧ (st.map cat).sum + 13 ≤ rm.locals ∧ kn.1 ≤ rm.cells ∧ kn.2 ≤ rm.slots) {x y : Int32} (hd : gD cc pc (.invokestatic ix) 3 pc') (k : Go Γ E B nL kn pc' S lv (vI (jmin x y) :: st) res) : Go Γ E B nL kn pc S lv (vI y :: vI x :: st) res := by
  obtain ⟨hd, rfl⟩ := hd
  intro a ha H locs ls hH hlo hls
  rw [← hO.2.2.2.2.2.2.2.1] at hf
  exact va_mmin hO.1 hO.2.1 (hO.2.2.1.trans hls.1.symm) hO.2.2.2.1 (hO.2.2.2.2.1 _ h1) (hO.2.2.2.2.1 _ h2) (hO.2.2.2.2.1 _ h3) (hO.2.2.2.2.1 _ h4) hf.1 (by rw [cv_cats]; exact hf.2.1) hf.2.2.1 hf.2.2.2 hd (k a ha H locs ls hH hlo hls)
theorem g_mabs (hO : gOk Γ E cc own nL rm ret nm) {ix : Nat} (h1 : Cond.methodLink own ix Lib.Math.abs.name ∈ gT) (h2 : Cond.static Lib.Math.abs.name ∈ gT) (h3 : Cond.initialized "java/lang/Math" ∈ gT) (h4 : Cond.code Lib.Math.abs.name Lib.Math.abs.code 1 (some .int) ∈ gT) (hf : 1 ≤ rm.frames ∧ (st.map cat).sum + 13 ≤ rm.locals ∧ kn.1 ≤ rm.cells ∧ kn.2 ≤ rm.slots) {x : Int32} (hd : gD cc pc (.invokestatic ix) 3 pc') (k : Go Γ E B nL kn pc' S lv (vI (jabs x) :: st) res) : Go Γ E B nL kn pc S lv (vI x :: st) res := by
  obtain ⟨hd, rfl⟩ := hd
  intro a ha H locs ls hH hlo hls
  rw [← hO.2.2.2.2.2.2.2.1] at hf
  exact va_mabs hO.1 hO.2.1 (hO.2.2.1.trans hls.1.symm) hO.2.2.2.1 (hO.2.2.2.2.1 _ h1) (hO.2.2.2.2.1 _ h2) (hO.2.2.2.2.1 _ h3) (hO.2.2.2.2.1 _ h4) hf.1 (by rw [cv_cats]; exact hf.2.1) hf.2.2.1 hf.2.2.2 hd (k a ha H locs ls hH hlo hls)
end GO4
