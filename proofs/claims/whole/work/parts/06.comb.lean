theorem fb_r32 (x : Int32) : -2147483648 ≤ x.toInt ∧ x.toInt < 2147483648 := ⟨Int32.le_toInt x, Int32.toInt_lt x⟩
/-! the readings that the rows speak of -/
def xI {α : Type} (r : Option Nat) (c i : Nat) (S : GS) (g : Int32 → Option α) : Option α := rn r c S fun o => g (S.1 o i)
def xJ {α : Type} (r : Option Nat) (c i : Nat) (S : GS) (g : Int64 → Option α) : Option α := rn r c S fun o => g (S.2.1 o i)
def xR {α : Type} (r : Option Nat) (c i : Nat) (S : GS) (g : Option Nat → Option α) : Option α := rn r c S fun o => g (S.2.2.1 o i)
def yI {α : Type} (r : Option Nat) (c : Nat) (j : Int32) (S : GS) (g : Int32 → Option α) : Option α := rn r c S fun o => ix j (ln o) fun i => g (S.1 o i)
def yJ {α : Type} (r : Option Nat) (j : Int32) (S : GS) (g : Int64 → Option α) : Option α := rn r 15 S fun o => ix j (ln o) fun i => g (S.2.1 o i)
def yR {α : Type} (r : Option Nat) (c : Nat) (j : Int32) (S : GS) (g : Option Nat → Option α) : Option α := rn r c S fun o => ix j (ln o) fun i => g (S.2.2.1 o i)
def xl {α : Type} (r : Option Nat) (c : Nat) (S : GS) (g : Int32 → Option α) : Option α := rn r c S fun o => g (nI (ln o))
def pI {α : Type} (r : Option Nat) (c i : Nat) (v : Int32) (S : GS) (g : GS → Option α) : Option α := rn r c S fun o => g (sI S o i v)
def pJ {α : Type} (r : Option Nat) (c i : Nat) (v : Int64) (S : GS) (g : GS → Option α) : Option α := rn r c S fun o => g (sJ S o i v)
def pR {α : Type} (r : Option Nat) (c i : Nat) (v : Option Nat) (S : GS) (g : GS → Option α) : Option α := rn r c S fun o => g (sR S o i v)
def qI {α : Type} (r : Option Nat) (j : Int32) (v : Int32) (S : GS) (g : GS → Option α) : Option α := rn r 14 S fun o => ix j (ln o) fun i => g (sI S o i v)
def qB {α : Type} (r : Option Nat) (j : Int32) (v : Int32) (S : GS) (g : GS → Option α) : Option α := rn r 13 S fun o => ix j (ln o) fun i => g (sI S o i v.toInt8.toInt32)
def qZ {α : Type} (r : Option Nat) (j : Int32) (v : Int32) (S : GS) (g : GS → Option α) : Option α := rn r 16 S fun o => ix j (ln o) fun i => g (sI S o i (v &&& 1))
def qJ {α : Type} (r : Option Nat) (j : Int32) (v : Int64) (S : GS) (g : GS → Option α) : Option α := rn r 15 S fun o => ix j (ln o) fun i => g (sJ S o i v)
/-- a call on an object: of a pure method, of one that changes the state, of one that answers nothing -/
def c1 {α β : Type} (r : Option Nat) (c : Nat) (S : GS) (f : Nat → Option β) (g : β → Option α) : Option α := rn r c S fun o => b1 (f o) g
def c2 {α β : Type} (r : Option Nat) (c : Nat) (S : GS) (f : Nat → Option (β × GS)) (g : β → GS → Option α) : Option α := rn r c S fun o => b2 (f o) g
abbrev gBpI (Γ : GC) (E : GE) (S : GS) : Int32 → State → Prop := gB Γ E (fun b => some (vI b)) (fun _ => S)
abbrev gBpJ (Γ : GC) (E : GE) (S : GS) : Int64 → State → Prop := gB Γ E (fun b => some (vJ b)) (fun _ => S)
abbrev gBpA (Γ : GC) (E : GE) (S : GS) : Option Nat → State → Prop := gB Γ E (fun b => some (vA b)) (fun _ => S)
abbrev gBsI (Γ : GC) (E : GE) : Int32 × GS → State → Prop := gB Γ E (fun b => some (vI b.1)) (fun b => b.2)
abbrev gBsJ (Γ : GC) (E : GE) : Int64 × GS → State → Prop := gB Γ E (fun b => some (vJ b.1)) (fun b => b.2)
abbrev gBsA (Γ : GC) (E : GE) : Option Nat × GS → State → Prop := gB Γ E (fun b => some (vA b.1)) (fun b => b.2)
abbrev gBsV (Γ : GC) (E : GE) : GS → State → Prop := gB Γ E (fun _ => none) (fun b => b)
abbrev gBpV (Γ : GC) (E : GE) (S : GS) : Unit → State → Prop := gB Γ E (fun _ => none) (fun _ => S)
def fu : Nat := 4096
section GO5
variable {α β : Type} {Γ : GC} {E : GE} {B : α → State → Prop} {nL : Nat} {kn : Nat × Nat} {pc pc' : Nat} {S : GS} {lv lv' : List (Nat × AV)} {st : List AV} {res : Option α} {cc : ByteArray} {own nm : String} {rm rm' : Room} {ret ret' : Option FieldType}
theorem h_getI (hO : gOk Γ E cc own nL rm ret nm) {c N ix : Nat} {C : String} {T : u_T} (hC : gCl c C T N) (i : Nat) (hi : (gFl c)[i]? = some 0) (hw : Cond.fieldLink own ix (T i).1 (T i).2.1 (T i).2.2.1 ∈ gT) {r : Option Nat} {g : Int32 → Option α} (hd : gD cc pc (.getfield ix) 3 pc') (k : ∀ v, Go Γ E B nL kn pc' S lv (vI v :: st) (g v)) : Go Γ E B nL kn pc S lv (vA r :: st) (xI r c i S g) := g_getI hO hC i hi hw hd k
theorem h_getJ (hO : gOk Γ E cc own nL rm ret nm) {c N ix : Nat} {C : String} {T : u_T} (hC : gCl c C T N) (i : Nat) (hi : (gFl c)[i]? = some 1) (hw : Cond.fieldLink own ix (T i).1 (T i).2.1 (T i).2.2.1 ∈ gT) {r : Option Nat} {g : Int64 → Option α} (hd : gD cc pc (.getfield ix) 3 pc') (k : ∀ v, Go Γ E B nL kn pc' S lv (vJ v :: st) (g v)) : Go Γ E B nL kn pc S lv (vA r :: st) (xJ r c i S g) := g_getJ hO hC i hi hw hd k
theorem h_getR (hO : gOk Γ E cc own nL rm ret nm) {c N ix : Nat} {C : String} {T : u_T} (hC : gCl c C T N) (i : Nat) (hi : (gFl c)[i]? = some 2) (hw : Cond.fieldLink own ix (T i).1 (T i).2.1 (T i).2.2.1 ∈ gT) {r : Option Nat} {g : Option Nat → Option α} (hd : gD cc pc (.getfield ix) 3 pc') (k : ∀ v, Go Γ E B nL kn pc' S lv (vA v :: st) (g v)) : Go Γ E B nL kn pc S lv (vA r :: st) (xR r c i S g) := g_getR hO hC i hi hw hd k
theorem h_iald (hO : gOk Γ E cc own nL rm ret nm) {r : Option Nat} {j : Int32} {g : Int32 → Option α} (hd : gD cc pc .iaload 1 pc') (k : ∀ v, Go Γ E B nL kn pc' S lv (vI v :: st) (g v)) : Go Γ E B nL kn pc S lv (vI j :: vA r :: st) (yI r 14 j S g) := g_iald hO hd k
theorem h_bald (hO : gOk Γ E cc own nL rm ret nm) {r : Option Nat} {j : Int32} {g : Int32 → Option α} (hd : gD cc pc .baload 1 pc') (k : ∀ v, Go Γ E B nL kn pc' S lv (vI v :: st) (g v)) : Go Γ E B nL kn pc S lv (vI j :: vA r :: st) (yI r 13 j S g) := g_bald hO hd k
theorem h_zald (hO : gOk Γ E cc own nL rm ret nm) {r : Option Nat} {j : Int32} {g : Int32 → Option α} (hd : gD cc pc .baload 1 pc') (k : ∀ v, Go Γ E B nL kn pc' S lv (vI v :: st) (g v)) : Go Γ E B nL kn pc S lv (vI j :: vA r :: st) (yI r 16 j S g) := g_zald hO hd k
theorem h_lald (hO : gOk Γ E cc own nL rm ret nm) {r : Option Nat} {j : Int32} {g : Int64 → Option α} (hd : gD cc pc .laload 1 pc') (k : ∀ v, Go Γ E B nL kn pc' S lv (vJ v :: st) (g v)) : Go Γ E B nL kn pc S lv (vI j :: vA r :: st) (yJ r j S g) := g_lald hO hd k
theorem h_aald (hO : gOk Γ E cc own nL rm ret nm) (c : Nat) (h1 : 17 ≤ c) (h2 : c < 22) {r : Option Nat} {j : Int32} {g : Option Nat → Option α} (hd : gD cc pc .aaload 1 pc') (k : ∀ v, Go Γ E B nL kn pc' S lv (vA v :: st) (g v)) : Go Γ E B nL kn pc S lv (vI j :: vA r :: st) (yR r c j S g) := g_aald hO c h1 h2 hd k
theorem h_alen (hO : gOk Γ E cc own nL rm ret nm) (c : Nat) (h1 : 13 ≤ c) (h2 : c < 22) {r : Option Nat} {g : Int32 → Option α} (hd : gD cc pc .arraylength 1 pc') (k : ∀ v, Go Γ E B nL kn pc' S lv (vI v :: st) (g v)) : Go Γ E B nL kn pc S lv (vA r :: st) (xl r c S g) := g_alen hO c h1 h2 hd k
theorem h_putI (hO : gOk Γ E cc own nL rm ret nm) {c N ix : Nat} {C : String} {T : u_T} (hC : gCl c C T N) (i : Nat) (hi : (gFl c)[i]? = some 0) (hT : (T i).2.2.1 = "I") (hw : Cond.fieldLink own ix (T i).1 (T i).2.1 (T i).2.2.1 ∈ gT) (hf : (T i).2.2.2 = false ∨ ((T i).2.2.2 = true ∧ nm = "<init>" ∧ (T i).1 = own)) {r : Option Nat} {v : Int32} {g : GS → Option α} (hd : gD cc pc (.putfield ix) 3 pc') (k : ∀ S', Go Γ E B nL kn pc' S' lv st (g S')) : Go Γ E B nL kn pc S lv (vI v :: vA r :: st) (pI r c i v S g) := g_putI hO hC i hi hT hw hf hd k
theorem h_putJ (hO : gOk Γ E cc own nL rm ret nm) {c N ix : Nat} {C : String} {T : u_T} (hC : gCl c C T N) (i : Nat) (hi : (gFl c)[i]? = some 1) (hT : (T i).2.2.1 = "J") (hw : Cond.fieldLink own ix (T i).1 (T i).2.1 (T i).2.2.1 ∈ gT) (hf : (T i).2.2.2 = false ∨ ((T i).2.2.2 = true ∧ nm = "<init>" ∧ (T i).1 = own)) {r : Option Nat} {v : Int64} {g : GS → Option α} (hd : gD cc pc (.putfield ix) 3 pc') (k : ∀ S', Go Γ E B nL kn pc' S' lv st (g S')) : Go Γ E B nL kn pc S lv (vJ v :: vA r :: st) (pJ r c i v S g) := g_putJ hO hC i hi hT hw hf hd k
theorem h_putR (hO : gOk Γ E cc own nL rm ret nm) {c N ix : Nat} {C : String} {T : u_T} (hC : gCl c C T N) (i : Nat) (hi : (gFl c)[i]? = some 2) {ty : FieldType} (hT : parseFieldDescriptor (T i).2.2.1 = some ty) (hty : (∃ n, ty = .object n) ∨ ∃ t, ty = .array t) (hw : Cond.fieldLink own ix (T i).1 (T i).2.1 (T i).2.2.1 ∈ gT) (hf : (T i).2.2.2 = false ∨ ((T i).2.2.2 = true ∧ nm = "<init>" ∧ (T i).1 = own)) {r v : Option Nat} {g : GS → Option α} (hd : gD cc pc (.putfield ix) 3 pc') (k : ∀ S', Go Γ E B nL kn pc' S' lv st (g S')) : Go Γ E B nL kn pc S lv (vA v :: vA r :: st) (pR r c i v S g) := g_putR hO hC i hi hT hty hw hf hd k
theorem h_iast (hO : gOk Γ E cc own nL rm ret nm) {r : Option Nat} {j : Int32} {x : Int32} {g : GS → Option α} (hd : gD cc pc .iastore 1 pc') (k : ∀ S', Go Γ E B nL kn pc' S' lv st (g S')) : Go Γ E B nL kn pc S lv (vI x :: vI j :: vA r :: st) (qI r j x S g) := g_iast hO hd k
theorem h_bast (hO : gOk Γ E cc own nL rm ret nm) {r : Option Nat} {j : Int32} {x : Int32} {g : GS → Option α} (hd : gD cc pc .bastore 1 pc') (k : ∀ S', Go Γ E B nL kn pc' S' lv st (g S')) : Go Γ E B nL kn pc S lv (vI x :: vI j :: vA r :: st) (qB r j x S g) := g_bast hO hd k
theorem h_zast (hO : gOk Γ E cc own nL rm ret nm) {r : Option Nat} {j : Int32} {x : Int32} {g : GS → Option α} (hd : gD cc pc .bastore 1 pc') (k : ∀ S', Go Γ E B nL kn pc' S' lv st (g S')) : Go Γ E B nL kn pc S lv (vI x :: vI j :: vA r :: st) (qZ r j x S g) := g_zast hO hd k
theorem h_last (hO : gOk Γ E cc own nL rm ret nm) {r : Option Nat} {j : Int32} {x : Int64} {g : GS → Option α} (hd : gD cc pc .lastore 1 pc') (k : ∀ S', Go Γ E B nL kn pc' S' lv st (g S')) : Go Γ E B nL kn pc S lv (vJ x :: vI j :: vA r :: st) (qJ r j x S g) := g_last hO hd k
theorem k_virtIp (hO : gOk Γ E cc own nL rm ret nm) {c N ix n : Nat} {T : u_T} {y : MethodName} {bytes : ByteArray} {maxL : Nat} (hC : gCl c y.cls T N) (hM : gM y bytes maxL ret' n) (hL : gLV own ix y) (hR : gRm rm rm' maxL kn) {kn' : Nat × Nat} (hkn : (kn.1 + rm'.cells, kn.2 + rm'.slots) = kn') {As : List AV} (hn : As.length = n) (hst : (st.map cat).sum ≤ 8) {f : Nat → Option Int32} {g : Int32 → Option α} {r : Option Nat} (hF : ∀ o, gk S o = c → ∀ b, f o = some b → Ct Γ.2.1 E y bytes maxL ret' rm' (vA (some o) :: As) S (some (vI b)) S) (hd : gD cc pc (.invokevirtual ix) 3 pc') {st0 : List AV} (hs0 : As.reverse ++ vA r :: st = st0) (k : ∀ b, Go Γ E B nL kn' pc' S lv (vI b :: st) (g b)) : Go Γ E B nL kn pc S lv st0 (c1 r c S f g) := by
  subst hkn
  exact g_virt (val := fun b => some (vI b)) (nxt := fun _ => S) hO hC hM hL hR hn hst hF hd hs0 (fun b => k b)
theorem k_virtIs (hO : gOk Γ E cc own nL rm ret nm) {c N ix n : Nat} {T : u_T} {y : MethodName} {bytes : ByteArray} {maxL : Nat} (hC : gCl c y.cls T N) (hM : gM y bytes maxL ret' n) (hL : gLV own ix y) (hR : gRm rm rm' maxL kn) {kn' : Nat × Nat} (hkn : (kn.1 + rm'.cells, kn.2 + rm'.slots) = kn') {As : List AV} (hn : As.length = n) (hst : (st.map cat).sum ≤ 8) {f : Nat → Option (Int32 × GS)} {g : Int32 → GS → Option α} {r : Option Nat} (hF : ∀ o, gk S o = c → ∀ b, f o = some b → Ct Γ.2.1 E y bytes maxL ret' rm' (vA (some o) :: As) S (some (vI b.1)) b.2) (hd : gD cc pc (.invokevirtual ix) 3 pc') {st0 : List AV} (hs0 : As.reverse ++ vA r :: st = st0) (k : ∀ b S1, Go Γ E B nL kn' pc' S1 lv (vI b :: st) (g b S1)) : Go Γ E B nL kn pc S lv st0 (c2 r c S f g) := by
  subst hkn
  have h := g_virt (val := fun b => some (vI b.1)) (nxt := fun b => b.2) (f := f) (g := fun b => g b.1 b.2) (B := B) (lv := lv) hO hC hM hL hR hn hst hF hd hs0 (fun b => k b.1 b.2)
  exact h
theorem k_virtJp (hO : gOk Γ E cc own nL rm ret nm) {c N ix n : Nat} {T : u_T} {y : MethodName} {bytes : ByteArray} {maxL : Nat} (hC : gCl c y.cls T N) (hM : gM y bytes maxL ret' n) (hL : gLV own ix y) (hR : gRm rm rm' maxL kn) {kn' : Nat × Nat} (hkn : (kn.1 + rm'.cells, kn.2 + rm'.slots) = kn') {As : List AV} (hn : As.length = n) (hst : (st.map cat).sum ≤ 8) {f : Nat → Option Int64} {g : Int64 → Option α} {r : Option Nat} (hF : ∀ o, gk S o = c → ∀ b, f o = some b → Ct Γ.2.1 E y bytes maxL ret' rm' (vA (some o) :: As) S (some (vJ b)) S) (hd : gD cc pc (.invokevirtual ix) 3 pc') {st0 : List AV} (hs0 : As.reverse ++ vA r :: st = st0) (k : ∀ b, Go Γ E B nL kn' pc' S lv (vJ b :: st) (g b)) : Go Γ E B nL kn pc S lv st0 (c1 r c S f g) := by
  subst hkn
  exact g_virt (val := fun b => some (vJ b)) (nxt := fun _ => S) hO hC hM hL hR hn hst hF hd hs0 (fun b => k b)
theorem k_virtJs (hO : gOk Γ E cc own nL rm ret nm) {c N ix n : Nat} {T : u_T} {y : MethodName} {bytes : ByteArray} {maxL : Nat} (hC : gCl c y.cls T N) (hM : gM y bytes maxL ret' n) (hL : gLV own ix y) (hR : gRm rm rm' maxL kn) {kn' : Nat × Nat} (hkn : (kn.1 + rm'.cells, kn.2 + rm'.slots) = kn') {As : List AV} (hn : As.length = n) (hst : (st.map cat).sum ≤ 8) {f : Nat → Option (Int64 × GS)} {g : Int64 → GS → Option α} {r : Option Nat} (hF : ∀ o, gk S o = c → ∀ b, f o = some b → Ct Γ.2.1 E y bytes maxL ret' rm' (vA (some o) :: As) S (some (vJ b.1)) b.2) (hd : gD cc pc (.invokevirtual ix) 3 pc') {st0 : List AV} (hs0 : As.reverse ++ vA r :: st = st0) (k : ∀ b S1, Go Γ E B nL kn' pc' S1 lv (vJ b :: st) (g b S1)) : Go Γ E B nL kn pc S lv st0 (c2 r c S f g) := by
  subst hkn
  have h := g_virt (val := fun b => some (vJ b.1)) (nxt := fun b => b.2) (f := f) (g := fun b => g b.1 b.2) (B := B) (lv := lv) hO hC hM hL hR hn hst hF hd hs0 (fun b => k b.1 b.2)
  exact h
theorem k_virtAp (hO : gOk Γ E cc own nL rm ret nm) {c N ix n : Nat} {T : u_T} {y : MethodName} {bytes : ByteArray} {maxL : Nat} (hC : gCl c y.cls T N) (hM : gM y bytes maxL ret' n) (hL : gLV own ix y) (hR : gRm rm rm' maxL kn) {kn' : Nat × Nat} (hkn : (kn.1 + rm'.cells, kn.2 + rm'.slots) = kn') {As : List AV} (hn : As.length = n) (hst : (st.map cat).sum ≤ 8) {f : Nat → Option (Option Nat)} {g : (Option Nat) → Option α} {r : Option Nat} (hF : ∀ o, gk S o = c → ∀ b, f o = some b → Ct Γ.2.1 E y bytes maxL ret' rm' (vA (some o) :: As) S (some (vA b)) S) (hd : gD cc pc (.invokevirtual ix) 3 pc') {st0 : List AV} (hs0 : As.reverse ++ vA r :: st = st0) (k : ∀ b, Go Γ E B nL kn' pc' S lv (vA b :: st) (g b)) : Go Γ E B nL kn pc S lv st0 (c1 r c S f g) := by
  subst hkn
  exact g_virt (val := fun b => some (vA b)) (nxt := fun _ => S) hO hC hM hL hR hn hst hF hd hs0 (fun b => k b)
theorem k_virtAs (hO : gOk Γ E cc own nL rm ret nm) {c N ix n : Nat} {T : u_T} {y : MethodName} {bytes : ByteArray} {maxL : Nat} (hC : gCl c y.cls T N) (hM : gM y bytes maxL ret' n) (hL : gLV own ix y) (hR : gRm rm rm' maxL kn) {kn' : Nat × Nat} (hkn : (kn.1 + rm'.cells, kn.2 + rm'.slots) = kn') {As : List AV} (hn : As.length = n) (hst : (st.map cat).sum ≤ 8) {f : Nat → Option ((Option Nat) × GS)} {g : (Option Nat) → GS → Option α} {r : Option Nat} (hF : ∀ o, gk S o = c → ∀ b, f o = some b → Ct Γ.2.1 E y bytes maxL ret' rm' (vA (some o) :: As) S (some (vA b.1)) b.2) (hd : gD cc pc (.invokevirtual ix) 3 pc') {st0 : List AV} (hs0 : As.reverse ++ vA r :: st = st0) (k : ∀ b S1, Go Γ E B nL kn' pc' S1 lv (vA b :: st) (g b S1)) : Go Γ E B nL kn pc S lv st0 (c2 r c S f g) := by
  subst hkn
  have h := g_virt (val := fun b => some (vA b.1)) (nxt := fun b => b.2) (f := f) (g := fun b => g b.1 b.2) (B := B) (lv := lv) hO hC hM hL hR hn hst hF hd hs0 (fun b => k b.1 b.2)
  exact h
theorem k_virtVs (hO : gOk Γ E cc own nL rm ret nm) {c N ix n : Nat} {T : u_T} {y : MethodName} {bytes : ByteArray} {maxL : Nat} (hC : gCl c y.cls T N) (hM : gM y bytes maxL ret' n) (hL : gLV own ix y) (hR : gRm rm rm' maxL kn) {kn' : Nat × Nat} (hkn : (kn.1 + rm'.cells, kn.2 + rm'.slots) = kn') {As : List AV} (hn : As.length = n) (hst : (st.map cat).sum ≤ 8) {f : Nat → Option GS} {g : GS → Option α} {r : Option Nat} (hF : ∀ o, gk S o = c → ∀ b, f o = some b → Ct Γ.2.1 E y bytes maxL ret' rm' (vA (some o) :: As) S none b) (hd : gD cc pc (.invokevirtual ix) 3 pc') {st0 : List AV} (hs0 : As.reverse ++ vA r :: st = st0) (k : ∀ S1, Go Γ E B nL kn' pc' S1 lv st (g S1)) : Go Γ E B nL kn pc S lv st0 (c1 r c S f g) := by
  subst hkn
  exact g_virt (val := fun _ => none) (nxt := fun s => s) hO hC hM hL hR hn hst hF hd hs0 (fun b => k b)
theorem k_statIp (hO : gOk Γ E cc own nL rm ret nm) {ix n : Nat} {y : MethodName} {bytes : ByteArray} {maxL : Nat} (hM : gM y bytes maxL ret' n) (hL : gLS own ix y) (hR : gRm rm rm' maxL kn) {kn' : Nat × Nat} (hkn : (kn.1 + rm'.cells, kn.2 + rm'.slots) = kn') {As : List AV} (hn : As.length = n) (hst : (st.map cat).sum ≤ 8) {f : Option Int32} {g : Int32 → Option α} (hF : ∀ b, f = some b → Ct Γ.2.1 E y bytes maxL ret' rm' As S (some (vI b)) S) (hd : gD cc pc (.invokestatic ix) 3 pc') {st0 : List AV} (hs0 : As.reverse ++ st = st0) (k : ∀ b, Go Γ E B nL kn' pc' S lv (vI b :: st) (g b)) : Go Γ E B nL kn pc S lv st0 (b1 f g) := by
  subst hkn
  exact g_stat (val := fun b => some (vI b)) (nxt := fun _ => S) hO hM hL hR hn hst hF hd hs0 (fun b => k b)
theorem k_statIs (hO : gOk Γ E cc own nL rm ret nm) {ix n : Nat} {y : MethodName} {bytes : ByteArray} {maxL : Nat} (hM : gM y bytes maxL ret' n) (hL : gLS own ix y) (hR : gRm rm rm' maxL kn) {kn' : Nat × Nat} (hkn : (kn.1 + rm'.cells, kn.2 + rm'.slots) = kn') {As : List AV} (hn : As.length = n) (hst : (st.map cat).sum ≤ 8) {f : Option (Int32 × GS)} {g : Int32 → GS → Option α} (hF : ∀ b, f = some b → Ct Γ.2.1 E y bytes maxL ret' rm' As S (some (vI b.1)) b.2) (hd : gD cc pc (.invokestatic ix) 3 pc') {st0 : List AV} (hs0 : As.reverse ++ st = st0) (k : ∀ b S1, Go Γ E B nL kn' pc' S1 lv (vI b :: st) (g b S1)) : Go Γ E B nL kn pc S lv st0 (b2 f g) := by
  subst hkn
  have h := g_stat (val := fun b => some (vI b.1)) (nxt := fun b => b.2) (f := f) (g := fun b => g b.1 b.2) (B := B) (lv := lv) hO hM hL hR hn hst hF hd hs0 (fun b => k b.1 b.2)
  exact h
theorem k_statJp (hO : gOk Γ E cc own nL rm ret nm) {ix n : Nat} {y : MethodName} {bytes : ByteArray} {maxL : Nat} (hM : gM y bytes maxL ret' n) (hL : gLS own ix y) (hR : gRm rm rm' maxL kn) {kn' : Nat × Nat} (hkn : (kn.1 + rm'.cells, kn.2 + rm'.slots) = kn') {As : List AV} (hn : As.length = n) (hst : (st.map cat).sum ≤ 8) {f : Option Int64} {g : Int64 → Option α} (hF : ∀ b, f = some b → Ct Γ.2.1 E y bytes maxL ret' rm' As S (some (vJ b)) S) (hd : gD cc pc (.invokestatic ix) 3 pc') {st0 : List AV} (hs0 : As.reverse ++ st = st0) (k : ∀ b, Go Γ E B nL kn' pc' S lv (vJ b :: st) (g b)) : Go Γ E B nL kn pc S lv st0 (b1 f g) := by
  subst hkn
  exact g_stat (val := fun b => some (vJ b)) (nxt := fun _ => S) hO hM hL hR hn hst hF hd hs0 (fun b => k b)
theorem k_statJs (hO : gOk Γ E cc own nL rm ret nm) {ix n : Nat} {y : MethodName} {bytes : ByteArray} {maxL : Nat} (hM : gM y bytes maxL ret' n) (hL : gLS own ix y) (hR : gRm rm rm' maxL kn) {kn' : Nat × Nat} (hkn : (kn.1 + rm'.cells, kn.2 + rm'.slots) = kn') {As : List AV} (hn : As.length = n) (hst : (st.map cat).sum ≤ 8) {f : Option (Int64 × GS)} {g : Int64 → GS → Option α} (hF : ∀ b, f = some b → Ct Γ.2.1 E y bytes maxL ret' rm' As S (some (vJ b.1)) b.2) (hd : gD cc pc (.invokestatic ix) 3 pc') {st0 : List AV} (hs0 : As.reverse ++ st = st0) (k : ∀ b S1, Go Γ E B nL kn' pc' S1 lv (vJ b :: st) (g b S1)) : Go Γ E B nL kn pc S lv st0 (b2 f g) := by
  subst hkn
  have h := g_stat (val := fun b => some (vJ b.1)) (nxt := fun b => b.2) (f := f) (g := fun b => g b.1 b.2) (B := B) (lv := lv) hO hM hL hR hn hst hF hd hs0 (fun b => k b.1 b.2)
  exact h
theorem k_statAp (hO : gOk Γ E cc own nL rm ret nm) {ix n : Nat} {y : MethodName} {bytes : ByteArray} {maxL : Nat} (hM : gM y bytes maxL ret' n) (hL : gLS own ix y) (hR : gRm rm rm' maxL kn) {kn' : Nat × Nat} (hkn : (kn.1 + rm'.cells, kn.2 + rm'.slots) = kn') {As : List AV} (hn : As.length = n) (hst : (st.map cat).sum ≤ 8) {f : Option (Option Nat)} {g : (Option Nat) → Option α} (hF : ∀ b, f = some b → Ct Γ.2.1 E y bytes maxL ret' rm' As S (some (vA b)) S) (hd : gD cc pc (.invokestatic ix) 3 pc') {st0 : List AV} (hs0 : As.reverse ++ st = st0) (k : ∀ b, Go Γ E B nL kn' pc' S lv (vA b :: st) (g b)) : Go Γ E B nL kn pc S lv st0 (b1 f g) := by
  subst hkn
  exact g_stat (val := fun b => some (vA b)) (nxt := fun _ => S) hO hM hL hR hn hst hF hd hs0 (fun b => k b)
theorem k_statAs (hO : gOk Γ E cc own nL rm ret nm) {ix n : Nat} {y : MethodName} {bytes : ByteArray} {maxL : Nat} (hM : gM y bytes maxL ret' n) (hL : gLS own ix y) (hR : gRm rm rm' maxL kn) {kn' : Nat × Nat} (hkn : (kn.1 + rm'.cells, kn.2 + rm'.slots) = kn') {As : List AV} (hn : As.length = n) (hst : (st.map cat).sum ≤ 8) {f : Option ((Option Nat) × GS)} {g : (Option Nat) → GS → Option α} (hF : ∀ b, f = some b → Ct Γ.2.1 E y bytes maxL ret' rm' As S (some (vA b.1)) b.2) (hd : gD cc pc (.invokestatic ix) 3 pc') {st0 : List AV} (hs0 : As.reverse ++ st = st0) (k : ∀ b S1, Go Γ E B nL kn' pc' S1 lv (vA b :: st) (g b S1)) : Go Γ E B nL kn pc S lv st0 (b2 f g) := by
  subst hkn
  have h := g_stat (val := fun b => some (vA b.1)) (nxt := fun b => b.2) (f := f) (g := fun b => g b.1 b.2) (B := B) (lv := lv) hO hM hL hR hn hst hF hd hs0 (fun b => k b.1 b.2)
  exact h
theorem k_statVp (hO : gOk Γ E cc own nL rm ret nm) {ix n : Nat} {y : MethodName} {bytes : ByteArray} {maxL : Nat} (hM : gM y bytes maxL ret' n) (hL : gLS own ix y) (hR : gRm rm rm' maxL kn) {kn' : Nat × Nat} (hkn : (kn.1 + rm'.cells, kn.2 + rm'.slots) = kn') {As : List AV} (hn : As.length = n) (hst : (st.map cat).sum ≤ 8) {f : Option Unit} {g : Unit → Option α} (hF : ∀ b, f = some b → Ct Γ.2.1 E y bytes maxL ret' rm' As S none S) (hd : gD cc pc (.invokestatic ix) 3 pc') {st0 : List AV} (hs0 : As.reverse ++ st = st0) (k : ∀ b, Go Γ E B nL kn' pc' S lv st (g b)) : Go Γ E B nL kn pc S lv st0 (b1 f g) := by
  subst hkn
  exact g_stat (val := fun _ => none) (nxt := fun _ => S) hO hM hL hR hn hst hF hd hs0 (fun b => k b)
theorem k_statVs (hO : gOk Γ E cc own nL rm ret nm) {ix n : Nat} {y : MethodName} {bytes : ByteArray} {maxL : Nat} (hM : gM y bytes maxL ret' n) (hL : gLS own ix y) (hR : gRm rm rm' maxL kn) {kn' : Nat × Nat} (hkn : (kn.1 + rm'.cells, kn.2 + rm'.slots) = kn') {As : List AV} (hn : As.length = n) (hst : (st.map cat).sum ≤ 8) {f : Option GS} {g : GS → Option α} (hF : ∀ b, f = some b → Ct Γ.2.1 E y bytes maxL ret' rm' As S none b) (hd : gD cc pc (.invokestatic ix) 3 pc') {st0 : List AV} (hs0 : As.reverse ++ st = st0) (k : ∀ S1, Go Γ E B nL kn' pc' S1 lv st (g S1)) : Go Γ E B nL kn pc S lv st0 (b1 f g) := by
  subst hkn
  exact g_stat (val := fun _ => none) (nxt := fun s => s) hO hM hL hR hn hst hF hd hs0 (fun b => k b)
theorem k_statNIp (hO : gOk Γ E cc own nL rm ret nm) {ix n : Nat} {y : MethodName} {host : String} {bytes : ByteArray} {maxL : Nat} (hM : gM y bytes maxL ret' n) (hL : gLSN own ix y host) (hR : gRm rm rm' maxL kn) {kn' : Nat × Nat} (hkn : (kn.1 + rm'.cells, kn.2 + rm'.slots) = kn') {As : List AV} (hn : As.length = n) (hst : (st.map cat).sum ≤ 8) {f : Option Int32} {g : Int32 → Option α} (hF : ∀ b, f = some b → Ct Γ.2.1 E y bytes maxL ret' rm' As S (some (vI b)) S) (hd : gD cc pc (.invokestatic ix) 3 pc') {st0 : List AV} (hs0 : As.reverse ++ st = st0) (k : ∀ b, Go Γ E B nL kn' pc' S lv (vI b :: st) (g b)) : Go Γ E B nL kn pc S lv st0 (b1 f g) := by
  subst hkn
  exact g_statN (val := fun b => some (vI b)) (nxt := fun _ => S) hO hM hL hR hn hst hF hd hs0 (fun b => k b)
theorem k_statNIs (hO : gOk Γ E cc own nL rm ret nm) {ix n : Nat} {y : MethodName} {host : String} {bytes : ByteArray} {maxL : Nat} (hM : gM y bytes maxL ret' n) (hL : gLSN own ix y host) (hR : gRm rm rm' maxL kn) {kn' : Nat × Nat} (hkn : (kn.1 + rm'.cells, kn.2 + rm'.slots) = kn') {As : List AV} (hn : As.length = n) (hst : (st.map cat).sum ≤ 8) {f : Option (Int32 × GS)} {g : Int32 → GS → Option α} (hF : ∀ b, f = some b → Ct Γ.2.1 E y bytes maxL ret' rm' As S (some (vI b.1)) b.2) (hd : gD cc pc (.invokestatic ix) 3 pc') {st0 : List AV} (hs0 : As.reverse ++ st = st0) (k : ∀ b S1, Go Γ E B nL kn' pc' S1 lv (vI b :: st) (g b S1)) : Go Γ E B nL kn pc S lv st0 (b2 f g) := by
  subst hkn
  have h := g_statN (val := fun b => some (vI b.1)) (nxt := fun b => b.2) (f := f) (g := fun b => g b.1 b.2) (B := B) (lv := lv) hO hM hL hR hn hst hF hd hs0 (fun b => k b.1 b.2)
  exact h
theorem k_statNJp (hO : gOk Γ E cc own nL rm ret nm) {ix n : Nat} {y : MethodName} {host : String} {bytes : ByteArray} {maxL : Nat} (hM : gM y bytes maxL ret' n) (hL : gLSN own ix y host) (hR : gRm rm rm' maxL kn) {kn' : Nat × Nat} (hkn : (kn.1 + rm'.cells, kn.2 + rm'.slots) = kn') {As : List AV} (hn : As.length = n) (hst : (st.map cat).sum ≤ 8) {f : Option Int64} {g : Int64 → Option α} (hF : ∀ b, f = some b → Ct Γ.2.1 E y bytes maxL ret' rm' As S (some (vJ b)) S) (hd : gD cc pc (.invokestatic ix) 3 pc') {st0 : List AV} (hs0 : As.reverse ++ st = st0) (k : ∀ b, Go Γ E B nL kn' pc' S lv (vJ b :: st) (g b)) : Go Γ E B nL kn pc S lv st0 (b1 f g) := by
  subst hkn
  exact g_statN (val := fun b => some (vJ b)) (nxt := fun _ => S) hO hM hL hR hn hst hF hd hs0 (fun b => k b)
theorem k_statNJs (hO : gOk Γ E cc own nL rm ret nm) {ix n : Nat} {y : MethodName} {host : String} {bytes : ByteArray} {maxL : Nat} (hM : gM y bytes maxL ret' n) (hL : gLSN own ix y host) (hR : gRm rm rm' maxL kn) {kn' : Nat × Nat} (hkn : (kn.1 + rm'.cells, kn.2 + rm'.slots) = kn') {As : List AV} (hn : As.length = n) (hst : (st.map cat).sum ≤ 8) {f : Option (Int64 × GS)} {g : Int64 → GS → Option α} (hF : ∀ b, f = some b → Ct Γ.2.1 E y bytes maxL ret' rm' As S (some (vJ b.1)) b.2) (hd : gD cc pc (.invokestatic ix) 3 pc') {st0 : List AV} (hs0 : As.reverse ++ st = st0) (k : ∀ b S1, Go Γ E B nL kn' pc' S1 lv (vJ b :: st) (g b S1)) : Go Γ E B nL kn pc S lv st0 (b2 f g) := by
  subst hkn
  have h := g_statN (val := fun b => some (vJ b.1)) (nxt := fun b => b.2) (f := f) (g := fun b => g b.1 b.2) (B := B) (lv := lv) hO hM hL hR hn hst hF hd hs0 (fun b => k b.1 b.2)
  exact h
theorem k_statNAp (hO : gOk Γ E cc own nL rm ret nm) {ix n : Nat} {y : MethodName} {host : String} {bytes : ByteArray} {maxL : Nat} (hM : gM y bytes maxL ret' n) (hL : gLSN own ix y host) (hR : gRm rm rm' maxL kn) {kn' : Nat × Nat} (hkn : (kn.1 + rm'.cells, kn.2 + rm'.slots) = kn') {As : List AV} (hn : As.length = n) (hst : (st.map cat).sum ≤ 8) {f : Option (Option Nat)} {g : (Option Nat) → Option α} (hF : ∀ b, f = some b → Ct Γ.2.1 E y bytes maxL ret' rm' As S (some (vA b)) S) (hd : gD cc pc (.invokestatic ix) 3 pc') {st0 : List AV} (hs0 : As.reverse ++ st = st0) (k : ∀ b, Go Γ E B nL kn' pc' S lv (vA b :: st) (g b)) : Go Γ E B nL kn pc S lv st0 (b1 f g) := by
  subst hkn
  exact g_statN (val := fun b => some (vA b)) (nxt := fun _ => S) hO hM hL hR hn hst hF hd hs0 (fun b => k b)
theorem k_statNAs (hO : gOk Γ E cc own nL rm ret nm) {ix n : Nat} {y : MethodName} {host : String} {bytes : ByteArray} {maxL : Nat} (hM : gM y bytes maxL ret' n) (hL : gLSN own ix y host) (hR : gRm rm rm' maxL kn) {kn' : Nat × Nat} (hkn : (kn.1 + rm'.cells, kn.2 + rm'.slots) = kn') {As : List AV} (hn : As.length = n) (hst : (st.map cat).sum ≤ 8) {f : Option ((Option Nat) × GS)} {g : (Option Nat) → GS → Option α} (hF : ∀ b, f = some b → Ct Γ.2.1 E y bytes maxL ret' rm' As S (some (vA b.1)) b.2) (hd : gD cc pc (.invokestatic ix) 3 pc') {st0 : List AV} (hs0 : As.reverse ++ st = st0) (k : ∀ b S1, Go Γ E B nL kn' pc' S1 lv (vA b :: st) (g b S1)) : Go Γ E B nL kn pc S lv st0 (b2 f g) := by
  subst hkn
  have h := g_statN (val := fun b => some (vA b.1)) (nxt := fun b => b.2) (f := f) (g := fun b => g b.1 b.2) (B := B) (lv := lv) hO hM hL hR hn hst hF hd hs0 (fun b => k b.1 b.2)
  exact h
theorem k_statNVs (hO : gOk Γ E cc own nL rm ret nm) {ix n : Nat} {y : MethodName} {host : String} {bytes : ByteArray} {maxL : Nat} (hM : gM y bytes maxL ret' n) (hL : gLSN own ix y host) (hR : gRm rm rm' maxL kn) {kn' : Nat × Nat} (hkn : (kn.1 + rm'.cells, kn.2 + rm'.slots) = kn') {As : List AV} (hn : As.length = n) (hst : (st.map cat).sum ≤ 8) {f : Option GS} {g : GS → Option α} (hF : ∀ b, f = some b → Ct Γ.2.1 E y bytes maxL ret' rm' As S none b) (hd : gD cc pc (.invokestatic ix) 3 pc') {st0 : List AV} (hs0 : As.reverse ++ st = st0) (k : ∀ S1, Go Γ E B nL kn' pc' S1 lv st (g S1)) : Go Γ E B nL kn pc S lv st0 (b1 f g) := by
  subst hkn
  exact g_statN (val := fun _ => none) (nxt := fun s => s) hO hM hL hR hn hst hF hd hs0 (fun b => k b)
theorem k_init (hO : gOk Γ E cc own nL rm ret nm) {ix n c : Nat} {y : MethodName} {bytes : ByteArray} {maxL : Nat} (hM : gM y bytes maxL none n) (hL : gLI own ix y) (hR : gRm rm rm' maxL kn) {kn' : Nat × Nat} (hkn : (kn.1 + rm'.cells, kn.2 + rm'.slots) = kn') {As : List AV} (hn : As.length = n) (hst : (st.map cat).sum ≤ 8) {f : Nat → Option GS} {g : GS → Option α} {r : Option Nat} (hF : ∀ o, gk S o = c → ∀ b, f o = some b → Ct Γ.2.1 E y bytes maxL none rm' (vA (some o) :: As) S none b) (hd : gD cc pc (.invokespecial ix) 3 pc') {st0 : List AV} (hs0 : As.reverse ++ vA r :: st = st0) (k : ∀ S1, Go Γ E B nL kn' pc' S1 lv st (g S1)) : Go Γ E B nL kn pc S lv st0 (c1 r c S f g) := by
  subst hkn
  exact g_init (val := fun _ => none) (nxt := fun s => s) hO hM hL hR hn hst hF hd hs0 (fun b => k b)
theorem k_initN (hO : gOk Γ E cc own nL rm ret nm) {ix n c : Nat} {y : MethodName} {host : String} {bytes : ByteArray} {maxL : Nat} (hM : gM y bytes maxL none n) (hL : gLIN own ix y host) (hR : gRm rm rm' maxL kn) {kn' : Nat × Nat} (hkn : (kn.1 + rm'.cells, kn.2 + rm'.slots) = kn') {As : List AV} (hn : As.length = n) (hst : (st.map cat).sum ≤ 8) {f : Nat → Option GS} {g : GS → Option α} {r : Option Nat} (hF : ∀ o, gk S o = c → ∀ b, f o = some b → Ct Γ.2.1 E y bytes maxL none rm' (vA (some o) :: As) S none b) (hd : gD cc pc (.invokespecial ix) 3 pc') {st0 : List AV} (hs0 : As.reverse ++ vA r :: st = st0) (k : ∀ S1, Go Γ E B nL kn' pc' S1 lv st (g S1)) : Go Γ E B nL kn pc S lv st0 (c1 r c S f g) := by
  subst hkn
  exact g_initN (val := fun _ => none) (nxt := fun s => s) hO hM hL hR hn hst hF hd hs0 (fun b => k b)
theorem g_ic_geT (hO : gOk Γ E cc own nL rm ret nm) {off : Int} {tgt : Nat} {x y : Int32} (hd : gD cc pc (.if_icmp .ge off) 3 pc') (ht : (pc : Int) + off = (tgt : Int)) (h : y ≤ x) (k : Go Γ E B nL kn tgt S lv st res) : Go Γ E B nL kn pc S lv (vI y :: vI x :: st) res := by
  have := g_ic_ge (A := res) (C := none) (B := B) (kn := kn) (S := S) (lv := lv) (st := st) (x := x) (y := y) hO hd ht (fun _ => k) (fun q => absurd h q)
  rwa [if_pos h] at this
theorem g_ic_geF (hO : gOk Γ E cc own nL rm ret nm) {off : Int} {tgt : Nat} {x y : Int32} (hd : gD cc pc (.if_icmp .ge off) 3 pc') (ht : (pc : Int) + off = (tgt : Int)) (h : ¬ y ≤ x) (k : Go Γ E B nL kn pc' S lv st res) : Go Γ E B nL kn pc S lv (vI y :: vI x :: st) res := by
  have := g_ic_ge (A := none) (C := res) (B := B) (kn := kn) (S := S) (lv := lv) (st := st) (x := x) (y := y) hO hd ht (fun q => absurd q h) (fun _ => k)
  rwa [if_neg h] at this
/-- a switch over a row of numbers -/
def gCs (P : Nat → Option α → Prop) : Nat → List (Option α) → Prop
  | _, [] => True
  | j, r :: rs => P j r ∧ gCs P (j + 1) rs
theorem gCs_at {P : Nat → Option α → Prop} : ∀ (rs : List (Option α)) (j i : Nat) (r : Option α), gCs P j rs → rs[i]? = some r → P (j + i) r
  | [], j, i, r, _, h => by simp at h
  | x :: rs, j, 0, r, hp, h => by cases h; exact hp.1
  | x :: rs, j, i + 1, r, hp, h => by
    have := gCs_at rs (j + 1) i r hp.2 h
    rw [show j + (i + 1) = j + 1 + i by omega]
    exact this
theorem tsw_spec (x : Int32) (d : Option α) : ∀ (rs : List (Option α)) (c : Int32), c.toInt + rs.length < 2147483648 → tsw x c rs d = if c.toInt ≤ x.toInt ∧ x.toInt < c.toInt + rs.length then rs.getD (x.toInt - c.toInt).toNat none else d
  | [], c, h => by
    rw [if_neg (by simp only [List.length_nil]; omega)]
    rfl
  | r :: rs, c, h => by
    simp only [List.length_cons] at h
    have hc := fb_r32 c
    have e1 : (c + 1).toInt = c.toInt + 1 := by
      rw [Int32.toInt_add]
      show (c.toInt + 1).bmod _ = _
      rw [Int.bmod_eq_of_le] <;> simp <;> omega
    unfold tsw
    by_cases hx : x = c
    · subst hx
      rw [if_pos rfl, if_pos ⟨Int.le_refl _, by simp only [List.length_cons]; omega⟩, Int.sub_self]
      rfl
    · rw [if_neg hx, tsw_spec x d rs (c + 1) (by rw [e1]; omega), e1]
      have hne : x.toInt ≠ c.toInt := fun q => hx (Int32.toInt_inj.mp q)
      simp only [List.length_cons]
      by_cases hr : c.toInt + 1 ≤ x.toInt ∧ x.toInt < c.toInt + 1 + rs.length
      · rw [if_pos hr, if_pos ⟨by omega, by omega⟩]
        have : (x.toInt - c.toInt).toNat = (x.toInt - (c.toInt + 1)).toNat + 1 := by omega
        rw [this, List.getD_cons_succ]
      · rw [if_neg hr, if_neg (by omega)]
theorem h_tsw (hO : gOk Γ E cc own nL rm ret nm) {dflt lo hi : Int} {offs : Array Int} {len : Nat} {x : Int32} {c : Int32} {rs : List (Option α)} {d : Option α} {dt : Nat} (hd : decode cc pc = .ok (.tableswitch dflt lo hi offs, len)) (n : Nat) (hc : c.toInt = lo) (hs : offs.size = n) (hn : rs.length = n) (hh : lo + n = hi + 1) (hl : lo + n < 2147483648) (ht : (pc : Int) + dflt = (dt : Int))
    (k : gCs (fun j r => ∃ tgt : Nat, (pc : Int) + offs.getD j 0 = (tgt : Int) ∧ Go Γ E B nL kn tgt S lv st r) 0 rs) (kd : Go Γ E B nL kn dt S lv st d) : Go Γ E B nL kn pc S lv (vI x :: st) (tsw x c rs d) := by
  subst hn
  intro a ha H locs ls hH hlo hls
  rw [tsw_spec x d rs c (by rw [hc]; exact hl), hc] at ha
  split at ha
  · next h =>
    have hj : (x.toInt - lo).toNat < rs.length := by omega
    obtain ⟨tgt, e, G⟩ := gCs_at rs 0 (x.toInt - lo).toNat rs[(x.toInt - lo).toNat] k (List.getElem?_eq_getElem hj)
    rw [Nat.zero_add] at e
    rw [List.getD_eq_getElem?_getD, List.getElem?_eq_getElem hj] at ha
    refine lv_tableIn (off := offs.getD (x.toInt - lo).toNat 0) hO.1 hO.2.1 hd (by omega) (by omega) ?_ e (G a ha H locs ls hH hlo hls)
    rw [Array.getElem?_eq_getElem (by omega)]
    simp [hs, hj]
  · next h => exact lv_tableOut hO.1 hO.2.1 hd (by omega) ht (kd a ha H locs ls hH hlo hls)
end GO5
