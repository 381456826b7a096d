/-! what is made when: kinds and lengths of the objects, in the order in which they are made (by a program that runs the constructors) -/
def gKdL : List Nat := [11, 9, 13, 14, 17, 19, 18, 18, 18, 18, 0, 7, 14, 7, 14, 7, 14, 14, 8, 7, 14, 7, 14, 7, 14, 7, 14, 7, 14, 7, 14, 0, 7, 14, 7, 14, 7, 14, 14, 8, 7, 14, 7, 14, 7, 14, 7, 14, 7, 14, 7, 14, 20, 9, 13, 14, 17, 19, 18, 18, 18, 18, 0, 7, 14, 7, 14, 7, 14, 14, 8, 7, 14, 7, 14, 7, 14, 7, 14, 7, 14, 7, 14, 0, 7, 14, 7, 14, 7, 14, 14, 8, 7, 14, 7, 14, 7, 14, 7, 14, 7, 14, 7, 14, 9, 13, 14, 17, 19, 18, 18, 18, 18, 0, 7, 14, 7, 14, 7, 14, 14, 8, 7, 14, 7, 14, 7, 14, 7, 14, 7, 14, 7, 14, 0, 7, 14, 7, 14, 7, 14, 14, 8, 7, 14, 7, 14, 7, 14, 7, 14, 7, 14, 7, 14, 9, 13, 14, 17, 19, 18, 18, 18, 18, 0, 7, 14, 7, 14, 7, 14, 14, 8, 7, 14, 7, 14, 7, 14, 7, 14, 7, 14, 7, 14, 0, 7, 14, 7, 14, 7, 14, 14, 8, 7, 14, 7, 14, 7, 14, 7, 14, 7, 14, 7, 14, 16, 5, 13, 0, 7, 14, 7, 14, 7, 14, 14, 8, 7, 14, 7, 14, 7, 14, 7, 14, 7, 14, 7, 14, 2, 14, 16, 14, 14, 14, 16, 14, 14, 0, 7, 14, 7, 14, 7, 14, 14, 3, 21, 14, 14, 14, 14, 14, 14, 14, 14, 14, 14, 14, 14, 14, 14, 14, 14, 14, 16, 14, 4, 15, 15, 10, 21, 14, 14, 14, 14, 14, 14, 14, 14, 14, 14, 14, 14, 14, 14, 14, 14, 14, 21, 14, 14, 14, 14, 14, 14, 14, 14, 14, 14, 14, 14, 14, 14, 14, 14, 14, 1, 14, 14, 6, 14, 12, 13, 14, 14, 14, 14, 14, 14, 14, 14, 14, 14, 14, 14, 14, 14, 14, 14, 14, 14, 14, 14, 15, 15, 15, 15, 14, 14, 14, 16]
def gLnL : List Nat := [0, 0, 600, 6, 2, 2, 2, 2, 2, 2, 0, 0, 8, 0, 40, 0, 12, 3, 0, 0, 60, 0, 60, 0, 120, 0, 16, 0, 90, 0, 20, 0, 0, 8, 0, 40, 0, 12, 3, 0, 0, 60, 0, 60, 0, 120, 0, 16, 0, 90, 0, 20, 3, 0, 600, 6, 2, 2, 2, 2, 2, 2, 0, 0, 8, 0, 40, 0, 12, 3, 0, 0, 60, 0, 60, 0, 120, 0, 16, 0, 90, 0, 20, 0, 0, 8, 0, 40, 0, 12, 3, 0, 0, 60, 0, 60, 0, 120, 0, 16, 0, 90, 0, 20, 0, 600, 6, 2, 2, 2, 2, 2, 2, 0, 0, 8, 0, 40, 0, 12, 3, 0, 0, 60, 0, 60, 0, 120, 0, 16, 0, 90, 0, 20, 0, 0, 8, 0, 40, 0, 12, 3, 0, 0, 60, 0, 60, 0, 120, 0, 16, 0, 90, 0, 20, 0, 600, 6, 2, 2, 2, 2, 2, 2, 0, 0, 8, 0, 40, 0, 12, 3, 0, 0, 60, 0, 60, 0, 120, 0, 16, 0, 90, 0, 20, 0, 0, 8, 0, 40, 0, 12, 3, 0, 0, 60, 0, 60, 0, 120, 0, 16, 0, 90, 0, 20, 3, 0, 600, 0, 0, 8, 0, 40, 0, 12, 3, 0, 0, 60, 0, 60, 0, 120, 0, 16, 0, 90, 0, 20, 0, 4, 4, 8, 8, 8, 8, 8, 8, 0, 0, 8, 0, 40, 0, 12, 3, 0, 17, 31, 31, 31, 31, 31, 31, 31, 31, 31, 31, 31, 31, 31, 31, 31, 31, 31, 527, 8, 0, 41, 41, 0, 17, 41, 41, 41, 41, 41, 41, 41, 41, 41, 41, 41, 41, 41, 41, 41, 41, 41, 17, 41, 41, 41, 41, 41, 41, 41, 41, 41, 41, 41, 41, 41, 41, 41, 41, 41, 0, 256, 256, 0, 31, 0, 2400, 4, 4, 4, 24, 552, 968, 136, 976, 728, 168, 122, 5, 4, 8, 8, 8, 8, 8, 527, 8, 41, 41, 697, 697, 8, 256, 256, 3]
/-- fields of a class: 0 a whole number, 1 a long, 2 a reference -/
def gFl : Nat → List Nat
  | 0 => [2, 2, 2, 2, 0, 0, 0]
  | 1 => [2, 2]
  | 2 => [2, 2, 2, 2, 2, 2, 2, 2, 2, 0, 0, 0, 0, 0, 0, 0]
  | 3 => [2, 2, 2, 0]
  | 4 => [2, 2, 1, 1]
  | 5 => [2, 2, 2, 2, 2, 2, 2, 0, 0, 0, 0, 0, 0]
  | 6 => [2]
  | 7 => [0, 0, 2, 0]
  | 8 => [2, 2]
  | 9 => [2, 2, 2, 2, 2, 2, 2, 2, 0, 0, 0]
  | 10 => [2, 2, 0]
  | 11 => [2, 2, 2, 2, 2, 2, 2, 2, 2, 2]
  | 12 => [0, 2, 2, 2, 2, 2, 2, 2, 2, 2, 2, 2, 0, 0, 0, 0, 0, 1, 0, 0, 0, 2, 2, 0, 1, 0, 0, 0, 0, 0, 0, 0, 0, 0, 0, 0, 0, 0, 0, 2, 2, 2, 2, 2, 2, 0, 2, 2, 2, 2, 0, 0, 0, 2, 2, 0, 2, 2, 2, 0, 0, 2]
  | _ => []
def gSN : Nat := 21
def gSix : List Nat := [129, 148, 153, 174, 178, 182, 186, 197, 199, 201, 203, 205, 207, 209, 211, 213, 222, 224, 229, 234, 236]
def gStx : List String := ["room", "lady", "proper", "slack", "rest", "glass", "wind", "open", "shut", "sigh", "tie", "loosen", "go", "toast", "minute", "mark", "fell", "stood", "shot", "owes", "maid"]
def gSlen : List Nat := [4, 4, 6, 5, 4, 5, 4, 4, 4, 4, 3, 6, 2, 5, 6, 4, 4, 5, 4, 4, 4]
def gSbyt : List (List Int32) := [[114, 111, 111, 109], [108, 97, 100, 121], [112, 114, 111, 112, 101, 114], [115, 108, 97, 99, 107], [114, 101, 115, 116], [103, 108, 97, 115, 115], [119, 105, 110, 100], [111, 112, 101, 110], [115, 104, 117, 116], [115, 105, 103, 104], [116, 105, 101], [108, 111, 111, 115, 101, 110], [103, 111], [116, 111, 97, 115, 116], [109, 105, 110, 117, 116, 101], [109, 97, 114, 107], [102, 101, 108, 108], [115, 116, 111, 111, 100], [115, 104, 111, 116], [111, 119, 101, 115], [109, 97, 105, 100]]
abbrev gNG : Nat := 313
abbrev gN : Nat := 343
def kd (o : Nat) : Nat := gKdL.getD o 99
def ln (o : Nat) : Nat := gLnL.getD o 0
/-- numbers, longs, references, by object and place; how many objects there are -/
abbrev GS : Type := (Nat → Nat → Int32) × (Nat → Nat → Int64) × (Nat → Nat → Option Nat) × Nat
/-- where the objects begin; the array classes; the classes; the heap at the start; the texts, and their bytes; a static's cell; the script -/
abbrev GE : Type := Nat × (Nat → ClassId) × va_G × Heap × (Nat → Nat) × (Nat → Nat) × Nat × Nat
abbrev AV : Type := Int32 ⊕ Int64 ⊕ Option Nat
abbrev vI (x : Int32) : AV := .inl x
abbrev vJ (x : Int64) : AV := .inr (.inl x)
abbrev vA (x : Option Nat) : AV := .inr (.inr x)
def gl (E : GE) (o : Nat) : Nat := if o < 100000 then E.1 + o else if o < 200000 then E.2.2.2.2.1 (o - 100000) else if o < 300000 then E.2.2.2.2.2.1 (o - 200000) else if o = 300000 then E.2.2.2.2.2.2.1 else E.2.2.2.2.2.2.2
def gr (E : GE) (r : Option Nat) : Value := va_rf (r.map (gl E))
def cv (E : GE) : AV → Value
  | .inl x => .int x
  | .inr (.inl x) => .long x
  | .inr (.inr r) => gr E r
def cat : AV → Nat
  | .inr (.inl _) => 2
  | _ => 1
theorem cv_cat (E : GE) (v : AV) : (cv E v).category = cat v := by
  rcases v with x | x | r
  · rfl
  · rfl
  · cases r <;> rfl
theorem cv_cats (E : GE) (st : List AV) : ((st.map (cv E)).map fun v => v.category).sum = (st.map cat).sum := by
  rw [List.map_map]
  congr 1
  exact List.map_congr_left fun v _ => cv_cat E v
def gk (S : GS) (o : Nat) : Nat := if o < S.2.2.2 then kd o else 99
def gfv (E : GE) (S : GS) (o i t : Nat) : Value := if t = 0 then .int (S.1 o i) else if t = 1 then .long (S.2.1 o i) else gr E (S.2.2.1 o i)
def gcon (E : GE) (S : GS) (o k : Nat) : vp_A := (ln o, if k = 15 then .inr (.inl (S.2.1 o)) else if k < 17 then .inl (S.1 o) else .inr (.inr (.inr (.inr (fun i => (S.2.2.1 o i).map (gl E))))))
def gent (E : GE) (S : GS) (o : Nat) : va_E := if kd o < 13 then .inr (kd o, (gFl (kd o)).mapIdx (gfv E S o)) else .inl (E.2.1 (kd o), gcon E S o (kd o))
def gH (E : GE) (S : GS) (H : Heap) : Prop := H.size = E.1 + S.2.2.2 ∧ (∀ q : Nat, q < E.1 → H[q]? = E.2.2.2.1[q]?) ∧ (∀ o : Nat, o < S.2.2.2 → va_at E.2.2.1 vwCl (E.1 + o, gent E S o) H) ∧ (∀ o i : Nat, kd o = 13 → fits .byte (.int (S.1 o i)) = true) ∧ S.2.2.2 ≤ 100000
def gaty : Nat → FieldType
  | 13 => .byte
  | 14 => .int
  | 15 => .long
  | 16 => .boolean
  | 17 => .object "GlassLaces$Court"
  | 18 => .object "GlassLaces$Rows"
  | 19 => .object "GlassLaces$Sight"
  | 20 => .object "GlassLaces$Told"
  | _ => .array .int
def gty (E : GE) : List (ClassId × FieldType) := (List.range 9).map (fun j => (E.2.1 (13 + j), gaty (13 + j)))
theorem gty_at (E : GE) {k : Nat} (h1 : 13 ≤ k) (h2 : k < 22) : (gty E)[k - 13]? = some (E.2.1 k, gaty k) := by
  unfold gty
  rw [List.getElem?_map, List.getElem?_range (by omega)]
  show some (E.2.1 (13 + (k - 13)), gaty (13 + (k - 13))) = _
  rw [show 13 + (k - 13) = k by omega]
/-- the words that every method is given -/
def gT : List Cond := lw_tbl.filter goodWord
theorem gT_at {w : Cond} (i : Nat) (h : lw_tbl[i]? = some w) (hg : goodWord w = true) : w ∈ gT := List.mem_filter.mpr ⟨List.mem_of_getElem? h, hg⟩
theorem gT_in {w : Cond} (h : w ∈ gT) : w ∈ lw_tbl := (List.mem_filter.mp h).1
abbrev gws (y : MethodName) (bytes : ByteArray) (maxL : Nat) (ret : Option FieldType) : List Cond := .code y bytes maxL ret :: gT
theorem gT_good {ws : List Cond} (hw : ∀ w ∈ gT, w ∈ ws) {y' : MethodName} {bytes' : ByteArray} {maxL' : Nat} {ret' : Option FieldType} (h : Cond.code y' bytes' maxL' ret' ∈ gT) : GoodIn gT (gws y' bytes' maxL' ret') := by
  intro w hw
  have hm : w ∈ gT := by
    rcases List.mem_cons.mp hw with rfl | h'
    · exact h
    · exact h'
  exact ⟨hm, good_of_word (List.mem_filter.mp hm).2⟩
/-- what is known of the machine's tables: classes, arrays -/
def gKs (E : GE) (U : State) : Prop := vk_S gSN gSlen gSbyt E.2.2.2.2.1 E.2.2.2.2.2.1 (fun q => E.1 ≤ q) U E.2.2.2.1 ∧ (∀ i, i < gSN → vk_R "GlassLaces$Reader" (gSix.getD i 0) (gStx.getD i "") (E.2.2.2.2.1 i) U) ∧ va_Z "java/lang/String" "COMPACT_STRINGS" "Z" (.int 1) (fun q => E.1 ≤ q) U E.2.2.2.1 ∧ ∃ v : Value, va_Z "jdk/internal/util/Preconditions" "SIOOBE_FORMATTER" "Ljava/util/function/BiFunction;" v (fun q => E.1 ≤ q) U E.2.2.2.1 ∧ (v = .null ∨ v = .ref E.2.2.2.2.2.2.1)
def gK (E : GE) (U : State) : Prop := va_K E.2.2.1 vwCl (gty E) U ∧ (∀ (own : String) (ix : Nat) (y : MethodName) (host : String), Cond.methodLinkNest own ix y host ∈ lw_tbl → va_Nw (.methodLinkNest own ix y host) U) ∧ gKs E U ∧ E.2.2.2.1.size = E.1 ∧ (∀ C : String, Cond.arrayOver (.object C) ∈ lw_tbl → va_AO C U) ∧ (Cond.arrayOver (.array .int)).before #[] U = true
theorem gK.warm {E : GE} {u U : State} (hW : u.WarmedH U.vm) (h : gK E u) : gK E U :=
  ⟨va_K.moved hW.alike h.1, fun own ix y host hm => va_Nw.warmM hW (h.2.1 own ix y host hm), ⟨vk_S.moved hW.alike h.2.2.1.1, fun i hi => vk_R.warm hW (h.2.2.1.2.1 i hi), va_Z.moved hW.alike h.2.2.1.2.2.1, by
    obtain ⟨v, h1, h2⟩ := h.2.2.1.2.2.2
    exact ⟨v, va_Z.moved hW.alike h1, h2⟩⟩, h.2.2.2.1, fun C hC => va_AO.moved hW.alike (h.2.2.2.2.1 C hC), over_moved hW.alike h.2.2.2.2.2⟩
theorem gK.same {E : GE} {u U : State} (hv : u.vm = U.vm) (h : gK E u) : gK E U := by
  have ha : u.vm.Alike U.vm := hv ▸ Vm.Alike.refl u.vm
  exact ⟨va_K.moved ha h.1, fun own ix y host hm => va_Nw.same rfl hv (h.2.1 own ix y host hm), ⟨vk_S.moved ha h.2.2.1.1, fun i hi => vk_R.same hv.symm (h.2.2.1.2.1 i hi), va_Z.moved ha h.2.2.1.2.2.1, by
    obtain ⟨v, h1, h2⟩ := h.2.2.1.2.2.2
    exact ⟨v, va_Z.moved ha h1, h2⟩⟩, h.2.2.2.1, fun C hC => va_AO.moved ha (h.2.2.2.2.1 C hC), over_moved ha h.2.2.2.2.2⟩
abbrev GC : Type := Program × Launch × Env × Room × State × MethodId × Array Value × List Frame × Method × Code
def gW (Γ : GC) (H : Heap) (locs : List Loc) (cells slots : Nat) (Q : State → Prop) (g : JFrame) : Prop :=
  W Γ.1 Γ.2.1 Γ.2.2.1 Γ.2.2.2.1 Γ.2.2.2.2.1 Γ.2.2.2.2.2.1 Γ.2.2.2.2.2.2.1 Γ.2.2.2.2.2.2.2.1 Γ.2.2.2.2.2.2.2.2.1 Γ.2.2.2.2.2.2.2.2.2 H locs cells slots Q g
abbrev gcv (E : GE) (lv : List (Nat × AV)) : List (Nat × Value) := lv.map (fun q => (q.1, cv E q.2))
/-- from this frame, this state: whatever the pure reading answers, the machine comes to it -/
def Go {α : Type} (Γ : GC) (E : GE) (B : α → State → Prop) (nL : Nat) (kn : Nat × Nat) (pc : Nat) (S : GS) (lv : List (Nat × AV)) (st : List AV) (res : Option α) : Prop :=
  ∀ a, res = some a → ∀ (H : Heap) (locs : List Loc) (ls : Array Slot), gH E S H → (∀ q ∈ locs, E.1 ≤ q.base) → lv_has ls nL (gcv E lv) →
    gW Γ H locs kn.1 kn.2 (B a) (F0 Γ.2.2.2.2.2.1 pc ls (st.map (cv E)))
/-- the method that is walked: its code, class, locals, room, answer's type, name -/
def gOk (Γ : GC) (E : GE) (cc : ByteArray) (own : String) (nL : Nat) (rm : Room) (ret : Option FieldType) (nm : String) : Prop :=
  Γ.1.tables.exec = Jvm.exec ∧ Γ.2.2.2.2.2.2.2.2.2.code = cc ∧ Γ.2.2.2.2.2.2.2.2.2.maxLocals = nL ∧ Γ.2.2.2.2.1.vm.findClass own = some Γ.2.2.2.2.2.1.cls ∧ (∀ w ∈ gT, w.before Γ.2.2.2.2.2.2.1 Γ.2.2.2.2.1 = true) ∧ gK E Γ.2.2.2.2.1 ∧ Γ.2.2.2.2.2.2.2.2.1.locks = false ∧ Γ.2.2.2.1 = rm ∧ Γ.2.2.2.2.2.2.2.2.1.sig.returnType = ret ∧ Γ.2.2.2.2.2.2.2.2.1.name = nm
/-- a row of code: the instruction, its length, the next place -/
def gD (cc : ByteArray) (pc : Nat) (i : Instr) (n pc' : Nat) : Prop := decode cc pc = .ok (i, n) ∧ pc + n = pc'
def jshl (x y : Int32) : Int32 := x <<< (y &&& 31)
def jshr (x y : Int32) : Int32 := x >>> (y &&& 31)
def jushr (x y : Int32) : Int32 := (x.toUInt32 >>> (y.toUInt32 &&& Int32.toUInt32 31)).toInt32
def jlshl (x : Int64) (y : Int32) : Int64 := x <<< (y.toInt64 &&& 63)
def jlshr (x : Int64) (y : Int32) : Int64 := x >>> (y.toInt64 &&& 63)
def jrem (x y : Int32) : Int32 := x - x / y * y
def jlrem (x y : Int64) : Int64 := x - x / y * y
def jmax (x y : Int32) : Int32 := if x < y then y else x
def jmin (x y : Int32) : Int32 := if y < x then y else x
def jabs (x : Int32) : Int32 := if 0 ≤ x then x else 0 - x
/-- what a reference is: nothing, or an object of class (or kind) c -/
def rn {α : Type} (r : Option Nat) (c : Nat) (S : GS) (k : Nat → Option α) : Option α := match r with
  | none => none
  | some o => if gk S o = c then k o else none
/-- an index in its row -/
def ix {α : Type} (j : Int32) (n : Nat) (k : Nat → Option α) : Option α := if j < 0 ∨ n ≤ j.toNatClampNeg then none else k j.toNatClampNeg
def dz {α : Type} (y : Int32) (k : Option α) : Option α := if y = 0 then none else k
def dzl {α : Type} (y : Int64) (k : Option α) : Option α := if y = 0 then none else k
def nul {α : Type} (r : Option Nat) (A C : Option α) : Option α := match r with
  | none => A
  | some _ => C
/-- a truth value -/
def tz {α : Type} (x : Int32) (k : Option α) : Option α := if x = 0 ∨ x = 1 then k else none
def b1 {α β : Type} (m : Option β) (k : β → Option α) : Option α := match m with
  | none => none
  | some a => k a
def b2 {α β : Type} (m : Option (β × GS)) (k : β → GS → Option α) : Option α := b1 m fun q => k q.1 q.2
def sI (S : GS) (o i : Nat) (v : Int32) : GS := (fun o' i' => if o' = o ∧ i' = i then v else S.1 o' i', S.2)
def sJ (S : GS) (o i : Nat) (v : Int64) : GS := (S.1, fun o' i' => if o' = o ∧ i' = i then v else S.2.1 o' i', S.2.2)
def sR (S : GS) (o i : Nat) (v : Option Nat) : GS := (S.1, S.2.1, fun o' i' => if o' = o ∧ i' = i then v else S.2.2.1 o' i', S.2.2.2)
def sCI (S : GS) (a b sp dp n : Nat) : GS := (fun o i => if o = b then (if dp ≤ i ∧ i < dp + n then S.1 a (sp + (i - dp)) else S.1 o i) else S.1 o i, S.2)
def sCJ (S : GS) (a b sp dp n : Nat) : GS := (S.1, fun o i => if o = b then (if dp ≤ i ∧ i < dp + n then S.2.1 a (sp + (i - dp)) else S.2.1 o i) else S.2.1 o i, S.2.2)
/-- a new object (or array), all of it nought -/
def sN (S : GS) : GS := (fun o i => if o = S.2.2.2 then 0 else S.1 o i, fun o i => if o = S.2.2.2 then 0 else S.2.1 o i, fun o i => if o = S.2.2.2 then none else S.2.2.1 o i, S.2.2.2 + 1)
def tsw {α : Type} (x : Int32) : Int32 → List (Option α) → Option α → Option α
  | _, [], d => d
  | c, r :: rs, d => if x = c then r else tsw x (c + 1) rs d
section GO
variable {α : Type} {Γ : GC} {E : GE} {B : α → State → Prop} {nL : Nat} {kn : Nat × Nat} {pc pc' : Nat} {S : GS} {lv lv' : List (Nat × AV)} {st : List AV} {res : Option α} {cc : ByteArray} {own nm : String} {rm : Room} {ret : Option FieldType}
theorem g_none : Go Γ E B nL kn pc S lv st none := fun a h => nomatch h
theorem g_at {lv : List (Nat × AV)} {ls : Array Slot} (h : lv_has ls nL (gcv E lv)) (k : Nat) {i : Nat} {v : AV} (hk : lv[k]? = some (i, v)) : ls[i]? = some (.val (cv E v)) :=
  lv_at h k (by rw [List.getElem?_map, hk]; rfl)
theorem g_sub (ks : List Nat) (hl : ks.filterMap (fun k => lv[k]?) = lv') (k : Go Γ E B nL kn pc S lv' st res) : Go Γ E B nL kn pc S lv st res := by
  intro a ha H locs ls hH hlo hls
  refine k a ha H locs ls hH hlo ⟨hls.1, hls.2.1, fun q hq => ?_⟩
  subst hl
  obtain ⟨q', hq', rfl⟩ := List.mem_map.mp hq
  obtain ⟨i, -, hi⟩ := List.mem_filterMap.mp hq'
  exact hls.2.2 _ (List.mem_map.mpr ⟨q', List.mem_of_getElem? hi, rfl⟩)
/-- a row that leaves heap and locals as they are -/
theorem Go.lift {st' : List AV} (h : ∀ (H : Heap) (locs : List Loc) (ls : Array Slot) (Q : State → Prop), gH E S H → lv_has ls nL (gcv E lv) → gW Γ H locs kn.1 kn.2 Q (F0 Γ.2.2.2.2.2.1 pc' ls (st'.map (cv E))) → gW Γ H locs kn.1 kn.2 Q (F0 Γ.2.2.2.2.2.1 pc ls (st.map (cv E))))
    (k : Go Γ E B nL kn pc' S lv st' res) : Go Γ E B nL kn pc S lv st res :=
  fun a ha H locs ls hH hlo hls => h H locs ls (B a) hH hls (k a ha H locs ls hH hlo hls)
theorem g_iconst (hO : gOk Γ E cc own nL rm ret nm) {n : Int} (v : Int32) (hd : gD cc pc (.iconst n) 1 pc') (hv : Int32.ofInt n = v) (k : Go Γ E B nL kn pc' S lv (vI v :: st) res) : Go Γ E B nL kn pc S lv (st) res := by
  obtain ⟨hd, rfl⟩ := hd
  refine Go.lift ?_ k
  intro H locs ls Q hH hls kk
  exact lv_iconst hO.1 hO.2.1 hd hv kk
theorem g_bipush (hO : gOk Γ E cc own nL rm ret nm) {n : Int} (v : Int32) (hd : gD cc pc (.bipush n) 2 pc') (hv : (Int8.ofInt n).toInt32 = v) (k : Go Γ E B nL kn pc' S lv (vI v :: st) res) : Go Γ E B nL kn pc S lv (st) res := by
  obtain ⟨hd, rfl⟩ := hd
  refine Go.lift ?_ k
  intro H locs ls Q hH hls kk
  exact lv_bipush hO.1 hO.2.1 hd hv kk
theorem g_sipush (hO : gOk Γ E cc own nL rm ret nm) {n : Int} (v : Int32) (hd : gD cc pc (.sipush n) 3 pc') (hv : (Int16.ofInt n).toInt32 = v) (k : Go Γ E B nL kn pc' S lv (vI v :: st) res) : Go Γ E B nL kn pc S lv (st) res := by
  obtain ⟨hd, rfl⟩ := hd
  refine Go.lift ?_ k
  intro H locs ls Q hH hls kk
  exact lv_sipush hO.1 hO.2.1 hd hv kk
theorem g_lconst (hO : gOk Γ E cc own nL rm ret nm) {n : Fin 2} (v : Int64) (hd : gD cc pc (.lconst n) 1 pc') (hv : Int64.ofNat (n : Nat) = v) (k : Go Γ E B nL kn pc' S lv (vJ v :: st) res) : Go Γ E B nL kn pc S lv (st) res := by
  obtain ⟨hd, rfl⟩ := hd
  refine Go.lift ?_ k
  intro H locs ls Q hH hls kk
  exact lv_lconst hO.1 hO.2.1 hd hv kk
theorem g_null (hO : gOk Γ E cc own nL rm ret nm)  (hd : gD cc pc (.aconst_null) 1 pc') (k : Go Γ E B nL kn pc' S lv (vA none :: st) res) : Go Γ E B nL kn pc S lv (st) res := by
  obtain ⟨hd, rfl⟩ := hd
  refine Go.lift ?_ k
  intro H locs ls Q hH hls kk
  exact lv_null hO.1 hO.2.1 hd kk
theorem g_iload_n (hO : gOk Γ E cc own nL rm ret nm) {q : Fin 4} {i : Nat} {x : Int32} (hd : gD cc pc (.iload_n q) 1 pc') (hi : (q : Nat) = i) (j : Nat) (hj : lv[j]? = some (i, vI x)) (k : Go Γ E B nL kn pc' S lv (vI x :: st) res) : Go Γ E B nL kn pc S lv (st) res := by
  obtain ⟨hd, rfl⟩ := hd
  refine Go.lift ?_ k
  intro H locs ls Q hH hls kk
  exact lv_iload_n hO.1 hO.2.1 hd hi (g_at hls j hj) kk
theorem g_iload (hO : gOk Γ E cc own nL rm ret nm) {i : Nat} {x : Int32} (hd : gD cc pc (.iload i) 2 pc') (j : Nat) (hj : lv[j]? = some (i, vI x)) (k : Go Γ E B nL kn pc' S lv (vI x :: st) res) : Go Γ E B nL kn pc S lv (st) res := by
  obtain ⟨hd, rfl⟩ := hd
  refine Go.lift ?_ k
  intro H locs ls Q hH hls kk
  exact lv_iload hO.1 hO.2.1 hd (g_at hls j hj) kk
theorem g_lload_n (hO : gOk Γ E cc own nL rm ret nm) {q : Fin 4} {i : Nat} {x : Int64} (hd : gD cc pc (.lload_n q) 1 pc') (hi : (q : Nat) = i) (j : Nat) (hj : lv[j]? = some (i, vJ x)) (k : Go Γ E B nL kn pc' S lv (vJ x :: st) res) : Go Γ E B nL kn pc S lv (st) res := by
  obtain ⟨hd, rfl⟩ := hd
  refine Go.lift ?_ k
  intro H locs ls Q hH hls kk
  exact lv_lload_n hO.1 hO.2.1 hd hi (g_at hls j hj) kk
theorem g_lload (hO : gOk Γ E cc own nL rm ret nm) {i : Nat} {x : Int64} (hd : gD cc pc (.lload i) 2 pc') (j : Nat) (hj : lv[j]? = some (i, vJ x)) (k : Go Γ E B nL kn pc' S lv (vJ x :: st) res) : Go Γ E B nL kn pc S lv (st) res := by
  obtain ⟨hd, rfl⟩ := hd
  refine Go.lift ?_ k
  intro H locs ls Q hH hls kk
  exact lv_lload hO.1 hO.2.1 hd (g_at hls j hj) kk
theorem g_iadd (hO : gOk Γ E cc own nL rm ret nm) {x y : Int32} (hd : gD cc pc (.iadd) 1 pc') (k : Go Γ E B nL kn pc' S lv (vI (x + y) :: st) res) : Go Γ E B nL kn pc S lv (vI y :: vI x :: st) res := by
  obtain ⟨hd, rfl⟩ := hd
  refine Go.lift ?_ k
  intro H locs ls Q hH hls kk
  exact lv_iadd hO.1 hO.2.1 hd kk
theorem g_isub (hO : gOk Γ E cc own nL rm ret nm) {x y : Int32} (hd : gD cc pc (.isub) 1 pc') (k : Go Γ E B nL kn pc' S lv (vI (x - y) :: st) res) : Go Γ E B nL kn pc S lv (vI y :: vI x :: st) res := by
  obtain ⟨hd, rfl⟩ := hd
  refine Go.lift ?_ k
  intro H locs ls Q hH hls kk
  exact lv_isub hO.1 hO.2.1 hd kk
theorem g_imul (hO : gOk Γ E cc own nL rm ret nm) {x y : Int32} (hd : gD cc pc (.imul) 1 pc') (k : Go Γ E B nL kn pc' S lv (vI (x * y) :: st) res) : Go Γ E B nL kn pc S lv (vI y :: vI x :: st) res := by
  obtain ⟨hd, rfl⟩ := hd
  refine Go.lift ?_ k
  intro H locs ls Q hH hls kk
  exact lv_imul hO.1 hO.2.1 hd kk
theorem g_iand (hO : gOk Γ E cc own nL rm ret nm) {x y : Int32} (hd : gD cc pc (.iand) 1 pc') (k : Go Γ E B nL kn pc' S lv (vI (x &&& y) :: st) res) : Go Γ E B nL kn pc S lv (vI y :: vI x :: st) res := by
  obtain ⟨hd, rfl⟩ := hd
  refine Go.lift ?_ k
  intro H locs ls Q hH hls kk
  exact lv_iand hO.1 hO.2.1 hd kk
theorem g_ior (hO : gOk Γ E cc own nL rm ret nm) {x y : Int32} (hd : gD cc pc (.ior) 1 pc') (k : Go Γ E B nL kn pc' S lv (vI (x ||| y) :: st) res) : Go Γ E B nL kn pc S lv (vI y :: vI x :: st) res := by
  obtain ⟨hd, rfl⟩ := hd
  refine Go.lift ?_ k
  intro H locs ls Q hH hls kk
  exact lv_ior hO.1 hO.2.1 hd kk
theorem g_ixor (hO : gOk Γ E cc own nL rm ret nm) {x y : Int32} (hd : gD cc pc (.ixor) 1 pc') (k : Go Γ E B nL kn pc' S lv (vI (x ^^^ y) :: st) res) : Go Γ E B nL kn pc S lv (vI y :: vI x :: st) res := by
  obtain ⟨hd, rfl⟩ := hd
  refine Go.lift ?_ k
  intro H locs ls Q hH hls kk
  exact lv_ixor hO.1 hO.2.1 hd kk
theorem g_ineg (hO : gOk Γ E cc own nL rm ret nm) {x : Int32} (hd : gD cc pc (.ineg) 1 pc') (k : Go Γ E B nL kn pc' S lv (vI (-x) :: st) res) : Go Γ E B nL kn pc S lv (vI x :: st) res := by
  obtain ⟨hd, rfl⟩ := hd
  refine Go.lift ?_ k
  intro H locs ls Q hH hls kk
  exact lv_ineg hO.1 hO.2.1 hd kk
theorem g_ladd (hO : gOk Γ E cc own nL rm ret nm) {x y : Int64} (hd : gD cc pc (.ladd) 1 pc') (k : Go Γ E B nL kn pc' S lv (vJ (x + y) :: st) res) : Go Γ E B nL kn pc S lv (vJ y :: vJ x :: st) res := by
  obtain ⟨hd, rfl⟩ := hd
  refine Go.lift ?_ k
  intro H locs ls Q hH hls kk
  exact lv_ladd hO.1 hO.2.1 hd kk
theorem g_lsub (hO : gOk Γ E cc own nL rm ret nm) {x y : Int64} (hd : gD cc pc (.lsub) 1 pc') (k : Go Γ E B nL kn pc' S lv (vJ (x - y) :: st) res) : Go Γ E B nL kn pc S lv (vJ y :: vJ x :: st) res := by
  obtain ⟨hd, rfl⟩ := hd
  refine Go.lift ?_ k
  intro H locs ls Q hH hls kk
  exact lv_lsub hO.1 hO.2.1 hd kk
theorem g_lmul (hO : gOk Γ E cc own nL rm ret nm) {x y : Int64} (hd : gD cc pc (.lmul) 1 pc') (k : Go Γ E B nL kn pc' S lv (vJ (x * y) :: st) res) : Go Γ E B nL kn pc S lv (vJ y :: vJ x :: st) res := by
  obtain ⟨hd, rfl⟩ := hd
  refine Go.lift ?_ k
  intro H locs ls Q hH hls kk
  exact lv_lmul hO.1 hO.2.1 hd kk
theorem g_land (hO : gOk Γ E cc own nL rm ret nm) {x y : Int64} (hd : gD cc pc (.land) 1 pc') (k : Go Γ E B nL kn pc' S lv (vJ (x &&& y) :: st) res) : Go Γ E B nL kn pc S lv (vJ y :: vJ x :: st) res := by
  obtain ⟨hd, rfl⟩ := hd
  refine Go.lift ?_ k
  intro H locs ls Q hH hls kk
  exact lv_land hO.1 hO.2.1 hd kk
theorem g_lor (hO : gOk Γ E cc own nL rm ret nm) {x y : Int64} (hd : gD cc pc (.lor) 1 pc') (k : Go Γ E B nL kn pc' S lv (vJ (x ||| y) :: st) res) : Go Γ E B nL kn pc S lv (vJ y :: vJ x :: st) res := by
  obtain ⟨hd, rfl⟩ := hd
  refine Go.lift ?_ k
  intro H locs ls Q hH hls kk
  exact lv_lor hO.1 hO.2.1 hd kk
theorem g_lcmp (hO : gOk Γ E cc own nL rm ret nm) {x y : Int64} (hd : gD cc pc (.lcmp) 1 pc') (k : Go Γ E B nL kn pc' S lv (vI (lg_cmp x y) :: st) res) : Go Γ E B nL kn pc S lv (vJ y :: vJ x :: st) res := by
  obtain ⟨hd, rfl⟩ := hd
  refine Go.lift ?_ k
  intro H locs ls Q hH hls kk
  exact W.lcmp hO.1 hO.2.1 hd kk
theorem g_i2l (hO : gOk Γ E cc own nL rm ret nm) {x : Int32} (hd : gD cc pc (.i2l) 1 pc') (k : Go Γ E B nL kn pc' S lv (vJ x.toInt64 :: st) res) : Go Γ E B nL kn pc S lv (vI x :: st) res := by
  obtain ⟨hd, rfl⟩ := hd
  refine Go.lift ?_ k
  intro H locs ls Q hH hls kk
  exact lv_i2l hO.1 hO.2.1 hd rfl kk
theorem g_l2i (hO : gOk Γ E cc own nL rm ret nm) {x : Int64} (hd : gD cc pc (.l2i) 1 pc') (k : Go Γ E B nL kn pc' S lv (vI x.toInt32 :: st) res) : Go Γ E B nL kn pc S lv (vJ x :: st) res := by
  obtain ⟨hd, rfl⟩ := hd
  refine Go.lift ?_ k
  intro H locs ls Q hH hls kk
  exact lv_l2i hO.1 hO.2.1 hd rfl kk
theorem g_i2b (hO : gOk Γ E cc own nL rm ret nm) {x : Int32} (hd : gD cc pc (.i2b) 1 pc') (k : Go Γ E B nL kn pc' S lv (vI x.toInt8.toInt32 :: st) res) : Go Γ E B nL kn pc S lv (vI x :: st) res := by
  obtain ⟨hd, rfl⟩ := hd
  refine Go.lift ?_ k
  intro H locs ls Q hH hls kk
  exact lv_i2b hO.1 hO.2.1 hd rfl kk
theorem g_ishl (hO : gOk Γ E cc own nL rm ret nm) {x y : Int32} (hd : gD cc pc (.ishl) 1 pc') (k : Go Γ E B nL kn pc' S lv (vI (jshl x y) :: st) res) : Go Γ E B nL kn pc S lv (vI y :: vI x :: st) res := by
  obtain ⟨hd, rfl⟩ := hd
  refine Go.lift ?_ k
  intro H locs ls Q hH hls kk
  exact lv_ishl hO.1 hO.2.1 hd kk
theorem g_ishr (hO : gOk Γ E cc own nL rm ret nm) {x y : Int32} (hd : gD cc pc (.ishr) 1 pc') (k : Go Γ E B nL kn pc' S lv (vI (jshr x y) :: st) res) : Go Γ E B nL kn pc S lv (vI y :: vI x :: st) res := by
  obtain ⟨hd, rfl⟩ := hd
  refine Go.lift ?_ k
  intro H locs ls Q hH hls kk
  exact lv_ishr hO.1 hO.2.1 hd kk
theorem g_iushr (hO : gOk Γ E cc own nL rm ret nm) {x y : Int32} (hd : gD cc pc (.iushr) 1 pc') (k : Go Γ E B nL kn pc' S lv (vI (jushr x y) :: st) res) : Go Γ E B nL kn pc S lv (vI y :: vI x :: st) res := by
  obtain ⟨hd, rfl⟩ := hd
  refine Go.lift ?_ k
  intro H locs ls Q hH hls kk
  exact lv_iushr hO.1 hO.2.1 hd rfl kk
theorem g_lshl (hO : gOk Γ E cc own nL rm ret nm) {x : Int64} {y : Int32} (hd : gD cc pc (.lshl) 1 pc') (k : Go Γ E B nL kn pc' S lv (vJ (jlshl x y) :: st) res) : Go Γ E B nL kn pc S lv (vI y :: vJ x :: st) res := by
  obtain ⟨hd, rfl⟩ := hd
  refine Go.lift ?_ k
  intro H locs ls Q hH hls kk
  exact lv_lshl hO.1 hO.2.1 hd rfl kk
theorem g_lshr (hO : gOk Γ E cc own nL rm ret nm) {x : Int64} {y : Int32} (hd : gD cc pc (.lshr) 1 pc') (k : Go Γ E B nL kn pc' S lv (vJ (jlshr x y) :: st) res) : Go Γ E B nL kn pc S lv (vI y :: vJ x :: st) res := by
  obtain ⟨hd, rfl⟩ := hd
  refine Go.lift ?_ k
  intro H locs ls Q hH hls kk
  exact lv_lshr hO.1 hO.2.1 hd rfl kk
theorem g_dup (hO : gOk Γ E cc own nL rm ret nm) {v : AV} (hd : gD cc pc (.dup) 1 pc') (hc : cat v = 1) (k : Go Γ E B nL kn pc' S lv (v :: v :: st) res) : Go Γ E B nL kn pc S lv (v :: st) res := by
  obtain ⟨hd, rfl⟩ := hd
  refine Go.lift ?_ k
  intro H locs ls Q hH hls kk
  exact lv_dup hO.1 hO.2.1 hd ((cv_cat E v).trans hc) kk
theorem g_dup2 (hO : gOk Γ E cc own nL rm ret nm) {v w : AV} (hd : gD cc pc (.dup2) 1 pc') (hc : cat v = 1) (hc2 : cat w = 1) (k : Go Γ E B nL kn pc' S lv (v :: w :: v :: w :: st) res) : Go Γ E B nL kn pc S lv (v :: w :: st) res := by
  obtain ⟨hd, rfl⟩ := hd
  refine Go.lift ?_ k
  intro H locs ls Q hH hls kk
  exact lv_dup2_11 hO.1 hO.2.1 hd ((cv_cat E v).trans hc) ((cv_cat E w).trans hc2) kk
theorem g_pop (hO : gOk Γ E cc own nL rm ret nm) {v : AV} (hd : gD cc pc (.pop) 1 pc') (hc : cat v = 1) (k : Go Γ E B nL kn pc' S lv (st) res) : Go Γ E B nL kn pc S lv (v :: st) res := by
  obtain ⟨hd, rfl⟩ := hd
  refine Go.lift ?_ k
  intro H locs ls Q hH hls kk
  exact lv_pop hO.1 hO.2.1 hd ((cv_cat E v).trans hc) kk
theorem g_ldc (hO : gOk Γ E cc own nL rm ret nm) {ix : Nat} (v : Int32) (hd : gD cc pc (.ldc ix) 2 pc') (hw : Cond.constant own ix v ∈ gT) (k : Go Γ E B nL kn pc' S lv (vI v :: st) res) : Go Γ E B nL kn pc S lv (st) res := by
  obtain ⟨hd, rfl⟩ := hd
  refine Go.lift ?_ k
  intro H locs ls Q hH hls kk
  exact lv_ldc hO.1 hO.2.1 hO.2.2.2.1 (hO.2.2.2.2.1 _ hw) hd kk
theorem g_ldcw (hO : gOk Γ E cc own nL rm ret nm) {ix : Nat} (v : Int32) (hd : gD cc pc (.ldc_w ix) 3 pc') (hw : Cond.constant own ix v ∈ gT) (k : Go Γ E B nL kn pc' S lv (vI v :: st) res) : Go Γ E B nL kn pc S lv (st) res := by
  obtain ⟨hd, rfl⟩ := hd
  refine Go.lift ?_ k
  intro H locs ls Q hH hls kk
  exact lv_ldcw hO.1 hO.2.1 hO.2.2.2.1 (hO.2.2.2.2.1 _ hw) hd kk
theorem g_ldc2 (hO : gOk Γ E cc own nL rm ret nm) {ix : Nat} (v : Int64) (hd : gD cc pc (.ldc2_w ix) 3 pc') (hw : Cond.constantLong own ix v ∈ gT) (k : Go Γ E B nL kn pc' S lv (vJ v :: st) res) : Go Γ E B nL kn pc S lv (st) res := by
  obtain ⟨hd, rfl⟩ := hd
  refine Go.lift ?_ k
  intro H locs ls Q hH hls kk
  exact lv_ldc2 hO.1 hO.2.1 hO.2.2.2.1 (hO.2.2.2.2.1 _ hw) hd kk
theorem g_goto (hO : gOk Γ E cc own nL rm ret nm) {off : Int} {tgt : Nat} (hd : decode cc pc = .ok (.goto off, 3)) (ht : (pc : Int) + off = (tgt : Int)) (k : Go Γ E B nL kn tgt S lv st res) : Go Γ E B nL kn pc S lv st res := by
  refine Go.lift ?_ k
  intro H locs ls Q hH hls kk
  exact lv_goto hO.1 hO.2.1 hd ht kk
theorem g_if_eq (hO : gOk Γ E cc own nL rm ret nm) {off : Int} {tgt : Nat} {x : Int32} {A C : Option α} (hd : gD cc pc (.ifCond .eq off) 3 pc') (ht : (pc : Int) + off = (tgt : Int)) (k1 : x = 0 → Go Γ E B nL kn tgt S lv st A) (k2 : ¬ x = 0 → Go Γ E B nL kn pc' S lv st C) : Go Γ E B nL kn pc S lv (vI x :: st) (if x = 0 then A else C) := by
  obtain ⟨hd, rfl⟩ := hd
  intro a ha H locs ls hH hlo hls
  refine lv_if_eq hO.1 hO.2.1 hd ht (fun h => ?_) (fun h => ?_)
  · rw [if_pos h] at ha
    exact k1 h a ha H locs ls hH hlo hls
  · rw [if_neg h] at ha
    exact k2 h a ha H locs ls hH hlo hls
theorem g_ic_eq (hO : gOk Γ E cc own nL rm ret nm) {off : Int} {tgt : Nat} {x y : Int32} {A C : Option α} (hd : gD cc pc (.if_icmp .eq off) 3 pc') (ht : (pc : Int) + off = (tgt : Int)) (k1 : x = y → Go Γ E B nL kn tgt S lv st A) (k2 : ¬ x = y → Go Γ E B nL kn pc' S lv st C) : Go Γ E B nL kn pc S lv (vI y :: vI x :: st) (if x = y then A else C) := by
  obtain ⟨hd, rfl⟩ := hd
  intro a ha H locs ls hH hlo hls
  refine lv_icmp_eq hO.1 hO.2.1 hd ht (fun h => ?_) (fun h => ?_)
  · rw [if_pos h] at ha
    exact k1 h a ha H locs ls hH hlo hls
  · rw [if_neg h] at ha
    exact k2 h a ha H locs ls hH hlo hls
theorem g_if_ne (hO : gOk Γ E cc own nL rm ret nm) {off : Int} {tgt : Nat} {x : Int32} {A C : Option α} (hd : gD cc pc (.ifCond .ne off) 3 pc') (ht : (pc : Int) + off = (tgt : Int)) (k1 : x = 0 → Go Γ E B nL kn pc' S lv st A) (k2 : ¬ x = 0 → Go Γ E B nL kn tgt S lv st C) : Go Γ E B nL kn pc S lv (vI x :: st) (if x = 0 then A else C) := by
  obtain ⟨hd, rfl⟩ := hd
  intro a ha H locs ls hH hlo hls
  refine lv_if_ne hO.1 hO.2.1 hd ht (fun h => ?_) (fun h => ?_)
  · rw [if_neg h] at ha
    exact k2 h a ha H locs ls hH hlo hls
  · rw [if_pos h] at ha
    exact k1 h a ha H locs ls hH hlo hls
theorem g_ic_ne (hO : gOk Γ E cc own nL rm ret nm) {off : Int} {tgt : Nat} {x y : Int32} {A C : Option α} (hd : gD cc pc (.if_icmp .ne off) 3 pc') (ht : (pc : Int) + off = (tgt : Int)) (k1 : x = y → Go Γ E B nL kn pc' S lv st A) (k2 : ¬ x = y → Go Γ E B nL kn tgt S lv st C) : Go Γ E B nL kn pc S lv (vI y :: vI x :: st) (if x = y then A else C) := by
  obtain ⟨hd, rfl⟩ := hd
  intro a ha H locs ls hH hlo hls
  refine lv_icmp_ne hO.1 hO.2.1 hd ht (fun h => ?_) (fun h => ?_)
  · rw [if_neg h] at ha
    exact k2 h a ha H locs ls hH hlo hls
  · rw [if_pos h] at ha
    exact k1 h a ha H locs ls hH hlo hls
theorem g_if_lt (hO : gOk Γ E cc own nL rm ret nm) {off : Int} {tgt : Nat} {x : Int32} {A C : Option α} (hd : gD cc pc (.ifCond .lt off) 3 pc') (ht : (pc : Int) + off = (tgt : Int)) (k1 : x < 0 → Go Γ E B nL kn tgt S lv st A) (k2 : ¬ x < 0 → Go Γ E B nL kn pc' S lv st C) : Go Γ E B nL kn pc S lv (vI x :: st) (if x < 0 then A else C) := by
  obtain ⟨hd, rfl⟩ := hd
  intro a ha H locs ls hH hlo hls
  refine lv_if_lt hO.1 hO.2.1 hd ht (fun h => ?_) (fun h => ?_)
  · rw [if_pos h] at ha
    exact k1 h a ha H locs ls hH hlo hls
  · rw [if_neg h] at ha
    exact k2 h a ha H locs ls hH hlo hls
theorem g_ic_lt (hO : gOk Γ E cc own nL rm ret nm) {off : Int} {tgt : Nat} {x y : Int32} {A C : Option α} (hd : gD cc pc (.if_icmp .lt off) 3 pc') (ht : (pc : Int) + off = (tgt : Int)) (k1 : x < y → Go Γ E B nL kn tgt S lv st A) (k2 : ¬ x < y → Go Γ E B nL kn pc' S lv st C) : Go Γ E B nL kn pc S lv (vI y :: vI x :: st) (if x < y then A else C) := by
  obtain ⟨hd, rfl⟩ := hd
  intro a ha H locs ls hH hlo hls
  refine lv_icmp_lt hO.1 hO.2.1 hd ht (fun h => ?_) (fun h => ?_)
  · rw [if_pos h] at ha
    exact k1 h a ha H locs ls hH hlo hls
  · rw [if_neg h] at ha
    exact k2 h a ha H locs ls hH hlo hls
theorem g_if_ge (hO : gOk Γ E cc own nL rm ret nm) {off : Int} {tgt : Nat} {x : Int32} {A C : Option α} (hd : gD cc pc (.ifCond .ge off) 3 pc') (ht : (pc : Int) + off = (tgt : Int)) (k1 : 0 ≤ x → Go Γ E B nL kn tgt S lv st A) (k2 : ¬ 0 ≤ x → Go Γ E B nL kn pc' S lv st C) : Go Γ E B nL kn pc S lv (vI x :: st) (if 0 ≤ x then A else C) := by
  obtain ⟨hd, rfl⟩ := hd
  intro a ha H locs ls hH hlo hls
  refine lv_if_ge hO.1 hO.2.1 hd ht (fun h => ?_) (fun h => ?_)
  · rw [if_pos h] at ha
    exact k1 h a ha H locs ls hH hlo hls
  · rw [if_neg h] at ha
    exact k2 h a ha H locs ls hH hlo hls
theorem g_ic_ge (hO : gOk Γ E cc own nL rm ret nm) {off : Int} {tgt : Nat} {x y : Int32} {A C : Option α} (hd : gD cc pc (.if_icmp .ge off) 3 pc') (ht : (pc : Int) + off = (tgt : Int)) (k1 : y ≤ x → Go Γ E B nL kn tgt S lv st A) (k2 : ¬ y ≤ x → Go Γ E B nL kn pc' S lv st C) : Go Γ E B nL kn pc S lv (vI y :: vI x :: st) (if y ≤ x then A else C) := by
  obtain ⟨hd, rfl⟩ := hd
  intro a ha H locs ls hH hlo hls
  refine lv_icmp_ge hO.1 hO.2.1 hd ht (fun h => ?_) (fun h => ?_)
  · rw [if_pos h] at ha
    exact k1 h a ha H locs ls hH hlo hls
  · rw [if_neg h] at ha
    exact k2 h a ha H locs ls hH hlo hls
theorem g_if_gt (hO : gOk Γ E cc own nL rm ret nm) {off : Int} {tgt : Nat} {x : Int32} {A C : Option α} (hd : gD cc pc (.ifCond .gt off) 3 pc') (ht : (pc : Int) + off = (tgt : Int)) (k1 : 0 < x → Go Γ E B nL kn tgt S lv st A) (k2 : ¬ 0 < x → Go Γ E B nL kn pc' S lv st C) : Go Γ E B nL kn pc S lv (vI x :: st) (if 0 < x then A else C) := by
  obtain ⟨hd, rfl⟩ := hd
  intro a ha H locs ls hH hlo hls
  refine lv_if_gt hO.1 hO.2.1 hd ht (fun h => ?_) (fun h => ?_)
  · rw [if_pos h] at ha
    exact k1 h a ha H locs ls hH hlo hls
  · rw [if_neg h] at ha
    exact k2 h a ha H locs ls hH hlo hls
theorem g_ic_gt (hO : gOk Γ E cc own nL rm ret nm) {off : Int} {tgt : Nat} {x y : Int32} {A C : Option α} (hd : gD cc pc (.if_icmp .gt off) 3 pc') (ht : (pc : Int) + off = (tgt : Int)) (k1 : y < x → Go Γ E B nL kn tgt S lv st A) (k2 : ¬ y < x → Go Γ E B nL kn pc' S lv st C) : Go Γ E B nL kn pc S lv (vI y :: vI x :: st) (if y < x then A else C) := by
  obtain ⟨hd, rfl⟩ := hd
  intro a ha H locs ls hH hlo hls
  refine lv_icmp_gt hO.1 hO.2.1 hd ht (fun h => ?_) (fun h => ?_)
  · rw [if_pos h] at ha
    exact k1 h a ha H locs ls hH hlo hls
  · rw [if_neg h] at ha
    exact k2 h a ha H locs ls hH hlo hls
theorem g_if_le (hO : gOk Γ E cc own nL rm ret nm) {off : Int} {tgt : Nat} {x : Int32} {A C : Option α} (hd : gD cc pc (.ifCond .le off) 3 pc') (ht : (pc : Int) + off = (tgt : Int)) (k1 : x ≤ 0 → Go Γ E B nL kn tgt S lv st A) (k2 : ¬ x ≤ 0 → Go Γ E B nL kn pc' S lv st C) : Go Γ E B nL kn pc S lv (vI x :: st) (if x ≤ 0 then A else C) := by
  obtain ⟨hd, rfl⟩ := hd
  intro a ha H locs ls hH hlo hls
  refine lv_if_le hO.1 hO.2.1 hd ht (fun h => ?_) (fun h => ?_)
  · rw [if_pos h] at ha
    exact k1 h a ha H locs ls hH hlo hls
  · rw [if_neg h] at ha
    exact k2 h a ha H locs ls hH hlo hls
theorem g_ic_le (hO : gOk Γ E cc own nL rm ret nm) {off : Int} {tgt : Nat} {x y : Int32} {A C : Option α} (hd : gD cc pc (.if_icmp .le off) 3 pc') (ht : (pc : Int) + off = (tgt : Int)) (k1 : x ≤ y → Go Γ E B nL kn tgt S lv st A) (k2 : ¬ x ≤ y → Go Γ E B nL kn pc' S lv st C) : Go Γ E B nL kn pc S lv (vI y :: vI x :: st) (if x ≤ y then A else C) := by
  obtain ⟨hd, rfl⟩ := hd
  intro a ha H locs ls hH hlo hls
  refine lv_icmp_le hO.1 hO.2.1 hd ht (fun h => ?_) (fun h => ?_)
  · rw [if_pos h] at ha
    exact k1 h a ha H locs ls hH hlo hls
  · rw [if_neg h] at ha
    exact k2 h a ha H locs ls hH hlo hls
theorem g_aload_n (hO : gOk Γ E cc own nL rm ret nm) {q : Fin 4} {i : Nat} {x : Option Nat} (hd : gD cc pc (.aload_n q) 1 pc') (hi : (q : Nat) = i) (j : Nat) (hj : lv[j]? = some (i, vA x)) (k : Go Γ E B nL kn pc' S lv (vA x :: st) res) : Go Γ E B nL kn pc S lv st res := by
  obtain ⟨hd, rfl⟩ := hd
  refine Go.lift ?_ k
  intro H locs ls Q hH hls kk
  cases x with
  | none => exact lv_aload_nN hO.1 hO.2.1 hd hi (g_at hls j hj) kk
  | some x => exact lv_aload_n hO.1 hO.2.1 hd hi (g_at hls j hj) kk
theorem g_aload (hO : gOk Γ E cc own nL rm ret nm) {i : Nat} {x : Option Nat} (hd : gD cc pc (.aload i) 2 pc') (j : Nat) (hj : lv[j]? = some (i, vA x)) (k : Go Γ E B nL kn pc' S lv (vA x :: st) res) : Go Γ E B nL kn pc S lv st res := by
  obtain ⟨hd, rfl⟩ := hd
  refine Go.lift ?_ k
  intro H locs ls Q hH hls kk
  cases x with
  | none => exact lv_aloadN hO.1 hO.2.1 hd (g_at hls j hj) kk
  | some x => exact lv_aload hO.1 hO.2.1 hd (g_at hls j hj) kk
/-- a store of one slot, of two -/
theorem g_st1 (E : GE) {i : Nat} {v : AV} (h : (i, v) :: lv.filter (fun q => !(q.1 == i) && !(q.1 + 1 == i && cat q.2 == 2)) = lv') : (i, cv E v) :: (gcv E lv).filter (fun q => !(q.1 == i) && !(q.1 + 1 == i && q.2.category == 2)) = gcv E lv' := by
  subst h
  show _ = (i, cv E v) :: gcv E _
  congr 1
  unfold gcv
  rw [List.filter_map]
  congr 1
  apply List.filter_congr
  intro q _
  simp only [Function.comp, cv_cat]
theorem g_st2 (E : GE) {i : Nat} {v : AV} (h : (i, v) :: lv.filter (fun q => !(q.1 == i) && (!(q.1 == i + 1) && !(q.1 + 1 == i && cat q.2 == 2))) = lv') : (i, cv E v) :: (gcv E lv).filter (fun q => !(q.1 == i) && (!(q.1 == i + 1) && !(q.1 + 1 == i && q.2.category == 2))) = gcv E lv' := by
  subst h
  show _ = (i, cv E v) :: gcv E _
  congr 1
  unfold gcv
  rw [List.filter_map]
  congr 1
  apply List.filter_congr
  intro q _
  simp only [Function.comp, cv_cat]
theorem g_istore_n (hO : gOk Γ E cc own nL rm ret nm) {q : Fin 4} {i : Nat} {x : Int32} (hd : gD cc pc (.istore_n q) 1 pc') (hi : (q : Nat) = i) (hn : i < nL) (hl : (i, vI x) :: lv.filter (fun q => !(q.1 == i) && !(q.1 + 1 == i && cat q.2 == 2)) = lv') (k : Go Γ E B nL kn pc' S lv' st res) : Go Γ E B nL kn pc S lv (vI x :: st) res := by
  obtain ⟨hd, rfl⟩ := hd
  intro a ha H locs ls hH hlo hls
  exact lv_istore_n hO.1 hO.2.1 hd hi hls hn (g_st1 E hl) fun ls' hl' => k a ha H locs ls' hH hlo hl'
theorem g_istore (hO : gOk Γ E cc own nL rm ret nm) {i : Nat} {x : Int32} (hd : gD cc pc (.istore i) 2 pc') (hn : i < nL) (hl : (i, vI x) :: lv.filter (fun q => !(q.1 == i) && !(q.1 + 1 == i && cat q.2 == 2)) = lv') (k : Go Γ E B nL kn pc' S lv' st res) : Go Γ E B nL kn pc S lv (vI x :: st) res := by
  obtain ⟨hd, rfl⟩ := hd
  intro a ha H locs ls hH hlo hls
  exact lv_istore hO.1 hO.2.1 hd hls hn (g_st1 E hl) fun ls' hl' => k a ha H locs ls' hH hlo hl'
theorem g_lstore_n (hO : gOk Γ E cc own nL rm ret nm) {q : Fin 4} {i : Nat} {x : Int64} (hd : gD cc pc (.lstore_n q) 1 pc') (hi : (q : Nat) = i) (hn : i + 1 < nL) (hl : (i, vJ x) :: lv.filter (fun q => !(q.1 == i) && (!(q.1 == i + 1) && !(q.1 + 1 == i && cat q.2 == 2))) = lv') (k : Go Γ E B nL kn pc' S lv' st res) : Go Γ E B nL kn pc S lv (vJ x :: st) res := by
  obtain ⟨hd, rfl⟩ := hd
  intro a ha H locs ls hH hlo hls
  exact lv_lstore_n hO.1 hO.2.1 hd hi hls hn (g_st2 E hl) fun ls' hl' => k a ha H locs ls' hH hlo hl'
theorem g_lstore (hO : gOk Γ E cc own nL rm ret nm) {i : Nat} {x : Int64} (hd : gD cc pc (.lstore i) 2 pc') (hn : i + 1 < nL) (hl : (i, vJ x) :: lv.filter (fun q => !(q.1 == i) && (!(q.1 == i + 1) && !(q.1 + 1 == i && cat q.2 == 2))) = lv') (k : Go Γ E B nL kn pc' S lv' st res) : Go Γ E B nL kn pc S lv (vJ x :: st) res := by
  obtain ⟨hd, rfl⟩ := hd
  intro a ha H locs ls hH hlo hls
  exact lv_lstore hO.1 hO.2.1 hd hls hn (g_st2 E hl) fun ls' hl' => k a ha H locs ls' hH hlo hl'
theorem g_astore_n (hO : gOk Γ E cc own nL rm ret nm) {q : Fin 4} {i : Nat} {x : Option Nat} (hd : gD cc pc (.astore_n q) 1 pc') (hi : (q : Nat) = i) (hn : i < nL) (hl : (i, vA x) :: lv.filter (fun q => !(q.1 == i) && !(q.1 + 1 == i && cat q.2 == 2)) = lv') (k : Go Γ E B nL kn pc' S lv' st res) : Go Γ E B nL kn pc S lv (vA x :: st) res := by
  obtain ⟨hd, rfl⟩ := hd
  intro a ha H locs ls hH hlo hls
  cases x with
  | none => exact lv_astore_nN hO.1 hO.2.1 hd hi hls hn (g_st1 E hl) fun ls' hl' => k a ha H locs ls' hH hlo hl'
  | some x => exact lv_astore_n hO.1 hO.2.1 hd hi hls hn (g_st1 E hl) fun ls' hl' => k a ha H locs ls' hH hlo hl'
theorem g_astore (hO : gOk Γ E cc own nL rm ret nm) {i : Nat} {x : Option Nat} (hd : gD cc pc (.astore i) 2 pc') (hn : i < nL) (hl : (i, vA x) :: lv.filter (fun q => !(q.1 == i) && !(q.1 + 1 == i && cat q.2 == 2)) = lv') (k : Go Γ E B nL kn pc' S lv' st res) : Go Γ E B nL kn pc S lv (vA x :: st) res := by
  obtain ⟨hd, rfl⟩ := hd
  intro a ha H locs ls hH hlo hls
  cases x with
  | none => exact lv_astoreN hO.1 hO.2.1 hd hls hn (g_st1 E hl) fun ls' hl' => k a ha H locs ls' hH hlo hl'
  | some x => exact lv_astore hO.1 hO.2.1 hd hls hn (g_st1 E hl) fun ls' hl' => k a ha H locs ls' hH hlo hl'
theorem g_iinc (hO : gOk Γ E cc own nL rm ret nm) {i : Nat} {n : Int} {x : Int32} (v : Int32) (hd : gD cc pc (.iinc i n) 3 pc') (hv : Int32.ofInt n = v) (j : Nat) (hj : lv[j]? = some (i, vI x)) (hn : i < nL) (hl : (i, vI (x + v)) :: lv.filter (fun q => !(q.1 == i) && !(q.1 + 1 == i && cat q.2 == 2)) = lv') (k : Go Γ E B nL kn pc' S lv' st res) : Go Γ E B nL kn pc S lv st res := by
  obtain ⟨hd, rfl⟩ := hd
  intro a ha H locs ls hH hlo hls
  exact lv_iinc (v := x + v) hO.1 hO.2.1 hd hls (k := j) (by rw [List.getElem?_map, hj]; rfl) (by rw [hv]) hn (g_st1 E hl) fun ls' hl' => k a ha H locs ls' hH hlo hl'
theorem g_ifnull (hO : gOk Γ E cc own nL rm ret nm) {off : Int} {tgt : Nat} {r : Option Nat} {A C : Option α} (hd : gD cc pc (.ifnull off) 3 pc') (ht : (pc : Int) + off = (tgt : Int)) (k1 : Go Γ E B nL kn tgt S lv st A) (k2 : Go Γ E B nL kn pc' S lv st C) : Go Γ E B nL kn pc S lv (vA r :: st) (nul r A C) := by
  obtain ⟨hd, rfl⟩ := hd
  intro a ha H locs ls hH hlo hls
  cases r with
  | none => exact lv_ifnullN hO.1 hO.2.1 hd ht (k1 a ha H locs ls hH hlo hls)
  | some x => exact lv_ifnull hO.1 hO.2.1 hd (k2 a ha H locs ls hH hlo hls)
theorem g_ifnonnull (hO : gOk Γ E cc own nL rm ret nm) {off : Int} {tgt : Nat} {r : Option Nat} {A C : Option α} (hd : gD cc pc (.ifnonnull off) 3 pc') (ht : (pc : Int) + off = (tgt : Int)) (k1 : Go Γ E B nL kn pc' S lv st A) (k2 : Go Γ E B nL kn tgt S lv st C) : Go Γ E B nL kn pc S lv (vA r :: st) (nul r A C) := by
  obtain ⟨hd, rfl⟩ := hd
  intro a ha H locs ls hH hlo hls
  cases r with
  | none => exact lv_ifnonnullN hO.1 hO.2.1 hd (k1 a ha H locs ls hH hlo hls)
  | some x => exact lv_ifnonnull hO.1 hO.2.1 hd ht (k2 a ha H locs ls hH hlo hls)
theorem g_idiv (hO : gOk Γ E cc own nL rm ret nm) {x y : Int32} (hd : gD cc pc .idiv 1 pc') (k : Go Γ E B nL kn pc' S lv (vI (x / y) :: st) res) : Go Γ E B nL kn pc S lv (vI y :: vI x :: st) (dz y res) := by
  obtain ⟨hd, rfl⟩ := hd
  intro a ha H locs ls hH hlo hls
  unfold dz at ha
  split at ha
  · cases ha
  · next h => exact lv_idiv hO.1 hO.2.1 hd h (k a ha H locs ls hH hlo hls)
theorem g_irem (hO : gOk Γ E cc own nL rm ret nm) {x y : Int32} (hd : gD cc pc .irem 1 pc') (k : Go Γ E B nL kn pc' S lv (vI (jrem x y) :: st) res) : Go Γ E B nL kn pc S lv (vI y :: vI x :: st) (dz y res) := by
  obtain ⟨hd, rfl⟩ := hd
  intro a ha H locs ls hH hlo hls
  unfold dz at ha
  split at ha
  · cases ha
  · next h => exact lv_irem hO.1 hO.2.1 hd h (k a ha H locs ls hH hlo hls)
theorem g_ldiv (hO : gOk Γ E cc own nL rm ret nm) {x y : Int64} (hd : gD cc pc .ldiv 1 pc') (k : Go Γ E B nL kn pc' S lv (vJ (x / y) :: st) res) : Go Γ E B nL kn pc S lv (vJ y :: vJ x :: st) (dzl y res) := by
  obtain ⟨hd, rfl⟩ := hd
  intro a ha H locs ls hH hlo hls
  unfold dzl at ha
  split at ha
  · cases ha
  · next h => exact lv_ldiv hO.1 hO.2.1 hd h (k a ha H locs ls hH hlo hls)
theorem g_lrem (hO : gOk Γ E cc own nL rm ret nm) {x y : Int64} (hd : gD cc pc .lrem 1 pc') (k : Go Γ E B nL kn pc' S lv (vJ (jlrem x y) :: st) res) : Go Γ E B nL kn pc S lv (vJ y :: vJ x :: st) (dzl y res) := by
  obtain ⟨hd, rfl⟩ := hd
  intro a ha H locs ls hH hlo hls
  unfold dzl at ha
  split at ha
  · cases ha
  · next h => exact lv_lrem hO.1 hO.2.1 hd h (k a ha H locs ls hH hlo hls)
end GO
