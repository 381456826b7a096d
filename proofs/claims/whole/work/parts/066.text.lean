/-! texts: the 21 constants, their lengths and bytes; the statics that String reads -/
def zs {α : Type} (r : Option Nat) (g : Nat → Option α) : Option α := match r with
  | none => none
  | some o => if 100000 ≤ o ∧ o < 100000 + gSN then g (o - 100000) else none
def zt {α : Type} (r : Option Nat) (g : Nat → Option α) : Option α := match r with
  | none => none
  | some o => if 200000 ≤ o ∧ o < 200000 + gSN then g (o - 200000) else none
def zV {α : Type} (r : Option Nat) (g : Option Nat → Option α) : Option α := zs r fun i => g (some (200000 + i))
def zC {α : Type} (r : Option Nat) (g : Int32 → Option α) : Option α := zs r fun _ => g 0
def zl {α : Type} (r : Option Nat) (g : Int32 → Option α) : Option α := zt r fun i => g (nI (gSlen.getD i 0))
def zb {α : Type} (r : Option Nat) (j : Int32) (g : Int32 → Option α) : Option α := zt r fun i => ix j (gSlen.getD i 0) fun q => g ((gSbyt.getD i []).getD q 0)
def jc (x : Int32) : Int32 := (x.toUInt32 % 65536).toInt32
def tc {α : Type} (x : Int32) (k : Option α) : Option α := if jc x = x then k else none
/-- a call on a text -/
def cs1 {α β : Type} (r : Option Nat) (f : Nat → Option β) (g : β → Option α) : Option α := match r with
  | none => none
  | some o => if 100000 ≤ o ∧ o < 100000 + gSN then b1 (f o) g else none
section GO7
variable {α β : Type} {Γ : GC} {E : GE} {B : α → State → Prop} {nL : Nat} {kn : Nat × Nat} {pc pc' : Nat} {S : GS} {lv lv' : List (Nat × AV)} {st : List AV} {res : Option α} {cc : ByteArray} {own nm : String} {rm rm' : Room} {ret ret' : Option FieldType}
theorem gl_s {E : GE} {i : Nat} (h : i < gSN) : gl E (100000 + i) = E.2.2.2.2.1 i := by
  have : gSN = 21 := rfl
  unfold gl
  rw [if_neg (by omega), if_pos (by omega), Nat.add_sub_cancel_left]
theorem gl_t {E : GE} {i : Nat} (h : i < gSN) : gl E (200000 + i) = E.2.2.2.2.2.1 i := by
  have : gSN = 21 := rfl
  unfold gl
  rw [if_neg (by omega), if_neg (by omega), if_pos (by omega), Nat.add_sub_cancel_left]
theorem gl_f {E : GE} : gl E 300000 = E.2.2.2.2.2.2.1 := by
  unfold gl
  rw [if_neg (by omega), if_neg (by omega), if_neg (by omega), if_pos rfl]
/-- what lies below stays -/
theorem g_low {q : Nat} {cell : Cell} {H : Heap} (hH : gH E S H) (h : E.2.2.2.1[q]? = some cell) (hq : ¬ E.1 ≤ q) : H[q]? = some cell := by
  rw [hH.2.1 q (by omega)]
  exact h
theorem g_ldcS (hO : gOk Γ E cc "GlassLaces$Reader" nL rm ret nm) (i : Nat) (hi : i < gSN) {ix : Nat} (hix : gSix.getD i 0 = ix) (hd : gD cc pc (.ldc ix) 2 pc') (k : Go Γ E B nL kn pc' S lv (vA (some (100000 + i)) :: st) res) : Go Γ E B nL kn pc S lv st res := by
  obtain ⟨hd, rfl⟩ := hd
  subst hix
  refine Go.lift ?_ k
  intro H locs ls Q hH hls kk
  have e : gr E (some (100000 + i)) = .ref (E.2.2.2.2.1 i) := by
    show Value.ref (gl E (100000 + i)) = _
    rw [gl_s hi]
  have hZ := hO.2.2.2.2.2.1.2.2.1.2.1 i hi
  refine va_ldcS hO.1 hO.2.1 hO.2.2.2.1 hZ hd ?_
  rw [← e]
  exact kk
theorem g_of (hO : gOk Γ E cc own nL rm ret nm) {o n d : String} {v : Value} {q ix : Nat} {H : Heap} {locs : List Loc} {ls : Array Slot} {Q : State → Prop} {rest : List Value} (hH : gH E S H) (hE : va_OF o n d v q (fun q => E.1 ≤ q) Γ.2.2.2.2.1 E.2.2.2.1) (hw : Cond.fieldLink own ix o n d ∈ gT) (hd : decode cc pc = .ok (.getfield ix, 3))
    (kk : gW Γ H locs kn.1 kn.2 Q (F0 Γ.2.2.2.2.2.1 (pc + 3) ls (v :: rest))) : gW Γ H locs kn.1 kn.2 Q (F0 Γ.2.2.2.2.2.1 pc ls (.ref q :: rest)) := by
  obtain ⟨cf, k, fi, f, cell, h1, h2, h3, h4, h5, h6⟩ := hE
  exact W.getf hO.1 hO.2.1 hO.2.2.2.1 (hO.2.2.2.2.1 _ hw) h1 h2 (g_low hH h3 h6) h4 (v := v) h5 rfl rfl hd kk
theorem h_zV (hO : gOk Γ E cc own nL rm ret nm) {ix : Nat} (hw : Cond.fieldLink own ix "java/lang/String" "value" "[B" ∈ gT) {r : Option Nat} {g : Option Nat → Option α} (hd : gD cc pc (.getfield ix) 3 pc') (k : ∀ v, Go Γ E B nL kn pc' S lv (vA v :: st) (g v)) : Go Γ E B nL kn pc S lv (vA r :: st) (zV r g) := by
  obtain ⟨hd, rfl⟩ := hd
  intro a ha H locs ls hH hlo hls
  unfold zV zs at ha
  cases r with
  | none => cases ha
  | some o =>
    simp only at ha
    split at ha
    · next h =>
      obtain ⟨i, rfl⟩ : ∃ i, o = 100000 + i := ⟨o - 100000, by omega⟩
      have hi : i < gSN := by omega
      rw [show 100000 + i - 100000 = i by omega] at ha
      have e1 : gr E (some (100000 + i)) = .ref (E.2.2.2.2.1 i) := by show Value.ref (gl E (100000 + i)) = _; rw [gl_s hi]
      have e2 : gr E (some (200000 + i)) = .ref (E.2.2.2.2.2.1 i) := by show Value.ref (gl E (200000 + i)) = _; rw [gl_t hi]
      show gW Γ H locs kn.1 kn.2 (B a) (F0 _ pc ls (gr E (some (100000 + i)) :: st.map (cv E)))
      rw [e1]
      refine g_of hO hH (hO.2.2.2.2.2.1.2.2.1.1.1 i hi).2.2.1 hw hd ?_
      rw [← e2]
      exact k _ a ha H locs ls hH hlo hls
    · cases ha
theorem h_zC (hO : gOk Γ E cc own nL rm ret nm) {ix : Nat} (hw : Cond.fieldLink own ix "java/lang/String" "coder" "B" ∈ gT) {r : Option Nat} {g : Int32 → Option α} (hd : gD cc pc (.getfield ix) 3 pc') (k : Go Γ E B nL kn pc' S lv (vI 0 :: st) (g 0)) : Go Γ E B nL kn pc S lv (vA r :: st) (zC r g) := by
  obtain ⟨hd, rfl⟩ := hd
  intro a ha H locs ls hH hlo hls
  unfold zC zs at ha
  cases r with
  | none => cases ha
  | some o =>
    simp only at ha
    split at ha
    · next h =>
      obtain ⟨i, rfl⟩ : ∃ i, o = 100000 + i := ⟨o - 100000, by omega⟩
      have hi : i < gSN := by omega
      have e1 : gr E (some (100000 + i)) = .ref (E.2.2.2.2.1 i) := by show Value.ref (gl E (100000 + i)) = _; rw [gl_s hi]
      show gW Γ H locs kn.1 kn.2 (B a) (F0 _ pc ls (gr E (some (100000 + i)) :: st.map (cv E)))
      rw [e1]
      exact g_of hO hH (hO.2.2.2.2.2.1.2.2.1.1.1 i hi).2.1 hw hd (k a ha H locs ls hH hlo hls)
    · cases ha
theorem h_zl (hO : gOk Γ E cc own nL rm ret nm) {r : Option Nat} {g : Int32 → Option α} (hd : gD cc pc .arraylength 1 pc') (k : ∀ v, Go Γ E B nL kn pc' S lv (vI v :: st) (g v)) : Go Γ E B nL kn pc S lv (vA r :: st) (zl r g) := by
  obtain ⟨hd, rfl⟩ := hd
  intro a ha H locs ls hH hlo hls
  unfold zl zt at ha
  cases r with
  | none => cases ha
  | some o =>
    simp only at ha
    split at ha
    · next h =>
      obtain ⟨i, rfl⟩ : ∃ i, o = 200000 + i := ⟨o - 200000, by omega⟩
      have hi : i < gSN := by omega
      rw [show 200000 + i - 200000 = i by omega] at ha
      have e2 : gr E (some (200000 + i)) = .ref (E.2.2.2.2.2.1 i) := by show Value.ref (gl E (200000 + i)) = _; rw [gl_t hi]
      show gW Γ H locs kn.1 kn.2 (B a) (F0 _ pc ls (gr E (some (200000 + i)) :: st.map (cv E)))
      rw [e2]
      obtain ⟨scr, hs1, hs2, hs3, hs4, hs6, hs5, hs7⟩ := (hO.2.2.2.2.2.1.2.2.1.1.1 i hi).2.2.2
      exact W.alen hO.1 hO.2.1 (g_low hH hs1 hs7) hs2 (n := nI (gSlen.getD i 0)) hs6 rfl rfl hd (k _ a ha H locs ls hH hlo hls)
    · cases ha
theorem h_zb (hO : gOk Γ E cc own nL rm ret nm) {r : Option Nat} {j : Int32} {g : Int32 → Option α} (hd : gD cc pc .baload 1 pc') (k : ∀ v, Go Γ E B nL kn pc' S lv (vI v :: st) (g v)) : Go Γ E B nL kn pc S lv (vI j :: vA r :: st) (zb r j g) := by
  obtain ⟨hd, rfl⟩ := hd
  intro a ha H locs ls hH hlo hls
  unfold zb zt at ha
  cases r with
  | none => cases ha
  | some o =>
    simp only at ha
    split at ha
    · next h =>
      obtain ⟨i, rfl⟩ : ∃ i, o = 200000 + i := ⟨o - 200000, by omega⟩
      have hi : i < gSN := by omega
      rw [show 200000 + i - 200000 = i by omega] at ha
      obtain ⟨hin, ha⟩ := ix_in ha
      have e2 : gr E (some (200000 + i)) = .ref (E.2.2.2.2.2.1 i) := by show Value.ref (gl E (200000 + i)) = _; rw [gl_t hi]
      show gW Γ H locs kn.1 kn.2 (B a) (F0 _ pc ls (.int j :: gr E (some (200000 + i)) :: st.map (cv E)))
      rw [e2]
      obtain ⟨scr, hs1, hs2, hs3, hs4, hs6, hs5, hs7⟩ := (hO.2.2.2.2.2.1.2.2.1.1.1 i hi).2.2.2
      exact W.bald hO.1 hO.2.1 (g_low hH hs1 hs7) hs2 hs3 (fun q => hin (q.imp id (fun z => Nat.le_trans hs4 z))) (hs5 _ (by omega)) rfl rfl hd (k _ a ha H locs ls hH hlo hls)
    · cases ha
theorem g_stZ (hO : gOk Γ E cc own nL rm ret nm) {C n d : String} {v : Value} {ix : Nat} {H : Heap} {locs : List Loc} {ls : Array Slot} {Q : State → Prop} {rest : List Value} (hH : gH E S H) (hZ : va_Z C n d v (fun q => E.1 ≤ q) Γ.2.2.2.2.1 E.2.2.2.1) (hw : Cond.fieldLink own ix C n d ∈ gT) (hd : decode cc pc = .ok (.getstatic ix, 3))
    (kk : gW Γ H locs kn.1 kn.2 Q (F0 Γ.2.2.2.2.2.1 (pc + 3) ls (v :: rest))) : gW Γ H locs kn.1 kn.2 Q (F0 Γ.2.2.2.2.2.1 pc ls rest) := by
  obtain ⟨cf, kf, fi, f, q, cell, h1, h2, h3, h4, h5, h6, h7, h8⟩ := hZ
  exact W.gets hO.1 hO.2.1 hO.2.2.2.1 (hO.2.2.2.2.1 _ hw) h1 h2 h3 h4 (g_low hH h5 h8) (by
    intro hu
    rw [hu] at h6
    cases h6) h7 rfl hd kk
theorem g_gsC (hO : gOk Γ E cc own nL rm ret nm) {ix : Nat} (hw : Cond.fieldLink own ix "java/lang/String" "COMPACT_STRINGS" "Z" ∈ gT) (hd : gD cc pc (.getstatic ix) 3 pc') (k : Go Γ E B nL kn pc' S lv (vI 1 :: st) res) : Go Γ E B nL kn pc S lv st res := by
  obtain ⟨hd, rfl⟩ := hd
  refine Go.lift ?_ k
  intro H locs ls Q hH hls kk
  exact g_stZ hO hH hO.2.2.2.2.2.1.2.2.1.2.2.1 hw hd kk
theorem g_gsF (hO : gOk Γ E cc own nL rm ret nm) {ix : Nat} (hw : Cond.fieldLink own ix "jdk/internal/util/Preconditions" "SIOOBE_FORMATTER" "Ljava/util/function/BiFunction;" ∈ gT) (hd : gD cc pc (.getstatic ix) 3 pc') (k : ∀ r, Go Γ E B nL kn pc' S lv (vA r :: st) res) : Go Γ E B nL kn pc S lv st res := by
  obtain ⟨hd, rfl⟩ := hd
  intro a ha H locs ls hH hlo hls
  obtain ⟨v, hZ, hv⟩ := hO.2.2.2.2.2.1.2.2.1.2.2.2
  rcases hv with rfl | rfl
  · exact g_stZ hO hH hZ hw hd (k none a ha H locs ls hH hlo hls)
  · refine g_stZ hO hH hZ hw hd ?_
    have := k (some 300000) a ha H locs ls hH hlo hls
    rw [← gl_f]
    exact this
theorem g_i2c (hO : gOk Γ E cc own nL rm ret nm) {x : Int32} (hd : gD cc pc .i2c 1 pc') (k : Go Γ E B nL kn pc' S lv (vI (jc x) :: st) res) : Go Γ E B nL kn pc S lv (vI x :: st) res := by
  obtain ⟨hd, rfl⟩ := hd
  refine Go.lift ?_ k
  intro H locs ls Q hH hls kk
  exact lv_i2c hO.1 hO.2.1 hd rfl kk
theorem g_cret (hO : gOk Γ E cc own nL rm ret nm) {val : α → Option AV} {nxt : α → GS} {x : Int32} {b : α} (hr : ret = some .char) (hk : kn.1 ≤ rm.cells ∧ kn.2 ≤ rm.slots) (hv : val b = some (vI x)) (hn : nxt b = S) (hd : decode cc pc = .ok (.ireturn, 1)) : Go Γ E (gB Γ E val nxt) nL kn pc S lv [vI x] (tc x (some b)) := by
  intro a ha
  unfold tc at ha
  split at ha
  · next h => exact g_ret hO hr (by rw [← h]; exact pk_nc x) hk hv hn hd a ha
  · cases ha
/-- a call on a text -/
theorem k_virtSIp (hO : gOk Γ E cc own nL rm ret nm) {ix n : Nat} {y : MethodName} {bytes : ByteArray} {maxL : Nat} (hcl : y.cls = "java/lang/String") (hM : gM y bytes maxL ret' n) (hL : gLV own ix y) (hR : gRm rm rm' maxL kn) {kn' : Nat × Nat} (hkn : (kn.1 + rm'.cells, kn.2 + rm'.slots) = kn') {As : List AV} (hn : As.length = n) (hst : (st.map cat).sum ≤ 8) {f : Nat → Option Int32} {g : Int32 → Option α} {r : Option Nat}
    (hF : ∀ o, ∀ b, f o = some b → Ct Γ.2.1 E y bytes maxL ret' rm' (vA (some o) :: As) S (some (vI b)) S) (hd : gD cc pc (.invokevirtual ix) 3 pc') {st0 : List AV} (hs0 : As.reverse ++ vA r :: st = st0) (k : ∀ b, Go Γ E B nL kn' pc' S lv (vI b :: st) (g b)) : Go Γ E B nL kn pc S lv st0 (cs1 r f g) := by
  subst hkn
  obtain ⟨hd, rfl⟩ := hd
  subst hs0
  intro a ha H locs ls hH hlo hls
  unfold cs1 at ha
  cases r with
  | none => cases ha
  | some o =>
    simp only at ha
    split at ha
    · next h =>
      obtain ⟨i, rfl⟩ : ∃ i, o = 100000 + i := ⟨o - 100000, by omega⟩
      have hi : i < gSN := by omega
      cases hb : f (100000 + i) with
      | none => rw [hb] at ha; cases ha
      | some b =>
        rw [hb] at ha
        have hct := hF _ b hb
        obtain ⟨bl, pr⟩ := g_pre (Γ := Γ) (l := Γ.2.1) (y := y) (bytes := bytes) (maxL := maxL) (S' := S) (r := some (vI b)) (av := vA (some (100000 + i)) :: As) hO.2.2.2.2.2.1 hH
        have rc : ∃ cell : Cell, H[gl E (100000 + i)]? = some cell ∧ cell.vm.isStatics = false ∧ Γ.2.2.2.2.1.vm.findClass y.cls = some cell.cls := by
          obtain ⟨cell, c1, c2, c3, c4⟩ := (hO.2.2.2.2.2.1.2.2.1.1.1 i hi).1
          refine ⟨cell, ?_, c2, by rw [hcl]; exact c3⟩
          rw [gl_s hi]
          exact g_low hH c1 c4
        exact g_back (r := some (vI b)) (S' := S) (va_runV (C := y.cls) (b := gl E (100000 + i)) (As := As.map (cv E)) (g_fix hO) hct ⟨g_cB hO hM hL.1 hR, hO.2.2.2.2.1 _ hL.2.1, hO.2.2.2.2.1 _ hL.2.2⟩ ⟨bl, rc, pr⟩ rfl (by rw [List.length_map]; exact hn) hls.1 (by rw [List.map_append, List.map_reverse]; rfl) (lv_room (by rw [cv_cats]; exact hst)) hd (by rw [hO.2.2.2.2.2.2.2.1]; exact hR.2)) hlo fun H1 locs1 hH1 hlo1 => k b a ha H1 locs1 ls hH1 hlo1 hls
    · cases ha
end GO7
