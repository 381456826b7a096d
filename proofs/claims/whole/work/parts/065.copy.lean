/-! copies of arrays; texts; making -/
theorem g_nn {z : Int32} (hz : ¬ z < 0) : z.toInt = (z.toNatClampNeg : Int) := by
  have hz0 : (0 : Int) ≤ z.toInt := by
    have := Int32.not_lt.mp hz
    simpa using Int32.le_iff_toInt_le.mp this
  show z.toInt = ((z.toInt.toNat : Nat) : Int)
  omega
def acI {α : Type} (c : Nat) (r0 : Option Nat) (sp : Int32) (r1 : Option Nat) (dp n : Int32) (S : GS) (g : GS → Option α) : Option α := rn r0 c S fun a => rn r1 c S fun b => if sp < 0 ∨ dp < 0 ∨ n < 0 ∨ ln a < sp.toNatClampNeg + n.toNatClampNeg ∨ ln b < dp.toNatClampNeg + n.toNatClampNeg ∨ a = b then none else g (sCI S a b sp.toNatClampNeg dp.toNatClampNeg n.toNatClampNeg)
def acJ {α : Type} (r0 : Option Nat) (sp : Int32) (r1 : Option Nat) (dp n : Int32) (S : GS) (g : GS → Option α) : Option α := rn r0 15 S fun a => rn r1 15 S fun b => if sp < 0 ∨ dp < 0 ∨ n < 0 ∨ ln a < sp.toNatClampNeg + n.toNatClampNeg ∨ ln b < dp.toNatClampNeg + n.toNatClampNeg ∨ a = b then none else g (sCJ S a b sp.toNatClampNeg dp.toNatClampNeg n.toNatClampNeg)
theorem gent_CI {E : GE} {S : GS} {a b sp dp n : Nat} {o' : Nat} (h : o' ≠ b) : gent E (sCI S a b sp dp n) o' = gent E S o' := by
  have e1 : (sCI S a b sp dp n).1 o' = S.1 o' := by
    funext i
    unfold sCI
    simp [h]
  unfold gent gcon
  have e : gfv E (sCI S a b sp dp n) o' = gfv E S o' := by
    funext j t
    unfold gfv
    rw [e1]
    rfl
  rw [e, e1]
  rfl
theorem gent_CJ {E : GE} {S : GS} {a b sp dp n : Nat} {o' : Nat} (h : o' ≠ b) : gent E (sCJ S a b sp dp n) o' = gent E S o' := by
  have e1 : (sCJ S a b sp dp n).2.1 o' = S.2.1 o' := by
    funext i
    unfold sCJ
    simp [h]
  unfold gent gcon
  have e : gfv E (sCJ S a b sp dp n) o' = gfv E S o' := by
    funext j t
    unfold gfv
    rw [e1]
    rfl
  rw [e, e1]
  rfl
section GO6
variable {α β : Type} {Γ : GC} {E : GE} {B : α → State → Prop} {nL : Nat} {kn : Nat × Nat} {pc pc' : Nat} {S : GS} {lv lv' : List (Nat × AV)} {st : List AV} {res : Option α} {cc : ByteArray} {own nm : String} {rm rm' : Room} {ret ret' : Option FieldType}
/-- System.arraycopy over rows of numbers: v0, v1 what the rows hold -/
theorem g_copyW (hO : gOk Γ E cc own nL rm ret nm) {ix : Nat} (w1 : Cond.methodLink own ix arraycopyName ∈ gT) (w2 : Cond.native arraycopyName ∈ gT) (w3 : Cond.static arraycopyName ∈ gT) (w4 : Cond.initialized "java/lang/System" ∈ gT) (hf : 1 ≤ rm.frames ∧ (st.map cat).sum + 18 ≤ rm.locals) {c a b : Nat} {f g : Nat → Int32} (hc1 : 13 ≤ c) (hc2 : c < 16) {H : Heap} {locs : List Loc} {ls : Array Slot} {Q : State → Prop} (hls : ls.size = nL) (ha : H[gl E a]? = some (arrV (E.2.1 c) (ln a) (fun j => Value.int (f j)))) (hb : H[gl E b]? = some (arrV (E.2.1 c) (ln b) (fun j => Value.int (g j)))) {sp dp n : Int32} (h1 : ¬ sp < 0) (h2 : ¬ dp < 0) (h3 : ¬ n < 0) (h4 : sp.toNatClampNeg + n.toNatClampNeg ≤ ln a) (h5 : dp.toNatClampNeg + n.toNatClampNeg ≤ ln b) (hfit : ∀ i, fits (gaty c) (.int (f i)) = true) (hd : decode cc pc = .ok (.invokestatic ix, 3))
    (kk : ∀ (H1 : Heap) (L : List Loc), H1[gl E b]? = some (arrV (E.2.1 c) (ln b) (fun j => Value.int (va_cpy f g sp.toNatClampNeg dp.toNatClampNeg n.toNatClampNeg j))) → H1.size = H.size → (∀ q : Nat, q ≠ gl E b → H1[q]? = H[q]?) → (∀ q ∈ L, q.base = gl E b) → gW Γ H1 (locs ++ L) kn.1 kn.2 Q (F0 Γ.2.2.2.2.2.1 (pc + 3) ls (st.map (cv E)))) : gW Γ H locs kn.1 kn.2 Q (F0 Γ.2.2.2.2.2.1 pc ls (.int n :: .int dp :: .ref (gl E b) :: .int sp :: .ref (gl E a) :: st.map (cv E))) := by
  obtain ⟨hx, hb0, hml, hown, hts, ⟨hK, -⟩, -, hrm, -, -⟩ := hO
  rw [← hrm] at hf
  intro T hT X
  obtain ⟨-, k0, hk0, cm0, hkk0⟩ := (hK.2 (c - 13) _ (gty_at E hc1 (by omega))).1 (ln a) (fun j => Value.int (f j))
  obtain ⟨-, k1, hk1, cm1, hkk1⟩ := (hK.2 (c - 13) _ (gty_at E hc1 (by omega))).1 (ln b) (fun j => Value.int (g j))
  have hprim : refKind (gaty c) = false := by
    rcases (show c = 13 ∨ c = 14 ∨ c = 15 by omega) with rfl | rfl | rfl <;> rfl
  obtain ⟨vm', X', step⟩ := X.arraycopy hx hown (hts _ w1) (hts _ w2) (hts _ w3) (hts _ w4) (src := gl E a) (dst := gl E b) (cs := arrV (E.2.1 c) (ln a) (fun j => Value.int (f j))) (cd := arrV (E.2.1 c) (ln b) (fun j => Value.int (g j))) (srcPos := sp) (destPos := dp) (n := n) (by rw [hT]; exact ha) (by rw [hT]; exact hb)
    (fun _ h => by cases h) (fun _ h => by cases h) (fun h => by cases h) (fun h => by cases h) hk0 hk1 hkk0 hkk1 (by simp [hprim]) h1 h2 h3
    (by rw [g_nn h1, g_nn h3, arrV_size]; omega)
    (by rw [g_nn h2, g_nn h3, arrV_size]; omega)
    (fun vm₁ _ i hi => by
      have e : (arrV (E.2.1 c) (ln a) (fun j => Value.int (f j))).slots.getD (sp.toNatClampNeg + i) .null = .int (f (sp.toNatClampNeg + i)) := by
        rw [Array.getD_eq_getD_getElem?, arrV_read _ _ (by omega)]
        rfl
      rw [e]
      exact ⟨hfit _, trivial⟩)
    (g := F0 Γ.2.2.2.2.2.1 pc ls (.int n :: .int dp :: .ref (gl E b) :: .int sp :: .ref (gl E a) :: st.map (cv E))) rfl (by rw [hml, ← hls]) (rest := st.map (cv E)) rfl (by rw [hb0]; exact hd) hf.1 (by
      have e7 : nativeFrameWords "java/lang/System" "arraycopy" 5 = 7 := by decide +kernel
      rw [e7, cv_cats]; show 2 * 0 + _ + _ ≤ _; omega)
  have e1 : copied (arrV (E.2.1 c) (ln a) (fun j => Value.int (f j))) (arrV (E.2.1 c) (ln b) (fun j => Value.int (g j))) sp dp n = arrV (E.2.1 c) (ln b) (fun j => Value.int (va_cpy f g sp.toNatClampNeg dp.toNatClampNeg n.toNatClampNeg j)) := va_copied .int (E.2.1 c) (E.2.1 c) f g h4
  rw [e1] at X' step
  have hl : gl E b < H.size := (Array.getElem?_eq_some_iff.mp hb).1
  have hheap : ((T.setVm vm').setCell (gl E b) (arrV (E.2.1 c) (ln b) (fun j => Value.int (va_cpy f g sp.toNatClampNeg dp.toNatClampNeg n.toNatClampNeg j)))).heap = H.setIfInBounds (gl E b) (arrV (E.2.1 c) (ln b) (fun j => Value.int (va_cpy f g sp.toNatClampNeg dp.toNatClampNeg n.toNatClampNeg j))) := by rw [← hT]; rfl
  obtain ⟨t, a1, b1⟩ := kk _ _ (by simp [Array.getElem?_setIfInBounds, hl]) (by simp) (fun q hq => by simp [Array.getElem?_setIfInBounds, Ne.symm hq]) (fun q hq => by
    obtain ⟨z, -, hz⟩ := List.mem_map.mp hq
    rw [← hz]) _ hheap X'
  exact ⟨t, step t a1, b1⟩
/-- System.arraycopy over rows of numbers: v0, v1 what the rows hold -/
theorem g_copyWJ (hO : gOk Γ E cc own nL rm ret nm) {ix : Nat} (w1 : Cond.methodLink own ix arraycopyName ∈ gT) (w2 : Cond.native arraycopyName ∈ gT) (w3 : Cond.static arraycopyName ∈ gT) (w4 : Cond.initialized "java/lang/System" ∈ gT) (hf : 1 ≤ rm.frames ∧ (st.map cat).sum + 18 ≤ rm.locals) {c a b : Nat} {f g : Nat → Int64} (hc1 : 13 ≤ c) (hc2 : c < 16) {H : Heap} {locs : List Loc} {ls : Array Slot} {Q : State → Prop} (hls : ls.size = nL) (ha : H[gl E a]? = some (arrV (E.2.1 c) (ln a) (fun j => Value.long (f j)))) (hb : H[gl E b]? = some (arrV (E.2.1 c) (ln b) (fun j => Value.long (g j)))) {sp dp n : Int32} (h1 : ¬ sp < 0) (h2 : ¬ dp < 0) (h3 : ¬ n < 0) (h4 : sp.toNatClampNeg + n.toNatClampNeg ≤ ln a) (h5 : dp.toNatClampNeg + n.toNatClampNeg ≤ ln b) (hfit : ∀ i, fits (gaty c) (.long (f i)) = true) (hd : decode cc pc = .ok (.invokestatic ix, 3))
    (kk : ∀ (H1 : Heap) (L : List Loc), H1[gl E b]? = some (arrV (E.2.1 c) (ln b) (fun j => Value.long (va_cpy f g sp.toNatClampNeg dp.toNatClampNeg n.toNatClampNeg j))) → H1.size = H.size → (∀ q : Nat, q ≠ gl E b → H1[q]? = H[q]?) → (∀ q ∈ L, q.base = gl E b) → gW Γ H1 (locs ++ L) kn.1 kn.2 Q (F0 Γ.2.2.2.2.2.1 (pc + 3) ls (st.map (cv E)))) : gW Γ H locs kn.1 kn.2 Q (F0 Γ.2.2.2.2.2.1 pc ls (.int n :: .int dp :: .ref (gl E b) :: .int sp :: .ref (gl E a) :: st.map (cv E))) := by
  obtain ⟨hx, hb0, hml, hown, hts, ⟨hK, -⟩, -, hrm, -, -⟩ := hO
  rw [← hrm] at hf
  intro T hT X
  obtain ⟨-, k0, hk0, cm0, hkk0⟩ := (hK.2 (c - 13) _ (gty_at E hc1 (by omega))).1 (ln a) (fun j => Value.long (f j))
  obtain ⟨-, k1, hk1, cm1, hkk1⟩ := (hK.2 (c - 13) _ (gty_at E hc1 (by omega))).1 (ln b) (fun j => Value.long (g j))
  have hprim : refKind (gaty c) = false := by
    rcases (show c = 13 ∨ c = 14 ∨ c = 15 by omega) with rfl | rfl | rfl <;> rfl
  obtain ⟨vm', X', step⟩ := X.arraycopy hx hown (hts _ w1) (hts _ w2) (hts _ w3) (hts _ w4) (src := gl E a) (dst := gl E b) (cs := arrV (E.2.1 c) (ln a) (fun j => Value.long (f j))) (cd := arrV (E.2.1 c) (ln b) (fun j => Value.long (g j))) (srcPos := sp) (destPos := dp) (n := n) (by rw [hT]; exact ha) (by rw [hT]; exact hb)
    (fun _ h => by cases h) (fun _ h => by cases h) (fun h => by cases h) (fun h => by cases h) hk0 hk1 hkk0 hkk1 (by simp [hprim]) h1 h2 h3
    (by rw [g_nn h1, g_nn h3, arrV_size]; omega)
    (by rw [g_nn h2, g_nn h3, arrV_size]; omega)
    (fun vm₁ _ i hi => by
      have e : (arrV (E.2.1 c) (ln a) (fun j => Value.long (f j))).slots.getD (sp.toNatClampNeg + i) .null = .long (f (sp.toNatClampNeg + i)) := by
        rw [Array.getD_eq_getD_getElem?, arrV_read _ _ (by omega)]
        rfl
      rw [e]
      exact ⟨hfit _, trivial⟩)
    (g := F0 Γ.2.2.2.2.2.1 pc ls (.int n :: .int dp :: .ref (gl E b) :: .int sp :: .ref (gl E a) :: st.map (cv E))) rfl (by rw [hml, ← hls]) (rest := st.map (cv E)) rfl (by rw [hb0]; exact hd) hf.1 (by
      have e7 : nativeFrameWords "java/lang/System" "arraycopy" 5 = 7 := by decide +kernel
      rw [e7, cv_cats]; show 2 * 0 + _ + _ ≤ _; omega)
  have e1 : copied (arrV (E.2.1 c) (ln a) (fun j => Value.long (f j))) (arrV (E.2.1 c) (ln b) (fun j => Value.long (g j))) sp dp n = arrV (E.2.1 c) (ln b) (fun j => Value.long (va_cpy f g sp.toNatClampNeg dp.toNatClampNeg n.toNatClampNeg j)) := va_copied .long (E.2.1 c) (E.2.1 c) f g h4
  rw [e1] at X' step
  have hl : gl E b < H.size := (Array.getElem?_eq_some_iff.mp hb).1
  have hheap : ((T.setVm vm').setCell (gl E b) (arrV (E.2.1 c) (ln b) (fun j => Value.long (va_cpy f g sp.toNatClampNeg dp.toNatClampNeg n.toNatClampNeg j)))).heap = H.setIfInBounds (gl E b) (arrV (E.2.1 c) (ln b) (fun j => Value.long (va_cpy f g sp.toNatClampNeg dp.toNatClampNeg n.toNatClampNeg j))) := by rw [← hT]; rfl
  obtain ⟨t, a1, b1⟩ := kk _ _ (by simp [Array.getElem?_setIfInBounds, hl]) (by simp) (fun q hq => by simp [Array.getElem?_setIfInBounds, Ne.symm hq]) (fun q hq => by
    obtain ⟨z, -, hz⟩ := List.mem_map.mp hq
    rw [← hz]) _ hheap X'
  exact ⟨t, step t a1, b1⟩
theorem gH_lo2 {E : GE} {S : GS} {H : Heap} {o : Nat} {locs L : List Loc} (hH : gH E S H) (h : o < S.2.2.2) (hlo : ∀ q ∈ locs, E.1 ≤ q.base) (hL : ∀ q ∈ L, q.base = gl E o) : ∀ q ∈ locs ++ L, E.1 ≤ q.base := fun q hq => by
  rcases List.mem_append.mp hq with h' | h'
  · exact hlo q h'
  · rw [hL q h', gl_lt hH h]
    omega
theorem h_acI (hO : gOk Γ E cc own nL rm ret nm) (c : Nat) (hc : c = 13 ∨ c = 14) {ix : Nat} (w1 : Cond.methodLink own ix arraycopyName ∈ gT) (w2 : Cond.native arraycopyName ∈ gT) (w3 : Cond.static arraycopyName ∈ gT) (w4 : Cond.initialized "java/lang/System" ∈ gT) (hf : 1 ≤ rm.frames ∧ (st.map cat).sum + 18 ≤ rm.locals) {r0 r1 : Option Nat} {sp dp n : Int32} {g : GS → Option α} (hd : gD cc pc (.invokestatic ix) 3 pc') (k : ∀ S', Go Γ E B nL kn pc' S' lv st (g S')) : Go Γ E B nL kn pc S lv (vI n :: vI dp :: vA r1 :: vI sp :: vA r0 :: st) (acI c r0 sp r1 dp n S g) := by
  obtain ⟨hd, rfl⟩ := hd
  intro x hx H locs ls hH hlo hls
  unfold acI rn at hx
  cases r0 with
  | none => cases hx
  | some a =>
    simp only at hx
    split at hx
    · next ka =>
      cases r1 with
      | none => cases hx
      | some b =>
        simp only at hx
        split at hx
        · next kb =>
          split at hx
          · cases hx
          · next hq =>
            simp only [not_or] at hq
            obtain ⟨q1, q2, q3, q4, q5, q6⟩ := hq
            have hA : ∀ o, gk S o = c → H[gl E o]? = some (arrV (E.2.1 c) (ln o) (fun j => .int (S.1 o j))) := fun o ho => by
              rw [gH_arr hH ho (by omega) (by omega)]
              unfold gcon vp_cell
              rw [if_neg (by omega), if_pos (by omega)]
            refine g_copyW (f := S.1 a) (g := S.1 b) hO w1 w2 w3 w4 hf (by omega) (by omega) hls.1 (hA a ka) (hA b kb) q1 q2 q3 (by omega) (by omega) (fun i => ?_) hd fun H1 L e z oq hL => ?_
            · rcases hc with rfl | rfl
              · exact hH.2.2.2.1 a i (gk_lt ka (by omega)).2
              · rfl
            · have hkb := gk_lt kb (by omega)
              refine k _ x hx H1 _ ls (gH_ast hH kb (by omega) (by omega) z oq ?_ rfl (fun o' h => gent_CI h) ?_) (gH_lo2 hH hkb.1 hlo hL) hls
              · rw [e]
                unfold gcon vp_cell
                rw [if_neg (by omega), if_pos (by omega)]
                show some (arrV (E.2.1 c) (ln b) _) = some (arrV (E.2.1 c) (ln b) _)
                congr 2
                funext j
                show Value.int (va_cpy (S.1 a) (S.1 b) _ _ _ j) = Value.int ((sCI S a b _ _ _).1 b j)
                unfold va_cpy sCI
                simp
              · intro o' i h13
                unfold sCI
                show fits .byte (.int (if o' = b then _ else _)) = true
                split
                · next hob =>
                  subst hob
                  split
                  · exact hH.2.2.2.1 a _ (by rw [(gk_lt ka (by omega)).2, ← hkb.2]; exact h13)
                  · exact hH.2.2.2.1 _ _ h13
                · exact hH.2.2.2.1 _ _ h13
        · cases hx
    · cases hx
theorem h_acJ (hO : gOk Γ E cc own nL rm ret nm) {ix : Nat} (w1 : Cond.methodLink own ix arraycopyName ∈ gT) (w2 : Cond.native arraycopyName ∈ gT) (w3 : Cond.static arraycopyName ∈ gT) (w4 : Cond.initialized "java/lang/System" ∈ gT) (hf : 1 ≤ rm.frames ∧ (st.map cat).sum + 18 ≤ rm.locals) {r0 r1 : Option Nat} {sp dp n : Int32} {g : GS → Option α} (hd : gD cc pc (.invokestatic ix) 3 pc') (k : ∀ S', Go Γ E B nL kn pc' S' lv st (g S')) : Go Γ E B nL kn pc S lv (vI n :: vI dp :: vA r1 :: vI sp :: vA r0 :: st) (acJ r0 sp r1 dp n S g) := by
  obtain ⟨hd, rfl⟩ := hd
  intro x hx H locs ls hH hlo hls
  unfold acJ rn at hx
  cases r0 with
  | none => cases hx
  | some a =>
    simp only at hx
    split at hx
    · next ka =>
      cases r1 with
      | none => cases hx
      | some b =>
        simp only at hx
        split at hx
        · next kb =>
          split at hx
          · cases hx
          · next hq =>
            simp only [not_or] at hq
            obtain ⟨q1, q2, q3, q4, q5, q6⟩ := hq
            have hA : ∀ o, gk S o = 15 → H[gl E o]? = some (arrV (E.2.1 15) (ln o) (fun j => .long (S.2.1 o j))) := fun o ho => gH_arr hH ho (by omega) (by omega)
            refine g_copyWJ (c := 15) (f := S.2.1 a) (g := S.2.1 b) hO w1 w2 w3 w4 hf (by omega) (by omega) hls.1 (hA a ka) (hA b kb) q1 q2 q3 (by omega) (by omega) (fun i => rfl) hd fun H1 L e z oq hL => ?_
            have hkb := gk_lt kb (by omega)
            refine k _ x hx H1 _ ls (gH_ast hH kb (by omega) (by omega) z oq ?_ rfl (fun o' h => gent_CJ h) hH.2.2.2.1) (gH_lo2 hH hkb.1 hlo hL) hls
            rw [e]
            show some (arrV (E.2.1 15) (ln b) _) = some (arrV (E.2.1 15) (ln b) (fun j => .long ((sCJ S a b _ _ _).2.1 b j)))
            congr 2
            funext j
            unfold va_cpy sCJ
            simp
        · cases hx
    · cases hx
end GO6
