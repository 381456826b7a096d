/-! arrays -/
section GO3
variable {α : Type} {Γ : GC} {E : GE} {B : α → State → Prop} {nL : Nat} {kn : Nat × Nat} {pc pc' : Nat} {S : GS} {lv lv' : List (Nat × AV)} {st : List AV} {res : Option α} {cc : ByteArray} {own nm : String} {rm : Room} {ret : Option FieldType}
theorem g_arrT {U : State} (h : gK E U) {c : Nat} (h1 : 13 ≤ c) (h2 : c < 22) (n : Nat) (z : Nat → Value) : U.isArrayOf (arrV (E.2.1 c) n z) (gaty c) := (h.1.2 (c - 13) _ (gty_at E h1 h2)).1 n z
theorem g_alen (hO : gOk Γ E cc own nL rm ret nm) (c : Nat) (h1 : 13 ≤ c) (h2 : c < 22) {r : Option Nat} {g : Int32 → Option α} (hd : gD cc pc .arraylength 1 pc') (k : ∀ v, Go Γ E B nL kn pc' S lv (vI v :: st) (g v)) : Go Γ E B nL kn pc S lv (vA r :: st) (rn r c S fun o => g (nI (ln o))) := by
  obtain ⟨hd, rfl⟩ := hd
  intro a ha H locs ls hH hlo hls
  cases r with
  | none => cases ha
  | some o =>
    unfold rn at ha
    simp only at ha
    split at ha
    · next hk =>
      have hc := gH_arr hH hk h1 h2
      obtain ⟨f, hf⟩ : ∃ f : Nat → Value, vp_cell (E.2.1 c) (gcon E S o c) = arrV (E.2.1 c) (ln o) f := by
        unfold gcon vp_cell
        by_cases e1 : c = 15
        · exact ⟨_, by simp only [if_pos e1]; rfl⟩
        · by_cases e2 : c < 17
          · exact ⟨_, by simp only [if_neg e1, if_pos e2]; rfl⟩
          · exact ⟨_, by simp only [if_neg e1, if_neg e2]; rfl⟩
      rw [hf] at hc
      exact W.alen hO.1 hO.2.1 hc (g_arrT hO.2.2.2.2.2.1 h1 h2 _ _) (n := nI (ln o)) (by rw [arrV_size]; rfl) rfl rfl hd (k _ a ha H locs ls hH hlo hls)
    · cases ha
theorem ix_in {α : Type} {j : Int32} {n : Nat} {k : Nat → Option α} {a : α} (h : ix j n k = some a) : ¬ (j < 0 ∨ n ≤ j.toNatClampNeg) ∧ k j.toNatClampNeg = some a := by
  unfold ix at h
  split at h
  · cases h
  · next q => exact ⟨q, h⟩

theorem g_iald (hO : gOk Γ E cc own nL rm ret nm) {r : Option Nat} {j : Int32} {g : Int32 → Option α} (hd : gD cc pc .iaload 1 pc') (k : ∀ v, Go Γ E B nL kn pc' S lv (vI v :: st) (g v)) : Go Γ E B nL kn pc S lv (vI j :: vA r :: st) (rn r 14 S fun o => ix j (ln o) fun i => g (S.1 o i)) := by
  obtain ⟨hd, rfl⟩ := hd
  intro a ha H locs ls hH hlo hls
  cases r with
  | none => cases ha
  | some o =>
    unfold rn at ha
    simp only at ha
    split at ha
    · next hk =>
      obtain ⟨hin, ha⟩ := ix_in ha
      have hc : H[gl E o]? = some (arrV (E.2.1 14) (ln o) (fun j => .int (S.1 o j))) := gH_arr hH hk (by omega) (by omega)
      have hlt : j.toNatClampNeg < ln o := Nat.not_le.mp fun q => hin (Or.inr q)
      exact W.iald (v := .int (S.1 o j.toNatClampNeg)) hO.1 hO.2.1 hc (g_arrT hO.2.2.2.2.2.1 (by omega) (by omega) _ _) (fun q => by cases q) (by rw [arrV_size]; exact hin) (by rw [arrV_read _ _ hlt]) rfl rfl hd (k _ a ha H locs ls hH hlo hls)
    · cases ha
theorem g_bald (hO : gOk Γ E cc own nL rm ret nm) {r : Option Nat} {j : Int32} {g : Int32 → Option α} (hd : gD cc pc .baload 1 pc') (k : ∀ v, Go Γ E B nL kn pc' S lv (vI v :: st) (g v)) : Go Γ E B nL kn pc S lv (vI j :: vA r :: st) (rn r 13 S fun o => ix j (ln o) fun i => g (S.1 o i)) := by
  obtain ⟨hd, rfl⟩ := hd
  intro a ha H locs ls hH hlo hls
  cases r with
  | none => cases ha
  | some o =>
    unfold rn at ha
    simp only at ha
    split at ha
    · next hk =>
      obtain ⟨hin, ha⟩ := ix_in ha
      have hc : H[gl E o]? = some (arrV (E.2.1 13) (ln o) (fun j => .int (S.1 o j))) := gH_arr hH hk (by omega) (by omega)
      have hlt : j.toNatClampNeg < ln o := Nat.not_le.mp fun q => hin (Or.inr q)
      exact W.bald (v := .int (S.1 o j.toNatClampNeg)) hO.1 hO.2.1 hc (g_arrT hO.2.2.2.2.2.1 (by omega) (by omega) _ _) (fun q => by cases q) (by rw [arrV_size]; exact hin) (by rw [arrV_read _ _ hlt]) rfl rfl hd (k _ a ha H locs ls hH hlo hls)
    · cases ha
theorem g_zald (hO : gOk Γ E cc own nL rm ret nm) {r : Option Nat} {j : Int32} {g : Int32 → Option α} (hd : gD cc pc .baload 1 pc') (k : ∀ v, Go Γ E B nL kn pc' S lv (vI v :: st) (g v)) : Go Γ E B nL kn pc S lv (vI j :: vA r :: st) (rn r 16 S fun o => ix j (ln o) fun i => g (S.1 o i)) := by
  obtain ⟨hd, rfl⟩ := hd
  intro a ha H locs ls hH hlo hls
  cases r with
  | none => cases ha
  | some o =>
    unfold rn at ha
    simp only at ha
    split at ha
    · next hk =>
      obtain ⟨hin, ha⟩ := ix_in ha
      have hc : H[gl E o]? = some (arrV (E.2.1 16) (ln o) (fun j => .int (S.1 o j))) := gH_arr hH hk (by omega) (by omega)
      have hlt : j.toNatClampNeg < ln o := Nat.not_le.mp fun q => hin (Or.inr q)
      exact W.zald (v := .int (S.1 o j.toNatClampNeg)) hO.1 hO.2.1 hc (g_arrT hO.2.2.2.2.2.1 (by omega) (by omega) _ _) (fun q => by cases q) (by rw [arrV_size]; exact hin) (by rw [arrV_read _ _ hlt]) rfl rfl hd (k _ a ha H locs ls hH hlo hls)
    · cases ha
theorem g_lald (hO : gOk Γ E cc own nL rm ret nm) {r : Option Nat} {j : Int32} {g : Int64 → Option α} (hd : gD cc pc .laload 1 pc') (k : ∀ v, Go Γ E B nL kn pc' S lv (vJ v :: st) (g v)) : Go Γ E B nL kn pc S lv (vI j :: vA r :: st) (rn r 15 S fun o => ix j (ln o) fun i => g (S.2.1 o i)) := by
  obtain ⟨hd, rfl⟩ := hd
  intro a ha H locs ls hH hlo hls
  cases r with
  | none => cases ha
  | some o =>
    unfold rn at ha
    simp only at ha
    split at ha
    · next hk =>
      obtain ⟨hin, ha⟩ := ix_in ha
      have hc : H[gl E o]? = some (arrV (E.2.1 15) (ln o) (fun j => .long (S.2.1 o j))) := gH_arr hH hk (by omega) (by omega)
      have hlt : j.toNatClampNeg < ln o := Nat.not_le.mp fun q => hin (Or.inr q)
      exact W.lald (v := .long (S.2.1 o j.toNatClampNeg)) hO.1 hO.2.1 hc (g_arrT hO.2.2.2.2.2.1 (by omega) (by omega) _ _) (fun q => by cases q) (by rw [arrV_size]; exact hin) (by rw [arrV_read _ _ hlt]) rfl rfl hd (k _ a ha H locs ls hH hlo hls)
    · cases ha
theorem g_aald (hO : gOk Γ E cc own nL rm ret nm) (c : Nat) (h1 : 17 ≤ c) (h2 : c < 22) {r : Option Nat} {j : Int32} {g : Option Nat → Option α} (hd : gD cc pc .aaload 1 pc') (k : ∀ v, Go Γ E B nL kn pc' S lv (vA v :: st) (g v)) : Go Γ E B nL kn pc S lv (vI j :: vA r :: st) (rn r c S fun o => ix j (ln o) fun i => g (S.2.2.1 o i)) := by
  obtain ⟨hd, rfl⟩ := hd
  intro a ha H locs ls hH hlo hls
  cases r with
  | none => cases ha
  | some o =>
    unfold rn at ha
    simp only at ha
    split at ha
    · next hk =>
      obtain ⟨hin, ha⟩ := ix_in ha
      have hc : H[gl E o]? = some (arrV (E.2.1 c) (ln o) (fun j => gr E (S.2.2.1 o j))) := by
        rw [gH_arr hH hk (by omega) h2]
        unfold gcon vp_cell
        rw [if_neg (by omega), if_neg (by omega)]
        rfl
      have hlt : j.toNatClampNeg < ln o := Nat.not_le.mp fun q => hin (Or.inr q)
      have hty : (gaty c).isReference = true := by
        rcases (show c = 17 ∨ c = 18 ∨ c = 19 ∨ c = 20 ∨ c = 21 by omega) with rfl | rfl | rfl | rfl | rfl <;> rfl
      exact W.aald (v := gr E (S.2.2.1 o j.toNatClampNeg)) (ty := gaty c) hO.1 hO.2.1 hc (g_arrT hO.2.2.2.2.2.1 (by omega) h2 _ _) hty (fun q => by cases q) (by rw [arrV_size]; exact hin) (by rw [arrV_read _ _ hlt]) rfl rfl hd (k _ a ha H locs ls hH hlo hls)
    · cases ha
theorem gH_lo {E : GE} {S : GS} {H : Heap} {o i : Nat} {locs : List Loc} (hH : gH E S H) (h : o < S.2.2.2) (hlo : ∀ q ∈ locs, E.1 ≤ q.base) : ∀ q ∈ locs ++ [⟨gl E o, i⟩], E.1 ≤ q.base := fun q hq => by
  rcases List.mem_append.mp hq with h' | h'
  · exact hlo q h'
  · rw [List.mem_singleton.mp h']
    show E.1 ≤ gl E o
    rw [gl_lt hH h]
    omega
theorem gH_ast {E : GE} {S S' : GS} {H H1 : Heap} {o c : Nat} (h : gH E S H) (hk : gk S o = c) (h1 : 13 ≤ c) (h2 : c < 22) (hz : H1.size = H.size) (hq : ∀ q : Nat, q ≠ gl E o → H1[q]? = H[q]?) (ha : H1[gl E o]? = some (vp_cell (E.2.1 c) (gcon E S' o c))) (hn : S'.2.2.2 = S.2.2.2) (hx : ∀ o' : Nat, o' ≠ o → gent E S' o' = gent E S o') (hb : ∀ o' i : Nat, kd o' = 13 → fits .byte (.int (S'.1 o' i)) = true) : gH E S' H1 := by
  refine gH_set h (gk_lt hk (by omega)).1 hz hq ?_ hn hx hb
  rw [gent_a (gk_lt hk (by omega)).2 h1]
  exact ha

theorem g_iast (hO : gOk Γ E cc own nL rm ret nm) {r : Option Nat} {j : Int32} {x : Int32} {g : GS → Option α} (hd : gD cc pc .iastore 1 pc') (k : ∀ S', Go Γ E B nL kn pc' S' lv st (g S')) : Go Γ E B nL kn pc S lv (vI x :: vI j :: vA r :: st) (rn r 14 S fun o => ix j (ln o) fun i => g (sI S o i (x))) := by
  obtain ⟨hd, rfl⟩ := hd
  intro a ha H locs ls hH hlo hls
  cases r with
  | none => cases ha
  | some o =>
    unfold rn at ha
    simp only at ha
    split at ha
    · next hk =>
      obtain ⟨hin, ha⟩ := ix_in ha
      have hc : H[gl E o]? = some (arrV (E.2.1 14) (ln o) (fun j => .int (S.1 o j))) := gH_arr hH hk (by omega) (by omega)
      refine W.iast hO.1 hO.2.1 hc (g_arrT hO.2.2.2.2.2.1 (by omega) (by omega) _ _) (fun q => by cases q) (by rw [arrV_size]; exact hin) rfl rfl hd fun H1 e z oq => ?_
      refine k _ a ha H1 _ ls (gH_ast hH hk (by omega) (by omega) z oq ?_ rfl (fun o' h => gent_I h) (fits_b (E := E) hH.2.2.2.1 (Or.inl (by rw [(gk_lt hk (by omega)).2]; omega)))) (gH_lo hH (gk_lt hk (by omega)).1 hlo) hls
      rw [e, arrV_store]
      show _ = some (arrV (E.2.1 14) (ln o) (fun q => .int ((sI S o j.toNatClampNeg (x)).1 o q)))
      congr 2
      funext q
      show updV _ _ _ q = .int (if o = o ∧ q = j.toNatClampNeg then _ else _)
      by_cases hq : q = j.toNatClampNeg
      · subst hq
        simp [updV]
      · simp [updV, hq]
    · cases ha
theorem g_bast (hO : gOk Γ E cc own nL rm ret nm) {r : Option Nat} {j : Int32} {x : Int32} {g : GS → Option α} (hd : gD cc pc .bastore 1 pc') (k : ∀ S', Go Γ E B nL kn pc' S' lv st (g S')) : Go Γ E B nL kn pc S lv (vI x :: vI j :: vA r :: st) (rn r 13 S fun o => ix j (ln o) fun i => g (sI S o i (x.toInt8.toInt32))) := by
  obtain ⟨hd, rfl⟩ := hd
  intro a ha H locs ls hH hlo hls
  cases r with
  | none => cases ha
  | some o =>
    unfold rn at ha
    simp only at ha
    split at ha
    · next hk =>
      obtain ⟨hin, ha⟩ := ix_in ha
      have hc : H[gl E o]? = some (arrV (E.2.1 13) (ln o) (fun j => .int (S.1 o j))) := gH_arr hH hk (by omega) (by omega)
      refine W.bast hO.1 hO.2.1 hc (g_arrT hO.2.2.2.2.2.1 (by omega) (by omega) _ _) (fun q => by cases q) (by rw [arrV_size]; exact hin) rfl rfl hd fun H1 e z oq => ?_
      refine k _ a ha H1 _ ls (gH_ast hH hk (by omega) (by omega) z oq ?_ rfl (fun o' h => gent_I h) (fits_b (E := E) hH.2.2.2.1 (Or.inr (pk_fb x)))) (gH_lo hH (gk_lt hk (by omega)).1 hlo) hls
      rw [e, arrV_store]
      show _ = some (arrV (E.2.1 13) (ln o) (fun q => .int ((sI S o j.toNatClampNeg (x.toInt8.toInt32)).1 o q)))
      congr 2
      funext q
      show updV _ _ _ q = .int (if o = o ∧ q = j.toNatClampNeg then _ else _)
      by_cases hq : q = j.toNatClampNeg
      · subst hq
        simp [updV, narrow_byte]
      · simp [updV, hq]
    · cases ha
theorem g_zast (hO : gOk Γ E cc own nL rm ret nm) {r : Option Nat} {j : Int32} {x : Int32} {g : GS → Option α} (hd : gD cc pc .bastore 1 pc') (k : ∀ S', Go Γ E B nL kn pc' S' lv st (g S')) : Go Γ E B nL kn pc S lv (vI x :: vI j :: vA r :: st) (rn r 16 S fun o => ix j (ln o) fun i => g (sI S o i (x &&& 1))) := by
  obtain ⟨hd, rfl⟩ := hd
  intro a ha H locs ls hH hlo hls
  cases r with
  | none => cases ha
  | some o =>
    unfold rn at ha
    simp only at ha
    split at ha
    · next hk =>
      obtain ⟨hin, ha⟩ := ix_in ha
      have hc : H[gl E o]? = some (arrV (E.2.1 16) (ln o) (fun j => .int (S.1 o j))) := gH_arr hH hk (by omega) (by omega)
      refine W.zast hO.1 hO.2.1 hc (g_arrT hO.2.2.2.2.2.1 (by omega) (by omega) _ _) (fun q => by cases q) (by rw [arrV_size]; exact hin) rfl rfl hd fun H1 e z oq => ?_
      refine k _ a ha H1 _ ls (gH_ast hH hk (by omega) (by omega) z oq ?_ rfl (fun o' h => gent_I h) (fits_b (E := E) hH.2.2.2.1 (Or.inl (by rw [(gk_lt hk (by omega)).2]; omega)))) (gH_lo hH (gk_lt hk (by omega)).1 hlo) hls
      rw [e, arrV_store]
      show _ = some (arrV (E.2.1 16) (ln o) (fun q => .int ((sI S o j.toNatClampNeg (x &&& 1)).1 o q)))
      congr 2
      funext q
      show updV _ _ _ q = .int (if o = o ∧ q = j.toNatClampNeg then _ else _)
      by_cases hq : q = j.toNatClampNeg
      · subst hq
        simp [updV, narrow]
      · simp [updV, hq]
    · cases ha
theorem g_last (hO : gOk Γ E cc own nL rm ret nm) {r : Option Nat} {j : Int32} {x : Int64} {g : GS → Option α} (hd : gD cc pc .lastore 1 pc') (k : ∀ S', Go Γ E B nL kn pc' S' lv st (g S')) : Go Γ E B nL kn pc S lv (vJ x :: vI j :: vA r :: st) (rn r 15 S fun o => ix j (ln o) fun i => g (sJ S o i (x))) := by
  obtain ⟨hd, rfl⟩ := hd
  intro a ha H locs ls hH hlo hls
  cases r with
  | none => cases ha
  | some o =>
    unfold rn at ha
    simp only at ha
    split at ha
    · next hk =>
      obtain ⟨hin, ha⟩ := ix_in ha
      have hc : H[gl E o]? = some (arrV (E.2.1 15) (ln o) (fun j => .long (S.2.1 o j))) := gH_arr hH hk (by omega) (by omega)
      refine W.last hO.1 hO.2.1 hc (g_arrT hO.2.2.2.2.2.1 (by omega) (by omega) _ _) (fun q => by cases q) (by rw [arrV_size]; exact hin) rfl rfl hd fun H1 e z oq => ?_
      refine k _ a ha H1 _ ls (gH_ast hH hk (by omega) (by omega) z oq ?_ rfl (fun o' h => gent_J h) (hH.2.2.2.1)) (gH_lo hH (gk_lt hk (by omega)).1 hlo) hls
      rw [e, arrV_store]
      show _ = some (arrV (E.2.1 15) (ln o) (fun q => .long ((sJ S o j.toNatClampNeg (x)).2.1 o q)))
      congr 2
      funext q
      show updV _ _ _ q = .long (if o = o ∧ q = j.toNatClampNeg then _ else _)
      by_cases hq : q = j.toNatClampNeg
      · subst hq
        simp [updV]
      · simp [updV, hq]
    · cases ha
end GO3
