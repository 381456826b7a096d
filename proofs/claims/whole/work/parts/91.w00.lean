theorem d_X7_init_0 : gD cX7_init 0 (.aload_n 0) 1 1 := ⟨by decide +kernel, rfl⟩
theorem d_X7_init_1 : gD cX7_init 1 (.invokespecial 3) 3 4 := ⟨by decide +kernel, rfl⟩
theorem d_X7_init_4 : gD cX7_init 4 (.aload_n 0) 1 5 := ⟨by decide +kernel, rfl⟩
theorem d_X7_init_5 : gD cX7_init 5 (.iload_n 1) 1 6 := ⟨by decide +kernel, rfl⟩
theorem d_X7_init_6 : gD cX7_init 6 (.putfield 9) 3 9 := ⟨by decide +kernel, rfl⟩
theorem d_X7_init_9 : gD cX7_init 9 (.aload_n 0) 1 10 := ⟨by decide +kernel, rfl⟩
theorem d_X7_init_10 : gD cX7_init 10 (.iload_n 2) 1 11 := ⟨by decide +kernel, rfl⟩
theorem d_X7_init_11 : gD cX7_init 11 (.putfield 15) 3 14 := ⟨by decide +kernel, rfl⟩
theorem d_X7_init_14 : gD cX7_init 14 (.aload_n 0) 1 15 := ⟨by decide +kernel, rfl⟩
theorem d_X7_init_15 : gD cX7_init 15 (.iload_n 1) 1 16 := ⟨by decide +kernel, rfl⟩
theorem d_X7_init_16 : gD cX7_init 16 (.iload_n 2) 1 17 := ⟨by decide +kernel, rfl⟩
theorem d_X7_init_17 : gD cX7_init 17 (.imul) 1 18 := ⟨by decide +kernel, rfl⟩
theorem d_X7_init_18 : gD cX7_init 18 (.newarray .int) 2 20 := ⟨by decide +kernel, rfl⟩
theorem d_X7_init_20 : gD cX7_init 20 (.putfield 18) 3 23 := ⟨by decide +kernel, rfl⟩
theorem d_X7_init_23 : gD cX7_init 23 (.return_) 1 24 := ⟨by decide +kernel, rfl⟩
abbrev rm_X7_init (x1 x2 : Int32) : Room := { frames := 1, cells := 1, slots := (x1 * x2).toNatClampNeg, locals := 12 }
set_option maxRecDepth 20000 in
theorem w_X7_init {Γ : GC} {E : GE} {x1 x2 : Int32} (hO : gOk Γ E cX7_init RX7 3 (rm_X7_init x1 x2) none "<init>") (o : Nat) (S : GS) : Go Γ E (gBsV Γ E) 3 (0, 0) 0 S [(0, vA (some o)), (1, vI x1), (2, vI x2)] [] (f_X7_init o x1 x2 S) := by
  unfold f_X7_init
  refine g_aload_n hO d_X7_init_0 (by rfl) 0 rfl ?_
  refine g_oinit hO wm_X7_3 wn_obj wc_obj (Nat.le_of_ble_eq_true rfl) (Nat.le_of_ble_eq_true rfl) (fun h => nomatch h) d_X7_init_1 ?_
  refine g_aload_n hO d_X7_init_4 (by rfl) 0 rfl ?_
  refine g_iload_n hO d_X7_init_5 (by rfl) 1 rfl ?_
  refine h_putI hO cl_X7 0 rfl rfl wf_X7_9 (Or.inr ⟨rfl, rfl, rfl⟩) d_X7_init_6 (fun S1 => ?_)
  refine g_aload_n hO d_X7_init_9 (by rfl) 0 rfl ?_
  refine g_iload_n hO d_X7_init_10 (by rfl) 2 rfl ?_
  refine h_putI hO cl_X7 1 rfl rfl wf_X7_15 (Or.inr ⟨rfl, rfl, rfl⟩) d_X7_init_11 (fun S2 => ?_)
  refine g_aload_n hO d_X7_init_14 (by rfl) 0 rfl ?_
  refine g_iload_n hO d_X7_init_15 (by rfl) 1 rfl ?_
  refine g_iload_n hO d_X7_init_16 (by rfl) 2 rfl ?_
  refine g_imul hO d_X7_init_17 ?_
  refine h_na hO 14 (by decide) rfl wac_14 ((x1 * x2).toNatClampNeg) rfl (kn' := (1, 0 + (x1 * x2).toNatClampNeg)) rfl ⟨Nat.le_refl 1, Nat.le_of_eq (Nat.zero_add _)⟩ d_X7_init_18 (fun v3 S4 => ?_)
  refine h_putR hO cl_X7 2 rfl (ty := .array .int) (by decide +kernel) (Or.inr ⟨_, rfl⟩) wf_X7_18 (Or.inr ⟨rfl, rfl, rfl⟩) d_X7_init_20 (fun S5 => ?_)
  exact g_vret hO rfl ⟨Nat.le_refl 1, Nat.le_of_eq (Nat.zero_add _)⟩ rfl rfl d_X7_init_23.1
theorem t_X7_init (l : Launch) (E : GE) (o : Nat) (x1 : Int32) (x2 : Int32) (S : GS) : ∀ a, f_X7_init o x1 x2 S = some a → Ct l E yX7_init cX7_init 3 none (rm_X7_init x1 x2) [vA (some o), vI x1, vI x2] S none a :=
  Ct_of (val := fun _ => none) (nxt := fun b => b) (by decide) (Nat.le_of_ble_eq_true rfl) (fun Γ hl hO => w_X7_init hO o S)
theorem d_X0_init_0 : gD cX0_init 0 (.aload_n 0) 1 1 := ⟨by decide +kernel, rfl⟩
theorem d_X0_init_1 : gD cX0_init 1 (.invokespecial 3) 3 4 := ⟨by decide +kernel, rfl⟩
theorem d_X0_init_4 : gD cX0_init 4 (.aload_n 0) 1 5 := ⟨by decide +kernel, rfl⟩
theorem d_X0_init_5 : gD cX0_init 5 (.new 9) 3 8 := ⟨by decide +kernel, rfl⟩
theorem d_X0_init_8 : gD cX0_init 8 (.dup) 1 9 := ⟨by decide +kernel, rfl⟩
theorem d_X0_init_9 : gD cX0_init 9 (.iconst 4) 1 10 := ⟨by decide +kernel, rfl⟩
theorem d_X0_init_10 : gD cX0_init 10 (.iconst 2) 1 11 := ⟨by decide +kernel, rfl⟩
theorem d_X0_init_11 : gD cX0_init 11 (.invokespecial 11) 3 14 := ⟨by decide +kernel, rfl⟩
theorem d_X0_init_14 : gD cX0_init 14 (.putfield 14) 3 17 := ⟨by decide +kernel, rfl⟩
theorem d_X0_init_17 : gD cX0_init 17 (.aload_n 0) 1 18 := ⟨by decide +kernel, rfl⟩
theorem d_X0_init_18 : gD cX0_init 18 (.new 9) 3 21 := ⟨by decide +kernel, rfl⟩
theorem d_X0_init_21 : gD cX0_init 21 (.dup) 1 22 := ⟨by decide +kernel, rfl⟩
theorem d_X0_init_22 : gD cX0_init 22 (.bipush 8) 2 24 := ⟨by decide +kernel, rfl⟩
theorem d_X0_init_24 : gD cX0_init 24 (.iconst 5) 1 25 := ⟨by decide +kernel, rfl⟩
theorem d_X0_init_25 : gD cX0_init 25 (.invokespecial 11) 3 28 := ⟨by decide +kernel, rfl⟩
theorem d_X0_init_28 : gD cX0_init 28 (.putfield 20) 3 31 := ⟨by decide +kernel, rfl⟩
theorem d_X0_init_31 : gD cX0_init 31 (.aload_n 0) 1 32 := ⟨by decide +kernel, rfl⟩
theorem d_X0_init_32 : gD cX0_init 32 (.new 9) 3 35 := ⟨by decide +kernel, rfl⟩
theorem d_X0_init_35 : gD cX0_init 35 (.dup) 1 36 := ⟨by decide +kernel, rfl⟩
theorem d_X0_init_36 : gD cX0_init 36 (.bipush 6) 2 38 := ⟨by decide +kernel, rfl⟩
theorem d_X0_init_38 : gD cX0_init 38 (.iconst 2) 1 39 := ⟨by decide +kernel, rfl⟩
theorem d_X0_init_39 : gD cX0_init 39 (.invokespecial 11) 3 42 := ⟨by decide +kernel, rfl⟩
theorem d_X0_init_42 : gD cX0_init 42 (.putfield 23) 3 45 := ⟨by decide +kernel, rfl⟩
theorem d_X0_init_45 : gD cX0_init 45 (.aload_n 0) 1 46 := ⟨by decide +kernel, rfl⟩
theorem d_X0_init_46 : gD cX0_init 46 (.iconst 3) 1 47 := ⟨by decide +kernel, rfl⟩
theorem d_X0_init_47 : gD cX0_init 47 (.newarray .int) 2 49 := ⟨by decide +kernel, rfl⟩
theorem d_X0_init_49 : gD cX0_init 49 (.putfield 26) 3 52 := ⟨by decide +kernel, rfl⟩
theorem d_X0_init_52 : gD cX0_init 52 (.return_) 1 53 := ⟨by decide +kernel, rfl⟩
abbrev rm_X0_init : Room := { frames := 2, cells := 7, slots := 75, locals := 34 }
set_option maxRecDepth 20000 in
theorem w_X0_init {Γ : GC} {E : GE} (hO : gOk Γ E cX0_init RX0 1 rm_X0_init none "<init>") (o : Nat) (S : GS) : Go Γ E (gBsV Γ E) 1 (0, 0) 0 S [(0, vA (some o))] [] (f_X0_init o S) := by
  unfold f_X0_init
  refine g_aload_n hO d_X0_init_0 (by rfl) 0 rfl ?_
  refine g_oinit hO wm_X0_3 wn_obj wc_obj (Nat.le_of_ble_eq_true rfl) (Nat.le_of_ble_eq_true rfl) (fun h => nomatch h) d_X0_init_1 ?_
  refine g_aload_n hO d_X0_init_4 (by rfl) 0 rfl ?_
  refine h_new hO cl_X7 tyX7 tyX7_ok dv_X7 wcl_X0_9 wins_X7 wi_X7 (kn' := (1, 4)) rfl ⟨by decide, by decide⟩ d_X0_init_5 (fun v1 S2 => ?_)
  refine g_dup hO d_X0_init_8 rfl ?_
  refine g_iconst hO 4 d_X0_init_9 (by decide) ?_
  refine g_iconst hO 2 d_X0_init_10 (by decide) ?_
  refine k_init hO mm_X7_init lkI_X0_11 ⟨⟨by decide, by decide⟩, by decide +kernel, by decide +kernel⟩ (kn' := (2, 12)) (by decide +kernel) (As := [vI 4, vI 2]) rfl (Nat.le_of_ble_eq_true rfl) (fun o' _ => t_X7_init Γ.2.1 E o' 4 2 S2) d_X0_init_11 rfl (fun S3 => ?_)
  refine h_putR hO cl_X0 0 rfl (ty := .object "GlassLaces$Rows") (by decide +kernel) (Or.inl ⟨_, rfl⟩) wf_X0_14 (Or.inr ⟨rfl, rfl, rfl⟩) d_X0_init_14 (fun S4 => ?_)
  refine g_aload_n hO d_X0_init_17 (by rfl) 0 rfl ?_
  refine h_new hO cl_X7 tyX7 tyX7_ok dv_X7 wcl_X0_9 wins_X7 wi_X7 (kn' := (3, 16)) rfl ⟨by decide, by decide⟩ d_X0_init_18 (fun v5 S6 => ?_)
  refine g_dup hO d_X0_init_21 rfl ?_
  refine g_bipush hO 8 d_X0_init_22 (by decide) ?_
  refine g_iconst hO 5 d_X0_init_24 (by decide) ?_
  refine k_init hO mm_X7_init lkI_X0_11 ⟨⟨by decide, by decide⟩, by decide +kernel, by decide +kernel⟩ (kn' := (4, 56)) (by decide +kernel) (As := [vI 8, vI 5]) rfl (Nat.le_of_ble_eq_true rfl) (fun o' _ => t_X7_init Γ.2.1 E o' 8 5 S6) d_X0_init_25 rfl (fun S7 => ?_)
  refine h_putR hO cl_X0 1 rfl (ty := .object "GlassLaces$Rows") (by decide +kernel) (Or.inl ⟨_, rfl⟩) wf_X0_20 (Or.inr ⟨rfl, rfl, rfl⟩) d_X0_init_28 (fun S8 => ?_)
  refine g_aload_n hO d_X0_init_31 (by rfl) 0 rfl ?_
  refine h_new hO cl_X7 tyX7 tyX7_ok dv_X7 wcl_X0_9 wins_X7 wi_X7 (kn' := (5, 60)) rfl ⟨by decide, by decide⟩ d_X0_init_32 (fun v9 S10 => ?_)
  refine g_dup hO d_X0_init_35 rfl ?_
  refine g_bipush hO 6 d_X0_init_36 (by decide) ?_
  refine g_iconst hO 2 d_X0_init_38 (by decide) ?_
  refine k_init hO mm_X7_init lkI_X0_11 ⟨⟨by decide, by decide⟩, by decide +kernel, by decide +kernel⟩ (kn' := (6, 72)) (by decide +kernel) (As := [vI 6, vI 2]) rfl (Nat.le_of_ble_eq_true rfl) (fun o' _ => t_X7_init Γ.2.1 E o' 6 2 S10) d_X0_init_39 rfl (fun S11 => ?_)
  refine h_putR hO cl_X0 2 rfl (ty := .object "GlassLaces$Rows") (by decide +kernel) (Or.inl ⟨_, rfl⟩) wf_X0_23 (Or.inr ⟨rfl, rfl, rfl⟩) d_X0_init_42 (fun S12 => ?_)
  refine g_aload_n hO d_X0_init_45 (by rfl) 0 rfl ?_
  refine g_iconst hO 3 d_X0_init_46 (by decide) ?_
  refine h_na hO 14 (by decide) rfl wac_14 (3) (by decide) (kn' := (7, 75)) rfl ⟨by decide, by decide⟩ d_X0_init_47 (fun v13 S14 => ?_)
  refine h_putR hO cl_X0 3 rfl (ty := .array .int) (by decide +kernel) (Or.inr ⟨_, rfl⟩) wf_X0_26 (Or.inr ⟨rfl, rfl, rfl⟩) d_X0_init_49 (fun S15 => ?_)
  exact g_vret hO rfl ⟨Nat.le_of_ble_eq_true rfl, Nat.le_of_ble_eq_true rfl⟩ rfl rfl d_X0_init_52.1
theorem t_X0_init (l : Launch) (E : GE) (o : Nat) (S : GS) : ∀ a, f_X0_init o S = some a → Ct l E yX0_init cX0_init 1 none rm_X0_init [vA (some o)] S none a :=
  Ct_of (val := fun _ => none) (nxt := fun b => b) (by decide) (Nat.le_of_ble_eq_true rfl) (fun Γ hl hO => w_X0_init hO o S)
theorem d_X7_clear_0 : gD cX7_clear 0 (.aload_n 0) 1 1 := ⟨by decide +kernel, rfl⟩
theorem d_X7_clear_1 : gD cX7_clear 1 (.iconst 0) 1 2 := ⟨by decide +kernel, rfl⟩
theorem d_X7_clear_2 : gD cX7_clear 2 (.putfield 22) 3 5 := ⟨by decide +kernel, rfl⟩
theorem d_X7_clear_5 : gD cX7_clear 5 (.return_) 1 6 := ⟨by decide +kernel, rfl⟩
abbrev rm_X7_clear : Room := { frames := 0, cells := 0, slots := 0, locals := 0 }
set_option maxRecDepth 20000 in
theorem w_X7_clear {Γ : GC} {E : GE} (hO : gOk Γ E cX7_clear RX7 1 rm_X7_clear none "clear") (o : Nat) (S : GS) : Go Γ E (gBsV Γ E) 1 (0, 0) 0 S [(0, vA (some o))] [] (f_X7_clear o S) := by
  unfold f_X7_clear
  refine g_aload_n hO d_X7_clear_0 (by rfl) 0 rfl ?_
  refine g_iconst hO 0 d_X7_clear_1 (by decide) ?_
  refine h_putI hO cl_X7 3 rfl rfl wf_X7_22 (Or.inl rfl) d_X7_clear_2 (fun S1 => ?_)
  exact g_vret hO rfl ⟨Nat.le_of_ble_eq_true rfl, Nat.le_of_ble_eq_true rfl⟩ rfl rfl d_X7_clear_5.1
theorem t_X7_clear (l : Launch) (E : GE) (o : Nat) (S : GS) : ∀ a, f_X7_clear o S = some a → Ct l E yX7_clear cX7_clear 1 none rm_X7_clear [vA (some o)] S none a :=
  Ct_of (val := fun _ => none) (nxt := fun b => b) (by decide) (Nat.le_of_ble_eq_true rfl) (fun Γ hl hO => w_X7_clear hO o S)
theorem d_J7_fill_53178_0 : gD cJ7_fill_53178 0 (.iconst 0) 1 1 := ⟨by decide +kernel, rfl⟩
theorem d_J7_fill_53178_1 : gD cJ7_fill_53178 1 (.istore_n 2) 1 2 := ⟨by decide +kernel, rfl⟩
theorem d_J7_fill_53178_2 : gD cJ7_fill_53178 2 (.aload_n 0) 1 3 := ⟨by decide +kernel, rfl⟩
theorem d_J7_fill_53178_3 : gD cJ7_fill_53178 3 (.arraylength) 1 4 := ⟨by decide +kernel, rfl⟩
theorem d_J7_fill_53178_4 : gD cJ7_fill_53178 4 (.istore_n 3) 1 5 := ⟨by decide +kernel, rfl⟩
theorem d_J7_fill_53178_5 : gD cJ7_fill_53178 5 (.iload_n 2) 1 6 := ⟨by decide +kernel, rfl⟩
theorem d_J7_fill_53178_6 : gD cJ7_fill_53178 6 (.iload_n 3) 1 7 := ⟨by decide +kernel, rfl⟩
theorem d_J7_fill_53178_7 : gD cJ7_fill_53178 7 (.if_icmp .ge 13) 3 10 ∧ ((7 : Nat) : Int) + 13 = ((20 : Nat) : Int) := ⟨⟨by decide +kernel, rfl⟩, by decide⟩
theorem d_J7_fill_53178_10 : gD cJ7_fill_53178 10 (.aload_n 0) 1 11 := ⟨by decide +kernel, rfl⟩
theorem d_J7_fill_53178_11 : gD cJ7_fill_53178 11 (.iload_n 2) 1 12 := ⟨by decide +kernel, rfl⟩
theorem d_J7_fill_53178_12 : gD cJ7_fill_53178 12 (.iload_n 1) 1 13 := ⟨by decide +kernel, rfl⟩
theorem d_J7_fill_53178_13 : gD cJ7_fill_53178 13 (.iastore) 1 14 := ⟨by decide +kernel, rfl⟩
theorem d_J7_fill_53178_14 : gD cJ7_fill_53178 14 (.iinc 2 1) 3 17 := ⟨by decide +kernel, rfl⟩
theorem d_J7_fill_53178_17 : decode cJ7_fill_53178 17 = .ok (.goto (-12), 3) ∧ ((17 : Nat) : Int) + (-12) = ((5 : Nat) : Int) := ⟨by decide +kernel, by decide⟩
theorem d_J7_fill_53178_20 : gD cJ7_fill_53178 20 (.return_) 1 21 := ⟨by decide +kernel, rfl⟩
abbrev rm_J7_fill_53178 : Room := { frames := 0, cells := 0, slots := 0, locals := 0 }
set_option maxRecDepth 20000 in
theorem w_J7_fill_53178_5 {Γ : GC} {E : GE} (hO : gOk Γ E cJ7_fill_53178 RJ7 4 rm_J7_fill_53178 none "fill") : ∀ (n : Nat) (x0 : Option Nat) (x1 : Int32) (x2 : Int32) (x3 : Int32) (S : GS), Go Γ E (gBsV Γ E) 4 (0, 0) 5 S [(0, vA x0), (1, vI x1), (2, vI x2), (3, vI x3)] [] (f_J7_fill_53178_5 n x0 x1 x2 x3 S) := by
  intro n
  induction n with
  | zero =>
    intro x0 x1 x2 x3 S
    exact g_none
  | succ n ih =>
    intro x0 x1 x2 x3 S
    rw [f_J7_fill_53178_5]
    refine g_iload_n hO d_J7_fill_53178_5 (by rfl) 2 rfl ?_
    refine g_iload_n hO d_J7_fill_53178_6 (by rfl) 3 rfl ?_
    refine g_ic_ge (tgt := 20) hO d_J7_fill_53178_7.1 d_J7_fill_53178_7.2 (fun _ => ?_) (fun _ => ?_)
    · skip
      exact g_vret hO rfl ⟨Nat.le_of_ble_eq_true rfl, Nat.le_of_ble_eq_true rfl⟩ rfl rfl d_J7_fill_53178_20.1
    · skip
      refine g_aload_n hO d_J7_fill_53178_10 (by rfl) 0 rfl ?_
      refine g_iload_n hO d_J7_fill_53178_11 (by rfl) 2 rfl ?_
      refine g_iload_n hO d_J7_fill_53178_12 (by rfl) 1 rfl ?_
      refine h_iast hO d_J7_fill_53178_13 (fun S1 => ?_)
      refine g_iinc (lv' := [(2, vI (x2 + 1)), (0, vA x0), (1, vI x1), (3, vI x3)]) hO 1 d_J7_fill_53178_14 (by decide) 2 rfl (by decide) rfl ?_
      refine g_goto (tgt := 5) hO d_J7_fill_53178_17.1 d_J7_fill_53178_17.2 ?_
      exact g_sub [1, 2, 0, 3] rfl (ih _ _ _ _ _)
set_option maxRecDepth 20000 in
theorem w_J7_fill_53178 {Γ : GC} {E : GE} (hO : gOk Γ E cJ7_fill_53178 RJ7 4 rm_J7_fill_53178 none "fill") (x0 : Option Nat) (x1 : Int32) (S : GS) : Go Γ E (gBsV Γ E) 4 (0, 0) 0 S [(0, vA x0), (1, vI x1)] [] (f_J7_fill_53178 x0 x1 S) := by
  unfold f_J7_fill_53178
  refine g_iconst hO 0 d_J7_fill_53178_0 (by decide) ?_
  refine g_istore_n (lv' := [(2, vI 0), (0, vA x0), (1, vI x1)]) hO d_J7_fill_53178_1 (by rfl) (by decide) rfl ?_
  refine g_aload_n hO d_J7_fill_53178_2 (by rfl) 1 rfl ?_
  refine h_alen hO 14 (by omega) (by omega) d_J7_fill_53178_3 (fun v1 => ?_)
  refine g_istore_n (lv' := [(3, vI v1), (2, vI 0), (0, vA x0), (1, vI x1)]) hO d_J7_fill_53178_4 (by rfl) (by decide) rfl ?_
  exact g_sub [2, 3, 1, 0] rfl (w_J7_fill_53178_5 hO _ _ _ _ _ _)
theorem t_J7_fill_53178 (l : Launch) (E : GE) (x0 : Option Nat) (x1 : Int32) (S : GS) : ∀ a, f_J7_fill_53178 x0 x1 S = some a → Ct l E yJ7_fill_53178 cJ7_fill_53178 4 none rm_J7_fill_53178 [vA x0, vI x1] S none a :=
  Ct_of (val := fun _ => none) (nxt := fun b => b) (by decide) (Nat.le_of_ble_eq_true rfl) (fun Γ hl hO => w_J7_fill_53178 hO x0 x1 S)
theorem d_X0_clear_0 : gD cX0_clear 0 (.aload_n 0) 1 1 := ⟨by decide +kernel, rfl⟩
theorem d_X0_clear_1 : gD cX0_clear 1 (.getfield 14) 3 4 := ⟨by decide +kernel, rfl⟩
theorem d_X0_clear_4 : gD cX0_clear 4 (.invokevirtual 30) 3 7 := ⟨by decide +kernel, rfl⟩
theorem d_X0_clear_7 : gD cX0_clear 7 (.aload_n 0) 1 8 := ⟨by decide +kernel, rfl⟩
theorem d_X0_clear_8 : gD cX0_clear 8 (.getfield 20) 3 11 := ⟨by decide +kernel, rfl⟩
theorem d_X0_clear_11 : gD cX0_clear 11 (.invokevirtual 30) 3 14 := ⟨by decide +kernel, rfl⟩
theorem d_X0_clear_14 : gD cX0_clear 14 (.aload_n 0) 1 15 := ⟨by decide +kernel, rfl⟩
theorem d_X0_clear_15 : gD cX0_clear 15 (.getfield 23) 3 18 := ⟨by decide +kernel, rfl⟩
theorem d_X0_clear_18 : gD cX0_clear 18 (.invokevirtual 30) 3 21 := ⟨by decide +kernel, rfl⟩
theorem d_X0_clear_21 : gD cX0_clear 21 (.aload_n 0) 1 22 := ⟨by decide +kernel, rfl⟩
theorem d_X0_clear_22 : gD cX0_clear 22 (.getfield 26) 3 25 := ⟨by decide +kernel, rfl⟩
theorem d_X0_clear_25 : gD cX0_clear 25 (.iconst 1) 1 26 := ⟨by decide +kernel, rfl⟩
theorem d_X0_clear_26 : gD cX0_clear 26 (.invokestatic 33) 3 29 := ⟨by decide +kernel, rfl⟩
theorem d_X0_clear_29 : gD cX0_clear 29 (.aload_n 0) 1 30 := ⟨by decide +kernel, rfl⟩
theorem d_X0_clear_30 : gD cX0_clear 30 (.iconst 2) 1 31 := ⟨by decide +kernel, rfl⟩
theorem d_X0_clear_31 : gD cX0_clear 31 (.putfield 39) 3 34 := ⟨by decide +kernel, rfl⟩
theorem d_X0_clear_34 : gD cX0_clear 34 (.aload_n 0) 1 35 := ⟨by decide +kernel, rfl⟩
theorem d_X0_clear_35 : gD cX0_clear 35 (.iconst 3) 1 36 := ⟨by decide +kernel, rfl⟩
theorem d_X0_clear_36 : gD cX0_clear 36 (.putfield 43) 3 39 := ⟨by decide +kernel, rfl⟩
theorem d_X0_clear_39 : gD cX0_clear 39 (.aload_n 0) 1 40 := ⟨by decide +kernel, rfl⟩
theorem d_X0_clear_40 : gD cX0_clear 40 (.bipush 30) 2 42 := ⟨by decide +kernel, rfl⟩
theorem d_X0_clear_42 : gD cX0_clear 42 (.putfield 46) 3 45 := ⟨by decide +kernel, rfl⟩
theorem d_X0_clear_45 : gD cX0_clear 45 (.return_) 1 46 := ⟨by decide +kernel, rfl⟩
abbrev rm_X0_clear : Room := { frames := 1, cells := 0, slots := 0, locals := 23 }
set_option maxRecDepth 20000 in
theorem w_X0_clear {Γ : GC} {E : GE} (hO : gOk Γ E cX0_clear RX0 1 rm_X0_clear none "clear") (o : Nat) (S : GS) : Go Γ E (gBsV Γ E) 1 (0, 0) 0 S [(0, vA (some o))] [] (f_X0_clear o S) := by
  unfold f_X0_clear
  refine g_aload_n hO d_X0_clear_0 (by rfl) 0 rfl ?_
  refine h_getR hO cl_X0 0 rfl wf_X0_14 d_X0_clear_1 (fun v1 => ?_)
  refine k_virtVs hO cl_X7 mm_X7_clear lkV_X0_30 ⟨⟨Nat.le_of_ble_eq_true rfl, Nat.le_of_ble_eq_true rfl⟩, Nat.le_of_ble_eq_true rfl, Nat.le_of_ble_eq_true rfl⟩ (kn' := (0, 0)) rfl (As := []) rfl (Nat.le_of_ble_eq_true rfl) (fun o' _ => t_X7_clear Γ.2.1 E o' S) d_X0_clear_4 rfl (fun S3 => ?_)
  refine g_aload_n hO d_X0_clear_7 (by rfl) 0 rfl ?_
  refine h_getR hO cl_X0 1 rfl wf_X0_20 d_X0_clear_8 (fun v4 => ?_)
  refine k_virtVs hO cl_X7 mm_X7_clear lkV_X0_30 ⟨⟨Nat.le_of_ble_eq_true rfl, Nat.le_of_ble_eq_true rfl⟩, Nat.le_of_ble_eq_true rfl, Nat.le_of_ble_eq_true rfl⟩ (kn' := (0, 0)) rfl (As := []) rfl (Nat.le_of_ble_eq_true rfl) (fun o' _ => t_X7_clear Γ.2.1 E o' S3) d_X0_clear_11 rfl (fun S6 => ?_)
  refine g_aload_n hO d_X0_clear_14 (by rfl) 0 rfl ?_
  refine h_getR hO cl_X0 2 rfl wf_X0_23 d_X0_clear_15 (fun v7 => ?_)
  refine k_virtVs hO cl_X7 mm_X7_clear lkV_X0_30 ⟨⟨Nat.le_of_ble_eq_true rfl, Nat.le_of_ble_eq_true rfl⟩, Nat.le_of_ble_eq_true rfl, Nat.le_of_ble_eq_true rfl⟩ (kn' := (0, 0)) rfl (As := []) rfl (Nat.le_of_ble_eq_true rfl) (fun o' _ => t_X7_clear Γ.2.1 E o' S6) d_X0_clear_18 rfl (fun S9 => ?_)
  refine g_aload_n hO d_X0_clear_21 (by rfl) 0 rfl ?_
  refine h_getR hO cl_X0 3 rfl wf_X0_26 d_X0_clear_22 (fun v10 => ?_)
  refine g_iconst hO 1 d_X0_clear_25 (by decide) ?_
  refine k_statVs hO mm_J7_fill_53178 lkS_X0_33 ⟨⟨Nat.le_of_ble_eq_true rfl, Nat.le_of_ble_eq_true rfl⟩, Nat.le_of_ble_eq_true rfl, Nat.le_of_ble_eq_true rfl⟩ (kn' := (0, 0)) rfl (As := [vA v10, vI 1]) rfl (Nat.le_of_ble_eq_true rfl) (t_J7_fill_53178 Γ.2.1 E v10 1 S9) d_X0_clear_26 rfl (fun S12 => ?_)
  refine g_aload_n hO d_X0_clear_29 (by rfl) 0 rfl ?_
  refine g_iconst hO 2 d_X0_clear_30 (by decide) ?_
  refine h_putI hO cl_X0 4 rfl rfl wf_X0_39 (Or.inl rfl) d_X0_clear_31 (fun S13 => ?_)
  refine g_aload_n hO d_X0_clear_34 (by rfl) 0 rfl ?_
  refine g_iconst hO 3 d_X0_clear_35 (by decide) ?_
  refine h_putI hO cl_X0 5 rfl rfl wf_X0_43 (Or.inl rfl) d_X0_clear_36 (fun S14 => ?_)
  refine g_aload_n hO d_X0_clear_39 (by rfl) 0 rfl ?_
  refine g_bipush hO 30 d_X0_clear_40 (by decide) ?_
  refine h_putI hO cl_X0 6 rfl rfl wf_X0_46 (Or.inl rfl) d_X0_clear_42 (fun S15 => ?_)
  exact g_vret hO rfl ⟨Nat.le_of_ble_eq_true rfl, Nat.le_of_ble_eq_true rfl⟩ rfl rfl d_X0_clear_45.1
theorem t_X0_clear (l : Launch) (E : GE) (o : Nat) (S : GS) : ∀ a, f_X0_clear o S = some a → Ct l E yX0_clear cX0_clear 1 none rm_X0_clear [vA (some o)] S none a :=
  Ct_of (val := fun _ => none) (nxt := fun b => b) (by decide) (Nat.le_of_ble_eq_true rfl) (fun Γ hl hO => w_X0_clear hO o S)
theorem d_X7_copyFrom_0 : gD cX7_copyFrom 0 (.aload_n 1) 1 1 := ⟨by decide +kernel, rfl⟩
theorem d_X7_copyFrom_1 : gD cX7_copyFrom 1 (.getfield 18) 3 4 := ⟨by decide +kernel, rfl⟩
theorem d_X7_copyFrom_4 : gD cX7_copyFrom 4 (.arraylength) 1 5 := ⟨by decide +kernel, rfl⟩
theorem d_X7_copyFrom_5 : gD cX7_copyFrom 5 (.aload_n 0) 1 6 := ⟨by decide +kernel, rfl⟩
theorem d_X7_copyFrom_6 : gD cX7_copyFrom 6 (.getfield 18) 3 9 := ⟨by decide +kernel, rfl⟩
theorem d_X7_copyFrom_9 : gD cX7_copyFrom 9 (.arraylength) 1 10 := ⟨by decide +kernel, rfl⟩
theorem d_X7_copyFrom_10 : gD cX7_copyFrom 10 (.if_icmp .ne 29) 3 13 ∧ ((10 : Nat) : Int) + 29 = ((39 : Nat) : Int) := ⟨⟨by decide +kernel, rfl⟩, by decide⟩
theorem d_X7_copyFrom_13 : gD cX7_copyFrom 13 (.aload_n 1) 1 14 := ⟨by decide +kernel, rfl⟩
theorem d_X7_copyFrom_14 : gD cX7_copyFrom 14 (.getfield 18) 3 17 := ⟨by decide +kernel, rfl⟩
theorem d_X7_copyFrom_17 : gD cX7_copyFrom 17 (.iconst 0) 1 18 := ⟨by decide +kernel, rfl⟩
theorem d_X7_copyFrom_18 : gD cX7_copyFrom 18 (.aload_n 0) 1 19 := ⟨by decide +kernel, rfl⟩
theorem d_X7_copyFrom_19 : gD cX7_copyFrom 19 (.getfield 18) 3 22 := ⟨by decide +kernel, rfl⟩
theorem d_X7_copyFrom_22 : gD cX7_copyFrom 22 (.iconst 0) 1 23 := ⟨by decide +kernel, rfl⟩
theorem d_X7_copyFrom_23 : gD cX7_copyFrom 23 (.aload_n 0) 1 24 := ⟨by decide +kernel, rfl⟩
theorem d_X7_copyFrom_24 : gD cX7_copyFrom 24 (.getfield 18) 3 27 := ⟨by decide +kernel, rfl⟩
theorem d_X7_copyFrom_27 : gD cX7_copyFrom 27 (.arraylength) 1 28 := ⟨by decide +kernel, rfl⟩
theorem d_X7_copyFrom_28 : gD cX7_copyFrom 28 (.invokestatic 29) 3 31 := ⟨by decide +kernel, rfl⟩
theorem d_X7_copyFrom_31 : gD cX7_copyFrom 31 (.aload_n 0) 1 32 := ⟨by decide +kernel, rfl⟩
theorem d_X7_copyFrom_32 : gD cX7_copyFrom 32 (.aload_n 1) 1 33 := ⟨by decide +kernel, rfl⟩
theorem d_X7_copyFrom_33 : gD cX7_copyFrom 33 (.getfield 22) 3 36 := ⟨by decide +kernel, rfl⟩
theorem d_X7_copyFrom_36 : gD cX7_copyFrom 36 (.putfield 22) 3 39 := ⟨by decide +kernel, rfl⟩
theorem d_X7_copyFrom_39 : gD cX7_copyFrom 39 (.return_) 1 40 := ⟨by decide +kernel, rfl⟩
abbrev rm_X7_copyFrom : Room := { frames := 1, cells := 0, slots := 0, locals := 18 }
set_option maxRecDepth 20000 in
theorem w_X7_copyFrom {Γ : GC} {E : GE} (hO : gOk Γ E cX7_copyFrom RX7 2 rm_X7_copyFrom none "copyFrom") (o : Nat) (x1 : Option Nat) (S : GS) : Go Γ E (gBsV Γ E) 2 (0, 0) 0 S [(0, vA (some o)), (1, vA x1)] [] (f_X7_copyFrom o x1 S) := by
  unfold f_X7_copyFrom
  refine g_aload_n hO d_X7_copyFrom_0 (by rfl) 1 rfl ?_
  refine h_getR hO cl_X7 2 rfl wf_X7_18 d_X7_copyFrom_1 (fun v1 => ?_)
  refine h_alen hO 14 (by omega) (by omega) d_X7_copyFrom_4 (fun v2 => ?_)
  refine g_aload_n hO d_X7_copyFrom_5 (by rfl) 0 rfl ?_
  refine h_getR hO cl_X7 2 rfl wf_X7_18 d_X7_copyFrom_6 (fun v3 => ?_)
  refine h_alen hO 14 (by omega) (by omega) d_X7_copyFrom_9 (fun v4 => ?_)
  refine g_ic_ne (tgt := 39) hO d_X7_copyFrom_10.1 d_X7_copyFrom_10.2 (fun _ => ?_) (fun _ => ?_)
  · skip
    refine g_aload_n hO d_X7_copyFrom_13 (by rfl) 1 rfl ?_
    refine h_getR hO cl_X7 2 rfl wf_X7_18 d_X7_copyFrom_14 (fun v5 => ?_)
    refine g_iconst hO 0 d_X7_copyFrom_17 (by decide) ?_
    refine g_aload_n hO d_X7_copyFrom_18 (by rfl) 0 rfl ?_
    refine h_getR hO cl_X7 2 rfl wf_X7_18 d_X7_copyFrom_19 (fun v6 => ?_)
    refine g_iconst hO 0 d_X7_copyFrom_22 (by decide) ?_
    refine g_aload_n hO d_X7_copyFrom_23 (by rfl) 0 rfl ?_
    refine h_getR hO cl_X7 2 rfl wf_X7_18 d_X7_copyFrom_24 (fun v7 => ?_)
    refine h_alen hO 14 (by omega) (by omega) d_X7_copyFrom_27 (fun v8 => ?_)
    refine h_acI hO 14 (Or.inr rfl) wm_X7_29 w_acn w_acs wi_System ⟨by decide, Nat.le_of_ble_eq_true rfl⟩ d_X7_copyFrom_28 (fun S9 => ?_)
    refine g_aload_n hO d_X7_copyFrom_31 (by rfl) 0 rfl ?_
    refine g_aload_n hO d_X7_copyFrom_32 (by rfl) 1 rfl ?_
    refine h_getI hO cl_X7 3 rfl wf_X7_22 d_X7_copyFrom_33 (fun v10 => ?_)
    refine h_putI hO cl_X7 3 rfl rfl wf_X7_22 (Or.inl rfl) d_X7_copyFrom_36 (fun S11 => ?_)
    exact g_vret hO rfl ⟨Nat.le_of_ble_eq_true rfl, Nat.le_of_ble_eq_true rfl⟩ rfl rfl d_X7_copyFrom_39.1
  · skip
    exact g_vret hO rfl ⟨Nat.le_of_ble_eq_true rfl, Nat.le_of_ble_eq_true rfl⟩ rfl rfl d_X7_copyFrom_39.1
theorem t_X7_copyFrom (l : Launch) (E : GE) (o : Nat) (x1 : Option Nat) (S : GS) : ∀ a, f_X7_copyFrom o x1 S = some a → Ct l E yX7_copyFrom cX7_copyFrom 2 none rm_X7_copyFrom [vA (some o), vA x1] S none a :=
  Ct_of (val := fun _ => none) (nxt := fun b => b) (by decide) (Nat.le_of_ble_eq_true rfl) (fun Γ hl hO => w_X7_copyFrom hO o x1 S)
theorem d_X0_copyFrom_0 : gD cX0_copyFrom 0 (.aload_n 0) 1 1 := ⟨by decide +kernel, rfl⟩
theorem d_X0_copyFrom_1 : gD cX0_copyFrom 1 (.getfield 14) 3 4 := ⟨by decide +kernel, rfl⟩
theorem d_X0_copyFrom_4 : gD cX0_copyFrom 4 (.aload_n 1) 1 5 := ⟨by decide +kernel, rfl⟩
theorem d_X0_copyFrom_5 : gD cX0_copyFrom 5 (.getfield 14) 3 8 := ⟨by decide +kernel, rfl⟩
theorem d_X0_copyFrom_8 : gD cX0_copyFrom 8 (.invokevirtual 49) 3 11 := ⟨by decide +kernel, rfl⟩
theorem d_X0_copyFrom_11 : gD cX0_copyFrom 11 (.aload_n 0) 1 12 := ⟨by decide +kernel, rfl⟩
theorem d_X0_copyFrom_12 : gD cX0_copyFrom 12 (.getfield 20) 3 15 := ⟨by decide +kernel, rfl⟩
theorem d_X0_copyFrom_15 : gD cX0_copyFrom 15 (.aload_n 1) 1 16 := ⟨by decide +kernel, rfl⟩
theorem d_X0_copyFrom_16 : gD cX0_copyFrom 16 (.getfield 20) 3 19 := ⟨by decide +kernel, rfl⟩
theorem d_X0_copyFrom_19 : gD cX0_copyFrom 19 (.invokevirtual 49) 3 22 := ⟨by decide +kernel, rfl⟩
theorem d_X0_copyFrom_22 : gD cX0_copyFrom 22 (.aload_n 0) 1 23 := ⟨by decide +kernel, rfl⟩
theorem d_X0_copyFrom_23 : gD cX0_copyFrom 23 (.getfield 23) 3 26 := ⟨by decide +kernel, rfl⟩
theorem d_X0_copyFrom_26 : gD cX0_copyFrom 26 (.aload_n 1) 1 27 := ⟨by decide +kernel, rfl⟩
theorem d_X0_copyFrom_27 : gD cX0_copyFrom 27 (.getfield 23) 3 30 := ⟨by decide +kernel, rfl⟩
theorem d_X0_copyFrom_30 : gD cX0_copyFrom 30 (.invokevirtual 49) 3 33 := ⟨by decide +kernel, rfl⟩
theorem d_X0_copyFrom_33 : gD cX0_copyFrom 33 (.aload_n 1) 1 34 := ⟨by decide +kernel, rfl⟩
theorem d_X0_copyFrom_34 : gD cX0_copyFrom 34 (.getfield 26) 3 37 := ⟨by decide +kernel, rfl⟩
theorem d_X0_copyFrom_37 : gD cX0_copyFrom 37 (.iconst 0) 1 38 := ⟨by decide +kernel, rfl⟩
theorem d_X0_copyFrom_38 : gD cX0_copyFrom 38 (.aload_n 0) 1 39 := ⟨by decide +kernel, rfl⟩
theorem d_X0_copyFrom_39 : gD cX0_copyFrom 39 (.getfield 26) 3 42 := ⟨by decide +kernel, rfl⟩
theorem d_X0_copyFrom_42 : gD cX0_copyFrom 42 (.iconst 0) 1 43 := ⟨by decide +kernel, rfl⟩
theorem d_X0_copyFrom_43 : gD cX0_copyFrom 43 (.aload_n 0) 1 44 := ⟨by decide +kernel, rfl⟩
theorem d_X0_copyFrom_44 : gD cX0_copyFrom 44 (.getfield 26) 3 47 := ⟨by decide +kernel, rfl⟩
theorem d_X0_copyFrom_47 : gD cX0_copyFrom 47 (.arraylength) 1 48 := ⟨by decide +kernel, rfl⟩
theorem d_X0_copyFrom_48 : gD cX0_copyFrom 48 (.invokestatic 53) 3 51 := ⟨by decide +kernel, rfl⟩
theorem d_X0_copyFrom_51 : gD cX0_copyFrom 51 (.aload_n 0) 1 52 := ⟨by decide +kernel, rfl⟩
theorem d_X0_copyFrom_52 : gD cX0_copyFrom 52 (.aload_n 1) 1 53 := ⟨by decide +kernel, rfl⟩
theorem d_X0_copyFrom_53 : gD cX0_copyFrom 53 (.getfield 39) 3 56 := ⟨by decide +kernel, rfl⟩
theorem d_X0_copyFrom_56 : gD cX0_copyFrom 56 (.putfield 39) 3 59 := ⟨by decide +kernel, rfl⟩
theorem d_X0_copyFrom_59 : gD cX0_copyFrom 59 (.aload_n 0) 1 60 := ⟨by decide +kernel, rfl⟩
theorem d_X0_copyFrom_60 : gD cX0_copyFrom 60 (.aload_n 1) 1 61 := ⟨by decide +kernel, rfl⟩
theorem d_X0_copyFrom_61 : gD cX0_copyFrom 61 (.getfield 43) 3 64 := ⟨by decide +kernel, rfl⟩
theorem d_X0_copyFrom_64 : gD cX0_copyFrom 64 (.putfield 43) 3 67 := ⟨by decide +kernel, rfl⟩
theorem d_X0_copyFrom_67 : gD cX0_copyFrom 67 (.aload_n 0) 1 68 := ⟨by decide +kernel, rfl⟩
theorem d_X0_copyFrom_68 : gD cX0_copyFrom 68 (.aload_n 1) 1 69 := ⟨by decide +kernel, rfl⟩
theorem d_X0_copyFrom_69 : gD cX0_copyFrom 69 (.getfield 46) 3 72 := ⟨by decide +kernel, rfl⟩
theorem d_X0_copyFrom_72 : gD cX0_copyFrom 72 (.putfield 46) 3 75 := ⟨by decide +kernel, rfl⟩
theorem d_X0_copyFrom_75 : gD cX0_copyFrom 75 (.return_) 1 76 := ⟨by decide +kernel, rfl⟩
abbrev rm_X0_copyFrom : Room := { frames := 2, cells := 0, slots := 0, locals := 39 }
set_option maxRecDepth 20000 in
theorem w_X0_copyFrom {Γ : GC} {E : GE} (hO : gOk Γ E cX0_copyFrom RX0 2 rm_X0_copyFrom none "copyFrom") (o : Nat) (x1 : Option Nat) (S : GS) : Go Γ E (gBsV Γ E) 2 (0, 0) 0 S [(0, vA (some o)), (1, vA x1)] [] (f_X0_copyFrom o x1 S) := by
  unfold f_X0_copyFrom
  refine g_aload_n hO d_X0_copyFrom_0 (by rfl) 0 rfl ?_
  refine h_getR hO cl_X0 0 rfl wf_X0_14 d_X0_copyFrom_1 (fun v1 => ?_)
  refine g_aload_n hO d_X0_copyFrom_4 (by rfl) 1 rfl ?_
  refine h_getR hO cl_X0 0 rfl wf_X0_14 d_X0_copyFrom_5 (fun v2 => ?_)
  refine k_virtVs hO cl_X7 mm_X7_copyFrom lkV_X0_49 ⟨⟨Nat.le_of_ble_eq_true rfl, Nat.le_of_ble_eq_true rfl⟩, Nat.le_of_ble_eq_true rfl, Nat.le_of_ble_eq_true rfl⟩ (kn' := (0, 0)) rfl (As := [vA v2]) rfl (Nat.le_of_ble_eq_true rfl) (fun o' _ => t_X7_copyFrom Γ.2.1 E o' v2 S) d_X0_copyFrom_8 rfl (fun S4 => ?_)
  refine g_aload_n hO d_X0_copyFrom_11 (by rfl) 0 rfl ?_
  refine h_getR hO cl_X0 1 rfl wf_X0_20 d_X0_copyFrom_12 (fun v5 => ?_)
  refine g_aload_n hO d_X0_copyFrom_15 (by rfl) 1 rfl ?_
  refine h_getR hO cl_X0 1 rfl wf_X0_20 d_X0_copyFrom_16 (fun v6 => ?_)
  refine k_virtVs hO cl_X7 mm_X7_copyFrom lkV_X0_49 ⟨⟨Nat.le_of_ble_eq_true rfl, Nat.le_of_ble_eq_true rfl⟩, Nat.le_of_ble_eq_true rfl, Nat.le_of_ble_eq_true rfl⟩ (kn' := (0, 0)) rfl (As := [vA v6]) rfl (Nat.le_of_ble_eq_true rfl) (fun o' _ => t_X7_copyFrom Γ.2.1 E o' v6 S4) d_X0_copyFrom_19 rfl (fun S8 => ?_)
  refine g_aload_n hO d_X0_copyFrom_22 (by rfl) 0 rfl ?_
  refine h_getR hO cl_X0 2 rfl wf_X0_23 d_X0_copyFrom_23 (fun v9 => ?_)
  refine g_aload_n hO d_X0_copyFrom_26 (by rfl) 1 rfl ?_
  refine h_getR hO cl_X0 2 rfl wf_X0_23 d_X0_copyFrom_27 (fun v10 => ?_)
  refine k_virtVs hO cl_X7 mm_X7_copyFrom lkV_X0_49 ⟨⟨Nat.le_of_ble_eq_true rfl, Nat.le_of_ble_eq_true rfl⟩, Nat.le_of_ble_eq_true rfl, Nat.le_of_ble_eq_true rfl⟩ (kn' := (0, 0)) rfl (As := [vA v10]) rfl (Nat.le_of_ble_eq_true rfl) (fun o' _ => t_X7_copyFrom Γ.2.1 E o' v10 S8) d_X0_copyFrom_30 rfl (fun S12 => ?_)
  refine g_aload_n hO d_X0_copyFrom_33 (by rfl) 1 rfl ?_
  refine h_getR hO cl_X0 3 rfl wf_X0_26 d_X0_copyFrom_34 (fun v13 => ?_)
  refine g_iconst hO 0 d_X0_copyFrom_37 (by decide) ?_
  refine g_aload_n hO d_X0_copyFrom_38 (by rfl) 0 rfl ?_
  refine h_getR hO cl_X0 3 rfl wf_X0_26 d_X0_copyFrom_39 (fun v14 => ?_)
  refine g_iconst hO 0 d_X0_copyFrom_42 (by decide) ?_
  refine g_aload_n hO d_X0_copyFrom_43 (by rfl) 0 rfl ?_
  refine h_getR hO cl_X0 3 rfl wf_X0_26 d_X0_copyFrom_44 (fun v15 => ?_)
  refine h_alen hO 14 (by omega) (by omega) d_X0_copyFrom_47 (fun v16 => ?_)
  refine h_acI hO 14 (Or.inr rfl) wm_X0_53 w_acn w_acs wi_System ⟨by decide, Nat.le_of_ble_eq_true rfl⟩ d_X0_copyFrom_48 (fun S17 => ?_)
  refine g_aload_n hO d_X0_copyFrom_51 (by rfl) 0 rfl ?_
  refine g_aload_n hO d_X0_copyFrom_52 (by rfl) 1 rfl ?_
  refine h_getI hO cl_X0 4 rfl wf_X0_39 d_X0_copyFrom_53 (fun v18 => ?_)
  refine h_putI hO cl_X0 4 rfl rfl wf_X0_39 (Or.inl rfl) d_X0_copyFrom_56 (fun S19 => ?_)
  refine g_aload_n hO d_X0_copyFrom_59 (by rfl) 0 rfl ?_
  refine g_aload_n hO d_X0_copyFrom_60 (by rfl) 1 rfl ?_
  refine h_getI hO cl_X0 5 rfl wf_X0_43 d_X0_copyFrom_61 (fun v20 => ?_)
  refine h_putI hO cl_X0 5 rfl rfl wf_X0_43 (Or.inl rfl) d_X0_copyFrom_64 (fun S21 => ?_)
  refine g_aload_n hO d_X0_copyFrom_67 (by rfl) 0 rfl ?_
  refine g_aload_n hO d_X0_copyFrom_68 (by rfl) 1 rfl ?_
  refine h_getI hO cl_X0 6 rfl wf_X0_46 d_X0_copyFrom_69 (fun v22 => ?_)
  refine h_putI hO cl_X0 6 rfl rfl wf_X0_46 (Or.inl rfl) d_X0_copyFrom_72 (fun S23 => ?_)
  exact g_vret hO rfl ⟨Nat.le_of_ble_eq_true rfl, Nat.le_of_ble_eq_true rfl⟩ rfl rfl d_X0_copyFrom_75.1
theorem t_X0_copyFrom (l : Launch) (E : GE) (o : Nat) (x1 : Option Nat) (S : GS) : ∀ a, f_X0_copyFrom o x1 S = some a → Ct l E yX0_copyFrom cX0_copyFrom 2 none rm_X0_copyFrom [vA (some o), vA x1] S none a :=
  Ct_of (val := fun _ => none) (nxt := fun b => b) (by decide) (Nat.le_of_ble_eq_true rfl) (fun Γ hl hO => w_X0_copyFrom hO o x1 S)
theorem d_X11_isMark_0 : gD cX11_isMark 0 (.iload_n 0) 1 1 := ⟨by decide +kernel, rfl⟩
theorem d_X11_isMark_1 : gD cX11_isMark 1 (.ifCond .lt 13) 3 4 ∧ ((1 : Nat) : Int) + 13 = ((14 : Nat) : Int) := ⟨⟨by decide +kernel, rfl⟩, by decide⟩
theorem d_X11_isMark_4 : gD cX11_isMark 4 (.iload_n 0) 1 5 := ⟨by decide +kernel, rfl⟩
theorem d_X11_isMark_5 : gD cX11_isMark 5 (.bipush 40) 2 7 := ⟨by decide +kernel, rfl⟩
theorem d_X11_isMark_7 : gD cX11_isMark 7 (.if_icmp .gt 7) 3 10 ∧ ((7 : Nat) : Int) + 7 = ((14 : Nat) : Int) := ⟨⟨by decide +kernel, rfl⟩, by decide⟩
theorem d_X11_isMark_10 : gD cX11_isMark 10 (.iconst 1) 1 11 := ⟨by decide +kernel, rfl⟩
theorem d_X11_isMark_11 : decode cX11_isMark 11 = .ok (.goto 4, 3) ∧ ((11 : Nat) : Int) + 4 = ((15 : Nat) : Int) := ⟨by decide +kernel, by decide⟩
theorem d_X11_isMark_14 : gD cX11_isMark 14 (.iconst 0) 1 15 := ⟨by decide +kernel, rfl⟩
theorem d_X11_isMark_15 : gD cX11_isMark 15 (.ireturn) 1 16 := ⟨by decide +kernel, rfl⟩
abbrev rm_X11_isMark : Room := { frames := 0, cells := 0, slots := 0, locals := 0 }
set_option maxRecDepth 20000 in
theorem w_X11_isMark {Γ : GC} {E : GE} (hO : gOk Γ E cX11_isMark RX11 1 rm_X11_isMark (some .boolean) "isMark") (x0 : Int32) (S : GS) : Go Γ E (gBpI Γ E S) 1 (0, 0) 0 S [(0, vI x0)] [] (f_X11_isMark x0 S) := by
  unfold f_X11_isMark
  refine g_iload_n hO d_X11_isMark_0 (by rfl) 0 rfl ?_
  refine g_if_lt (tgt := 14) hO d_X11_isMark_1.1 d_X11_isMark_1.2 (fun _ => ?_) (fun _ => ?_)
  · skip
    refine g_iconst hO 0 d_X11_isMark_14 (by decide) ?_
    exact g_ret hO rfl rfl ⟨Nat.le_of_ble_eq_true rfl, Nat.le_of_ble_eq_true rfl⟩ rfl rfl d_X11_isMark_15.1
  · skip
    refine g_iload_n hO d_X11_isMark_4 (by rfl) 0 rfl ?_
    refine g_bipush hO 40 d_X11_isMark_5 (by decide) ?_
    refine g_ic_gt (tgt := 14) hO d_X11_isMark_7.1 d_X11_isMark_7.2 (fun _ => ?_) (fun _ => ?_)
    · skip
      refine g_iconst hO 0 d_X11_isMark_14 (by decide) ?_
      exact g_ret hO rfl rfl ⟨Nat.le_of_ble_eq_true rfl, Nat.le_of_ble_eq_true rfl⟩ rfl rfl d_X11_isMark_15.1
    · skip
      refine g_iconst hO 1 d_X11_isMark_10 (by decide) ?_
      refine g_goto (tgt := 15) hO d_X11_isMark_11.1 d_X11_isMark_11.2 ?_
      exact g_ret hO rfl rfl ⟨Nat.le_of_ble_eq_true rfl, Nat.le_of_ble_eq_true rfl⟩ rfl rfl d_X11_isMark_15.1
theorem t_X11_isMark (l : Launch) (E : GE) (x0 : Int32) (S : GS) : ∀ a, f_X11_isMark x0 S = some a → Ct l E yX11_isMark cX11_isMark 1 (some .boolean) rm_X11_isMark [vI x0] S (some (vI a)) S :=
  Ct_of (val := fun b => some (vI b)) (nxt := fun _ => S) (by decide) (Nat.le_of_ble_eq_true rfl) (fun Γ hl hO => w_X11_isMark hO x0 S)
theorem d_X7_cell_0 : gD cX7_cell 0 (.iload_n 1) 1 1 := ⟨by decide +kernel, rfl⟩
theorem d_X7_cell_1 : gD cX7_cell 1 (.ifCond .lt 23) 3 4 ∧ ((1 : Nat) : Int) + 23 = ((24 : Nat) : Int) := ⟨⟨by decide +kernel, rfl⟩, by decide⟩
theorem d_X7_cell_4 : gD cX7_cell 4 (.iload_n 1) 1 5 := ⟨by decide +kernel, rfl⟩
theorem d_X7_cell_5 : gD cX7_cell 5 (.aload_n 0) 1 6 := ⟨by decide +kernel, rfl⟩
theorem d_X7_cell_6 : gD cX7_cell 6 (.getfield 22) 3 9 := ⟨by decide +kernel, rfl⟩
theorem d_X7_cell_9 : gD cX7_cell 9 (.if_icmp .ge 15) 3 12 ∧ ((9 : Nat) : Int) + 15 = ((24 : Nat) : Int) := ⟨⟨by decide +kernel, rfl⟩, by decide⟩
theorem d_X7_cell_12 : gD cX7_cell 12 (.iload_n 2) 1 13 := ⟨by decide +kernel, rfl⟩
theorem d_X7_cell_13 : gD cX7_cell 13 (.ifCond .lt 11) 3 16 ∧ ((13 : Nat) : Int) + 11 = ((24 : Nat) : Int) := ⟨⟨by decide +kernel, rfl⟩, by decide⟩
theorem d_X7_cell_16 : gD cX7_cell 16 (.iload_n 2) 1 17 := ⟨by decide +kernel, rfl⟩
theorem d_X7_cell_17 : gD cX7_cell 17 (.aload_n 0) 1 18 := ⟨by decide +kernel, rfl⟩
theorem d_X7_cell_18 : gD cX7_cell 18 (.getfield 15) 3 21 := ⟨by decide +kernel, rfl⟩
theorem d_X7_cell_21 : gD cX7_cell 21 (.if_icmp .lt 5) 3 24 ∧ ((21 : Nat) : Int) + 5 = ((26 : Nat) : Int) := ⟨⟨by decide +kernel, rfl⟩, by decide⟩
theorem d_X7_cell_24 : gD cX7_cell 24 (.iconst (-1)) 1 25 := ⟨by decide +kernel, rfl⟩
theorem d_X7_cell_25 : gD cX7_cell 25 (.ireturn) 1 26 := ⟨by decide +kernel, rfl⟩
theorem d_X7_cell_26 : gD cX7_cell 26 (.aload_n 0) 1 27 := ⟨by decide +kernel, rfl⟩
theorem d_X7_cell_27 : gD cX7_cell 27 (.getfield 18) 3 30 := ⟨by decide +kernel, rfl⟩
theorem d_X7_cell_30 : gD cX7_cell 30 (.iload_n 1) 1 31 := ⟨by decide +kernel, rfl⟩
theorem d_X7_cell_31 : gD cX7_cell 31 (.aload_n 0) 1 32 := ⟨by decide +kernel, rfl⟩
theorem d_X7_cell_32 : gD cX7_cell 32 (.getfield 15) 3 35 := ⟨by decide +kernel, rfl⟩
theorem d_X7_cell_35 : gD cX7_cell 35 (.imul) 1 36 := ⟨by decide +kernel, rfl⟩
theorem d_X7_cell_36 : gD cX7_cell 36 (.iload_n 2) 1 37 := ⟨by decide +kernel, rfl⟩
theorem d_X7_cell_37 : gD cX7_cell 37 (.iadd) 1 38 := ⟨by decide +kernel, rfl⟩
theorem d_X7_cell_38 : gD cX7_cell 38 (.iaload) 1 39 := ⟨by decide +kernel, rfl⟩
theorem d_X7_cell_39 : gD cX7_cell 39 (.ireturn) 1 40 := ⟨by decide +kernel, rfl⟩
abbrev rm_X7_cell : Room := { frames := 0, cells := 0, slots := 0, locals := 0 }
set_option maxRecDepth 20000 in
theorem w_X7_cell {Γ : GC} {E : GE} (hO : gOk Γ E cX7_cell RX7 3 rm_X7_cell (some .int) "cell") (o : Nat) (x1 : Int32) (x2 : Int32) (S : GS) : Go Γ E (gBpI Γ E S) 3 (0, 0) 0 S [(0, vA (some o)), (1, vI x1), (2, vI x2)] [] (f_X7_cell o x1 x2 S) := by
  unfold f_X7_cell
  refine g_iload_n hO d_X7_cell_0 (by rfl) 1 rfl ?_
  refine g_if_lt (tgt := 24) hO d_X7_cell_1.1 d_X7_cell_1.2 (fun _ => ?_) (fun _ => ?_)
  · skip
    refine g_iconst hO (-1) d_X7_cell_24 (by decide) ?_
    exact g_ret hO rfl rfl ⟨Nat.le_of_ble_eq_true rfl, Nat.le_of_ble_eq_true rfl⟩ rfl rfl d_X7_cell_25.1
  · skip
    refine g_iload_n hO d_X7_cell_4 (by rfl) 1 rfl ?_
    refine g_aload_n hO d_X7_cell_5 (by rfl) 0 rfl ?_
    refine h_getI hO cl_X7 3 rfl wf_X7_22 d_X7_cell_6 (fun v1 => ?_)
    refine g_ic_ge (tgt := 24) hO d_X7_cell_9.1 d_X7_cell_9.2 (fun _ => ?_) (fun _ => ?_)
    · skip
      refine g_iconst hO (-1) d_X7_cell_24 (by decide) ?_
      exact g_ret hO rfl rfl ⟨Nat.le_of_ble_eq_true rfl, Nat.le_of_ble_eq_true rfl⟩ rfl rfl d_X7_cell_25.1
    · skip
      refine g_iload_n hO d_X7_cell_12 (by rfl) 2 rfl ?_
      refine g_if_lt (tgt := 24) hO d_X7_cell_13.1 d_X7_cell_13.2 (fun _ => ?_) (fun _ => ?_)
      · skip
        refine g_iconst hO (-1) d_X7_cell_24 (by decide) ?_
        exact g_ret hO rfl rfl ⟨Nat.le_of_ble_eq_true rfl, Nat.le_of_ble_eq_true rfl⟩ rfl rfl d_X7_cell_25.1
      · skip
        refine g_iload_n hO d_X7_cell_16 (by rfl) 2 rfl ?_
        refine g_aload_n hO d_X7_cell_17 (by rfl) 0 rfl ?_
        refine h_getI hO cl_X7 1 rfl wf_X7_15 d_X7_cell_18 (fun v2 => ?_)
        refine g_ic_lt (tgt := 26) hO d_X7_cell_21.1 d_X7_cell_21.2 (fun _ => ?_) (fun _ => ?_)
        · skip
          refine g_aload_n hO d_X7_cell_26 (by rfl) 0 rfl ?_
          refine h_getR hO cl_X7 2 rfl wf_X7_18 d_X7_cell_27 (fun v3 => ?_)
          refine g_iload_n hO d_X7_cell_30 (by rfl) 1 rfl ?_
          refine g_aload_n hO d_X7_cell_31 (by rfl) 0 rfl ?_
          refine h_getI hO cl_X7 1 rfl wf_X7_15 d_X7_cell_32 (fun v4 => ?_)
          refine g_imul hO d_X7_cell_35 ?_
          refine g_iload_n hO d_X7_cell_36 (by rfl) 2 rfl ?_
          refine g_iadd hO d_X7_cell_37 ?_
          refine h_iald hO d_X7_cell_38 (fun v5 => ?_)
          exact g_ret hO rfl rfl ⟨Nat.le_of_ble_eq_true rfl, Nat.le_of_ble_eq_true rfl⟩ rfl rfl d_X7_cell_39.1
        · skip
          refine g_iconst hO (-1) d_X7_cell_24 (by decide) ?_
          exact g_ret hO rfl rfl ⟨Nat.le_of_ble_eq_true rfl, Nat.le_of_ble_eq_true rfl⟩ rfl rfl d_X7_cell_25.1
theorem t_X7_cell (l : Launch) (E : GE) (o : Nat) (x1 : Int32) (x2 : Int32) (S : GS) : ∀ a, f_X7_cell o x1 x2 S = some a → Ct l E yX7_cell cX7_cell 3 (some .int) rm_X7_cell [vA (some o), vI x1, vI x2] S (some (vI a)) S :=
  Ct_of (val := fun b => some (vI b)) (nxt := fun _ => S) (by decide) (Nat.le_of_ble_eq_true rfl) (fun Γ hl hO => w_X7_cell hO o x1 x2 S)
theorem d_X0_properAt_0 : gD cX0_properAt 0 (.iconst (-1)) 1 1 := ⟨by decide +kernel, rfl⟩
theorem d_X0_properAt_1 : gD cX0_properAt 1 (.istore_n 2) 1 2 := ⟨by decide +kernel, rfl⟩
theorem d_X0_properAt_2 : gD cX0_properAt 2 (.iconst 0) 1 3 := ⟨by decide +kernel, rfl⟩
theorem d_X0_properAt_3 : gD cX0_properAt 3 (.istore_n 3) 1 4 := ⟨by decide +kernel, rfl⟩
theorem d_X0_properAt_4 : gD cX0_properAt 4 (.iconst 0) 1 5 := ⟨by decide +kernel, rfl⟩
theorem d_X0_properAt_5 : gD cX0_properAt 5 (.istore 4) 2 7 := ⟨by decide +kernel, rfl⟩
theorem d_X0_properAt_7 : gD cX0_properAt 7 (.iload 4) 2 9 := ⟨by decide +kernel, rfl⟩
theorem d_X0_properAt_9 : gD cX0_properAt 9 (.aload_n 0) 1 10 := ⟨by decide +kernel, rfl⟩
theorem d_X0_properAt_10 : gD cX0_properAt 10 (.getfield 23) 3 13 := ⟨by decide +kernel, rfl⟩
theorem d_X0_properAt_13 : gD cX0_properAt 13 (.getfield 74) 3 16 := ⟨by decide +kernel, rfl⟩
theorem d_X0_properAt_16 : gD cX0_properAt 16 (.if_icmp .ge 47) 3 19 ∧ ((16 : Nat) : Int) + 47 = ((63 : Nat) : Int) := ⟨⟨by decide +kernel, rfl⟩, by decide⟩
theorem d_X0_properAt_19 : gD cX0_properAt 19 (.aload_n 0) 1 20 := ⟨by decide +kernel, rfl⟩
theorem d_X0_properAt_20 : gD cX0_properAt 20 (.getfield 23) 3 23 := ⟨by decide +kernel, rfl⟩
theorem d_X0_properAt_23 : gD cX0_properAt 23 (.iload 4) 2 25 := ⟨by decide +kernel, rfl⟩
theorem d_X0_properAt_25 : gD cX0_properAt 25 (.iconst 0) 1 26 := ⟨by decide +kernel, rfl⟩
theorem d_X0_properAt_26 : gD cX0_properAt 26 (.invokevirtual 67) 3 29 := ⟨by decide +kernel, rfl⟩
theorem d_X0_properAt_29 : gD cX0_properAt 29 (.istore 5) 2 31 := ⟨by decide +kernel, rfl⟩
theorem d_X0_properAt_31 : gD cX0_properAt 31 (.iload 5) 2 33 := ⟨by decide +kernel, rfl⟩
theorem d_X0_properAt_33 : gD cX0_properAt 33 (.iload_n 1) 1 34 := ⟨by decide +kernel, rfl⟩
theorem d_X0_properAt_34 : gD cX0_properAt 34 (.if_icmp .gt 23) 3 37 ∧ ((34 : Nat) : Int) + 23 = ((57 : Nat) : Int) := ⟨⟨by decide +kernel, rfl⟩, by decide⟩
theorem d_X0_properAt_37 : gD cX0_properAt 37 (.iload 5) 2 39 := ⟨by decide +kernel, rfl⟩
theorem d_X0_properAt_39 : gD cX0_properAt 39 (.iload_n 2) 1 40 := ⟨by decide +kernel, rfl⟩
theorem d_X0_properAt_40 : gD cX0_properAt 40 (.if_icmp .le 17) 3 43 ∧ ((40 : Nat) : Int) + 17 = ((57 : Nat) : Int) := ⟨⟨by decide +kernel, rfl⟩, by decide⟩
theorem d_X0_properAt_43 : gD cX0_properAt 43 (.iload 5) 2 45 := ⟨by decide +kernel, rfl⟩
theorem d_X0_properAt_45 : gD cX0_properAt 45 (.istore_n 2) 1 46 := ⟨by decide +kernel, rfl⟩
theorem d_X0_properAt_46 : gD cX0_properAt 46 (.aload_n 0) 1 47 := ⟨by decide +kernel, rfl⟩
theorem d_X0_properAt_47 : gD cX0_properAt 47 (.getfield 23) 3 50 := ⟨by decide +kernel, rfl⟩
theorem d_X0_properAt_50 : gD cX0_properAt 50 (.iload 4) 2 52 := ⟨by decide +kernel, rfl⟩
theorem d_X0_properAt_52 : gD cX0_properAt 52 (.iconst 1) 1 53 := ⟨by decide +kernel, rfl⟩
theorem d_X0_properAt_53 : gD cX0_properAt 53 (.invokevirtual 67) 3 56 := ⟨by decide +kernel, rfl⟩
theorem d_X0_properAt_56 : gD cX0_properAt 56 (.istore_n 3) 1 57 := ⟨by decide +kernel, rfl⟩
theorem d_X0_properAt_57 : gD cX0_properAt 57 (.iinc 4 1) 3 60 := ⟨by decide +kernel, rfl⟩
theorem d_X0_properAt_60 : decode cX0_properAt 60 = .ok (.goto (-53), 3) ∧ ((60 : Nat) : Int) + (-53) = ((7 : Nat) : Int) := ⟨by decide +kernel, by decide⟩
theorem d_X0_properAt_63 : gD cX0_properAt 63 (.iload_n 3) 1 64 := ⟨by decide +kernel, rfl⟩
theorem d_X0_properAt_64 : gD cX0_properAt 64 (.ireturn) 1 65 := ⟨by decide +kernel, rfl⟩
abbrev rm_X0_properAt : Room := { frames := 1, cells := 0, slots := 0, locals := 22 }
set_option maxRecDepth 20000 in
theorem w_X0_properAt_57 {Γ : GC} {E : GE} (hO : gOk Γ E cX0_properAt RX0 6 rm_X0_properAt (some .int) "properAt") (o : Nat) (S : GS) {k7 : (Int32 → Int32 → Int32 → Int32 → Option Int32)} (hk7 : ∀ (z1 : Int32) (z2 : Int32) (z3 : Int32) (z4 : Int32), Go Γ E (gBpI Γ E S) 6 (0, 0) 7 S [(0, vA (some o)), (1, vI z1), (2, vI z2), (3, vI z3), (4, vI z4)] [] (k7 z1 z2 z3 z4)) (x1 : Int32) (x2 : Int32) (x3 : Int32) (x4 : Int32) : Go Γ E (gBpI Γ E S) 6 (0, 0) 57 S [(0, vA (some o)), (1, vI x1), (2, vI x2), (3, vI x3), (4, vI x4)] [] (f_X0_properAt_57 k7 o S x1 x2 x3 x4) := by
  unfold f_X0_properAt_57
  refine g_iinc (lv' := [(4, vI (x4 + 1)), (0, vA (some o)), (1, vI x1), (2, vI x2), (3, vI x3)]) hO 1 d_X0_properAt_57 (by decide) 4 rfl (by decide) rfl ?_
  refine g_goto (tgt := 7) hO d_X0_properAt_60.1 d_X0_properAt_60.2 ?_
  exact g_sub [1, 2, 3, 4, 0] rfl (hk7 _ _ _ _)
set_option maxRecDepth 20000 in
theorem w_X0_properAt_7 {Γ : GC} {E : GE} (hO : gOk Γ E cX0_properAt RX0 6 rm_X0_properAt (some .int) "properAt") (o : Nat) (S : GS) : ∀ (n : Nat) (x1 : Int32) (x2 : Int32) (x3 : Int32) (x4 : Int32), Go Γ E (gBpI Γ E S) 6 (0, 0) 7 S [(0, vA (some o)), (1, vI x1), (2, vI x2), (3, vI x3), (4, vI x4)] [] (f_X0_properAt_7 o S n x1 x2 x3 x4) := by
  intro n
  induction n with
  | zero =>
    intro x1 x2 x3 x4
    exact g_none
  | succ n ih =>
    intro x1 x2 x3 x4
    rw [f_X0_properAt_7]
    refine g_iload hO d_X0_properAt_7 4 rfl ?_
    refine g_aload_n hO d_X0_properAt_9 (by rfl) 0 rfl ?_
    refine h_getR hO cl_X0 2 rfl wf_X0_23 d_X0_properAt_10 (fun v1 => ?_)
    refine h_getI hO cl_X7 3 rfl wf_X0_74 d_X0_properAt_13 (fun v2 => ?_)
    refine g_ic_ge (tgt := 63) hO d_X0_properAt_16.1 d_X0_properAt_16.2 (fun _ => ?_) (fun _ => ?_)
    · skip
      refine g_iload_n hO d_X0_properAt_63 (by rfl) 3 rfl ?_
      exact g_ret hO rfl rfl ⟨Nat.le_of_ble_eq_true rfl, Nat.le_of_ble_eq_true rfl⟩ rfl rfl d_X0_properAt_64.1
    · skip
      refine g_aload_n hO d_X0_properAt_19 (by rfl) 0 rfl ?_
      refine h_getR hO cl_X0 2 rfl wf_X0_23 d_X0_properAt_20 (fun v3 => ?_)
      refine g_iload hO d_X0_properAt_23 4 rfl ?_
      refine g_iconst hO 0 d_X0_properAt_25 (by decide) ?_
      refine k_virtIp hO cl_X7 mm_X7_cell lkV_X0_67 ⟨⟨Nat.le_of_ble_eq_true rfl, Nat.le_of_ble_eq_true rfl⟩, Nat.le_of_ble_eq_true rfl, Nat.le_of_ble_eq_true rfl⟩ (kn' := (0, 0)) rfl (As := [vI x4, vI 0]) rfl (Nat.le_of_ble_eq_true rfl) (fun o' _ => t_X7_cell Γ.2.1 E o' x4 0 S) d_X0_properAt_26 rfl (fun v4 => ?_)
      refine g_istore (lv' := [(5, vI v4), (0, vA (some o)), (1, vI x1), (2, vI x2), (3, vI x3), (4, vI x4)]) hO d_X0_properAt_29 (by decide) rfl ?_
      refine g_iload hO d_X0_properAt_31 0 rfl ?_
      refine g_iload_n hO d_X0_properAt_33 (by rfl) 2 rfl ?_
      refine g_ic_gt (tgt := 57) hO d_X0_properAt_34.1 d_X0_properAt_34.2 (fun _ => ?_) (fun _ => ?_)
      · skip
        exact g_sub [1, 2, 3, 4, 5] rfl (w_X0_properAt_57 hO o _ ih _ _ _ _)
      · skip
        refine g_iload hO d_X0_properAt_37 0 rfl ?_
        refine g_iload_n hO d_X0_properAt_39 (by rfl) 3 rfl ?_
        refine g_ic_le (tgt := 57) hO d_X0_properAt_40.1 d_X0_properAt_40.2 (fun _ => ?_) (fun _ => ?_)
        · skip
          exact g_sub [1, 2, 3, 4, 5] rfl (w_X0_properAt_57 hO o _ ih _ _ _ _)
        · skip
          refine g_iload hO d_X0_properAt_43 0 rfl ?_
          refine g_istore_n (lv' := [(2, vI v4), (5, vI v4), (0, vA (some o)), (1, vI x1), (3, vI x3), (4, vI x4)]) hO d_X0_properAt_45 (by rfl) (by decide) rfl ?_
          refine g_aload_n hO d_X0_properAt_46 (by rfl) 2 rfl ?_
          refine h_getR hO cl_X0 2 rfl wf_X0_23 d_X0_properAt_47 (fun v6 => ?_)
          refine g_iload hO d_X0_properAt_50 5 rfl ?_
          refine g_iconst hO 1 d_X0_properAt_52 (by decide) ?_
          refine k_virtIp hO cl_X7 mm_X7_cell lkV_X0_67 ⟨⟨Nat.le_of_ble_eq_true rfl, Nat.le_of_ble_eq_true rfl⟩, Nat.le_of_ble_eq_true rfl, Nat.le_of_ble_eq_true rfl⟩ (kn' := (0, 0)) rfl (As := [vI x4, vI 1]) rfl (Nat.le_of_ble_eq_true rfl) (fun o' _ => t_X7_cell Γ.2.1 E o' x4 1 S) d_X0_properAt_53 rfl (fun v7 => ?_)
          refine g_istore_n (lv' := [(3, vI v7), (2, vI v4), (5, vI v4), (0, vA (some o)), (1, vI x1), (4, vI x4)]) hO d_X0_properAt_56 (by rfl) (by decide) rfl ?_
          exact g_sub [3, 4, 1, 0, 5] rfl (w_X0_properAt_57 hO o _ ih _ _ _ _)
set_option maxRecDepth 20000 in
theorem w_X0_properAt {Γ : GC} {E : GE} (hO : gOk Γ E cX0_properAt RX0 6 rm_X0_properAt (some .int) "properAt") (o : Nat) (x1 : Int32) (S : GS) : Go Γ E (gBpI Γ E S) 6 (0, 0) 0 S [(0, vA (some o)), (1, vI x1)] [] (f_X0_properAt o x1 S) := by
  unfold f_X0_properAt
  refine g_iconst hO (-1) d_X0_properAt_0 (by decide) ?_
  refine g_istore_n (lv' := [(2, vI (-1)), (0, vA (some o)), (1, vI x1)]) hO d_X0_properAt_1 (by rfl) (by decide) rfl ?_
  refine g_iconst hO 0 d_X0_properAt_2 (by decide) ?_
  refine g_istore_n (lv' := [(3, vI 0), (2, vI (-1)), (0, vA (some o)), (1, vI x1)]) hO d_X0_properAt_3 (by rfl) (by decide) rfl ?_
  refine g_iconst hO 0 d_X0_properAt_4 (by decide) ?_
  refine g_istore (lv' := [(4, vI 0), (3, vI 0), (2, vI (-1)), (0, vA (some o)), (1, vI x1)]) hO d_X0_properAt_5 (by decide) rfl ?_
  exact g_sub [3, 4, 2, 1, 0] rfl (w_X0_properAt_7 hO o _ _ _ _ _ _)
theorem t_X0_properAt (l : Launch) (E : GE) (o : Nat) (x1 : Int32) (S : GS) : ∀ a, f_X0_properAt o x1 S = some a → Ct l E yX0_properAt cX0_properAt 6 (some .int) rm_X0_properAt [vA (some o), vI x1] S (some (vI a)) S :=
  Ct_of (val := fun b => some (vI b)) (nxt := fun _ => S) (by decide) (Nat.le_of_ble_eq_true rfl) (fun Γ hl hO => w_X0_properAt hO o x1 S)
theorem d_X0_tellWhole_0 : gD cX0_tellWhole 0 (.iload_n 1) 1 1 := ⟨by decide +kernel, rfl⟩
theorem d_X0_tellWhole_1 : decode cX0_tellWhole 1 = .ok (.tableswitch 100 0 8 #[51, 59, 67, 75, 80, 85, 90, 90, 90], 51) ∧ ((1 : Nat) : Int) + 100 = ((101 : Nat) : Int) := ⟨by decide +kernel, by decide⟩
theorem d_X0_tellWhole_52 : gD cX0_tellWhole 52 (.aload_n 0) 1 53 := ⟨by decide +kernel, rfl⟩
theorem d_X0_tellWhole_53 : gD cX0_tellWhole 53 (.getfield 14) 3 56 := ⟨by decide +kernel, rfl⟩
theorem d_X0_tellWhole_56 : gD cX0_tellWhole 56 (.getfield 74) 3 59 := ⟨by decide +kernel, rfl⟩
theorem d_X0_tellWhole_59 : gD cX0_tellWhole 59 (.ireturn) 1 60 := ⟨by decide +kernel, rfl⟩
theorem d_X0_tellWhole_60 : gD cX0_tellWhole 60 (.aload_n 0) 1 61 := ⟨by decide +kernel, rfl⟩
theorem d_X0_tellWhole_61 : gD cX0_tellWhole 61 (.getfield 20) 3 64 := ⟨by decide +kernel, rfl⟩
theorem d_X0_tellWhole_64 : gD cX0_tellWhole 64 (.getfield 74) 3 67 := ⟨by decide +kernel, rfl⟩
theorem d_X0_tellWhole_67 : gD cX0_tellWhole 67 (.ireturn) 1 68 := ⟨by decide +kernel, rfl⟩
theorem d_X0_tellWhole_68 : gD cX0_tellWhole 68 (.aload_n 0) 1 69 := ⟨by decide +kernel, rfl⟩
theorem d_X0_tellWhole_69 : gD cX0_tellWhole 69 (.getfield 23) 3 72 := ⟨by decide +kernel, rfl⟩
theorem d_X0_tellWhole_72 : gD cX0_tellWhole 72 (.getfield 74) 3 75 := ⟨by decide +kernel, rfl⟩
theorem d_X0_tellWhole_75 : gD cX0_tellWhole 75 (.ireturn) 1 76 := ⟨by decide +kernel, rfl⟩
theorem d_X0_tellWhole_76 : gD cX0_tellWhole 76 (.aload_n 0) 1 77 := ⟨by decide +kernel, rfl⟩
theorem d_X0_tellWhole_77 : gD cX0_tellWhole 77 (.getfield 39) 3 80 := ⟨by decide +kernel, rfl⟩
theorem d_X0_tellWhole_80 : gD cX0_tellWhole 80 (.ireturn) 1 81 := ⟨by decide +kernel, rfl⟩
theorem d_X0_tellWhole_81 : gD cX0_tellWhole 81 (.aload_n 0) 1 82 := ⟨by decide +kernel, rfl⟩
theorem d_X0_tellWhole_82 : gD cX0_tellWhole 82 (.getfield 43) 3 85 := ⟨by decide +kernel, rfl⟩
theorem d_X0_tellWhole_85 : gD cX0_tellWhole 85 (.ireturn) 1 86 := ⟨by decide +kernel, rfl⟩
theorem d_X0_tellWhole_86 : gD cX0_tellWhole 86 (.aload_n 0) 1 87 := ⟨by decide +kernel, rfl⟩
theorem d_X0_tellWhole_87 : gD cX0_tellWhole 87 (.getfield 46) 3 90 := ⟨by decide +kernel, rfl⟩
theorem d_X0_tellWhole_90 : gD cX0_tellWhole 90 (.ireturn) 1 91 := ⟨by decide +kernel, rfl⟩
theorem d_X0_tellWhole_91 : gD cX0_tellWhole 91 (.aload_n 0) 1 92 := ⟨by decide +kernel, rfl⟩
theorem d_X0_tellWhole_92 : gD cX0_tellWhole 92 (.getfield 26) 3 95 := ⟨by decide +kernel, rfl⟩
theorem d_X0_tellWhole_95 : gD cX0_tellWhole 95 (.iload_n 1) 1 96 := ⟨by decide +kernel, rfl⟩
theorem d_X0_tellWhole_96 : gD cX0_tellWhole 96 (.bipush 6) 2 98 := ⟨by decide +kernel, rfl⟩
theorem d_X0_tellWhole_98 : gD cX0_tellWhole 98 (.isub) 1 99 := ⟨by decide +kernel, rfl⟩
theorem d_X0_tellWhole_99 : gD cX0_tellWhole 99 (.iaload) 1 100 := ⟨by decide +kernel, rfl⟩
theorem d_X0_tellWhole_100 : gD cX0_tellWhole 100 (.ireturn) 1 101 := ⟨by decide +kernel, rfl⟩
theorem d_X0_tellWhole_101 : gD cX0_tellWhole 101 (.iconst (-1)) 1 102 := ⟨by decide +kernel, rfl⟩
theorem d_X0_tellWhole_102 : gD cX0_tellWhole 102 (.ireturn) 1 103 := ⟨by decide +kernel, rfl⟩
abbrev rm_X0_tellWhole : Room := { frames := 0, cells := 0, slots := 0, locals := 0 }
set_option maxRecDepth 20000 in
theorem w_X0_tellWhole_91 {Γ : GC} {E : GE} (hO : gOk Γ E cX0_tellWhole RX0 2 rm_X0_tellWhole (some .int) "tellWhole") (o : Nat) (S : GS) (x1 : Int32) : Go Γ E (gBpI Γ E S) 2 (0, 0) 91 S [(0, vA (some o)), (1, vI x1)] [] (f_X0_tellWhole_91 o S x1) := by
  unfold f_X0_tellWhole_91
  refine g_aload_n hO d_X0_tellWhole_91 (by rfl) 0 rfl ?_
  refine h_getR hO cl_X0 3 rfl wf_X0_26 d_X0_tellWhole_92 (fun v1 => ?_)
  refine g_iload_n hO d_X0_tellWhole_95 (by rfl) 1 rfl ?_
  refine g_bipush hO 6 d_X0_tellWhole_96 (by decide) ?_
  refine g_isub hO d_X0_tellWhole_98 ?_
  refine h_iald hO d_X0_tellWhole_99 (fun v2 => ?_)
  exact g_ret hO rfl rfl ⟨Nat.le_of_ble_eq_true rfl, Nat.le_of_ble_eq_true rfl⟩ rfl rfl d_X0_tellWhole_100.1
set_option maxRecDepth 20000 in
theorem w_X0_tellWhole {Γ : GC} {E : GE} (hO : gOk Γ E cX0_tellWhole RX0 2 rm_X0_tellWhole (some .int) "tellWhole") (o : Nat) (x1 : Int32) (S : GS) : Go Γ E (gBpI Γ E S) 2 (0, 0) 0 S [(0, vA (some o)), (1, vI x1)] [] (f_X0_tellWhole o x1 S) := by
  unfold f_X0_tellWhole
  refine g_iload_n hO d_X0_tellWhole_0 (by rfl) 1 rfl ?_
  refine h_tsw (c := 0) (dt := 101) hO d_X0_tellWhole_1.1 9 (by decide) (by rfl) rfl (by decide) (by decide) d_X0_tellWhole_1.2 ⟨⟨52, by decide, ?_⟩, ⟨60, by decide, ?_⟩, ⟨68, by decide, ?_⟩, ⟨76, by decide, ?_⟩, ⟨81, by decide, ?_⟩, ⟨86, by decide, ?_⟩, ⟨91, by decide, ?_⟩, ⟨91, by decide, ?_⟩, ⟨91, by decide, ?_⟩, trivial⟩ ?_
  · skip
    refine g_aload_n hO d_X0_tellWhole_52 (by rfl) 0 rfl ?_
    refine h_getR hO cl_X0 0 rfl wf_X0_14 d_X0_tellWhole_53 (fun v1 => ?_)
    refine h_getI hO cl_X7 3 rfl wf_X0_74 d_X0_tellWhole_56 (fun v2 => ?_)
    exact g_ret hO rfl rfl ⟨Nat.le_of_ble_eq_true rfl, Nat.le_of_ble_eq_true rfl⟩ rfl rfl d_X0_tellWhole_59.1
  · skip
    refine g_aload_n hO d_X0_tellWhole_60 (by rfl) 0 rfl ?_
    refine h_getR hO cl_X0 1 rfl wf_X0_20 d_X0_tellWhole_61 (fun v3 => ?_)
    refine h_getI hO cl_X7 3 rfl wf_X0_74 d_X0_tellWhole_64 (fun v4 => ?_)
    exact g_ret hO rfl rfl ⟨Nat.le_of_ble_eq_true rfl, Nat.le_of_ble_eq_true rfl⟩ rfl rfl d_X0_tellWhole_67.1
  · skip
    refine g_aload_n hO d_X0_tellWhole_68 (by rfl) 0 rfl ?_
    refine h_getR hO cl_X0 2 rfl wf_X0_23 d_X0_tellWhole_69 (fun v5 => ?_)
    refine h_getI hO cl_X7 3 rfl wf_X0_74 d_X0_tellWhole_72 (fun v6 => ?_)
    exact g_ret hO rfl rfl ⟨Nat.le_of_ble_eq_true rfl, Nat.le_of_ble_eq_true rfl⟩ rfl rfl d_X0_tellWhole_75.1
  · skip
    refine g_aload_n hO d_X0_tellWhole_76 (by rfl) 0 rfl ?_
    refine h_getI hO cl_X0 4 rfl wf_X0_39 d_X0_tellWhole_77 (fun v7 => ?_)
    exact g_ret hO rfl rfl ⟨Nat.le_of_ble_eq_true rfl, Nat.le_of_ble_eq_true rfl⟩ rfl rfl d_X0_tellWhole_80.1
  · skip
    refine g_aload_n hO d_X0_tellWhole_81 (by rfl) 0 rfl ?_
    refine h_getI hO cl_X0 5 rfl wf_X0_43 d_X0_tellWhole_82 (fun v8 => ?_)
    exact g_ret hO rfl rfl ⟨Nat.le_of_ble_eq_true rfl, Nat.le_of_ble_eq_true rfl⟩ rfl rfl d_X0_tellWhole_85.1
  · skip
    refine g_aload_n hO d_X0_tellWhole_86 (by rfl) 0 rfl ?_
    refine h_getI hO cl_X0 6 rfl wf_X0_46 d_X0_tellWhole_87 (fun v9 => ?_)
    exact g_ret hO rfl rfl ⟨Nat.le_of_ble_eq_true rfl, Nat.le_of_ble_eq_true rfl⟩ rfl rfl d_X0_tellWhole_90.1
  · skip
    exact g_sub [0, 1] rfl (w_X0_tellWhole_91 hO o _ _)
  · skip
    exact g_sub [0, 1] rfl (w_X0_tellWhole_91 hO o _ _)
  · skip
    exact g_sub [0, 1] rfl (w_X0_tellWhole_91 hO o _ _)
  · skip
    refine g_iconst hO (-1) d_X0_tellWhole_101 (by decide) ?_
    exact g_ret hO rfl rfl ⟨Nat.le_of_ble_eq_true rfl, Nat.le_of_ble_eq_true rfl⟩ rfl rfl d_X0_tellWhole_102.1
theorem t_X0_tellWhole (l : Launch) (E : GE) (o : Nat) (x1 : Int32) (S : GS) : ∀ a, f_X0_tellWhole o x1 S = some a → Ct l E yX0_tellWhole cX0_tellWhole 2 (some .int) rm_X0_tellWhole [vA (some o), vI x1] S (some (vI a)) S :=
  Ct_of (val := fun b => some (vI b)) (nxt := fun _ => S) (by decide) (Nat.le_of_ble_eq_true rfl) (fun Γ hl hO => w_X0_tellWhole hO o x1 S)
theorem d_X0_tell_0 : gD cX0_tell 0 (.iload_n 1) 1 1 := ⟨by decide +kernel, rfl⟩
theorem d_X0_tell_1 : gD cX0_tell 1 (.bipush 100) 2 3 := ⟨by decide +kernel, rfl⟩
theorem d_X0_tell_3 : gD cX0_tell 3 (.if_icmp .lt 26) 3 6 ∧ ((3 : Nat) : Int) + 26 = ((29 : Nat) : Int) := ⟨⟨by decide +kernel, rfl⟩, by decide⟩
theorem d_X0_tell_6 : gD cX0_tell 6 (.iload_n 1) 1 7 := ⟨by decide +kernel, rfl⟩
theorem d_X0_tell_7 : gD cX0_tell 7 (.bipush 100) 2 9 := ⟨by decide +kernel, rfl⟩
theorem d_X0_tell_9 : gD cX0_tell 9 (.isub) 1 10 := ⟨by decide +kernel, rfl⟩
theorem d_X0_tell_10 : gD cX0_tell 10 (.invokestatic 59) 3 13 := ⟨by decide +kernel, rfl⟩
theorem d_X0_tell_13 : gD cX0_tell 13 (.ifCond .eq 14) 3 16 ∧ ((13 : Nat) : Int) + 14 = ((27 : Nat) : Int) := ⟨⟨by decide +kernel, rfl⟩, by decide⟩
theorem d_X0_tell_16 : gD cX0_tell 16 (.aload_n 0) 1 17 := ⟨by decide +kernel, rfl⟩
theorem d_X0_tell_17 : gD cX0_tell 17 (.iload_n 1) 1 18 := ⟨by decide +kernel, rfl⟩
theorem d_X0_tell_18 : gD cX0_tell 18 (.bipush 100) 2 20 := ⟨by decide +kernel, rfl⟩
theorem d_X0_tell_20 : gD cX0_tell 20 (.isub) 1 21 := ⟨by decide +kernel, rfl⟩
theorem d_X0_tell_21 : gD cX0_tell 21 (.invokevirtual 63) 3 24 := ⟨by decide +kernel, rfl⟩
theorem d_X0_tell_24 : decode cX0_tell 24 = .ok (.goto 4, 3) ∧ ((24 : Nat) : Int) + 4 = ((28 : Nat) : Int) := ⟨by decide +kernel, by decide⟩
theorem d_X0_tell_27 : gD cX0_tell 27 (.iconst (-1)) 1 28 := ⟨by decide +kernel, rfl⟩
theorem d_X0_tell_28 : gD cX0_tell 28 (.ireturn) 1 29 := ⟨by decide +kernel, rfl⟩
theorem d_X0_tell_29 : gD cX0_tell 29 (.iload_n 1) 1 30 := ⟨by decide +kernel, rfl⟩
theorem d_X0_tell_30 : gD cX0_tell 30 (.bipush 40) 2 32 := ⟨by decide +kernel, rfl⟩
theorem d_X0_tell_32 : gD cX0_tell 32 (.if_icmp .lt 16) 3 35 ∧ ((32 : Nat) : Int) + 16 = ((48 : Nat) : Int) := ⟨⟨by decide +kernel, rfl⟩, by decide⟩
theorem d_X0_tell_35 : gD cX0_tell 35 (.aload_n 0) 1 36 := ⟨by decide +kernel, rfl⟩
theorem d_X0_tell_36 : gD cX0_tell 36 (.getfield 23) 3 39 := ⟨by decide +kernel, rfl⟩
theorem d_X0_tell_39 : gD cX0_tell 39 (.iload_n 1) 1 40 := ⟨by decide +kernel, rfl⟩
theorem d_X0_tell_40 : gD cX0_tell 40 (.bipush 40) 2 42 := ⟨by decide +kernel, rfl⟩
theorem d_X0_tell_42 : gD cX0_tell 42 (.isub) 1 43 := ⟨by decide +kernel, rfl⟩
theorem d_X0_tell_43 : gD cX0_tell 43 (.iconst 1) 1 44 := ⟨by decide +kernel, rfl⟩
theorem d_X0_tell_44 : gD cX0_tell 44 (.invokevirtual 67) 3 47 := ⟨by decide +kernel, rfl⟩
theorem d_X0_tell_47 : gD cX0_tell 47 (.ireturn) 1 48 := ⟨by decide +kernel, rfl⟩
theorem d_X0_tell_48 : gD cX0_tell 48 (.iload_n 1) 1 49 := ⟨by decide +kernel, rfl⟩
theorem d_X0_tell_49 : gD cX0_tell 49 (.bipush 30) 2 51 := ⟨by decide +kernel, rfl⟩
theorem d_X0_tell_51 : gD cX0_tell 51 (.if_icmp .lt 16) 3 54 ∧ ((51 : Nat) : Int) + 16 = ((67 : Nat) : Int) := ⟨⟨by decide +kernel, rfl⟩, by decide⟩
theorem d_X0_tell_54 : gD cX0_tell 54 (.aload_n 0) 1 55 := ⟨by decide +kernel, rfl⟩
theorem d_X0_tell_55 : gD cX0_tell 55 (.getfield 23) 3 58 := ⟨by decide +kernel, rfl⟩
theorem d_X0_tell_58 : gD cX0_tell 58 (.iload_n 1) 1 59 := ⟨by decide +kernel, rfl⟩
theorem d_X0_tell_59 : gD cX0_tell 59 (.bipush 30) 2 61 := ⟨by decide +kernel, rfl⟩
theorem d_X0_tell_61 : gD cX0_tell 61 (.isub) 1 62 := ⟨by decide +kernel, rfl⟩
theorem d_X0_tell_62 : gD cX0_tell 62 (.iconst 0) 1 63 := ⟨by decide +kernel, rfl⟩
theorem d_X0_tell_63 : gD cX0_tell 63 (.invokevirtual 67) 3 66 := ⟨by decide +kernel, rfl⟩
theorem d_X0_tell_66 : gD cX0_tell 66 (.ireturn) 1 67 := ⟨by decide +kernel, rfl⟩
theorem d_X0_tell_67 : gD cX0_tell 67 (.iload_n 1) 1 68 := ⟨by decide +kernel, rfl⟩
theorem d_X0_tell_68 : gD cX0_tell 68 (.bipush 20) 2 70 := ⟨by decide +kernel, rfl⟩
theorem d_X0_tell_70 : gD cX0_tell 70 (.if_icmp .lt 16) 3 73 ∧ ((70 : Nat) : Int) + 16 = ((86 : Nat) : Int) := ⟨⟨by decide +kernel, rfl⟩, by decide⟩
theorem d_X0_tell_73 : gD cX0_tell 73 (.aload_n 0) 1 74 := ⟨by decide +kernel, rfl⟩
theorem d_X0_tell_74 : gD cX0_tell 74 (.getfield 14) 3 77 := ⟨by decide +kernel, rfl⟩
theorem d_X0_tell_77 : gD cX0_tell 77 (.iload_n 1) 1 78 := ⟨by decide +kernel, rfl⟩
theorem d_X0_tell_78 : gD cX0_tell 78 (.bipush 20) 2 80 := ⟨by decide +kernel, rfl⟩
theorem d_X0_tell_80 : gD cX0_tell 80 (.isub) 1 81 := ⟨by decide +kernel, rfl⟩
theorem d_X0_tell_81 : gD cX0_tell 81 (.iconst 1) 1 82 := ⟨by decide +kernel, rfl⟩
theorem d_X0_tell_82 : gD cX0_tell 82 (.invokevirtual 67) 3 85 := ⟨by decide +kernel, rfl⟩
theorem d_X0_tell_85 : gD cX0_tell 85 (.ireturn) 1 86 := ⟨by decide +kernel, rfl⟩
theorem d_X0_tell_86 : gD cX0_tell 86 (.iload_n 1) 1 87 := ⟨by decide +kernel, rfl⟩
theorem d_X0_tell_87 : gD cX0_tell 87 (.bipush 10) 2 89 := ⟨by decide +kernel, rfl⟩
theorem d_X0_tell_89 : gD cX0_tell 89 (.if_icmp .lt 16) 3 92 ∧ ((89 : Nat) : Int) + 16 = ((105 : Nat) : Int) := ⟨⟨by decide +kernel, rfl⟩, by decide⟩
theorem d_X0_tell_92 : gD cX0_tell 92 (.aload_n 0) 1 93 := ⟨by decide +kernel, rfl⟩
theorem d_X0_tell_93 : gD cX0_tell 93 (.getfield 14) 3 96 := ⟨by decide +kernel, rfl⟩
theorem d_X0_tell_96 : gD cX0_tell 96 (.iload_n 1) 1 97 := ⟨by decide +kernel, rfl⟩
theorem d_X0_tell_97 : gD cX0_tell 97 (.bipush 10) 2 99 := ⟨by decide +kernel, rfl⟩
theorem d_X0_tell_99 : gD cX0_tell 99 (.isub) 1 100 := ⟨by decide +kernel, rfl⟩
theorem d_X0_tell_100 : gD cX0_tell 100 (.iconst 0) 1 101 := ⟨by decide +kernel, rfl⟩
theorem d_X0_tell_101 : gD cX0_tell 101 (.invokevirtual 67) 3 104 := ⟨by decide +kernel, rfl⟩
theorem d_X0_tell_104 : gD cX0_tell 104 (.ireturn) 1 105 := ⟨by decide +kernel, rfl⟩
theorem d_X0_tell_105 : gD cX0_tell 105 (.aload_n 0) 1 106 := ⟨by decide +kernel, rfl⟩
theorem d_X0_tell_106 : gD cX0_tell 106 (.iload_n 1) 1 107 := ⟨by decide +kernel, rfl⟩
theorem d_X0_tell_107 : gD cX0_tell 107 (.invokevirtual 71) 3 110 := ⟨by decide +kernel, rfl⟩
theorem d_X0_tell_110 : gD cX0_tell 110 (.ireturn) 1 111 := ⟨by decide +kernel, rfl⟩
abbrev rm_X0_tell : Room := { frames := 2, cells := 0, slots := 0, locals := 47 }
set_option maxRecDepth 20000 in
theorem w_X0_tell {Γ : GC} {E : GE} (hO : gOk Γ E cX0_tell RX0 2 rm_X0_tell (some .int) "tell") (o : Nat) (x1 : Int32) (S : GS) : Go Γ E (gBpI Γ E S) 2 (0, 0) 0 S [(0, vA (some o)), (1, vI x1)] [] (f_X0_tell o x1 S) := by
  unfold f_X0_tell
  refine g_iload_n hO d_X0_tell_0 (by rfl) 1 rfl ?_
  refine g_bipush hO 100 d_X0_tell_1 (by decide) ?_
  refine g_ic_lt (tgt := 29) hO d_X0_tell_3.1 d_X0_tell_3.2 (fun _ => ?_) (fun _ => ?_)
  · skip
    refine g_iload_n hO d_X0_tell_29 (by rfl) 1 rfl ?_
    refine g_bipush hO 40 d_X0_tell_30 (by decide) ?_
    refine g_ic_lt (tgt := 48) hO d_X0_tell_32.1 d_X0_tell_32.2 (fun _ => ?_) (fun _ => ?_)
    · skip
      refine g_iload_n hO d_X0_tell_48 (by rfl) 1 rfl ?_
      refine g_bipush hO 30 d_X0_tell_49 (by decide) ?_
      refine g_ic_lt (tgt := 67) hO d_X0_tell_51.1 d_X0_tell_51.2 (fun _ => ?_) (fun _ => ?_)
      · skip
        refine g_iload_n hO d_X0_tell_67 (by rfl) 1 rfl ?_
        refine g_bipush hO 20 d_X0_tell_68 (by decide) ?_
        refine g_ic_lt (tgt := 86) hO d_X0_tell_70.1 d_X0_tell_70.2 (fun _ => ?_) (fun _ => ?_)
        · skip
          refine g_iload_n hO d_X0_tell_86 (by rfl) 1 rfl ?_
          refine g_bipush hO 10 d_X0_tell_87 (by decide) ?_
          refine g_ic_lt (tgt := 105) hO d_X0_tell_89.1 d_X0_tell_89.2 (fun _ => ?_) (fun _ => ?_)
          · skip
            refine g_aload_n hO d_X0_tell_105 (by rfl) 0 rfl ?_
            refine g_iload_n hO d_X0_tell_106 (by rfl) 1 rfl ?_
            refine k_virtIp hO cl_X0 mm_X0_tellWhole lkV_X0_71 ⟨⟨Nat.le_of_ble_eq_true rfl, Nat.le_of_ble_eq_true rfl⟩, Nat.le_of_ble_eq_true rfl, Nat.le_of_ble_eq_true rfl⟩ (kn' := (0, 0)) rfl (As := [vI x1]) rfl (Nat.le_of_ble_eq_true rfl) (fun o' _ => t_X0_tellWhole Γ.2.1 E o' x1 S) d_X0_tell_107 rfl (fun v1 => ?_)
            exact g_ret hO rfl rfl ⟨Nat.le_of_ble_eq_true rfl, Nat.le_of_ble_eq_true rfl⟩ rfl rfl d_X0_tell_110.1
          · skip
            refine g_aload_n hO d_X0_tell_92 (by rfl) 0 rfl ?_
            refine h_getR hO cl_X0 0 rfl wf_X0_14 d_X0_tell_93 (fun v3 => ?_)
            refine g_iload_n hO d_X0_tell_96 (by rfl) 1 rfl ?_
            refine g_bipush hO 10 d_X0_tell_97 (by decide) ?_
            refine g_isub hO d_X0_tell_99 ?_
            refine g_iconst hO 0 d_X0_tell_100 (by decide) ?_
            refine k_virtIp hO cl_X7 mm_X7_cell lkV_X0_67 ⟨⟨Nat.le_of_ble_eq_true rfl, Nat.le_of_ble_eq_true rfl⟩, Nat.le_of_ble_eq_true rfl, Nat.le_of_ble_eq_true rfl⟩ (kn' := (0, 0)) rfl (As := [vI (x1 - 10), vI 0]) rfl (Nat.le_of_ble_eq_true rfl) (fun o' _ => t_X7_cell Γ.2.1 E o' (x1 - 10) 0 S) d_X0_tell_101 rfl (fun v4 => ?_)
            exact g_ret hO rfl rfl ⟨Nat.le_of_ble_eq_true rfl, Nat.le_of_ble_eq_true rfl⟩ rfl rfl d_X0_tell_104.1
        · skip
          refine g_aload_n hO d_X0_tell_73 (by rfl) 0 rfl ?_
          refine h_getR hO cl_X0 0 rfl wf_X0_14 d_X0_tell_74 (fun v6 => ?_)
          refine g_iload_n hO d_X0_tell_77 (by rfl) 1 rfl ?_
          refine g_bipush hO 20 d_X0_tell_78 (by decide) ?_
          refine g_isub hO d_X0_tell_80 ?_
          refine g_iconst hO 1 d_X0_tell_81 (by decide) ?_
          refine k_virtIp hO cl_X7 mm_X7_cell lkV_X0_67 ⟨⟨Nat.le_of_ble_eq_true rfl, Nat.le_of_ble_eq_true rfl⟩, Nat.le_of_ble_eq_true rfl, Nat.le_of_ble_eq_true rfl⟩ (kn' := (0, 0)) rfl (As := [vI (x1 - 20), vI 1]) rfl (Nat.le_of_ble_eq_true rfl) (fun o' _ => t_X7_cell Γ.2.1 E o' (x1 - 20) 1 S) d_X0_tell_82 rfl (fun v7 => ?_)
          exact g_ret hO rfl rfl ⟨Nat.le_of_ble_eq_true rfl, Nat.le_of_ble_eq_true rfl⟩ rfl rfl d_X0_tell_85.1
      · skip
        refine g_aload_n hO d_X0_tell_54 (by rfl) 0 rfl ?_
        refine h_getR hO cl_X0 2 rfl wf_X0_23 d_X0_tell_55 (fun v9 => ?_)
        refine g_iload_n hO d_X0_tell_58 (by rfl) 1 rfl ?_
        refine g_bipush hO 30 d_X0_tell_59 (by decide) ?_
        refine g_isub hO d_X0_tell_61 ?_
        refine g_iconst hO 0 d_X0_tell_62 (by decide) ?_
        refine k_virtIp hO cl_X7 mm_X7_cell lkV_X0_67 ⟨⟨Nat.le_of_ble_eq_true rfl, Nat.le_of_ble_eq_true rfl⟩, Nat.le_of_ble_eq_true rfl, Nat.le_of_ble_eq_true rfl⟩ (kn' := (0, 0)) rfl (As := [vI (x1 - 30), vI 0]) rfl (Nat.le_of_ble_eq_true rfl) (fun o' _ => t_X7_cell Γ.2.1 E o' (x1 - 30) 0 S) d_X0_tell_63 rfl (fun v10 => ?_)
        exact g_ret hO rfl rfl ⟨Nat.le_of_ble_eq_true rfl, Nat.le_of_ble_eq_true rfl⟩ rfl rfl d_X0_tell_66.1
    · skip
      refine g_aload_n hO d_X0_tell_35 (by rfl) 0 rfl ?_
      refine h_getR hO cl_X0 2 rfl wf_X0_23 d_X0_tell_36 (fun v12 => ?_)
      refine g_iload_n hO d_X0_tell_39 (by rfl) 1 rfl ?_
      refine g_bipush hO 40 d_X0_tell_40 (by decide) ?_
      refine g_isub hO d_X0_tell_42 ?_
      refine g_iconst hO 1 d_X0_tell_43 (by decide) ?_
      refine k_virtIp hO cl_X7 mm_X7_cell lkV_X0_67 ⟨⟨Nat.le_of_ble_eq_true rfl, Nat.le_of_ble_eq_true rfl⟩, Nat.le_of_ble_eq_true rfl, Nat.le_of_ble_eq_true rfl⟩ (kn' := (0, 0)) rfl (As := [vI (x1 - 40), vI 1]) rfl (Nat.le_of_ble_eq_true rfl) (fun o' _ => t_X7_cell Γ.2.1 E o' (x1 - 40) 1 S) d_X0_tell_44 rfl (fun v13 => ?_)
      exact g_ret hO rfl rfl ⟨Nat.le_of_ble_eq_true rfl, Nat.le_of_ble_eq_true rfl⟩ rfl rfl d_X0_tell_47.1
  · skip
    refine g_iload_n hO d_X0_tell_6 (by rfl) 1 rfl ?_
    refine g_bipush hO 100 d_X0_tell_7 (by decide) ?_
    refine g_isub hO d_X0_tell_9 ?_
    refine k_statNIp hO mm_X11_isMark lkSN_X0_59 ⟨⟨Nat.le_of_ble_eq_true rfl, Nat.le_of_ble_eq_true rfl⟩, Nat.le_of_ble_eq_true rfl, Nat.le_of_ble_eq_true rfl⟩ (kn' := (0, 0)) rfl (As := [vI (x1 - 100)]) rfl (Nat.le_of_ble_eq_true rfl) (t_X11_isMark Γ.2.1 E (x1 - 100) S) d_X0_tell_10 rfl (fun v15 => ?_)
    refine g_if_eq (tgt := 27) hO d_X0_tell_13.1 d_X0_tell_13.2 (fun _ => ?_) (fun _ => ?_)
    · skip
      refine g_iconst hO (-1) d_X0_tell_27 (by decide) ?_
      exact g_ret hO rfl rfl ⟨Nat.le_of_ble_eq_true rfl, Nat.le_of_ble_eq_true rfl⟩ rfl rfl d_X0_tell_28.1
    · skip
      refine g_aload_n hO d_X0_tell_16 (by rfl) 0 rfl ?_
      refine g_iload_n hO d_X0_tell_17 (by rfl) 1 rfl ?_
      refine g_bipush hO 100 d_X0_tell_18 (by decide) ?_
      refine g_isub hO d_X0_tell_20 ?_
      refine k_virtIp hO cl_X0 mm_X0_properAt lkV_X0_63 ⟨⟨Nat.le_of_ble_eq_true rfl, Nat.le_of_ble_eq_true rfl⟩, Nat.le_of_ble_eq_true rfl, Nat.le_of_ble_eq_true rfl⟩ (kn' := (0, 0)) rfl (As := [vI (x1 - 100)]) rfl (Nat.le_of_ble_eq_true rfl) (fun o' _ => t_X0_properAt Γ.2.1 E o' (x1 - 100) S) d_X0_tell_21 rfl (fun v17 => ?_)
      refine g_goto (tgt := 28) hO d_X0_tell_24.1 d_X0_tell_24.2 ?_
      exact g_ret hO rfl rfl ⟨Nat.le_of_ble_eq_true rfl, Nat.le_of_ble_eq_true rfl⟩ rfl rfl d_X0_tell_28.1
theorem t_X0_tell (l : Launch) (E : GE) (o : Nat) (x1 : Int32) (S : GS) : ∀ a, f_X0_tell o x1 S = some a → Ct l E yX0_tell cX0_tell 2 (some .int) rm_X0_tell [vA (some o), vI x1] S (some (vI a)) S :=
  Ct_of (val := fun b => some (vI b)) (nxt := fun _ => S) (by decide) (Nat.le_of_ble_eq_true rfl) (fun Γ hl hO => w_X0_tell hO o x1 S)
theorem d_X7_has_0 : gD cX7_has 0 (.iload_n 1) 1 1 := ⟨by decide +kernel, rfl⟩
theorem d_X7_has_1 : gD cX7_has 1 (.ifCond .lt 15) 3 4 ∧ ((1 : Nat) : Int) + 15 = ((16 : Nat) : Int) := ⟨⟨by decide +kernel, rfl⟩, by decide⟩
theorem d_X7_has_4 : gD cX7_has 4 (.iload_n 1) 1 5 := ⟨by decide +kernel, rfl⟩
theorem d_X7_has_5 : gD cX7_has 5 (.aload_n 0) 1 6 := ⟨by decide +kernel, rfl⟩
theorem d_X7_has_6 : gD cX7_has 6 (.getfield 22) 3 9 := ⟨by decide +kernel, rfl⟩
theorem d_X7_has_9 : gD cX7_has 9 (.if_icmp .ge 7) 3 12 ∧ ((9 : Nat) : Int) + 7 = ((16 : Nat) : Int) := ⟨⟨by decide +kernel, rfl⟩, by decide⟩
theorem d_X7_has_12 : gD cX7_has 12 (.iconst 1) 1 13 := ⟨by decide +kernel, rfl⟩
theorem d_X7_has_13 : decode cX7_has 13 = .ok (.goto 4, 3) ∧ ((13 : Nat) : Int) + 4 = ((17 : Nat) : Int) := ⟨by decide +kernel, by decide⟩
theorem d_X7_has_16 : gD cX7_has 16 (.iconst 0) 1 17 := ⟨by decide +kernel, rfl⟩
theorem d_X7_has_17 : gD cX7_has 17 (.ireturn) 1 18 := ⟨by decide +kernel, rfl⟩
abbrev rm_X7_has : Room := { frames := 0, cells := 0, slots := 0, locals := 0 }
set_option maxRecDepth 20000 in
theorem w_X7_has {Γ : GC} {E : GE} (hO : gOk Γ E cX7_has RX7 2 rm_X7_has (some .boolean) "has") (o : Nat) (x1 : Int32) (S : GS) : Go Γ E (gBpI Γ E S) 2 (0, 0) 0 S [(0, vA (some o)), (1, vI x1)] [] (f_X7_has o x1 S) := by
  unfold f_X7_has
  refine g_iload_n hO d_X7_has_0 (by rfl) 1 rfl ?_
  refine g_if_lt (tgt := 16) hO d_X7_has_1.1 d_X7_has_1.2 (fun _ => ?_) (fun _ => ?_)
  · skip
    refine g_iconst hO 0 d_X7_has_16 (by decide) ?_
    exact g_ret hO rfl rfl ⟨Nat.le_of_ble_eq_true rfl, Nat.le_of_ble_eq_true rfl⟩ rfl rfl d_X7_has_17.1
  · skip
    refine g_iload_n hO d_X7_has_4 (by rfl) 1 rfl ?_
    refine g_aload_n hO d_X7_has_5 (by rfl) 0 rfl ?_
    refine h_getI hO cl_X7 3 rfl wf_X7_22 d_X7_has_6 (fun v1 => ?_)
    refine g_ic_ge (tgt := 16) hO d_X7_has_9.1 d_X7_has_9.2 (fun _ => ?_) (fun _ => ?_)
    · skip
      refine g_iconst hO 0 d_X7_has_16 (by decide) ?_
      exact g_ret hO rfl rfl ⟨Nat.le_of_ble_eq_true rfl, Nat.le_of_ble_eq_true rfl⟩ rfl rfl d_X7_has_17.1
    · skip
      refine g_iconst hO 1 d_X7_has_12 (by decide) ?_
      refine g_goto (tgt := 17) hO d_X7_has_13.1 d_X7_has_13.2 ?_
      exact g_ret hO rfl rfl ⟨Nat.le_of_ble_eq_true rfl, Nat.le_of_ble_eq_true rfl⟩ rfl rfl d_X7_has_17.1
theorem t_X7_has (l : Launch) (E : GE) (o : Nat) (x1 : Int32) (S : GS) : ∀ a, f_X7_has o x1 S = some a → Ct l E yX7_has cX7_has 2 (some .boolean) rm_X7_has [vA (some o), vI x1] S (some (vI a)) S :=
  Ct_of (val := fun b => some (vI b)) (nxt := fun _ => S) (by decide) (Nat.le_of_ble_eq_true rfl) (fun Γ hl hO => w_X7_has hO o x1 S)
theorem d_X0_roomsOfAllAreThere_0 : gD cX0_roomsOfAllAreThere 0 (.iconst 0) 1 1 := ⟨by decide +kernel, rfl⟩
theorem d_X0_roomsOfAllAreThere_1 : gD cX0_roomsOfAllAreThere 1 (.istore_n 1) 1 2 := ⟨by decide +kernel, rfl⟩
theorem d_X0_roomsOfAllAreThere_2 : gD cX0_roomsOfAllAreThere 2 (.iload_n 1) 1 3 := ⟨by decide +kernel, rfl⟩
theorem d_X0_roomsOfAllAreThere_3 : gD cX0_roomsOfAllAreThere 3 (.aload_n 0) 1 4 := ⟨by decide +kernel, rfl⟩
theorem d_X0_roomsOfAllAreThere_4 : gD cX0_roomsOfAllAreThere 4 (.getfield 20) 3 7 := ⟨by decide +kernel, rfl⟩
theorem d_X0_roomsOfAllAreThere_7 : gD cX0_roomsOfAllAreThere 7 (.getfield 74) 3 10 := ⟨by decide +kernel, rfl⟩
theorem d_X0_roomsOfAllAreThere_10 : gD cX0_roomsOfAllAreThere 10 (.if_icmp .ge 30) 3 13 ∧ ((10 : Nat) : Int) + 30 = ((40 : Nat) : Int) := ⟨⟨by decide +kernel, rfl⟩, by decide⟩
theorem d_X0_roomsOfAllAreThere_13 : gD cX0_roomsOfAllAreThere 13 (.aload_n 0) 1 14 := ⟨by decide +kernel, rfl⟩
theorem d_X0_roomsOfAllAreThere_14 : gD cX0_roomsOfAllAreThere 14 (.getfield 14) 3 17 := ⟨by decide +kernel, rfl⟩
theorem d_X0_roomsOfAllAreThere_17 : gD cX0_roomsOfAllAreThere 17 (.aload_n 0) 1 18 := ⟨by decide +kernel, rfl⟩
theorem d_X0_roomsOfAllAreThere_18 : gD cX0_roomsOfAllAreThere 18 (.getfield 20) 3 21 := ⟨by decide +kernel, rfl⟩
theorem d_X0_roomsOfAllAreThere_21 : gD cX0_roomsOfAllAreThere 21 (.iload_n 1) 1 22 := ⟨by decide +kernel, rfl⟩
theorem d_X0_roomsOfAllAreThere_22 : gD cX0_roomsOfAllAreThere 22 (.iconst 0) 1 23 := ⟨by decide +kernel, rfl⟩
theorem d_X0_roomsOfAllAreThere_23 : gD cX0_roomsOfAllAreThere 23 (.invokevirtual 67) 3 26 := ⟨by decide +kernel, rfl⟩
theorem d_X0_roomsOfAllAreThere_26 : gD cX0_roomsOfAllAreThere 26 (.invokevirtual 77) 3 29 := ⟨by decide +kernel, rfl⟩
theorem d_X0_roomsOfAllAreThere_29 : gD cX0_roomsOfAllAreThere 29 (.ifCond .ne 5) 3 32 ∧ ((29 : Nat) : Int) + 5 = ((34 : Nat) : Int) := ⟨⟨by decide +kernel, rfl⟩, by decide⟩
theorem d_X0_roomsOfAllAreThere_32 : gD cX0_roomsOfAllAreThere 32 (.iconst 0) 1 33 := ⟨by decide +kernel, rfl⟩
theorem d_X0_roomsOfAllAreThere_33 : gD cX0_roomsOfAllAreThere 33 (.ireturn) 1 34 := ⟨by decide +kernel, rfl⟩
theorem d_X0_roomsOfAllAreThere_34 : gD cX0_roomsOfAllAreThere 34 (.iinc 1 1) 3 37 := ⟨by decide +kernel, rfl⟩
theorem d_X0_roomsOfAllAreThere_37 : decode cX0_roomsOfAllAreThere 37 = .ok (.goto (-35), 3) ∧ ((37 : Nat) : Int) + (-35) = ((2 : Nat) : Int) := ⟨by decide +kernel, by decide⟩
theorem d_X0_roomsOfAllAreThere_40 : gD cX0_roomsOfAllAreThere 40 (.iconst 1) 1 41 := ⟨by decide +kernel, rfl⟩
theorem d_X0_roomsOfAllAreThere_41 : gD cX0_roomsOfAllAreThere 41 (.ireturn) 1 42 := ⟨by decide +kernel, rfl⟩
abbrev rm_X0_roomsOfAllAreThere : Room := { frames := 1, cells := 0, slots := 0, locals := 22 }
set_option maxRecDepth 20000 in
theorem w_X0_roomsOfAllAreThere_2 {Γ : GC} {E : GE} (hO : gOk Γ E cX0_roomsOfAllAreThere RX0 2 rm_X0_roomsOfAllAreThere (some .boolean) "roomsOfAllAreThere") (o : Nat) (S : GS) : ∀ (n : Nat) (x1 : Int32), Go Γ E (gBpI Γ E S) 2 (0, 0) 2 S [(0, vA (some o)), (1, vI x1)] [] (f_X0_roomsOfAllAreThere_2 o S n x1) := by
  intro n
  induction n with
  | zero =>
    intro x1
    exact g_none
  | succ n ih =>
    intro x1
    rw [f_X0_roomsOfAllAreThere_2]
    refine g_iload_n hO d_X0_roomsOfAllAreThere_2 (by rfl) 1 rfl ?_
    refine g_aload_n hO d_X0_roomsOfAllAreThere_3 (by rfl) 0 rfl ?_
    refine h_getR hO cl_X0 1 rfl wf_X0_20 d_X0_roomsOfAllAreThere_4 (fun v1 => ?_)
    refine h_getI hO cl_X7 3 rfl wf_X0_74 d_X0_roomsOfAllAreThere_7 (fun v2 => ?_)
    refine g_ic_ge (tgt := 40) hO d_X0_roomsOfAllAreThere_10.1 d_X0_roomsOfAllAreThere_10.2 (fun _ => ?_) (fun _ => ?_)
    · skip
      refine g_iconst hO 1 d_X0_roomsOfAllAreThere_40 (by decide) ?_
      exact g_ret hO rfl rfl ⟨Nat.le_of_ble_eq_true rfl, Nat.le_of_ble_eq_true rfl⟩ rfl rfl d_X0_roomsOfAllAreThere_41.1
    · skip
      refine g_aload_n hO d_X0_roomsOfAllAreThere_13 (by rfl) 0 rfl ?_
      refine h_getR hO cl_X0 0 rfl wf_X0_14 d_X0_roomsOfAllAreThere_14 (fun v3 => ?_)
      refine g_aload_n hO d_X0_roomsOfAllAreThere_17 (by rfl) 0 rfl ?_
      refine h_getR hO cl_X0 1 rfl wf_X0_20 d_X0_roomsOfAllAreThere_18 (fun v4 => ?_)
      refine g_iload_n hO d_X0_roomsOfAllAreThere_21 (by rfl) 1 rfl ?_
      refine g_iconst hO 0 d_X0_roomsOfAllAreThere_22 (by decide) ?_
      refine k_virtIp hO cl_X7 mm_X7_cell lkV_X0_67 ⟨⟨Nat.le_of_ble_eq_true rfl, Nat.le_of_ble_eq_true rfl⟩, Nat.le_of_ble_eq_true rfl, Nat.le_of_ble_eq_true rfl⟩ (kn' := (0, 0)) rfl (As := [vI x1, vI 0]) rfl (Nat.le_of_ble_eq_true rfl) (fun o' _ => t_X7_cell Γ.2.1 E o' x1 0 S) d_X0_roomsOfAllAreThere_23 rfl (fun v5 => ?_)
      refine k_virtIp hO cl_X7 mm_X7_has lkV_X0_77 ⟨⟨Nat.le_of_ble_eq_true rfl, Nat.le_of_ble_eq_true rfl⟩, Nat.le_of_ble_eq_true rfl, Nat.le_of_ble_eq_true rfl⟩ (kn' := (0, 0)) rfl (As := [vI v5]) rfl (Nat.le_of_ble_eq_true rfl) (fun o' _ => t_X7_has Γ.2.1 E o' v5 S) d_X0_roomsOfAllAreThere_26 rfl (fun v7 => ?_)
      refine g_if_ne (tgt := 34) hO d_X0_roomsOfAllAreThere_29.1 d_X0_roomsOfAllAreThere_29.2 (fun _ => ?_) (fun _ => ?_)
      · skip
        refine g_iconst hO 0 d_X0_roomsOfAllAreThere_32 (by decide) ?_
        exact g_ret hO rfl rfl ⟨Nat.le_of_ble_eq_true rfl, Nat.le_of_ble_eq_true rfl⟩ rfl rfl d_X0_roomsOfAllAreThere_33.1
      · skip
        refine g_iinc (lv' := [(1, vI (x1 + 1)), (0, vA (some o))]) hO 1 d_X0_roomsOfAllAreThere_34 (by decide) 1 rfl (by decide) rfl ?_
        refine g_goto (tgt := 2) hO d_X0_roomsOfAllAreThere_37.1 d_X0_roomsOfAllAreThere_37.2 ?_
        exact g_sub [1, 0] rfl (ih _)
set_option maxRecDepth 20000 in
theorem w_X0_roomsOfAllAreThere {Γ : GC} {E : GE} (hO : gOk Γ E cX0_roomsOfAllAreThere RX0 2 rm_X0_roomsOfAllAreThere (some .boolean) "roomsOfAllAreThere") (o : Nat) (S : GS) : Go Γ E (gBpI Γ E S) 2 (0, 0) 0 S [(0, vA (some o))] [] (f_X0_roomsOfAllAreThere o S) := by
  unfold f_X0_roomsOfAllAreThere
  refine g_iconst hO 0 d_X0_roomsOfAllAreThere_0 (by decide) ?_
  refine g_istore_n (lv' := [(1, vI 0), (0, vA (some o))]) hO d_X0_roomsOfAllAreThere_1 (by rfl) (by decide) rfl ?_
  exact g_sub [1, 0] rfl (w_X0_roomsOfAllAreThere_2 hO o _ _ _)
theorem t_X0_roomsOfAllAreThere (l : Launch) (E : GE) (o : Nat) (S : GS) : ∀ a, f_X0_roomsOfAllAreThere o S = some a → Ct l E yX0_roomsOfAllAreThere cX0_roomsOfAllAreThere 2 (some .boolean) rm_X0_roomsOfAllAreThere [vA (some o)] S (some (vI a)) S :=
  Ct_of (val := fun b => some (vI b)) (nxt := fun _ => S) (by decide) (Nat.le_of_ble_eq_true rfl) (fun Γ hl hO => w_X0_roomsOfAllAreThere hO o S)
theorem d_X0_allWeights_0 : gD cX0_allWeights 0 (.aload_n 0) 1 1 := ⟨by decide +kernel, rfl⟩
theorem d_X0_allWeights_1 : gD cX0_allWeights 1 (.getfield 26) 3 4 := ⟨by decide +kernel, rfl⟩
theorem d_X0_allWeights_4 : gD cX0_allWeights 4 (.iconst 0) 1 5 := ⟨by decide +kernel, rfl⟩
theorem d_X0_allWeights_5 : gD cX0_allWeights 5 (.iaload) 1 6 := ⟨by decide +kernel, rfl⟩
theorem d_X0_allWeights_6 : gD cX0_allWeights 6 (.aload_n 0) 1 7 := ⟨by decide +kernel, rfl⟩
theorem d_X0_allWeights_7 : gD cX0_allWeights 7 (.getfield 26) 3 10 := ⟨by decide +kernel, rfl⟩
theorem d_X0_allWeights_10 : gD cX0_allWeights 10 (.iconst 1) 1 11 := ⟨by decide +kernel, rfl⟩
theorem d_X0_allWeights_11 : gD cX0_allWeights 11 (.iaload) 1 12 := ⟨by decide +kernel, rfl⟩
theorem d_X0_allWeights_12 : gD cX0_allWeights 12 (.iadd) 1 13 := ⟨by decide +kernel, rfl⟩
theorem d_X0_allWeights_13 : gD cX0_allWeights 13 (.aload_n 0) 1 14 := ⟨by decide +kernel, rfl⟩
theorem d_X0_allWeights_14 : gD cX0_allWeights 14 (.getfield 26) 3 17 := ⟨by decide +kernel, rfl⟩
theorem d_X0_allWeights_17 : gD cX0_allWeights 17 (.iconst 2) 1 18 := ⟨by decide +kernel, rfl⟩
theorem d_X0_allWeights_18 : gD cX0_allWeights 18 (.iaload) 1 19 := ⟨by decide +kernel, rfl⟩
theorem d_X0_allWeights_19 : gD cX0_allWeights 19 (.iadd) 1 20 := ⟨by decide +kernel, rfl⟩
theorem d_X0_allWeights_20 : gD cX0_allWeights 20 (.ireturn) 1 21 := ⟨by decide +kernel, rfl⟩
abbrev rm_X0_allWeights : Room := { frames := 0, cells := 0, slots := 0, locals := 0 }
set_option maxRecDepth 20000 in
theorem w_X0_allWeights {Γ : GC} {E : GE} (hO : gOk Γ E cX0_allWeights RX0 1 rm_X0_allWeights (some .int) "allWeights") (o : Nat) (S : GS) : Go Γ E (gBpI Γ E S) 1 (0, 0) 0 S [(0, vA (some o))] [] (f_X0_allWeights o S) := by
  unfold f_X0_allWeights
  refine g_aload_n hO d_X0_allWeights_0 (by rfl) 0 rfl ?_
  refine h_getR hO cl_X0 3 rfl wf_X0_26 d_X0_allWeights_1 (fun v1 => ?_)
  refine g_iconst hO 0 d_X0_allWeights_4 (by decide) ?_
  refine h_iald hO d_X0_allWeights_5 (fun v2 => ?_)
  refine g_aload_n hO d_X0_allWeights_6 (by rfl) 0 rfl ?_
  refine h_getR hO cl_X0 3 rfl wf_X0_26 d_X0_allWeights_7 (fun v3 => ?_)
  refine g_iconst hO 1 d_X0_allWeights_10 (by decide) ?_
  refine h_iald hO d_X0_allWeights_11 (fun v4 => ?_)
  refine g_iadd hO d_X0_allWeights_12 ?_
  refine g_aload_n hO d_X0_allWeights_13 (by rfl) 0 rfl ?_
  refine h_getR hO cl_X0 3 rfl wf_X0_26 d_X0_allWeights_14 (fun v5 => ?_)
  refine g_iconst hO 2 d_X0_allWeights_17 (by decide) ?_
  refine h_iald hO d_X0_allWeights_18 (fun v6 => ?_)
  refine g_iadd hO d_X0_allWeights_19 ?_
  exact g_ret hO rfl rfl ⟨Nat.le_of_ble_eq_true rfl, Nat.le_of_ble_eq_true rfl⟩ rfl rfl d_X0_allWeights_20.1
theorem t_X0_allWeights (l : Launch) (E : GE) (o : Nat) (S : GS) : ∀ a, f_X0_allWeights o S = some a → Ct l E yX0_allWeights cX0_allWeights 1 (some .int) rm_X0_allWeights [vA (some o)] S (some (vI a)) S :=
  Ct_of (val := fun b => some (vI b)) (nxt := fun _ => S) (by decide) (Nat.le_of_ble_eq_true rfl) (fun Γ hl hO => w_X0_allWeights hO o S)
theorem d_X0_markAfter_0 : gD cX0_markAfter 0 (.iconst 0) 1 1 := ⟨by decide +kernel, rfl⟩
theorem d_X0_markAfter_1 : gD cX0_markAfter 1 (.bipush 40) 2 3 := ⟨by decide +kernel, rfl⟩
theorem d_X0_markAfter_3 : gD cX0_markAfter 3 (.iload_n 1) 1 4 := ⟨by decide +kernel, rfl⟩
theorem d_X0_markAfter_4 : gD cX0_markAfter 4 (.iload_n 2) 1 5 := ⟨by decide +kernel, rfl⟩
theorem d_X0_markAfter_5 : gD cX0_markAfter 5 (.iadd) 1 6 := ⟨by decide +kernel, rfl⟩
theorem d_X0_markAfter_6 : gD cX0_markAfter 6 (.iconst 1) 1 7 := ⟨by decide +kernel, rfl⟩
theorem d_X0_markAfter_7 : gD cX0_markAfter 7 (.isub) 1 8 := ⟨by decide +kernel, rfl⟩
theorem d_X0_markAfter_8 : gD cX0_markAfter 8 (.invokestatic 80) 3 11 := ⟨by decide +kernel, rfl⟩
theorem d_X0_markAfter_11 : gD cX0_markAfter 11 (.invokestatic 85) 3 14 := ⟨by decide +kernel, rfl⟩
theorem d_X0_markAfter_14 : gD cX0_markAfter 14 (.ireturn) 1 15 := ⟨by decide +kernel, rfl⟩
abbrev rm_X0_markAfter : Room := { frames := 1, cells := 0, slots := 0, locals := 14 }
set_option maxRecDepth 20000 in
theorem w_X0_markAfter {Γ : GC} {E : GE} (hO : gOk Γ E cX0_markAfter RX0 3 rm_X0_markAfter (some .int) "markAfter") (o : Nat) (x1 : Int32) (x2 : Int32) (S : GS) : Go Γ E (gBpI Γ E S) 3 (0, 0) 0 S [(0, vA (some o)), (1, vI x1), (2, vI x2)] [] (f_X0_markAfter o x1 x2 S) := by
  unfold f_X0_markAfter
  refine g_iconst hO 0 d_X0_markAfter_0 (by decide) ?_
  refine g_bipush hO 40 d_X0_markAfter_1 (by decide) ?_
  refine g_iload_n hO d_X0_markAfter_3 (by rfl) 1 rfl ?_
  refine g_iload_n hO d_X0_markAfter_4 (by rfl) 2 rfl ?_
  refine g_iadd hO d_X0_markAfter_5 ?_
  refine g_iconst hO 1 d_X0_markAfter_6 (by decide) ?_
  refine g_isub hO d_X0_markAfter_7 ?_
  refine g_mmin hO wm_X0_80 wt_min wi_Math wc_min ⟨by decide, Nat.le_of_ble_eq_true rfl, Nat.zero_le _, Nat.zero_le _⟩ d_X0_markAfter_8 ?_
  refine g_mmax hO wm_X0_85 wt_max wi_Math wc_max ⟨by decide, Nat.le_of_ble_eq_true rfl, Nat.zero_le _, Nat.zero_le _⟩ d_X0_markAfter_11 ?_
  exact g_ret hO rfl rfl ⟨Nat.le_of_ble_eq_true rfl, Nat.le_of_ble_eq_true rfl⟩ rfl rfl d_X0_markAfter_14.1
theorem t_X0_markAfter (l : Launch) (E : GE) (o : Nat) (x1 : Int32) (x2 : Int32) (S : GS) : ∀ a, f_X0_markAfter o x1 x2 S = some a → Ct l E yX0_markAfter cX0_markAfter 3 (some .int) rm_X0_markAfter [vA (some o), vI x1, vI x2] S (some (vI a)) S :=
  Ct_of (val := fun b => some (vI b)) (nxt := fun _ => S) (by decide) (Nat.le_of_ble_eq_true rfl) (fun Γ hl hO => w_X0_markAfter hO o x1 x2 S)
theorem d_X0_isNear_0 : gD cX0_isNear 0 (.iload_n 1) 1 1 := ⟨by decide +kernel, rfl⟩
theorem d_X0_isNear_1 : gD cX0_isNear 1 (.iload_n 2) 1 2 := ⟨by decide +kernel, rfl⟩
theorem d_X0_isNear_2 : gD cX0_isNear 2 (.isub) 1 3 := ⟨by decide +kernel, rfl⟩
theorem d_X0_isNear_3 : gD cX0_isNear 3 (.invokestatic 88) 3 6 := ⟨by decide +kernel, rfl⟩
theorem d_X0_isNear_6 : gD cX0_isNear 6 (.aload_n 0) 1 7 := ⟨by decide +kernel, rfl⟩
theorem d_X0_isNear_7 : gD cX0_isNear 7 (.getfield 39) 3 10 := ⟨by decide +kernel, rfl⟩
theorem d_X0_isNear_10 : gD cX0_isNear 10 (.if_icmp .gt 7) 3 13 ∧ ((10 : Nat) : Int) + 7 = ((17 : Nat) : Int) := ⟨⟨by decide +kernel, rfl⟩, by decide⟩
theorem d_X0_isNear_13 : gD cX0_isNear 13 (.iconst 1) 1 14 := ⟨by decide +kernel, rfl⟩
theorem d_X0_isNear_14 : decode cX0_isNear 14 = .ok (.goto 4, 3) ∧ ((14 : Nat) : Int) + 4 = ((18 : Nat) : Int) := ⟨by decide +kernel, by decide⟩
theorem d_X0_isNear_17 : gD cX0_isNear 17 (.iconst 0) 1 18 := ⟨by decide +kernel, rfl⟩
theorem d_X0_isNear_18 : gD cX0_isNear 18 (.ireturn) 1 19 := ⟨by decide +kernel, rfl⟩
abbrev rm_X0_isNear : Room := { frames := 1, cells := 0, slots := 0, locals := 13 }
set_option maxRecDepth 20000 in
theorem w_X0_isNear {Γ : GC} {E : GE} (hO : gOk Γ E cX0_isNear RX0 3 rm_X0_isNear (some .boolean) "isNear") (o : Nat) (x1 : Int32) (x2 : Int32) (S : GS) : Go Γ E (gBpI Γ E S) 3 (0, 0) 0 S [(0, vA (some o)), (1, vI x1), (2, vI x2)] [] (f_X0_isNear o x1 x2 S) := by
  unfold f_X0_isNear
  refine g_iload_n hO d_X0_isNear_0 (by rfl) 1 rfl ?_
  refine g_iload_n hO d_X0_isNear_1 (by rfl) 2 rfl ?_
  refine g_isub hO d_X0_isNear_2 ?_
  refine g_mabs hO wm_X0_88 wt_abs wi_Math wc_abs ⟨by decide, Nat.le_of_ble_eq_true rfl, Nat.zero_le _, Nat.zero_le _⟩ d_X0_isNear_3 ?_
  refine g_aload_n hO d_X0_isNear_6 (by rfl) 0 rfl ?_
  refine h_getI hO cl_X0 4 rfl wf_X0_39 d_X0_isNear_7 (fun v1 => ?_)
  refine g_ic_gt (tgt := 17) hO d_X0_isNear_10.1 d_X0_isNear_10.2 (fun _ => ?_) (fun _ => ?_)
  · skip
    refine g_iconst hO 0 d_X0_isNear_17 (by decide) ?_
    exact g_ret hO rfl rfl ⟨Nat.le_of_ble_eq_true rfl, Nat.le_of_ble_eq_true rfl⟩ rfl rfl d_X0_isNear_18.1
  · skip
    refine g_iconst hO 1 d_X0_isNear_13 (by decide) ?_
    refine g_goto (tgt := 18) hO d_X0_isNear_14.1 d_X0_isNear_14.2 ?_
    exact g_ret hO rfl rfl ⟨Nat.le_of_ble_eq_true rfl, Nat.le_of_ble_eq_true rfl⟩ rfl rfl d_X0_isNear_18.1
theorem t_X0_isNear (l : Launch) (E : GE) (o : Nat) (x1 : Int32) (x2 : Int32) (S : GS) : ∀ a, f_X0_isNear o x1 x2 S = some a → Ct l E yX0_isNear cX0_isNear 3 (some .boolean) rm_X0_isNear [vA (some o), vI x1, vI x2] S (some (vI a)) S :=
  Ct_of (val := fun b => some (vI b)) (nxt := fun _ => S) (by decide) (Nat.le_of_ble_eq_true rfl) (fun Γ hl hO => w_X0_isNear hO o x1 x2 S)
theorem d_X0_fate_0 : gD cX0_fate 0 (.iload_n 2) 1 1 := ⟨by decide +kernel, rfl⟩
theorem d_X0_fate_1 : gD cX0_fate 1 (.iload_n 3) 1 2 := ⟨by decide +kernel, rfl⟩
theorem d_X0_fate_2 : gD cX0_fate 2 (.iadd) 1 3 := ⟨by decide +kernel, rfl⟩
theorem d_X0_fate_3 : gD cX0_fate 3 (.aload_n 0) 1 4 := ⟨by decide +kernel, rfl⟩
theorem d_X0_fate_4 : gD cX0_fate 4 (.getfield 20) 3 7 := ⟨by decide +kernel, rfl⟩
theorem d_X0_fate_7 : gD cX0_fate 7 (.iload_n 1) 1 8 := ⟨by decide +kernel, rfl⟩
theorem d_X0_fate_8 : gD cX0_fate 8 (.iconst 3) 1 9 := ⟨by decide +kernel, rfl⟩
theorem d_X0_fate_9 : gD cX0_fate 9 (.invokevirtual 67) 3 12 := ⟨by decide +kernel, rfl⟩
theorem d_X0_fate_12 : gD cX0_fate 12 (.if_icmp .le 5) 3 15 ∧ ((12 : Nat) : Int) + 5 = ((17 : Nat) : Int) := ⟨⟨by decide +kernel, rfl⟩, by decide⟩
theorem d_X0_fate_15 : gD cX0_fate 15 (.iconst 2) 1 16 := ⟨by decide +kernel, rfl⟩
theorem d_X0_fate_16 : gD cX0_fate 16 (.ireturn) 1 17 := ⟨by decide +kernel, rfl⟩
theorem d_X0_fate_17 : gD cX0_fate 17 (.iload_n 2) 1 18 := ⟨by decide +kernel, rfl⟩
theorem d_X0_fate_18 : gD cX0_fate 18 (.bipush 30) 2 20 := ⟨by decide +kernel, rfl⟩
theorem d_X0_fate_20 : gD cX0_fate 20 (.iadd) 1 21 := ⟨by decide +kernel, rfl⟩
theorem d_X0_fate_21 : gD cX0_fate 21 (.iload_n 3) 1 22 := ⟨by decide +kernel, rfl⟩
theorem d_X0_fate_22 : gD cX0_fate 22 (.isub) 1 23 := ⟨by decide +kernel, rfl⟩
theorem d_X0_fate_23 : gD cX0_fate 23 (.aload_n 0) 1 24 := ⟨by decide +kernel, rfl⟩
theorem d_X0_fate_24 : gD cX0_fate 24 (.getfield 20) 3 27 := ⟨by decide +kernel, rfl⟩
theorem d_X0_fate_27 : gD cX0_fate 27 (.iload_n 1) 1 28 := ⟨by decide +kernel, rfl⟩
theorem d_X0_fate_28 : gD cX0_fate 28 (.iconst 2) 1 29 := ⟨by decide +kernel, rfl⟩
theorem d_X0_fate_29 : gD cX0_fate 29 (.invokevirtual 67) 3 32 := ⟨by decide +kernel, rfl⟩
theorem d_X0_fate_32 : gD cX0_fate 32 (.if_icmp .le 7) 3 35 ∧ ((32 : Nat) : Int) + 7 = ((39 : Nat) : Int) := ⟨⟨by decide +kernel, rfl⟩, by decide⟩
theorem d_X0_fate_35 : gD cX0_fate 35 (.iconst 1) 1 36 := ⟨by decide +kernel, rfl⟩
theorem d_X0_fate_36 : decode cX0_fate 36 = .ok (.goto 4, 3) ∧ ((36 : Nat) : Int) + 4 = ((40 : Nat) : Int) := ⟨by decide +kernel, by decide⟩
theorem d_X0_fate_39 : gD cX0_fate 39 (.iconst 0) 1 40 := ⟨by decide +kernel, rfl⟩
theorem d_X0_fate_40 : gD cX0_fate 40 (.ireturn) 1 41 := ⟨by decide +kernel, rfl⟩
abbrev rm_X0_fate : Room := { frames := 1, cells := 0, slots := 0, locals := 22 }
set_option maxRecDepth 20000 in
theorem w_X0_fate {Γ : GC} {E : GE} (hO : gOk Γ E cX0_fate RX0 4 rm_X0_fate (some .int) "fate") (o : Nat) (x1 : Int32) (x2 : Int32) (x3 : Int32) (S : GS) : Go Γ E (gBpI Γ E S) 4 (0, 0) 0 S [(0, vA (some o)), (1, vI x1), (2, vI x2), (3, vI x3)] [] (f_X0_fate o x1 x2 x3 S) := by
  unfold f_X0_fate
  refine g_iload_n hO d_X0_fate_0 (by rfl) 2 rfl ?_
  refine g_iload_n hO d_X0_fate_1 (by rfl) 3 rfl ?_
  refine g_iadd hO d_X0_fate_2 ?_
  refine g_aload_n hO d_X0_fate_3 (by rfl) 0 rfl ?_
  refine h_getR hO cl_X0 1 rfl wf_X0_20 d_X0_fate_4 (fun v1 => ?_)
  refine g_iload_n hO d_X0_fate_7 (by rfl) 1 rfl ?_
  refine g_iconst hO 3 d_X0_fate_8 (by decide) ?_
  refine k_virtIp hO cl_X7 mm_X7_cell lkV_X0_67 ⟨⟨Nat.le_of_ble_eq_true rfl, Nat.le_of_ble_eq_true rfl⟩, Nat.le_of_ble_eq_true rfl, Nat.le_of_ble_eq_true rfl⟩ (kn' := (0, 0)) rfl (As := [vI x1, vI 3]) rfl (Nat.le_of_ble_eq_true rfl) (fun o' _ => t_X7_cell Γ.2.1 E o' x1 3 S) d_X0_fate_9 rfl (fun v2 => ?_)
  refine g_ic_le (tgt := 17) hO d_X0_fate_12.1 d_X0_fate_12.2 (fun _ => ?_) (fun _ => ?_)
  · skip
    refine g_iload_n hO d_X0_fate_17 (by rfl) 2 rfl ?_
    refine g_bipush hO 30 d_X0_fate_18 (by decide) ?_
    refine g_iadd hO d_X0_fate_20 ?_
    refine g_iload_n hO d_X0_fate_21 (by rfl) 3 rfl ?_
    refine g_isub hO d_X0_fate_22 ?_
    refine g_aload_n hO d_X0_fate_23 (by rfl) 0 rfl ?_
    refine h_getR hO cl_X0 1 rfl wf_X0_20 d_X0_fate_24 (fun v4 => ?_)
    refine g_iload_n hO d_X0_fate_27 (by rfl) 1 rfl ?_
    refine g_iconst hO 2 d_X0_fate_28 (by decide) ?_
    refine k_virtIp hO cl_X7 mm_X7_cell lkV_X0_67 ⟨⟨Nat.le_of_ble_eq_true rfl, Nat.le_of_ble_eq_true rfl⟩, Nat.le_of_ble_eq_true rfl, Nat.le_of_ble_eq_true rfl⟩ (kn' := (0, 0)) rfl (As := [vI x1, vI 2]) rfl (Nat.le_of_ble_eq_true rfl) (fun o' _ => t_X7_cell Γ.2.1 E o' x1 2 S) d_X0_fate_29 rfl (fun v5 => ?_)
    refine g_ic_le (tgt := 39) hO d_X0_fate_32.1 d_X0_fate_32.2 (fun _ => ?_) (fun _ => ?_)
    · skip
      refine g_iconst hO 0 d_X0_fate_39 (by decide) ?_
      exact g_ret hO rfl rfl ⟨Nat.le_of_ble_eq_true rfl, Nat.le_of_ble_eq_true rfl⟩ rfl rfl d_X0_fate_40.1
    · skip
      refine g_iconst hO 1 d_X0_fate_35 (by decide) ?_
      refine g_goto (tgt := 40) hO d_X0_fate_36.1 d_X0_fate_36.2 ?_
      exact g_ret hO rfl rfl ⟨Nat.le_of_ble_eq_true rfl, Nat.le_of_ble_eq_true rfl⟩ rfl rfl d_X0_fate_40.1
  · skip
    refine g_iconst hO 2 d_X0_fate_15 (by decide) ?_
    exact g_ret hO rfl rfl ⟨Nat.le_of_ble_eq_true rfl, Nat.le_of_ble_eq_true rfl⟩ rfl rfl d_X0_fate_16.1
theorem t_X0_fate (l : Launch) (E : GE) (o : Nat) (x1 : Int32) (x2 : Int32) (x3 : Int32) (S : GS) : ∀ a, f_X0_fate o x1 x2 x3 S = some a → Ct l E yX0_fate cX0_fate 4 (some .int) rm_X0_fate [vA (some o), vI x1, vI x2, vI x3] S (some (vI a)) S :=
  Ct_of (val := fun b => some (vI b)) (nxt := fun _ => S) (by decide) (Nat.le_of_ble_eq_true rfl) (fun Γ hl hO => w_X0_fate hO o x1 x2 x3 S)
theorem d_X0_stands_0 : gD cX0_stands 0 (.aload_n 0) 1 1 := ⟨by decide +kernel, rfl⟩
theorem d_X0_stands_1 : gD cX0_stands 1 (.iload_n 1) 1 2 := ⟨by decide +kernel, rfl⟩
theorem d_X0_stands_2 : gD cX0_stands 2 (.iload_n 2) 1 3 := ⟨by decide +kernel, rfl⟩
theorem d_X0_stands_3 : gD cX0_stands 3 (.iload_n 3) 1 4 := ⟨by decide +kernel, rfl⟩
theorem d_X0_stands_4 : gD cX0_stands 4 (.invokevirtual 91) 3 7 := ⟨by decide +kernel, rfl⟩
theorem d_X0_stands_7 : gD cX0_stands 7 (.ifCond .ne 7) 3 10 ∧ ((7 : Nat) : Int) + 7 = ((14 : Nat) : Int) := ⟨⟨by decide +kernel, rfl⟩, by decide⟩
theorem d_X0_stands_10 : gD cX0_stands 10 (.iconst 1) 1 11 := ⟨by decide +kernel, rfl⟩
theorem d_X0_stands_11 : decode cX0_stands 11 = .ok (.goto 4, 3) ∧ ((11 : Nat) : Int) + 4 = ((15 : Nat) : Int) := ⟨by decide +kernel, by decide⟩
theorem d_X0_stands_14 : gD cX0_stands 14 (.iconst 0) 1 15 := ⟨by decide +kernel, rfl⟩
theorem d_X0_stands_15 : gD cX0_stands 15 (.ireturn) 1 16 := ⟨by decide +kernel, rfl⟩
abbrev rm_X0_stands : Room := { frames := 2, cells := 0, slots := 0, locals := 45 }
set_option maxRecDepth 20000 in
theorem w_X0_stands {Γ : GC} {E : GE} (hO : gOk Γ E cX0_stands RX0 4 rm_X0_stands (some .boolean) "stands") (o : Nat) (x1 : Int32) (x2 : Int32) (x3 : Int32) (S : GS) : Go Γ E (gBpI Γ E S) 4 (0, 0) 0 S [(0, vA (some o)), (1, vI x1), (2, vI x2), (3, vI x3)] [] (f_X0_stands o x1 x2 x3 S) := by
  unfold f_X0_stands
  refine g_aload_n hO d_X0_stands_0 (by rfl) 0 rfl ?_
  refine g_iload_n hO d_X0_stands_1 (by rfl) 1 rfl ?_
  refine g_iload_n hO d_X0_stands_2 (by rfl) 2 rfl ?_
  refine g_iload_n hO d_X0_stands_3 (by rfl) 3 rfl ?_
  refine k_virtIp hO cl_X0 mm_X0_fate lkV_X0_91 ⟨⟨Nat.le_of_ble_eq_true rfl, Nat.le_of_ble_eq_true rfl⟩, Nat.le_of_ble_eq_true rfl, Nat.le_of_ble_eq_true rfl⟩ (kn' := (0, 0)) rfl (As := [vI x1, vI x2, vI x3]) rfl (Nat.le_of_ble_eq_true rfl) (fun o' _ => t_X0_fate Γ.2.1 E o' x1 x2 x3 S) d_X0_stands_4 rfl (fun v1 => ?_)
  refine g_if_ne (tgt := 14) hO d_X0_stands_7.1 d_X0_stands_7.2 (fun _ => ?_) (fun _ => ?_)
  · skip
    refine g_iconst hO 1 d_X0_stands_10 (by decide) ?_
    refine g_goto (tgt := 15) hO d_X0_stands_11.1 d_X0_stands_11.2 ?_
    exact g_ret hO rfl rfl ⟨Nat.le_of_ble_eq_true rfl, Nat.le_of_ble_eq_true rfl⟩ rfl rfl d_X0_stands_15.1
  · skip
    refine g_iconst hO 0 d_X0_stands_14 (by decide) ?_
    exact g_ret hO rfl rfl ⟨Nat.le_of_ble_eq_true rfl, Nat.le_of_ble_eq_true rfl⟩ rfl rfl d_X0_stands_15.1
theorem t_X0_stands (l : Launch) (E : GE) (o : Nat) (x1 : Int32) (x2 : Int32) (x3 : Int32) (S : GS) : ∀ a, f_X0_stands o x1 x2 x3 S = some a → Ct l E yX0_stands cX0_stands 4 (some .boolean) rm_X0_stands [vA (some o), vI x1, vI x2, vI x3] S (some (vI a)) S :=
  Ct_of (val := fun b => some (vI b)) (nxt := fun _ => S) (by decide) (Nat.le_of_ble_eq_true rfl) (fun Γ hl hO => w_X0_stands hO o x1 x2 x3 S)
theorem d_X0_pressureOf_0 : gD cX0_pressureOf 0 (.iload_n 2) 1 1 := ⟨by decide +kernel, rfl⟩
theorem d_X0_pressureOf_1 : gD cX0_pressureOf 1 (.aload_n 0) 1 2 := ⟨by decide +kernel, rfl⟩
theorem d_X0_pressureOf_2 : gD cX0_pressureOf 2 (.getfield 14) 3 5 := ⟨by decide +kernel, rfl⟩
theorem d_X0_pressureOf_5 : gD cX0_pressureOf 5 (.aload_n 0) 1 6 := ⟨by decide +kernel, rfl⟩
theorem d_X0_pressureOf_6 : gD cX0_pressureOf 6 (.getfield 20) 3 9 := ⟨by decide +kernel, rfl⟩
theorem d_X0_pressureOf_9 : gD cX0_pressureOf 9 (.iload_n 1) 1 10 := ⟨by decide +kernel, rfl⟩
theorem d_X0_pressureOf_10 : gD cX0_pressureOf 10 (.iconst 0) 1 11 := ⟨by decide +kernel, rfl⟩
theorem d_X0_pressureOf_11 : gD cX0_pressureOf 11 (.invokevirtual 67) 3 14 := ⟨by decide +kernel, rfl⟩
theorem d_X0_pressureOf_14 : gD cX0_pressureOf 14 (.iconst 1) 1 15 := ⟨by decide +kernel, rfl⟩
theorem d_X0_pressureOf_15 : gD cX0_pressureOf 15 (.invokevirtual 67) 3 18 := ⟨by decide +kernel, rfl⟩
theorem d_X0_pressureOf_18 : gD cX0_pressureOf 18 (.isub) 1 19 := ⟨by decide +kernel, rfl⟩
theorem d_X0_pressureOf_19 : gD cX0_pressureOf 19 (.ireturn) 1 20 := ⟨by decide +kernel, rfl⟩
abbrev rm_X0_pressureOf : Room := { frames := 1, cells := 0, slots := 0, locals := 22 }
set_option maxRecDepth 20000 in
theorem w_X0_pressureOf {Γ : GC} {E : GE} (hO : gOk Γ E cX0_pressureOf RX0 3 rm_X0_pressureOf (some .int) "pressureOf") (o : Nat) (x1 : Int32) (x2 : Int32) (S : GS) : Go Γ E (gBpI Γ E S) 3 (0, 0) 0 S [(0, vA (some o)), (1, vI x1), (2, vI x2)] [] (f_X0_pressureOf o x1 x2 S) := by
  unfold f_X0_pressureOf
  refine g_iload_n hO d_X0_pressureOf_0 (by rfl) 2 rfl ?_
  refine g_aload_n hO d_X0_pressureOf_1 (by rfl) 0 rfl ?_
  refine h_getR hO cl_X0 0 rfl wf_X0_14 d_X0_pressureOf_2 (fun v1 => ?_)
  refine g_aload_n hO d_X0_pressureOf_5 (by rfl) 0 rfl ?_
  refine h_getR hO cl_X0 1 rfl wf_X0_20 d_X0_pressureOf_6 (fun v2 => ?_)
  refine g_iload_n hO d_X0_pressureOf_9 (by rfl) 1 rfl ?_
  refine g_iconst hO 0 d_X0_pressureOf_10 (by decide) ?_
  refine k_virtIp hO cl_X7 mm_X7_cell lkV_X0_67 ⟨⟨Nat.le_of_ble_eq_true rfl, Nat.le_of_ble_eq_true rfl⟩, Nat.le_of_ble_eq_true rfl, Nat.le_of_ble_eq_true rfl⟩ (kn' := (0, 0)) rfl (As := [vI x1, vI 0]) rfl (Nat.le_of_ble_eq_true rfl) (fun o' _ => t_X7_cell Γ.2.1 E o' x1 0 S) d_X0_pressureOf_11 rfl (fun v3 => ?_)
  refine g_iconst hO 1 d_X0_pressureOf_14 (by decide) ?_
  refine k_virtIp hO cl_X7 mm_X7_cell lkV_X0_67 ⟨⟨Nat.le_of_ble_eq_true rfl, Nat.le_of_ble_eq_true rfl⟩, Nat.le_of_ble_eq_true rfl, Nat.le_of_ble_eq_true rfl⟩ (kn' := (0, 0)) rfl (As := [vI v3, vI 1]) rfl (Nat.le_of_ble_eq_true rfl) (fun o' _ => t_X7_cell Γ.2.1 E o' v3 1 S) d_X0_pressureOf_15 rfl (fun v5 => ?_)
  refine g_isub hO d_X0_pressureOf_18 ?_
  exact g_ret hO rfl rfl ⟨Nat.le_of_ble_eq_true rfl, Nat.le_of_ble_eq_true rfl⟩ rfl rfl d_X0_pressureOf_19.1
theorem t_X0_pressureOf (l : Launch) (E : GE) (o : Nat) (x1 : Int32) (x2 : Int32) (S : GS) : ∀ a, f_X0_pressureOf o x1 x2 S = some a → Ct l E yX0_pressureOf cX0_pressureOf 3 (some .int) rm_X0_pressureOf [vA (some o), vI x1, vI x2] S (some (vI a)) S :=
  Ct_of (val := fun b => some (vI b)) (nxt := fun _ => S) (by decide) (Nat.le_of_ble_eq_true rfl) (fun Γ hl hO => w_X0_pressureOf hO o x1 x2 S)
theorem d_X0_standsAt_0 : gD cX0_standsAt 0 (.aload_n 0) 1 1 := ⟨by decide +kernel, rfl⟩
theorem d_X0_standsAt_1 : gD cX0_standsAt 1 (.iload_n 1) 1 2 := ⟨by decide +kernel, rfl⟩
theorem d_X0_standsAt_2 : gD cX0_standsAt 2 (.iload_n 2) 1 3 := ⟨by decide +kernel, rfl⟩
theorem d_X0_standsAt_3 : gD cX0_standsAt 3 (.aload_n 0) 1 4 := ⟨by decide +kernel, rfl⟩
theorem d_X0_standsAt_4 : gD cX0_standsAt 4 (.iload_n 1) 1 5 := ⟨by decide +kernel, rfl⟩
theorem d_X0_standsAt_5 : gD cX0_standsAt 5 (.iload_n 3) 1 6 := ⟨by decide +kernel, rfl⟩
theorem d_X0_standsAt_6 : gD cX0_standsAt 6 (.invokevirtual 95) 3 9 := ⟨by decide +kernel, rfl⟩
theorem d_X0_standsAt_9 : gD cX0_standsAt 9 (.invokevirtual 91) 3 12 := ⟨by decide +kernel, rfl⟩
theorem d_X0_standsAt_12 : gD cX0_standsAt 12 (.ifCond .ne 7) 3 15 ∧ ((12 : Nat) : Int) + 7 = ((19 : Nat) : Int) := ⟨⟨by decide +kernel, rfl⟩, by decide⟩
theorem d_X0_standsAt_15 : gD cX0_standsAt 15 (.iconst 1) 1 16 := ⟨by decide +kernel, rfl⟩
theorem d_X0_standsAt_16 : decode cX0_standsAt 16 = .ok (.goto 4, 3) ∧ ((16 : Nat) : Int) + 4 = ((20 : Nat) : Int) := ⟨by decide +kernel, by decide⟩
theorem d_X0_standsAt_19 : gD cX0_standsAt 19 (.iconst 0) 1 20 := ⟨by decide +kernel, rfl⟩
theorem d_X0_standsAt_20 : gD cX0_standsAt 20 (.ireturn) 1 21 := ⟨by decide +kernel, rfl⟩
abbrev rm_X0_standsAt : Room := { frames := 2, cells := 0, slots := 0, locals := 45 }
set_option maxRecDepth 20000 in
theorem w_X0_standsAt {Γ : GC} {E : GE} (hO : gOk Γ E cX0_standsAt RX0 4 rm_X0_standsAt (some .boolean) "standsAt") (o : Nat) (x1 : Int32) (x2 : Int32) (x3 : Int32) (S : GS) : Go Γ E (gBpI Γ E S) 4 (0, 0) 0 S [(0, vA (some o)), (1, vI x1), (2, vI x2), (3, vI x3)] [] (f_X0_standsAt o x1 x2 x3 S) := by
  unfold f_X0_standsAt
  refine g_aload_n hO d_X0_standsAt_0 (by rfl) 0 rfl ?_
  refine g_iload_n hO d_X0_standsAt_1 (by rfl) 1 rfl ?_
  refine g_iload_n hO d_X0_standsAt_2 (by rfl) 2 rfl ?_
  refine g_aload_n hO d_X0_standsAt_3 (by rfl) 0 rfl ?_
  refine g_iload_n hO d_X0_standsAt_4 (by rfl) 1 rfl ?_
  refine g_iload_n hO d_X0_standsAt_5 (by rfl) 3 rfl ?_
  refine k_virtIp hO cl_X0 mm_X0_pressureOf lkV_X0_95 ⟨⟨Nat.le_of_ble_eq_true rfl, Nat.le_of_ble_eq_true rfl⟩, Nat.le_of_ble_eq_true rfl, Nat.le_of_ble_eq_true rfl⟩ (kn' := (0, 0)) rfl (As := [vI x1, vI x3]) rfl (Nat.le_of_ble_eq_true rfl) (fun o' _ => t_X0_pressureOf Γ.2.1 E o' x1 x3 S) d_X0_standsAt_6 rfl (fun v1 => ?_)
  refine k_virtIp hO cl_X0 mm_X0_fate lkV_X0_91 ⟨⟨Nat.le_of_ble_eq_true rfl, Nat.le_of_ble_eq_true rfl⟩, Nat.le_of_ble_eq_true rfl, Nat.le_of_ble_eq_true rfl⟩ (kn' := (0, 0)) rfl (As := [vI x1, vI x2, vI v1]) rfl (Nat.le_of_ble_eq_true rfl) (fun o' _ => t_X0_fate Γ.2.1 E o' x1 x2 v1 S) d_X0_standsAt_9 rfl (fun v3 => ?_)
  refine g_if_ne (tgt := 19) hO d_X0_standsAt_12.1 d_X0_standsAt_12.2 (fun _ => ?_) (fun _ => ?_)
  · skip
    refine g_iconst hO 1 d_X0_standsAt_15 (by decide) ?_
    refine g_goto (tgt := 20) hO d_X0_standsAt_16.1 d_X0_standsAt_16.2 ?_
    exact g_ret hO rfl rfl ⟨Nat.le_of_ble_eq_true rfl, Nat.le_of_ble_eq_true rfl⟩ rfl rfl d_X0_standsAt_20.1
  · skip
    refine g_iconst hO 0 d_X0_standsAt_19 (by decide) ?_
    exact g_ret hO rfl rfl ⟨Nat.le_of_ble_eq_true rfl, Nat.le_of_ble_eq_true rfl⟩ rfl rfl d_X0_standsAt_20.1
theorem t_X0_standsAt (l : Launch) (E : GE) (o : Nat) (x1 : Int32) (x2 : Int32) (x3 : Int32) (S : GS) : ∀ a, f_X0_standsAt o x1 x2 x3 S = some a → Ct l E yX0_standsAt cX0_standsAt 4 (some .boolean) rm_X0_standsAt [vA (some o), vI x1, vI x2, vI x3] S (some (vI a)) S :=
  Ct_of (val := fun b => some (vI b)) (nxt := fun _ => S) (by decide) (Nat.le_of_ble_eq_true rfl) (fun Γ hl hO => w_X0_standsAt hO o x1 x2 x3 S)
theorem d_X0_highestStand_0 : gD cX0_highestStand 0 (.aload_n 0) 1 1 := ⟨by decide +kernel, rfl⟩
theorem d_X0_highestStand_1 : gD cX0_highestStand 1 (.getfield 20) 3 4 := ⟨by decide +kernel, rfl⟩
theorem d_X0_highestStand_4 : gD cX0_highestStand 4 (.iload_n 1) 1 5 := ⟨by decide +kernel, rfl⟩
theorem d_X0_highestStand_5 : gD cX0_highestStand 5 (.iconst 1) 1 6 := ⟨by decide +kernel, rfl⟩
theorem d_X0_highestStand_6 : gD cX0_highestStand 6 (.invokevirtual 67) 3 9 := ⟨by decide +kernel, rfl⟩
theorem d_X0_highestStand_9 : gD cX0_highestStand 9 (.istore_n 3) 1 10 := ⟨by decide +kernel, rfl⟩
theorem d_X0_highestStand_10 : gD cX0_highestStand 10 (.bipush 40) 2 12 := ⟨by decide +kernel, rfl⟩
theorem d_X0_highestStand_12 : gD cX0_highestStand 12 (.istore 4) 2 14 := ⟨by decide +kernel, rfl⟩
theorem d_X0_highestStand_14 : gD cX0_highestStand 14 (.iload 4) 2 16 := ⟨by decide +kernel, rfl⟩
theorem d_X0_highestStand_16 : gD cX0_highestStand 16 (.ifCond .lt 25) 3 19 ∧ ((16 : Nat) : Int) + 25 = ((41 : Nat) : Int) := ⟨⟨by decide +kernel, rfl⟩, by decide⟩
theorem d_X0_highestStand_19 : gD cX0_highestStand 19 (.aload_n 0) 1 20 := ⟨by decide +kernel, rfl⟩
theorem d_X0_highestStand_20 : gD cX0_highestStand 20 (.iload_n 1) 1 21 := ⟨by decide +kernel, rfl⟩
theorem d_X0_highestStand_21 : gD cX0_highestStand 21 (.iload_n 3) 1 22 := ⟨by decide +kernel, rfl⟩
theorem d_X0_highestStand_22 : gD cX0_highestStand 22 (.iload_n 2) 1 23 := ⟨by decide +kernel, rfl⟩
theorem d_X0_highestStand_23 : gD cX0_highestStand 23 (.iload 4) 2 25 := ⟨by decide +kernel, rfl⟩
theorem d_X0_highestStand_25 : gD cX0_highestStand 25 (.isub) 1 26 := ⟨by decide +kernel, rfl⟩
theorem d_X0_highestStand_26 : gD cX0_highestStand 26 (.invokevirtual 98) 3 29 := ⟨by decide +kernel, rfl⟩
theorem d_X0_highestStand_29 : gD cX0_highestStand 29 (.ifCond .eq 6) 3 32 ∧ ((29 : Nat) : Int) + 6 = ((35 : Nat) : Int) := ⟨⟨by decide +kernel, rfl⟩, by decide⟩
theorem d_X0_highestStand_32 : gD cX0_highestStand 32 (.iload 4) 2 34 := ⟨by decide +kernel, rfl⟩
theorem d_X0_highestStand_34 : gD cX0_highestStand 34 (.ireturn) 1 35 := ⟨by decide +kernel, rfl⟩
theorem d_X0_highestStand_35 : gD cX0_highestStand 35 (.iinc 4 (-1)) 3 38 := ⟨by decide +kernel, rfl⟩
theorem d_X0_highestStand_38 : decode cX0_highestStand 38 = .ok (.goto (-24), 3) ∧ ((38 : Nat) : Int) + (-24) = ((14 : Nat) : Int) := ⟨by decide +kernel, by decide⟩
theorem d_X0_highestStand_41 : gD cX0_highestStand 41 (.iconst (-1)) 1 42 := ⟨by decide +kernel, rfl⟩
theorem d_X0_highestStand_42 : gD cX0_highestStand 42 (.ireturn) 1 43 := ⟨by decide +kernel, rfl⟩
abbrev rm_X0_highestStand : Room := { frames := 3, cells := 0, slots := 0, locals := 68 }
set_option maxRecDepth 20000 in
theorem w_X0_highestStand_14 {Γ : GC} {E : GE} (hO : gOk Γ E cX0_highestStand RX0 5 rm_X0_highestStand (some .int) "highestStand") (o : Nat) (S : GS) : ∀ (n : Nat) (x1 : Int32) (x2 : Int32) (x3 : Int32) (x4 : Int32), Go Γ E (gBpI Γ E S) 5 (0, 0) 14 S [(0, vA (some o)), (1, vI x1), (2, vI x2), (3, vI x3), (4, vI x4)] [] (f_X0_highestStand_14 o S n x1 x2 x3 x4) := by
  intro n
  induction n with
  | zero =>
    intro x1 x2 x3 x4
    exact g_none
  | succ n ih =>
    intro x1 x2 x3 x4
    rw [f_X0_highestStand_14]
    refine g_iload hO d_X0_highestStand_14 4 rfl ?_
    refine g_if_lt (tgt := 41) hO d_X0_highestStand_16.1 d_X0_highestStand_16.2 (fun _ => ?_) (fun _ => ?_)
    · skip
      refine g_iconst hO (-1) d_X0_highestStand_41 (by decide) ?_
      exact g_ret hO rfl rfl ⟨Nat.le_of_ble_eq_true rfl, Nat.le_of_ble_eq_true rfl⟩ rfl rfl d_X0_highestStand_42.1
    · skip
      refine g_aload_n hO d_X0_highestStand_19 (by rfl) 0 rfl ?_
      refine g_iload_n hO d_X0_highestStand_20 (by rfl) 1 rfl ?_
      refine g_iload_n hO d_X0_highestStand_21 (by rfl) 3 rfl ?_
      refine g_iload_n hO d_X0_highestStand_22 (by rfl) 2 rfl ?_
      refine g_iload hO d_X0_highestStand_23 4 rfl ?_
      refine g_isub hO d_X0_highestStand_25 ?_
      refine k_virtIp hO cl_X0 mm_X0_stands lkV_X0_98 ⟨⟨Nat.le_of_ble_eq_true rfl, Nat.le_of_ble_eq_true rfl⟩, Nat.le_of_ble_eq_true rfl, Nat.le_of_ble_eq_true rfl⟩ (kn' := (0, 0)) rfl (As := [vI x1, vI x3, vI (x2 - x4)]) rfl (Nat.le_of_ble_eq_true rfl) (fun o' _ => t_X0_stands Γ.2.1 E o' x1 x3 (x2 - x4) S) d_X0_highestStand_26 rfl (fun v1 => ?_)
      refine g_if_eq (tgt := 35) hO d_X0_highestStand_29.1 d_X0_highestStand_29.2 (fun _ => ?_) (fun _ => ?_)
      · skip
        refine g_iinc (lv' := [(4, vI (x4 + (-1))), (0, vA (some o)), (1, vI x1), (2, vI x2), (3, vI x3)]) hO (-1) d_X0_highestStand_35 (by decide) 4 rfl (by decide) rfl ?_
        refine g_goto (tgt := 14) hO d_X0_highestStand_38.1 d_X0_highestStand_38.2 ?_
        exact g_sub [1, 2, 3, 4, 0] rfl (ih _ _ _ _)
      · skip
        refine g_iload hO d_X0_highestStand_32 4 rfl ?_
        exact g_ret hO rfl rfl ⟨Nat.le_of_ble_eq_true rfl, Nat.le_of_ble_eq_true rfl⟩ rfl rfl d_X0_highestStand_34.1
set_option maxRecDepth 20000 in
theorem w_X0_highestStand {Γ : GC} {E : GE} (hO : gOk Γ E cX0_highestStand RX0 5 rm_X0_highestStand (some .int) "highestStand") (o : Nat) (x1 : Int32) (x2 : Int32) (S : GS) : Go Γ E (gBpI Γ E S) 5 (0, 0) 0 S [(0, vA (some o)), (1, vI x1), (2, vI x2)] [] (f_X0_highestStand o x1 x2 S) := by
  unfold f_X0_highestStand
  refine g_aload_n hO d_X0_highestStand_0 (by rfl) 0 rfl ?_
  refine h_getR hO cl_X0 1 rfl wf_X0_20 d_X0_highestStand_1 (fun v1 => ?_)
  refine g_iload_n hO d_X0_highestStand_4 (by rfl) 1 rfl ?_
  refine g_iconst hO 1 d_X0_highestStand_5 (by decide) ?_
  refine k_virtIp hO cl_X7 mm_X7_cell lkV_X0_67 ⟨⟨Nat.le_of_ble_eq_true rfl, Nat.le_of_ble_eq_true rfl⟩, Nat.le_of_ble_eq_true rfl, Nat.le_of_ble_eq_true rfl⟩ (kn' := (0, 0)) rfl (As := [vI x1, vI 1]) rfl (Nat.le_of_ble_eq_true rfl) (fun o' _ => t_X7_cell Γ.2.1 E o' x1 1 S) d_X0_highestStand_6 rfl (fun v2 => ?_)
  refine g_istore_n (lv' := [(3, vI v2), (0, vA (some o)), (1, vI x1), (2, vI x2)]) hO d_X0_highestStand_9 (by rfl) (by decide) rfl ?_
  refine g_bipush hO 40 d_X0_highestStand_10 (by decide) ?_
  refine g_istore (lv' := [(4, vI 40), (3, vI v2), (0, vA (some o)), (1, vI x1), (2, vI x2)]) hO d_X0_highestStand_12 (by decide) rfl ?_
  exact g_sub [2, 3, 4, 1, 0] rfl (w_X0_highestStand_14 hO o _ _ _ _ _ _)
theorem t_X0_highestStand (l : Launch) (E : GE) (o : Nat) (x1 : Int32) (x2 : Int32) (S : GS) : ∀ a, f_X0_highestStand o x1 x2 S = some a → Ct l E yX0_highestStand cX0_highestStand 5 (some .int) rm_X0_highestStand [vA (some o), vI x1, vI x2] S (some (vI a)) S :=
  Ct_of (val := fun b => some (vI b)) (nxt := fun _ => S) (by decide) (Nat.le_of_ble_eq_true rfl) (fun Γ hl hO => w_X0_highestStand hO o x1 x2 S)
theorem d_X0_roomsToStand_0 : gD cX0_roomsToStand 0 (.aload_n 0) 1 1 := ⟨by decide +kernel, rfl⟩
theorem d_X0_roomsToStand_1 : gD cX0_roomsToStand 1 (.getfield 20) 3 4 := ⟨by decide +kernel, rfl⟩
theorem d_X0_roomsToStand_4 : gD cX0_roomsToStand 4 (.iload_n 1) 1 5 := ⟨by decide +kernel, rfl⟩
theorem d_X0_roomsToStand_5 : gD cX0_roomsToStand 5 (.iconst 1) 1 6 := ⟨by decide +kernel, rfl⟩
theorem d_X0_roomsToStand_6 : gD cX0_roomsToStand 6 (.invokevirtual 67) 3 9 := ⟨by decide +kernel, rfl⟩
theorem d_X0_roomsToStand_9 : gD cX0_roomsToStand 9 (.istore_n 3) 1 10 := ⟨by decide +kernel, rfl⟩
theorem d_X0_roomsToStand_10 : gD cX0_roomsToStand 10 (.iconst 0) 1 11 := ⟨by decide +kernel, rfl⟩
theorem d_X0_roomsToStand_11 : gD cX0_roomsToStand 11 (.istore 4) 2 13 := ⟨by decide +kernel, rfl⟩
theorem d_X0_roomsToStand_13 : gD cX0_roomsToStand 13 (.iconst 0) 1 14 := ⟨by decide +kernel, rfl⟩
theorem d_X0_roomsToStand_14 : gD cX0_roomsToStand 14 (.istore 5) 2 16 := ⟨by decide +kernel, rfl⟩
theorem d_X0_roomsToStand_16 : gD cX0_roomsToStand 16 (.iload 5) 2 18 := ⟨by decide +kernel, rfl⟩
theorem d_X0_roomsToStand_18 : gD cX0_roomsToStand 18 (.aload_n 0) 1 19 := ⟨by decide +kernel, rfl⟩
theorem d_X0_roomsToStand_19 : gD cX0_roomsToStand 19 (.getfield 14) 3 22 := ⟨by decide +kernel, rfl⟩
theorem d_X0_roomsToStand_22 : gD cX0_roomsToStand 22 (.getfield 74) 3 25 := ⟨by decide +kernel, rfl⟩
theorem d_X0_roomsToStand_25 : gD cX0_roomsToStand 25 (.if_icmp .ge 39) 3 28 ∧ ((25 : Nat) : Int) + 39 = ((64 : Nat) : Int) := ⟨⟨by decide +kernel, rfl⟩, by decide⟩
theorem d_X0_roomsToStand_28 : gD cX0_roomsToStand 28 (.aload_n 0) 1 29 := ⟨by decide +kernel, rfl⟩
theorem d_X0_roomsToStand_29 : gD cX0_roomsToStand 29 (.iload_n 1) 1 30 := ⟨by decide +kernel, rfl⟩
theorem d_X0_roomsToStand_30 : gD cX0_roomsToStand 30 (.iload_n 3) 1 31 := ⟨by decide +kernel, rfl⟩
theorem d_X0_roomsToStand_31 : gD cX0_roomsToStand 31 (.iload_n 2) 1 32 := ⟨by decide +kernel, rfl⟩
theorem d_X0_roomsToStand_32 : gD cX0_roomsToStand 32 (.aload_n 0) 1 33 := ⟨by decide +kernel, rfl⟩
theorem d_X0_roomsToStand_33 : gD cX0_roomsToStand 33 (.getfield 14) 3 36 := ⟨by decide +kernel, rfl⟩
theorem d_X0_roomsToStand_36 : gD cX0_roomsToStand 36 (.iload 5) 2 38 := ⟨by decide +kernel, rfl⟩
theorem d_X0_roomsToStand_38 : gD cX0_roomsToStand 38 (.iconst 1) 1 39 := ⟨by decide +kernel, rfl⟩
theorem d_X0_roomsToStand_39 : gD cX0_roomsToStand 39 (.invokevirtual 67) 3 42 := ⟨by decide +kernel, rfl⟩
theorem d_X0_roomsToStand_42 : gD cX0_roomsToStand 42 (.isub) 1 43 := ⟨by decide +kernel, rfl⟩
theorem d_X0_roomsToStand_43 : gD cX0_roomsToStand 43 (.invokevirtual 98) 3 46 := ⟨by decide +kernel, rfl⟩
theorem d_X0_roomsToStand_46 : gD cX0_roomsToStand 46 (.ifCond .eq 12) 3 49 ∧ ((46 : Nat) : Int) + 12 = ((58 : Nat) : Int) := ⟨⟨by decide +kernel, rfl⟩, by decide⟩
theorem d_X0_roomsToStand_49 : gD cX0_roomsToStand 49 (.iload 4) 2 51 := ⟨by decide +kernel, rfl⟩
theorem d_X0_roomsToStand_51 : gD cX0_roomsToStand 51 (.iconst 1) 1 52 := ⟨by decide +kernel, rfl⟩
theorem d_X0_roomsToStand_52 : gD cX0_roomsToStand 52 (.iload 5) 2 54 := ⟨by decide +kernel, rfl⟩
theorem d_X0_roomsToStand_54 : gD cX0_roomsToStand 54 (.ishl) 1 55 := ⟨by decide +kernel, rfl⟩
theorem d_X0_roomsToStand_55 : gD cX0_roomsToStand 55 (.ior) 1 56 := ⟨by decide +kernel, rfl⟩
theorem d_X0_roomsToStand_56 : gD cX0_roomsToStand 56 (.istore 4) 2 58 := ⟨by decide +kernel, rfl⟩
theorem d_X0_roomsToStand_58 : gD cX0_roomsToStand 58 (.iinc 5 1) 3 61 := ⟨by decide +kernel, rfl⟩
theorem d_X0_roomsToStand_61 : decode cX0_roomsToStand 61 = .ok (.goto (-45), 3) ∧ ((61 : Nat) : Int) + (-45) = ((16 : Nat) : Int) := ⟨by decide +kernel, by decide⟩
theorem d_X0_roomsToStand_64 : gD cX0_roomsToStand 64 (.iload 4) 2 66 := ⟨by decide +kernel, rfl⟩
theorem d_X0_roomsToStand_66 : gD cX0_roomsToStand 66 (.ireturn) 1 67 := ⟨by decide +kernel, rfl⟩
abbrev rm_X0_roomsToStand : Room := { frames := 3, cells := 0, slots := 0, locals := 68 }
set_option maxRecDepth 20000 in
theorem w_X0_roomsToStand_58 {Γ : GC} {E : GE} (hO : gOk Γ E cX0_roomsToStand RX0 6 rm_X0_roomsToStand (some .int) "roomsToStand") (o : Nat) (S : GS) {k16 : (Int32 → Int32 → Int32 → Int32 → Int32 → Option Int32)} (hk16 : ∀ (z1 : Int32) (z2 : Int32) (z3 : Int32) (z4 : Int32) (z5 : Int32), Go Γ E (gBpI Γ E S) 6 (0, 0) 16 S [(0, vA (some o)), (1, vI z1), (2, vI z2), (3, vI z3), (4, vI z4), (5, vI z5)] [] (k16 z1 z2 z3 z4 z5)) (x1 : Int32) (x2 : Int32) (x3 : Int32) (x4 : Int32) (x5 : Int32) : Go Γ E (gBpI Γ E S) 6 (0, 0) 58 S [(0, vA (some o)), (1, vI x1), (2, vI x2), (3, vI x3), (4, vI x4), (5, vI x5)] [] (f_X0_roomsToStand_58 k16 o S x1 x2 x3 x4 x5) := by
  unfold f_X0_roomsToStand_58
  refine g_iinc (lv' := [(5, vI (x5 + 1)), (0, vA (some o)), (1, vI x1), (2, vI x2), (3, vI x3), (4, vI x4)]) hO 1 d_X0_roomsToStand_58 (by decide) 5 rfl (by decide) rfl ?_
  refine g_goto (tgt := 16) hO d_X0_roomsToStand_61.1 d_X0_roomsToStand_61.2 ?_
  exact g_sub [1, 2, 3, 4, 5, 0] rfl (hk16 _ _ _ _ _)
set_option maxRecDepth 20000 in
theorem w_X0_roomsToStand_16 {Γ : GC} {E : GE} (hO : gOk Γ E cX0_roomsToStand RX0 6 rm_X0_roomsToStand (some .int) "roomsToStand") (o : Nat) (S : GS) : ∀ (n : Nat) (x1 : Int32) (x2 : Int32) (x3 : Int32) (x4 : Int32) (x5 : Int32), Go Γ E (gBpI Γ E S) 6 (0, 0) 16 S [(0, vA (some o)), (1, vI x1), (2, vI x2), (3, vI x3), (4, vI x4), (5, vI x5)] [] (f_X0_roomsToStand_16 o S n x1 x2 x3 x4 x5) := by
  intro n
  induction n with
  | zero =>
    intro x1 x2 x3 x4 x5
    exact g_none
  | succ n ih =>
    intro x1 x2 x3 x4 x5
    rw [f_X0_roomsToStand_16]
    refine g_iload hO d_X0_roomsToStand_16 5 rfl ?_
    refine g_aload_n hO d_X0_roomsToStand_18 (by rfl) 0 rfl ?_
    refine h_getR hO cl_X0 0 rfl wf_X0_14 d_X0_roomsToStand_19 (fun v1 => ?_)
    refine h_getI hO cl_X7 3 rfl wf_X0_74 d_X0_roomsToStand_22 (fun v2 => ?_)
    refine g_ic_ge (tgt := 64) hO d_X0_roomsToStand_25.1 d_X0_roomsToStand_25.2 (fun _ => ?_) (fun _ => ?_)
    · skip
      refine g_iload hO d_X0_roomsToStand_64 4 rfl ?_
      exact g_ret hO rfl rfl ⟨Nat.le_of_ble_eq_true rfl, Nat.le_of_ble_eq_true rfl⟩ rfl rfl d_X0_roomsToStand_66.1
    · skip
      refine g_aload_n hO d_X0_roomsToStand_28 (by rfl) 0 rfl ?_
      refine g_iload_n hO d_X0_roomsToStand_29 (by rfl) 1 rfl ?_
      refine g_iload_n hO d_X0_roomsToStand_30 (by rfl) 3 rfl ?_
      refine g_iload_n hO d_X0_roomsToStand_31 (by rfl) 2 rfl ?_
      refine g_aload_n hO d_X0_roomsToStand_32 (by rfl) 0 rfl ?_
      refine h_getR hO cl_X0 0 rfl wf_X0_14 d_X0_roomsToStand_33 (fun v3 => ?_)
      refine g_iload hO d_X0_roomsToStand_36 5 rfl ?_
      refine g_iconst hO 1 d_X0_roomsToStand_38 (by decide) ?_
      refine k_virtIp hO cl_X7 mm_X7_cell lkV_X0_67 ⟨⟨Nat.le_of_ble_eq_true rfl, Nat.le_of_ble_eq_true rfl⟩, Nat.le_of_ble_eq_true rfl, Nat.le_of_ble_eq_true rfl⟩ (kn' := (0, 0)) rfl (As := [vI x5, vI 1]) rfl (Nat.le_of_ble_eq_true rfl) (fun o' _ => t_X7_cell Γ.2.1 E o' x5 1 S) d_X0_roomsToStand_39 rfl (fun v4 => ?_)
      refine g_isub hO d_X0_roomsToStand_42 ?_
      refine k_virtIp hO cl_X0 mm_X0_stands lkV_X0_98 ⟨⟨Nat.le_of_ble_eq_true rfl, Nat.le_of_ble_eq_true rfl⟩, Nat.le_of_ble_eq_true rfl, Nat.le_of_ble_eq_true rfl⟩ (kn' := (0, 0)) rfl (As := [vI x1, vI x3, vI (x2 - v4)]) rfl (Nat.le_of_ble_eq_true rfl) (fun o' _ => t_X0_stands Γ.2.1 E o' x1 x3 (x2 - v4) S) d_X0_roomsToStand_43 rfl (fun v6 => ?_)
      refine g_if_eq (tgt := 58) hO d_X0_roomsToStand_46.1 d_X0_roomsToStand_46.2 (fun _ => ?_) (fun _ => ?_)
      · skip
        exact g_sub [0, 1, 2, 3, 4, 5] rfl (w_X0_roomsToStand_58 hO o _ ih _ _ _ _ _)
      · skip
        refine g_iload hO d_X0_roomsToStand_49 4 rfl ?_
        refine g_iconst hO 1 d_X0_roomsToStand_51 (by decide) ?_
        refine g_iload hO d_X0_roomsToStand_52 5 rfl ?_
        refine g_ishl hO d_X0_roomsToStand_54 ?_
        refine g_ior hO d_X0_roomsToStand_55 ?_
        refine g_istore (lv' := [(4, vI (x4 ||| (jshl 1 x5))), (0, vA (some o)), (1, vI x1), (2, vI x2), (3, vI x3), (5, vI x5)]) hO d_X0_roomsToStand_56 (by decide) rfl ?_
        exact g_sub [1, 2, 3, 4, 0, 5] rfl (w_X0_roomsToStand_58 hO o _ ih _ _ _ _ _)
set_option maxRecDepth 20000 in
theorem w_X0_roomsToStand {Γ : GC} {E : GE} (hO : gOk Γ E cX0_roomsToStand RX0 6 rm_X0_roomsToStand (some .int) "roomsToStand") (o : Nat) (x1 : Int32) (x2 : Int32) (S : GS) : Go Γ E (gBpI Γ E S) 6 (0, 0) 0 S [(0, vA (some o)), (1, vI x1), (2, vI x2)] [] (f_X0_roomsToStand o x1 x2 S) := by
  unfold f_X0_roomsToStand
  refine g_aload_n hO d_X0_roomsToStand_0 (by rfl) 0 rfl ?_
  refine h_getR hO cl_X0 1 rfl wf_X0_20 d_X0_roomsToStand_1 (fun v1 => ?_)
  refine g_iload_n hO d_X0_roomsToStand_4 (by rfl) 1 rfl ?_
  refine g_iconst hO 1 d_X0_roomsToStand_5 (by decide) ?_
  refine k_virtIp hO cl_X7 mm_X7_cell lkV_X0_67 ⟨⟨Nat.le_of_ble_eq_true rfl, Nat.le_of_ble_eq_true rfl⟩, Nat.le_of_ble_eq_true rfl, Nat.le_of_ble_eq_true rfl⟩ (kn' := (0, 0)) rfl (As := [vI x1, vI 1]) rfl (Nat.le_of_ble_eq_true rfl) (fun o' _ => t_X7_cell Γ.2.1 E o' x1 1 S) d_X0_roomsToStand_6 rfl (fun v2 => ?_)
  refine g_istore_n (lv' := [(3, vI v2), (0, vA (some o)), (1, vI x1), (2, vI x2)]) hO d_X0_roomsToStand_9 (by rfl) (by decide) rfl ?_
  refine g_iconst hO 0 d_X0_roomsToStand_10 (by decide) ?_
  refine g_istore (lv' := [(4, vI 0), (3, vI v2), (0, vA (some o)), (1, vI x1), (2, vI x2)]) hO d_X0_roomsToStand_11 (by decide) rfl ?_
  refine g_iconst hO 0 d_X0_roomsToStand_13 (by decide) ?_
  refine g_istore (lv' := [(5, vI 0), (4, vI 0), (3, vI v2), (0, vA (some o)), (1, vI x1), (2, vI x2)]) hO d_X0_roomsToStand_14 (by decide) rfl ?_
  exact g_sub [3, 4, 5, 2, 1, 0] rfl (w_X0_roomsToStand_16 hO o _ _ _ _ _ _ _)
theorem t_X0_roomsToStand (l : Launch) (E : GE) (o : Nat) (x1 : Int32) (x2 : Int32) (S : GS) : ∀ a, f_X0_roomsToStand o x1 x2 S = some a → Ct l E yX0_roomsToStand cX0_roomsToStand 6 (some .int) rm_X0_roomsToStand [vA (some o), vI x1, vI x2] S (some (vI a)) S :=
  Ct_of (val := fun b => some (vI b)) (nxt := fun _ => S) (by decide) (Nat.le_of_ble_eq_true rfl) (fun Γ hl hO => w_X0_roomsToStand hO o x1 x2 S)
theorem d_X0_freeLaces_0 : gD cX0_freeLaces 0 (.iconst 0) 1 1 := ⟨by decide +kernel, rfl⟩
theorem d_X0_freeLaces_1 : gD cX0_freeLaces 1 (.istore_n 3) 1 2 := ⟨by decide +kernel, rfl⟩
theorem d_X0_freeLaces_2 : gD cX0_freeLaces 2 (.iconst 0) 1 3 := ⟨by decide +kernel, rfl⟩
theorem d_X0_freeLaces_3 : gD cX0_freeLaces 3 (.istore 4) 2 5 := ⟨by decide +kernel, rfl⟩
theorem d_X0_freeLaces_5 : gD cX0_freeLaces 5 (.iload 4) 2 7 := ⟨by decide +kernel, rfl⟩
theorem d_X0_freeLaces_7 : gD cX0_freeLaces 7 (.bipush 30) 2 9 := ⟨by decide +kernel, rfl⟩
theorem d_X0_freeLaces_9 : gD cX0_freeLaces 9 (.if_icmp .gt 23) 3 12 ∧ ((9 : Nat) : Int) + 23 = ((32 : Nat) : Int) := ⟨⟨by decide +kernel, rfl⟩, by decide⟩
theorem d_X0_freeLaces_12 : gD cX0_freeLaces 12 (.aload_n 0) 1 13 := ⟨by decide +kernel, rfl⟩
theorem d_X0_freeLaces_13 : gD cX0_freeLaces 13 (.iload_n 1) 1 14 := ⟨by decide +kernel, rfl⟩
theorem d_X0_freeLaces_14 : gD cX0_freeLaces 14 (.iload 4) 2 16 := ⟨by decide +kernel, rfl⟩
theorem d_X0_freeLaces_16 : gD cX0_freeLaces 16 (.iload_n 2) 1 17 := ⟨by decide +kernel, rfl⟩
theorem d_X0_freeLaces_17 : gD cX0_freeLaces 17 (.invokevirtual 102) 3 20 := ⟨by decide +kernel, rfl⟩
theorem d_X0_freeLaces_20 : gD cX0_freeLaces 20 (.ifCond .eq 6) 3 23 ∧ ((20 : Nat) : Int) + 6 = ((26 : Nat) : Int) := ⟨⟨by decide +kernel, rfl⟩, by decide⟩
theorem d_X0_freeLaces_23 : gD cX0_freeLaces 23 (.iinc 3 1) 3 26 := ⟨by decide +kernel, rfl⟩
theorem d_X0_freeLaces_26 : gD cX0_freeLaces 26 (.iinc 4 1) 3 29 := ⟨by decide +kernel, rfl⟩
theorem d_X0_freeLaces_29 : decode cX0_freeLaces 29 = .ok (.goto (-24), 3) ∧ ((29 : Nat) : Int) + (-24) = ((5 : Nat) : Int) := ⟨by decide +kernel, by decide⟩
theorem d_X0_freeLaces_32 : gD cX0_freeLaces 32 (.iload_n 3) 1 33 := ⟨by decide +kernel, rfl⟩
theorem d_X0_freeLaces_33 : gD cX0_freeLaces 33 (.ireturn) 1 34 := ⟨by decide +kernel, rfl⟩
abbrev rm_X0_freeLaces : Room := { frames := 3, cells := 0, slots := 0, locals := 68 }
set_option maxRecDepth 20000 in
theorem w_X0_freeLaces_26 {Γ : GC} {E : GE} (hO : gOk Γ E cX0_freeLaces RX0 5 rm_X0_freeLaces (some .int) "freeLaces") (o : Nat) (S : GS) {k5 : (Int32 → Int32 → Int32 → Int32 → Option Int32)} (hk5 : ∀ (z1 : Int32) (z2 : Int32) (z3 : Int32) (z4 : Int32), Go Γ E (gBpI Γ E S) 5 (0, 0) 5 S [(0, vA (some o)), (1, vI z1), (2, vI z2), (3, vI z3), (4, vI z4)] [] (k5 z1 z2 z3 z4)) (x1 : Int32) (x2 : Int32) (x3 : Int32) (x4 : Int32) : Go Γ E (gBpI Γ E S) 5 (0, 0) 26 S [(0, vA (some o)), (1, vI x1), (2, vI x2), (3, vI x3), (4, vI x4)] [] (f_X0_freeLaces_26 k5 o S x1 x2 x3 x4) := by
  unfold f_X0_freeLaces_26
  refine g_iinc (lv' := [(4, vI (x4 + 1)), (0, vA (some o)), (1, vI x1), (2, vI x2), (3, vI x3)]) hO 1 d_X0_freeLaces_26 (by decide) 4 rfl (by decide) rfl ?_
  refine g_goto (tgt := 5) hO d_X0_freeLaces_29.1 d_X0_freeLaces_29.2 ?_
  exact g_sub [1, 2, 3, 4, 0] rfl (hk5 _ _ _ _)
set_option maxRecDepth 20000 in
theorem w_X0_freeLaces_5 {Γ : GC} {E : GE} (hO : gOk Γ E cX0_freeLaces RX0 5 rm_X0_freeLaces (some .int) "freeLaces") (o : Nat) (S : GS) : ∀ (n : Nat) (x1 : Int32) (x2 : Int32) (x3 : Int32) (x4 : Int32), Go Γ E (gBpI Γ E S) 5 (0, 0) 5 S [(0, vA (some o)), (1, vI x1), (2, vI x2), (3, vI x3), (4, vI x4)] [] (f_X0_freeLaces_5 o S n x1 x2 x3 x4) := by
  intro n
  induction n with
  | zero =>
    intro x1 x2 x3 x4
    exact g_none
  | succ n ih =>
    intro x1 x2 x3 x4
    rw [f_X0_freeLaces_5]
    refine g_iload hO d_X0_freeLaces_5 4 rfl ?_
    refine g_bipush hO 30 d_X0_freeLaces_7 (by decide) ?_
    refine g_ic_gt (tgt := 32) hO d_X0_freeLaces_9.1 d_X0_freeLaces_9.2 (fun _ => ?_) (fun _ => ?_)
    · skip
      refine g_iload_n hO d_X0_freeLaces_32 (by rfl) 3 rfl ?_
      exact g_ret hO rfl rfl ⟨Nat.le_of_ble_eq_true rfl, Nat.le_of_ble_eq_true rfl⟩ rfl rfl d_X0_freeLaces_33.1
    · skip
      refine g_aload_n hO d_X0_freeLaces_12 (by rfl) 0 rfl ?_
      refine g_iload_n hO d_X0_freeLaces_13 (by rfl) 1 rfl ?_
      refine g_iload hO d_X0_freeLaces_14 4 rfl ?_
      refine g_iload_n hO d_X0_freeLaces_16 (by rfl) 2 rfl ?_
      refine k_virtIp hO cl_X0 mm_X0_standsAt lkV_X0_102 ⟨⟨Nat.le_of_ble_eq_true rfl, Nat.le_of_ble_eq_true rfl⟩, Nat.le_of_ble_eq_true rfl, Nat.le_of_ble_eq_true rfl⟩ (kn' := (0, 0)) rfl (As := [vI x1, vI x4, vI x2]) rfl (Nat.le_of_ble_eq_true rfl) (fun o' _ => t_X0_standsAt Γ.2.1 E o' x1 x4 x2 S) d_X0_freeLaces_17 rfl (fun v1 => ?_)
      refine g_if_eq (tgt := 26) hO d_X0_freeLaces_20.1 d_X0_freeLaces_20.2 (fun _ => ?_) (fun _ => ?_)
      · skip
        exact g_sub [0, 1, 2, 3, 4] rfl (w_X0_freeLaces_26 hO o _ ih _ _ _ _)
      · skip
        refine g_iinc (lv' := [(3, vI (x3 + 1)), (0, vA (some o)), (1, vI x1), (2, vI x2), (4, vI x4)]) hO 1 d_X0_freeLaces_23 (by decide) 3 rfl (by decide) rfl ?_
        exact g_sub [1, 2, 3, 0, 4] rfl (w_X0_freeLaces_26 hO o _ ih _ _ _ _)
set_option maxRecDepth 20000 in
theorem w_X0_freeLaces {Γ : GC} {E : GE} (hO : gOk Γ E cX0_freeLaces RX0 5 rm_X0_freeLaces (some .int) "freeLaces") (o : Nat) (x1 : Int32) (x2 : Int32) (S : GS) : Go Γ E (gBpI Γ E S) 5 (0, 0) 0 S [(0, vA (some o)), (1, vI x1), (2, vI x2)] [] (f_X0_freeLaces o x1 x2 S) := by
  unfold f_X0_freeLaces
  refine g_iconst hO 0 d_X0_freeLaces_0 (by decide) ?_
  refine g_istore_n (lv' := [(3, vI 0), (0, vA (some o)), (1, vI x1), (2, vI x2)]) hO d_X0_freeLaces_1 (by rfl) (by decide) rfl ?_
  refine g_iconst hO 0 d_X0_freeLaces_2 (by decide) ?_
  refine g_istore (lv' := [(4, vI 0), (3, vI 0), (0, vA (some o)), (1, vI x1), (2, vI x2)]) hO d_X0_freeLaces_3 (by decide) rfl ?_
  exact g_sub [2, 3, 4, 1, 0] rfl (w_X0_freeLaces_5 hO o _ _ _ _ _ _)
theorem t_X0_freeLaces (l : Launch) (E : GE) (o : Nat) (x1 : Int32) (x2 : Int32) (S : GS) : ∀ a, f_X0_freeLaces o x1 x2 S = some a → Ct l E yX0_freeLaces cX0_freeLaces 5 (some .int) rm_X0_freeLaces [vA (some o), vI x1, vI x2] S (some (vI a)) S :=
  Ct_of (val := fun b => some (vI b)) (nxt := fun _ => S) (by decide) (Nat.le_of_ble_eq_true rfl) (fun Γ hl hO => w_X0_freeLaces hO o x1 x2 S)
theorem d_X0_leastFree_0 : gD cX0_leastFree 0 (.iconst 0) 1 1 := ⟨by decide +kernel, rfl⟩
theorem d_X0_leastFree_1 : gD cX0_leastFree 1 (.istore_n 3) 1 2 := ⟨by decide +kernel, rfl⟩
theorem d_X0_leastFree_2 : gD cX0_leastFree 2 (.iload_n 3) 1 3 := ⟨by decide +kernel, rfl⟩
theorem d_X0_leastFree_3 : gD cX0_leastFree 3 (.bipush 30) 2 5 := ⟨by decide +kernel, rfl⟩
theorem d_X0_leastFree_5 : gD cX0_leastFree 5 (.if_icmp .gt 21) 3 8 ∧ ((5 : Nat) : Int) + 21 = ((26 : Nat) : Int) := ⟨⟨by decide +kernel, rfl⟩, by decide⟩
theorem d_X0_leastFree_8 : gD cX0_leastFree 8 (.aload_n 0) 1 9 := ⟨by decide +kernel, rfl⟩
theorem d_X0_leastFree_9 : gD cX0_leastFree 9 (.iload_n 1) 1 10 := ⟨by decide +kernel, rfl⟩
theorem d_X0_leastFree_10 : gD cX0_leastFree 10 (.iload_n 3) 1 11 := ⟨by decide +kernel, rfl⟩
theorem d_X0_leastFree_11 : gD cX0_leastFree 11 (.iload_n 2) 1 12 := ⟨by decide +kernel, rfl⟩
theorem d_X0_leastFree_12 : gD cX0_leastFree 12 (.invokevirtual 102) 3 15 := ⟨by decide +kernel, rfl⟩
theorem d_X0_leastFree_15 : gD cX0_leastFree 15 (.ifCond .eq 5) 3 18 ∧ ((15 : Nat) : Int) + 5 = ((20 : Nat) : Int) := ⟨⟨by decide +kernel, rfl⟩, by decide⟩
theorem d_X0_leastFree_18 : gD cX0_leastFree 18 (.iload_n 3) 1 19 := ⟨by decide +kernel, rfl⟩
theorem d_X0_leastFree_19 : gD cX0_leastFree 19 (.ireturn) 1 20 := ⟨by decide +kernel, rfl⟩
theorem d_X0_leastFree_20 : gD cX0_leastFree 20 (.iinc 3 1) 3 23 := ⟨by decide +kernel, rfl⟩
theorem d_X0_leastFree_23 : decode cX0_leastFree 23 = .ok (.goto (-21), 3) ∧ ((23 : Nat) : Int) + (-21) = ((2 : Nat) : Int) := ⟨by decide +kernel, by decide⟩
theorem d_X0_leastFree_26 : gD cX0_leastFree 26 (.iconst (-1)) 1 27 := ⟨by decide +kernel, rfl⟩
theorem d_X0_leastFree_27 : gD cX0_leastFree 27 (.ireturn) 1 28 := ⟨by decide +kernel, rfl⟩
abbrev rm_X0_leastFree : Room := { frames := 3, cells := 0, slots := 0, locals := 68 }
set_option maxRecDepth 20000 in
theorem w_X0_leastFree_2 {Γ : GC} {E : GE} (hO : gOk Γ E cX0_leastFree RX0 4 rm_X0_leastFree (some .int) "leastFree") (o : Nat) (S : GS) : ∀ (n : Nat) (x1 : Int32) (x2 : Int32) (x3 : Int32), Go Γ E (gBpI Γ E S) 4 (0, 0) 2 S [(0, vA (some o)), (1, vI x1), (2, vI x2), (3, vI x3)] [] (f_X0_leastFree_2 o S n x1 x2 x3) := by
  intro n
  induction n with
  | zero =>
    intro x1 x2 x3
    exact g_none
  | succ n ih =>
    intro x1 x2 x3
    rw [f_X0_leastFree_2]
    refine g_iload_n hO d_X0_leastFree_2 (by rfl) 3 rfl ?_
    refine g_bipush hO 30 d_X0_leastFree_3 (by decide) ?_
    refine g_ic_gt (tgt := 26) hO d_X0_leastFree_5.1 d_X0_leastFree_5.2 (fun _ => ?_) (fun _ => ?_)
    · skip
      refine g_iconst hO (-1) d_X0_leastFree_26 (by decide) ?_
      exact g_ret hO rfl rfl ⟨Nat.le_of_ble_eq_true rfl, Nat.le_of_ble_eq_true rfl⟩ rfl rfl d_X0_leastFree_27.1
    · skip
      refine g_aload_n hO d_X0_leastFree_8 (by rfl) 0 rfl ?_
      refine g_iload_n hO d_X0_leastFree_9 (by rfl) 1 rfl ?_
      refine g_iload_n hO d_X0_leastFree_10 (by rfl) 3 rfl ?_
      refine g_iload_n hO d_X0_leastFree_11 (by rfl) 2 rfl ?_
      refine k_virtIp hO cl_X0 mm_X0_standsAt lkV_X0_102 ⟨⟨Nat.le_of_ble_eq_true rfl, Nat.le_of_ble_eq_true rfl⟩, Nat.le_of_ble_eq_true rfl, Nat.le_of_ble_eq_true rfl⟩ (kn' := (0, 0)) rfl (As := [vI x1, vI x3, vI x2]) rfl (Nat.le_of_ble_eq_true rfl) (fun o' _ => t_X0_standsAt Γ.2.1 E o' x1 x3 x2 S) d_X0_leastFree_12 rfl (fun v1 => ?_)
      refine g_if_eq (tgt := 20) hO d_X0_leastFree_15.1 d_X0_leastFree_15.2 (fun _ => ?_) (fun _ => ?_)
      · skip
        refine g_iinc (lv' := [(3, vI (x3 + 1)), (0, vA (some o)), (1, vI x1), (2, vI x2)]) hO 1 d_X0_leastFree_20 (by decide) 3 rfl (by decide) rfl ?_
        refine g_goto (tgt := 2) hO d_X0_leastFree_23.1 d_X0_leastFree_23.2 ?_
        exact g_sub [1, 2, 3, 0] rfl (ih _ _ _)
      · skip
        refine g_iload_n hO d_X0_leastFree_18 (by rfl) 3 rfl ?_
        exact g_ret hO rfl rfl ⟨Nat.le_of_ble_eq_true rfl, Nat.le_of_ble_eq_true rfl⟩ rfl rfl d_X0_leastFree_19.1
set_option maxRecDepth 20000 in
theorem w_X0_leastFree {Γ : GC} {E : GE} (hO : gOk Γ E cX0_leastFree RX0 4 rm_X0_leastFree (some .int) "leastFree") (o : Nat) (x1 : Int32) (x2 : Int32) (S : GS) : Go Γ E (gBpI Γ E S) 4 (0, 0) 0 S [(0, vA (some o)), (1, vI x1), (2, vI x2)] [] (f_X0_leastFree o x1 x2 S) := by
  unfold f_X0_leastFree
  refine g_iconst hO 0 d_X0_leastFree_0 (by decide) ?_
  refine g_istore_n (lv' := [(3, vI 0), (0, vA (some o)), (1, vI x1), (2, vI x2)]) hO d_X0_leastFree_1 (by rfl) (by decide) rfl ?_
  exact g_sub [1, 2, 3, 0] rfl (w_X0_leastFree_2 hO o _ _ _ _ _)
theorem t_X0_leastFree (l : Launch) (E : GE) (o : Nat) (x1 : Int32) (x2 : Int32) (S : GS) : ∀ a, f_X0_leastFree o x1 x2 S = some a → Ct l E yX0_leastFree cX0_leastFree 4 (some .int) rm_X0_leastFree [vA (some o), vI x1, vI x2] S (some (vI a)) S :=
  Ct_of (val := fun b => some (vI b)) (nxt := fun _ => S) (by decide) (Nat.le_of_ble_eq_true rfl) (fun Γ hl hO => w_X0_leastFree hO o x1 x2 S)
theorem d_X0_mostFree_0 : gD cX0_mostFree 0 (.bipush 30) 2 2 := ⟨by decide +kernel, rfl⟩
theorem d_X0_mostFree_2 : gD cX0_mostFree 2 (.istore_n 3) 1 3 := ⟨by decide +kernel, rfl⟩
theorem d_X0_mostFree_3 : gD cX0_mostFree 3 (.iload_n 3) 1 4 := ⟨by decide +kernel, rfl⟩
theorem d_X0_mostFree_4 : gD cX0_mostFree 4 (.ifCond .lt 21) 3 7 ∧ ((4 : Nat) : Int) + 21 = ((25 : Nat) : Int) := ⟨⟨by decide +kernel, rfl⟩, by decide⟩
theorem d_X0_mostFree_7 : gD cX0_mostFree 7 (.aload_n 0) 1 8 := ⟨by decide +kernel, rfl⟩
theorem d_X0_mostFree_8 : gD cX0_mostFree 8 (.iload_n 1) 1 9 := ⟨by decide +kernel, rfl⟩
theorem d_X0_mostFree_9 : gD cX0_mostFree 9 (.iload_n 3) 1 10 := ⟨by decide +kernel, rfl⟩
theorem d_X0_mostFree_10 : gD cX0_mostFree 10 (.iload_n 2) 1 11 := ⟨by decide +kernel, rfl⟩
theorem d_X0_mostFree_11 : gD cX0_mostFree 11 (.invokevirtual 102) 3 14 := ⟨by decide +kernel, rfl⟩
theorem d_X0_mostFree_14 : gD cX0_mostFree 14 (.ifCond .eq 5) 3 17 ∧ ((14 : Nat) : Int) + 5 = ((19 : Nat) : Int) := ⟨⟨by decide +kernel, rfl⟩, by decide⟩
theorem d_X0_mostFree_17 : gD cX0_mostFree 17 (.iload_n 3) 1 18 := ⟨by decide +kernel, rfl⟩
theorem d_X0_mostFree_18 : gD cX0_mostFree 18 (.ireturn) 1 19 := ⟨by decide +kernel, rfl⟩
theorem d_X0_mostFree_19 : gD cX0_mostFree 19 (.iinc 3 (-1)) 3 22 := ⟨by decide +kernel, rfl⟩
theorem d_X0_mostFree_22 : decode cX0_mostFree 22 = .ok (.goto (-19), 3) ∧ ((22 : Nat) : Int) + (-19) = ((3 : Nat) : Int) := ⟨by decide +kernel, by decide⟩
theorem d_X0_mostFree_25 : gD cX0_mostFree 25 (.iconst (-1)) 1 26 := ⟨by decide +kernel, rfl⟩
theorem d_X0_mostFree_26 : gD cX0_mostFree 26 (.ireturn) 1 27 := ⟨by decide +kernel, rfl⟩
abbrev rm_X0_mostFree : Room := { frames := 3, cells := 0, slots := 0, locals := 68 }
set_option maxRecDepth 20000 in
theorem w_X0_mostFree_3 {Γ : GC} {E : GE} (hO : gOk Γ E cX0_mostFree RX0 4 rm_X0_mostFree (some .int) "mostFree") (o : Nat) (S : GS) : ∀ (n : Nat) (x1 : Int32) (x2 : Int32) (x3 : Int32), Go Γ E (gBpI Γ E S) 4 (0, 0) 3 S [(0, vA (some o)), (1, vI x1), (2, vI x2), (3, vI x3)] [] (f_X0_mostFree_3 o S n x1 x2 x3) := by
  intro n
  induction n with
  | zero =>
    intro x1 x2 x3
    exact g_none
  | succ n ih =>
    intro x1 x2 x3
    rw [f_X0_mostFree_3]
    refine g_iload_n hO d_X0_mostFree_3 (by rfl) 3 rfl ?_
    refine g_if_lt (tgt := 25) hO d_X0_mostFree_4.1 d_X0_mostFree_4.2 (fun _ => ?_) (fun _ => ?_)
    · skip
      refine g_iconst hO (-1) d_X0_mostFree_25 (by decide) ?_
      exact g_ret hO rfl rfl ⟨Nat.le_of_ble_eq_true rfl, Nat.le_of_ble_eq_true rfl⟩ rfl rfl d_X0_mostFree_26.1
    · skip
      refine g_aload_n hO d_X0_mostFree_7 (by rfl) 0 rfl ?_
      refine g_iload_n hO d_X0_mostFree_8 (by rfl) 1 rfl ?_
      refine g_iload_n hO d_X0_mostFree_9 (by rfl) 3 rfl ?_
      refine g_iload_n hO d_X0_mostFree_10 (by rfl) 2 rfl ?_
      refine k_virtIp hO cl_X0 mm_X0_standsAt lkV_X0_102 ⟨⟨Nat.le_of_ble_eq_true rfl, Nat.le_of_ble_eq_true rfl⟩, Nat.le_of_ble_eq_true rfl, Nat.le_of_ble_eq_true rfl⟩ (kn' := (0, 0)) rfl (As := [vI x1, vI x3, vI x2]) rfl (Nat.le_of_ble_eq_true rfl) (fun o' _ => t_X0_standsAt Γ.2.1 E o' x1 x3 x2 S) d_X0_mostFree_11 rfl (fun v1 => ?_)
      refine g_if_eq (tgt := 19) hO d_X0_mostFree_14.1 d_X0_mostFree_14.2 (fun _ => ?_) (fun _ => ?_)
      · skip
        refine g_iinc (lv' := [(3, vI (x3 + (-1))), (0, vA (some o)), (1, vI x1), (2, vI x2)]) hO (-1) d_X0_mostFree_19 (by decide) 3 rfl (by decide) rfl ?_
        refine g_goto (tgt := 3) hO d_X0_mostFree_22.1 d_X0_mostFree_22.2 ?_
        exact g_sub [1, 2, 3, 0] rfl (ih _ _ _)
      · skip
        refine g_iload_n hO d_X0_mostFree_17 (by rfl) 3 rfl ?_
        exact g_ret hO rfl rfl ⟨Nat.le_of_ble_eq_true rfl, Nat.le_of_ble_eq_true rfl⟩ rfl rfl d_X0_mostFree_18.1
set_option maxRecDepth 20000 in
theorem w_X0_mostFree {Γ : GC} {E : GE} (hO : gOk Γ E cX0_mostFree RX0 4 rm_X0_mostFree (some .int) "mostFree") (o : Nat) (x1 : Int32) (x2 : Int32) (S : GS) : Go Γ E (gBpI Γ E S) 4 (0, 0) 0 S [(0, vA (some o)), (1, vI x1), (2, vI x2)] [] (f_X0_mostFree o x1 x2 S) := by
  unfold f_X0_mostFree
  refine g_bipush hO 30 d_X0_mostFree_0 (by decide) ?_
  refine g_istore_n (lv' := [(3, vI 30), (0, vA (some o)), (1, vI x1), (2, vI x2)]) hO d_X0_mostFree_2 (by rfl) (by decide) rfl ?_
  exact g_sub [1, 2, 3, 0] rfl (w_X0_mostFree_3 hO o _ _ _ _ _)
theorem t_X0_mostFree (l : Launch) (E : GE) (o : Nat) (x1 : Int32) (x2 : Int32) (S : GS) : ∀ a, f_X0_mostFree o x1 x2 S = some a → Ct l E yX0_mostFree cX0_mostFree 4 (some .int) rm_X0_mostFree [vA (some o), vI x1, vI x2] S (some (vI a)) S :=
  Ct_of (val := fun b => some (vI b)) (nxt := fun _ => S) (by decide) (Nat.le_of_ble_eq_true rfl) (fun Γ hl hO => w_X0_mostFree hO o x1 x2 S)
theorem d_X0_calmRow_0 : gD cX0_calmRow 0 (.iconst 0) 1 1 := ⟨by decide +kernel, rfl⟩
theorem d_X0_calmRow_1 : gD cX0_calmRow 1 (.istore_n 3) 1 2 := ⟨by decide +kernel, rfl⟩
theorem d_X0_calmRow_2 : gD cX0_calmRow 2 (.iconst 0) 1 3 := ⟨by decide +kernel, rfl⟩
theorem d_X0_calmRow_3 : gD cX0_calmRow 3 (.istore 4) 2 5 := ⟨by decide +kernel, rfl⟩
theorem d_X0_calmRow_5 : gD cX0_calmRow 5 (.iconst 0) 1 6 := ⟨by decide +kernel, rfl⟩
theorem d_X0_calmRow_6 : gD cX0_calmRow 6 (.istore 5) 2 8 := ⟨by decide +kernel, rfl⟩
theorem d_X0_calmRow_8 : gD cX0_calmRow 8 (.iload 5) 2 10 := ⟨by decide +kernel, rfl⟩
theorem d_X0_calmRow_10 : gD cX0_calmRow 10 (.bipush 40) 2 12 := ⟨by decide +kernel, rfl⟩
theorem d_X0_calmRow_12 : gD cX0_calmRow 12 (.if_icmp .gt 37) 3 15 ∧ ((12 : Nat) : Int) + 37 = ((49 : Nat) : Int) := ⟨⟨by decide +kernel, rfl⟩, by decide⟩
theorem d_X0_calmRow_15 : gD cX0_calmRow 15 (.aload_n 0) 1 16 := ⟨by decide +kernel, rfl⟩
theorem d_X0_calmRow_16 : gD cX0_calmRow 16 (.iload_n 1) 1 17 := ⟨by decide +kernel, rfl⟩
theorem d_X0_calmRow_17 : gD cX0_calmRow 17 (.iload_n 2) 1 18 := ⟨by decide +kernel, rfl⟩
theorem d_X0_calmRow_18 : gD cX0_calmRow 18 (.iload 5) 2 20 := ⟨by decide +kernel, rfl⟩
theorem d_X0_calmRow_20 : gD cX0_calmRow 20 (.invokevirtual 102) 3 23 := ⟨by decide +kernel, rfl⟩
theorem d_X0_calmRow_23 : gD cX0_calmRow 23 (.ifCond .eq 10) 3 26 ∧ ((23 : Nat) : Int) + 10 = ((33 : Nat) : Int) := ⟨⟨by decide +kernel, rfl⟩, by decide⟩
theorem d_X0_calmRow_26 : gD cX0_calmRow 26 (.iload 4) 2 28 := ⟨by decide +kernel, rfl⟩
theorem d_X0_calmRow_28 : gD cX0_calmRow 28 (.iconst 1) 1 29 := ⟨by decide +kernel, rfl⟩
theorem d_X0_calmRow_29 : gD cX0_calmRow 29 (.iadd) 1 30 := ⟨by decide +kernel, rfl⟩
theorem d_X0_calmRow_30 : decode cX0_calmRow 30 = .ok (.goto 4, 3) ∧ ((30 : Nat) : Int) + 4 = ((34 : Nat) : Int) := ⟨by decide +kernel, by decide⟩
theorem d_X0_calmRow_33 : gD cX0_calmRow 33 (.iconst 0) 1 34 := ⟨by decide +kernel, rfl⟩
theorem d_X0_calmRow_34 : gD cX0_calmRow 34 (.istore 4) 2 36 := ⟨by decide +kernel, rfl⟩
theorem d_X0_calmRow_36 : gD cX0_calmRow 36 (.iload_n 3) 1 37 := ⟨by decide +kernel, rfl⟩
theorem d_X0_calmRow_37 : gD cX0_calmRow 37 (.iload 4) 2 39 := ⟨by decide +kernel, rfl⟩
theorem d_X0_calmRow_39 : gD cX0_calmRow 39 (.invokestatic 85) 3 42 := ⟨by decide +kernel, rfl⟩
theorem d_X0_calmRow_42 : gD cX0_calmRow 42 (.istore_n 3) 1 43 := ⟨by decide +kernel, rfl⟩
theorem d_X0_calmRow_43 : gD cX0_calmRow 43 (.iinc 5 1) 3 46 := ⟨by decide +kernel, rfl⟩
theorem d_X0_calmRow_46 : decode cX0_calmRow 46 = .ok (.goto (-38), 3) ∧ ((46 : Nat) : Int) + (-38) = ((8 : Nat) : Int) := ⟨by decide +kernel, by decide⟩
theorem d_X0_calmRow_49 : gD cX0_calmRow 49 (.iload_n 3) 1 50 := ⟨by decide +kernel, rfl⟩
theorem d_X0_calmRow_50 : gD cX0_calmRow 50 (.ireturn) 1 51 := ⟨by decide +kernel, rfl⟩
abbrev rm_X0_calmRow : Room := { frames := 3, cells := 0, slots := 0, locals := 68 }
set_option maxRecDepth 20000 in
theorem w_X0_calmRow_34 {Γ : GC} {E : GE} (hO : gOk Γ E cX0_calmRow RX0 6 rm_X0_calmRow (some .int) "calmRow") (o : Nat) (S : GS) {k8 : (Int32 → Int32 → Int32 → Int32 → Int32 → Option Int32)} (hk8 : ∀ (z1 : Int32) (z2 : Int32) (z3 : Int32) (z4 : Int32) (z5 : Int32), Go Γ E (gBpI Γ E S) 6 (0, 0) 8 S [(0, vA (some o)), (1, vI z1), (2, vI z2), (3, vI z3), (4, vI z4), (5, vI z5)] [] (k8 z1 z2 z3 z4 z5)) (x1 : Int32) (x2 : Int32) (x3 : Int32) (x5 : Int32) (y0 : Int32) : Go Γ E (gBpI Γ E S) 6 (0, 0) 34 S [(0, vA (some o)), (1, vI x1), (2, vI x2), (3, vI x3), (5, vI x5)] [vI y0] (f_X0_calmRow_34 k8 o S x1 x2 x3 x5 y0) := by
  unfold f_X0_calmRow_34
  refine g_istore (lv' := [(4, vI y0), (0, vA (some o)), (1, vI x1), (2, vI x2), (3, vI x3), (5, vI x5)]) hO d_X0_calmRow_34 (by decide) rfl ?_
  refine g_iload_n hO d_X0_calmRow_36 (by rfl) 4 rfl ?_
  refine g_iload hO d_X0_calmRow_37 0 rfl ?_
  refine g_mmax hO wm_X0_85 wt_max wi_Math wc_max ⟨by decide, Nat.le_of_ble_eq_true rfl, Nat.zero_le _, Nat.zero_le _⟩ d_X0_calmRow_39 ?_
  refine g_istore_n (lv' := [(3, vI (jmax x3 y0)), (4, vI y0), (0, vA (some o)), (1, vI x1), (2, vI x2), (5, vI x5)]) hO d_X0_calmRow_42 (by rfl) (by decide) rfl ?_
  refine g_iinc (lv' := [(5, vI (x5 + 1)), (3, vI (jmax x3 y0)), (4, vI y0), (0, vA (some o)), (1, vI x1), (2, vI x2)]) hO 1 d_X0_calmRow_43 (by decide) 5 rfl (by decide) rfl ?_
  refine g_goto (tgt := 8) hO d_X0_calmRow_46.1 d_X0_calmRow_46.2 ?_
  exact g_sub [3, 4, 5, 1, 2, 0] rfl (hk8 _ _ _ _ _)
set_option maxRecDepth 20000 in
theorem w_X0_calmRow_8 {Γ : GC} {E : GE} (hO : gOk Γ E cX0_calmRow RX0 6 rm_X0_calmRow (some .int) "calmRow") (o : Nat) (S : GS) : ∀ (n : Nat) (x1 : Int32) (x2 : Int32) (x3 : Int32) (x4 : Int32) (x5 : Int32), Go Γ E (gBpI Γ E S) 6 (0, 0) 8 S [(0, vA (some o)), (1, vI x1), (2, vI x2), (3, vI x3), (4, vI x4), (5, vI x5)] [] (f_X0_calmRow_8 o S n x1 x2 x3 x4 x5) := by
  intro n
  induction n with
  | zero =>
    intro x1 x2 x3 x4 x5
    exact g_none
  | succ n ih =>
    intro x1 x2 x3 x4 x5
    rw [f_X0_calmRow_8]
    refine g_iload hO d_X0_calmRow_8 5 rfl ?_
    refine g_bipush hO 40 d_X0_calmRow_10 (by decide) ?_
    refine g_ic_gt (tgt := 49) hO d_X0_calmRow_12.1 d_X0_calmRow_12.2 (fun _ => ?_) (fun _ => ?_)
    · skip
      refine g_iload_n hO d_X0_calmRow_49 (by rfl) 3 rfl ?_
      exact g_ret hO rfl rfl ⟨Nat.le_of_ble_eq_true rfl, Nat.le_of_ble_eq_true rfl⟩ rfl rfl d_X0_calmRow_50.1
    · skip
      refine g_aload_n hO d_X0_calmRow_15 (by rfl) 0 rfl ?_
      refine g_iload_n hO d_X0_calmRow_16 (by rfl) 1 rfl ?_
      refine g_iload_n hO d_X0_calmRow_17 (by rfl) 2 rfl ?_
      refine g_iload hO d_X0_calmRow_18 5 rfl ?_
      refine k_virtIp hO cl_X0 mm_X0_standsAt lkV_X0_102 ⟨⟨Nat.le_of_ble_eq_true rfl, Nat.le_of_ble_eq_true rfl⟩, Nat.le_of_ble_eq_true rfl, Nat.le_of_ble_eq_true rfl⟩ (kn' := (0, 0)) rfl (As := [vI x1, vI x2, vI x5]) rfl (Nat.le_of_ble_eq_true rfl) (fun o' _ => t_X0_standsAt Γ.2.1 E o' x1 x2 x5 S) d_X0_calmRow_20 rfl (fun v1 => ?_)
      refine g_if_eq (tgt := 33) hO d_X0_calmRow_23.1 d_X0_calmRow_23.2 (fun _ => ?_) (fun _ => ?_)
      · skip
        refine g_iconst hO 0 d_X0_calmRow_33 (by decide) ?_
        exact g_sub [0, 1, 2, 3, 5] rfl (w_X0_calmRow_34 hO o _ ih _ _ _ _ _)
      · skip
        refine g_iload hO d_X0_calmRow_26 4 rfl ?_
        refine g_iconst hO 1 d_X0_calmRow_28 (by decide) ?_
        refine g_iadd hO d_X0_calmRow_29 ?_
        refine g_goto (tgt := 34) hO d_X0_calmRow_30.1 d_X0_calmRow_30.2 ?_
        exact g_sub [0, 1, 2, 3, 5] rfl (w_X0_calmRow_34 hO o _ ih _ _ _ _ _)
set_option maxRecDepth 20000 in
theorem w_X0_calmRow {Γ : GC} {E : GE} (hO : gOk Γ E cX0_calmRow RX0 6 rm_X0_calmRow (some .int) "calmRow") (o : Nat) (x1 : Int32) (x2 : Int32) (S : GS) : Go Γ E (gBpI Γ E S) 6 (0, 0) 0 S [(0, vA (some o)), (1, vI x1), (2, vI x2)] [] (f_X0_calmRow o x1 x2 S) := by
  unfold f_X0_calmRow
  refine g_iconst hO 0 d_X0_calmRow_0 (by decide) ?_
  refine g_istore_n (lv' := [(3, vI 0), (0, vA (some o)), (1, vI x1), (2, vI x2)]) hO d_X0_calmRow_1 (by rfl) (by decide) rfl ?_
  refine g_iconst hO 0 d_X0_calmRow_2 (by decide) ?_
  refine g_istore (lv' := [(4, vI 0), (3, vI 0), (0, vA (some o)), (1, vI x1), (2, vI x2)]) hO d_X0_calmRow_3 (by decide) rfl ?_
  refine g_iconst hO 0 d_X0_calmRow_5 (by decide) ?_
  refine g_istore (lv' := [(5, vI 0), (4, vI 0), (3, vI 0), (0, vA (some o)), (1, vI x1), (2, vI x2)]) hO d_X0_calmRow_6 (by decide) rfl ?_
  exact g_sub [3, 4, 5, 2, 1, 0] rfl (w_X0_calmRow_8 hO o _ _ _ _ _ _ _)
theorem t_X0_calmRow (l : Launch) (E : GE) (o : Nat) (x1 : Int32) (x2 : Int32) (S : GS) : ∀ a, f_X0_calmRow o x1 x2 S = some a → Ct l E yX0_calmRow cX0_calmRow 6 (some .int) rm_X0_calmRow [vA (some o), vI x1, vI x2] S (some (vI a)) S :=
  Ct_of (val := fun b => some (vI b)) (nxt := fun _ => S) (by decide) (Nat.le_of_ble_eq_true rfl) (fun Γ hl hO => w_X0_calmRow hO o x1 x2 S)
theorem d_X0_calmestLace_0 : gD cX0_calmestLace 0 (.iconst 0) 1 1 := ⟨by decide +kernel, rfl⟩
theorem d_X0_calmestLace_1 : gD cX0_calmestLace 1 (.istore_n 2) 1 2 := ⟨by decide +kernel, rfl⟩
theorem d_X0_calmestLace_2 : gD cX0_calmestLace 2 (.aload_n 0) 1 3 := ⟨by decide +kernel, rfl⟩
theorem d_X0_calmestLace_3 : gD cX0_calmestLace 3 (.iload_n 1) 1 4 := ⟨by decide +kernel, rfl⟩
theorem d_X0_calmestLace_4 : gD cX0_calmestLace 4 (.iconst 0) 1 5 := ⟨by decide +kernel, rfl⟩
theorem d_X0_calmestLace_5 : gD cX0_calmestLace 5 (.invokevirtual 105) 3 8 := ⟨by decide +kernel, rfl⟩
theorem d_X0_calmestLace_8 : gD cX0_calmestLace 8 (.istore_n 3) 1 9 := ⟨by decide +kernel, rfl⟩
theorem d_X0_calmestLace_9 : gD cX0_calmestLace 9 (.iconst 1) 1 10 := ⟨by decide +kernel, rfl⟩
theorem d_X0_calmestLace_10 : gD cX0_calmestLace 10 (.istore 4) 2 12 := ⟨by decide +kernel, rfl⟩
theorem d_X0_calmestLace_12 : gD cX0_calmestLace 12 (.iload 4) 2 14 := ⟨by decide +kernel, rfl⟩
theorem d_X0_calmestLace_14 : gD cX0_calmestLace 14 (.bipush 30) 2 16 := ⟨by decide +kernel, rfl⟩
theorem d_X0_calmestLace_16 : gD cX0_calmestLace 16 (.if_icmp .gt 30) 3 19 ∧ ((16 : Nat) : Int) + 30 = ((46 : Nat) : Int) := ⟨⟨by decide +kernel, rfl⟩, by decide⟩
theorem d_X0_calmestLace_19 : gD cX0_calmestLace 19 (.aload_n 0) 1 20 := ⟨by decide +kernel, rfl⟩
theorem d_X0_calmestLace_20 : gD cX0_calmestLace 20 (.iload_n 1) 1 21 := ⟨by decide +kernel, rfl⟩
theorem d_X0_calmestLace_21 : gD cX0_calmestLace 21 (.iload 4) 2 23 := ⟨by decide +kernel, rfl⟩
theorem d_X0_calmestLace_23 : gD cX0_calmestLace 23 (.invokevirtual 105) 3 26 := ⟨by decide +kernel, rfl⟩
theorem d_X0_calmestLace_26 : gD cX0_calmestLace 26 (.istore 5) 2 28 := ⟨by decide +kernel, rfl⟩
theorem d_X0_calmestLace_28 : gD cX0_calmestLace 28 (.iload 5) 2 30 := ⟨by decide +kernel, rfl⟩
theorem d_X0_calmestLace_30 : gD cX0_calmestLace 30 (.iload_n 3) 1 31 := ⟨by decide +kernel, rfl⟩
theorem d_X0_calmestLace_31 : gD cX0_calmestLace 31 (.if_icmp .le 9) 3 34 ∧ ((31 : Nat) : Int) + 9 = ((40 : Nat) : Int) := ⟨⟨by decide +kernel, rfl⟩, by decide⟩
theorem d_X0_calmestLace_34 : gD cX0_calmestLace 34 (.iload 5) 2 36 := ⟨by decide +kernel, rfl⟩
theorem d_X0_calmestLace_36 : gD cX0_calmestLace 36 (.istore_n 3) 1 37 := ⟨by decide +kernel, rfl⟩
theorem d_X0_calmestLace_37 : gD cX0_calmestLace 37 (.iload 4) 2 39 := ⟨by decide +kernel, rfl⟩
theorem d_X0_calmestLace_39 : gD cX0_calmestLace 39 (.istore_n 2) 1 40 := ⟨by decide +kernel, rfl⟩
theorem d_X0_calmestLace_40 : gD cX0_calmestLace 40 (.iinc 4 1) 3 43 := ⟨by decide +kernel, rfl⟩
theorem d_X0_calmestLace_43 : decode cX0_calmestLace 43 = .ok (.goto (-31), 3) ∧ ((43 : Nat) : Int) + (-31) = ((12 : Nat) : Int) := ⟨by decide +kernel, by decide⟩
theorem d_X0_calmestLace_46 : gD cX0_calmestLace 46 (.iload_n 2) 1 47 := ⟨by decide +kernel, rfl⟩
theorem d_X0_calmestLace_47 : gD cX0_calmestLace 47 (.ireturn) 1 48 := ⟨by decide +kernel, rfl⟩
abbrev rm_X0_calmestLace : Room := { frames := 4, cells := 0, slots := 0, locals := 93 }
set_option maxRecDepth 20000 in
theorem w_X0_calmestLace_40 {Γ : GC} {E : GE} (hO : gOk Γ E cX0_calmestLace RX0 6 rm_X0_calmestLace (some .int) "calmestLace") (o : Nat) (S : GS) {k12 : (Int32 → Int32 → Int32 → Int32 → Option Int32)} (hk12 : ∀ (z1 : Int32) (z2 : Int32) (z3 : Int32) (z4 : Int32), Go Γ E (gBpI Γ E S) 6 (0, 0) 12 S [(0, vA (some o)), (1, vI z1), (2, vI z2), (3, vI z3), (4, vI z4)] [] (k12 z1 z2 z3 z4)) (x1 : Int32) (x2 : Int32) (x3 : Int32) (x4 : Int32) : Go Γ E (gBpI Γ E S) 6 (0, 0) 40 S [(0, vA (some o)), (1, vI x1), (2, vI x2), (3, vI x3), (4, vI x4)] [] (f_X0_calmestLace_40 k12 o S x1 x2 x3 x4) := by
  unfold f_X0_calmestLace_40
  refine g_iinc (lv' := [(4, vI (x4 + 1)), (0, vA (some o)), (1, vI x1), (2, vI x2), (3, vI x3)]) hO 1 d_X0_calmestLace_40 (by decide) 4 rfl (by decide) rfl ?_
  refine g_goto (tgt := 12) hO d_X0_calmestLace_43.1 d_X0_calmestLace_43.2 ?_
  exact g_sub [1, 2, 3, 4, 0] rfl (hk12 _ _ _ _)
set_option maxRecDepth 20000 in
theorem w_X0_calmestLace_12 {Γ : GC} {E : GE} (hO : gOk Γ E cX0_calmestLace RX0 6 rm_X0_calmestLace (some .int) "calmestLace") (o : Nat) (S : GS) : ∀ (n : Nat) (x1 : Int32) (x2 : Int32) (x3 : Int32) (x4 : Int32), Go Γ E (gBpI Γ E S) 6 (0, 0) 12 S [(0, vA (some o)), (1, vI x1), (2, vI x2), (3, vI x3), (4, vI x4)] [] (f_X0_calmestLace_12 o S n x1 x2 x3 x4) := by
  intro n
  induction n with
  | zero =>
    intro x1 x2 x3 x4
    exact g_none
  | succ n ih =>
    intro x1 x2 x3 x4
    rw [f_X0_calmestLace_12]
    refine g_iload hO d_X0_calmestLace_12 4 rfl ?_
    refine g_bipush hO 30 d_X0_calmestLace_14 (by decide) ?_
    refine g_ic_gt (tgt := 46) hO d_X0_calmestLace_16.1 d_X0_calmestLace_16.2 (fun _ => ?_) (fun _ => ?_)
    · skip
      refine g_iload_n hO d_X0_calmestLace_46 (by rfl) 2 rfl ?_
      exact g_ret hO rfl rfl ⟨Nat.le_of_ble_eq_true rfl, Nat.le_of_ble_eq_true rfl⟩ rfl rfl d_X0_calmestLace_47.1
    · skip
      refine g_aload_n hO d_X0_calmestLace_19 (by rfl) 0 rfl ?_
      refine g_iload_n hO d_X0_calmestLace_20 (by rfl) 1 rfl ?_
      refine g_iload hO d_X0_calmestLace_21 4 rfl ?_
      refine k_virtIp hO cl_X0 mm_X0_calmRow lkV_X0_105 ⟨⟨Nat.le_of_ble_eq_true rfl, Nat.le_of_ble_eq_true rfl⟩, Nat.le_of_ble_eq_true rfl, Nat.le_of_ble_eq_true rfl⟩ (kn' := (0, 0)) rfl (As := [vI x1, vI x4]) rfl (Nat.le_of_ble_eq_true rfl) (fun o' _ => t_X0_calmRow Γ.2.1 E o' x1 x4 S) d_X0_calmestLace_23 rfl (fun v1 => ?_)
      refine g_istore (lv' := [(5, vI v1), (0, vA (some o)), (1, vI x1), (2, vI x2), (3, vI x3), (4, vI x4)]) hO d_X0_calmestLace_26 (by decide) rfl ?_
      refine g_iload hO d_X0_calmestLace_28 0 rfl ?_
      refine g_iload_n hO d_X0_calmestLace_30 (by rfl) 4 rfl ?_
      refine g_ic_le (tgt := 40) hO d_X0_calmestLace_31.1 d_X0_calmestLace_31.2 (fun _ => ?_) (fun _ => ?_)
      · skip
        exact g_sub [1, 2, 3, 4, 5] rfl (w_X0_calmestLace_40 hO o _ ih _ _ _ _)
      · skip
        refine g_iload hO d_X0_calmestLace_34 0 rfl ?_
        refine g_istore_n (lv' := [(3, vI v1), (5, vI v1), (0, vA (some o)), (1, vI x1), (2, vI x2), (4, vI x4)]) hO d_X0_calmestLace_36 (by rfl) (by decide) rfl ?_
        refine g_iload hO d_X0_calmestLace_37 5 rfl ?_
        refine g_istore_n (lv' := [(2, vI x4), (3, vI v1), (5, vI v1), (0, vA (some o)), (1, vI x1), (4, vI x4)]) hO d_X0_calmestLace_39 (by rfl) (by decide) rfl ?_
        exact g_sub [3, 4, 0, 1, 5] rfl (w_X0_calmestLace_40 hO o _ ih _ _ _ _)
set_option maxRecDepth 20000 in
theorem w_X0_calmestLace {Γ : GC} {E : GE} (hO : gOk Γ E cX0_calmestLace RX0 6 rm_X0_calmestLace (some .int) "calmestLace") (o : Nat) (x1 : Int32) (S : GS) : Go Γ E (gBpI Γ E S) 6 (0, 0) 0 S [(0, vA (some o)), (1, vI x1)] [] (f_X0_calmestLace o x1 S) := by
  unfold f_X0_calmestLace
  refine g_iconst hO 0 d_X0_calmestLace_0 (by decide) ?_
  refine g_istore_n (lv' := [(2, vI 0), (0, vA (some o)), (1, vI x1)]) hO d_X0_calmestLace_1 (by rfl) (by decide) rfl ?_
  refine g_aload_n hO d_X0_calmestLace_2 (by rfl) 1 rfl ?_
  refine g_iload_n hO d_X0_calmestLace_3 (by rfl) 2 rfl ?_
  refine g_iconst hO 0 d_X0_calmestLace_4 (by decide) ?_
  refine k_virtIp hO cl_X0 mm_X0_calmRow lkV_X0_105 ⟨⟨Nat.le_of_ble_eq_true rfl, Nat.le_of_ble_eq_true rfl⟩, Nat.le_of_ble_eq_true rfl, Nat.le_of_ble_eq_true rfl⟩ (kn' := (0, 0)) rfl (As := [vI x1, vI 0]) rfl (Nat.le_of_ble_eq_true rfl) (fun o' _ => t_X0_calmRow Γ.2.1 E o' x1 0 S) d_X0_calmestLace_5 rfl (fun v1 => ?_)
  refine g_istore_n (lv' := [(3, vI v1), (2, vI 0), (0, vA (some o)), (1, vI x1)]) hO d_X0_calmestLace_8 (by rfl) (by decide) rfl ?_
  refine g_iconst hO 1 d_X0_calmestLace_9 (by decide) ?_
  refine g_istore (lv' := [(4, vI 1), (3, vI v1), (2, vI 0), (0, vA (some o)), (1, vI x1)]) hO d_X0_calmestLace_10 (by decide) rfl ?_
  exact g_sub [3, 4, 2, 1, 0] rfl (w_X0_calmestLace_12 hO o _ _ _ _ _ _)
theorem t_X0_calmestLace (l : Launch) (E : GE) (o : Nat) (x1 : Int32) (S : GS) : ∀ a, f_X0_calmestLace o x1 S = some a → Ct l E yX0_calmestLace cX0_calmestLace 6 (some .int) rm_X0_calmestLace [vA (some o), vI x1] S (some (vI a)) S :=
  Ct_of (val := fun b => some (vI b)) (nxt := fun _ => S) (by decide) (Nat.le_of_ble_eq_true rfl) (fun Γ hl hO => w_X0_calmestLace hO o x1 S)
theorem d_X1_init_0 : gD cX1_init 0 (.aload_n 0) 1 1 := ⟨by decide +kernel, rfl⟩
theorem d_X1_init_1 : gD cX1_init 1 (.invokespecial 3) 3 4 := ⟨by decide +kernel, rfl⟩
theorem d_X1_init_4 : gD cX1_init 4 (.aload_n 0) 1 5 := ⟨by decide +kernel, rfl⟩
theorem d_X1_init_5 : gD cX1_init 5 (.sipush 256) 3 8 := ⟨by decide +kernel, rfl⟩
theorem d_X1_init_8 : gD cX1_init 8 (.newarray .int) 2 10 := ⟨by decide +kernel, rfl⟩
theorem d_X1_init_10 : gD cX1_init 10 (.putfield 11) 3 13 := ⟨by decide +kernel, rfl⟩
theorem d_X1_init_13 : gD cX1_init 13 (.aload_n 0) 1 14 := ⟨by decide +kernel, rfl⟩
theorem d_X1_init_14 : gD cX1_init 14 (.sipush 256) 3 17 := ⟨by decide +kernel, rfl⟩
theorem d_X1_init_17 : gD cX1_init 17 (.newarray .int) 2 19 := ⟨by decide +kernel, rfl⟩
theorem d_X1_init_19 : gD cX1_init 19 (.putfield 15) 3 22 := ⟨by decide +kernel, rfl⟩
theorem d_X1_init_22 : gD cX1_init 22 (.return_) 1 23 := ⟨by decide +kernel, rfl⟩
abbrev rm_X1_init : Room := { frames := 1, cells := 2, slots := 512, locals := 12 }
set_option maxRecDepth 20000 in
theorem w_X1_init {Γ : GC} {E : GE} (hO : gOk Γ E cX1_init RX1 1 rm_X1_init none "<init>") (o : Nat) (S : GS) : Go Γ E (gBsV Γ E) 1 (0, 0) 0 S [(0, vA (some o))] [] (f_X1_init o S) := by
  unfold f_X1_init
  refine g_aload_n hO d_X1_init_0 (by rfl) 0 rfl ?_
  refine g_oinit hO wm_X1_3 wn_obj wc_obj (Nat.le_of_ble_eq_true rfl) (Nat.le_of_ble_eq_true rfl) (fun h => nomatch h) d_X1_init_1 ?_
  refine g_aload_n hO d_X1_init_4 (by rfl) 0 rfl ?_
  refine g_sipush hO 256 d_X1_init_5 (by decide) ?_
  refine h_na hO 14 (by decide) rfl wac_14 (256) (by decide) (kn' := (1, 256)) rfl ⟨by decide, by decide⟩ d_X1_init_8 (fun v1 S2 => ?_)
  refine h_putR hO cl_X1 0 rfl (ty := .array .int) (by decide +kernel) (Or.inr ⟨_, rfl⟩) wf_X1_11 (Or.inr ⟨rfl, rfl, rfl⟩) d_X1_init_10 (fun S3 => ?_)
  refine g_aload_n hO d_X1_init_13 (by rfl) 0 rfl ?_
  refine g_sipush hO 256 d_X1_init_14 (by decide) ?_
  refine h_na hO 14 (by decide) rfl wac_14 (256) (by decide) (kn' := (2, 512)) rfl ⟨by decide, by decide⟩ d_X1_init_17 (fun v4 S5 => ?_)
  refine h_putR hO cl_X1 1 rfl (ty := .array .int) (by decide +kernel) (Or.inr ⟨_, rfl⟩) wf_X1_15 (Or.inr ⟨rfl, rfl, rfl⟩) d_X1_init_19 (fun S6 => ?_)
  exact g_vret hO rfl ⟨Nat.le_of_ble_eq_true rfl, Nat.le_of_ble_eq_true rfl⟩ rfl rfl d_X1_init_22.1
theorem t_X1_init (l : Launch) (E : GE) (o : Nat) (S : GS) : ∀ a, f_X1_init o S = some a → Ct l E yX1_init cX1_init 1 none rm_X1_init [vA (some o)] S none a :=
  Ct_of (val := fun _ => none) (nxt := fun b => b) (by decide) (Nat.le_of_ble_eq_true rfl) (fun Γ hl hO => w_X1_init hO o S)
theorem d_X1_netOf_0 : gD cX1_netOf 0 (.iconst 0) 1 1 := ⟨by decide +kernel, rfl⟩
theorem d_X1_netOf_1 : gD cX1_netOf 1 (.istore_n 2) 1 2 := ⟨by decide +kernel, rfl⟩
theorem d_X1_netOf_2 : gD cX1_netOf 2 (.iconst 0) 1 3 := ⟨by decide +kernel, rfl⟩
theorem d_X1_netOf_3 : gD cX1_netOf 3 (.istore_n 3) 1 4 := ⟨by decide +kernel, rfl⟩
theorem d_X1_netOf_4 : gD cX1_netOf 4 (.iload_n 3) 1 5 := ⟨by decide +kernel, rfl⟩
theorem d_X1_netOf_5 : gD cX1_netOf 5 (.aload_n 0) 1 6 := ⟨by decide +kernel, rfl⟩
theorem d_X1_netOf_6 : gD cX1_netOf 6 (.getfield 18) 3 9 := ⟨by decide +kernel, rfl⟩
theorem d_X1_netOf_9 : gD cX1_netOf 9 (.if_icmp .ge 47) 3 12 ∧ ((9 : Nat) : Int) + 47 = ((56 : Nat) : Int) := ⟨⟨by decide +kernel, rfl⟩, by decide⟩
theorem d_X1_netOf_12 : gD cX1_netOf 12 (.aload_n 0) 1 13 := ⟨by decide +kernel, rfl⟩
theorem d_X1_netOf_13 : gD cX1_netOf 13 (.iload_n 3) 1 14 := ⟨by decide +kernel, rfl⟩
theorem d_X1_netOf_14 : gD cX1_netOf 14 (.iconst 1) 1 15 := ⟨by decide +kernel, rfl⟩
theorem d_X1_netOf_15 : gD cX1_netOf 15 (.invokevirtual 24) 3 18 := ⟨by decide +kernel, rfl⟩
theorem d_X1_netOf_18 : gD cX1_netOf 18 (.iload_n 1) 1 19 := ⟨by decide +kernel, rfl⟩
theorem d_X1_netOf_19 : gD cX1_netOf 19 (.if_icmp .ne 12) 3 22 ∧ ((19 : Nat) : Int) + 12 = ((31 : Nat) : Int) := ⟨⟨by decide +kernel, rfl⟩, by decide⟩
theorem d_X1_netOf_22 : gD cX1_netOf 22 (.iload_n 2) 1 23 := ⟨by decide +kernel, rfl⟩
theorem d_X1_netOf_23 : gD cX1_netOf 23 (.aload_n 0) 1 24 := ⟨by decide +kernel, rfl⟩
theorem d_X1_netOf_24 : gD cX1_netOf 24 (.iload_n 3) 1 25 := ⟨by decide +kernel, rfl⟩
theorem d_X1_netOf_25 : gD cX1_netOf 25 (.iconst 2) 1 26 := ⟨by decide +kernel, rfl⟩
theorem d_X1_netOf_26 : gD cX1_netOf 26 (.invokevirtual 24) 3 29 := ⟨by decide +kernel, rfl⟩
theorem d_X1_netOf_29 : gD cX1_netOf 29 (.iadd) 1 30 := ⟨by decide +kernel, rfl⟩
theorem d_X1_netOf_30 : gD cX1_netOf 30 (.istore_n 2) 1 31 := ⟨by decide +kernel, rfl⟩
theorem d_X1_netOf_31 : gD cX1_netOf 31 (.aload_n 0) 1 32 := ⟨by decide +kernel, rfl⟩
theorem d_X1_netOf_32 : gD cX1_netOf 32 (.iload_n 3) 1 33 := ⟨by decide +kernel, rfl⟩
theorem d_X1_netOf_33 : gD cX1_netOf 33 (.iconst 0) 1 34 := ⟨by decide +kernel, rfl⟩
theorem d_X1_netOf_34 : gD cX1_netOf 34 (.invokevirtual 24) 3 37 := ⟨by decide +kernel, rfl⟩
theorem d_X1_netOf_37 : gD cX1_netOf 37 (.iload_n 1) 1 38 := ⟨by decide +kernel, rfl⟩
theorem d_X1_netOf_38 : gD cX1_netOf 38 (.if_icmp .ne 12) 3 41 ∧ ((38 : Nat) : Int) + 12 = ((50 : Nat) : Int) := ⟨⟨by decide +kernel, rfl⟩, by decide⟩
theorem d_X1_netOf_41 : gD cX1_netOf 41 (.iload_n 2) 1 42 := ⟨by decide +kernel, rfl⟩
theorem d_X1_netOf_42 : gD cX1_netOf 42 (.aload_n 0) 1 43 := ⟨by decide +kernel, rfl⟩
theorem d_X1_netOf_43 : gD cX1_netOf 43 (.iload_n 3) 1 44 := ⟨by decide +kernel, rfl⟩
theorem d_X1_netOf_44 : gD cX1_netOf 44 (.iconst 2) 1 45 := ⟨by decide +kernel, rfl⟩
theorem d_X1_netOf_45 : gD cX1_netOf 45 (.invokevirtual 24) 3 48 := ⟨by decide +kernel, rfl⟩
theorem d_X1_netOf_48 : gD cX1_netOf 48 (.isub) 1 49 := ⟨by decide +kernel, rfl⟩
theorem d_X1_netOf_49 : gD cX1_netOf 49 (.istore_n 2) 1 50 := ⟨by decide +kernel, rfl⟩
theorem d_X1_netOf_50 : gD cX1_netOf 50 (.iinc 3 1) 3 53 := ⟨by decide +kernel, rfl⟩
theorem d_X1_netOf_53 : decode cX1_netOf 53 = .ok (.goto (-49), 3) ∧ ((53 : Nat) : Int) + (-49) = ((4 : Nat) : Int) := ⟨by decide +kernel, by decide⟩
theorem d_X1_netOf_56 : gD cX1_netOf 56 (.iload_n 2) 1 57 := ⟨by decide +kernel, rfl⟩
theorem d_X1_netOf_57 : gD cX1_netOf 57 (.ireturn) 1 58 := ⟨by decide +kernel, rfl⟩
abbrev rm_X1_netOf : Room := { frames := 1, cells := 0, slots := 0, locals := 22 }
set_option maxRecDepth 20000 in
theorem w_X1_netOf_50 {Γ : GC} {E : GE} (hO : gOk Γ E cX1_netOf RX1 4 rm_X1_netOf (some .int) "netOf") (S : GS) {k4 : (Option Nat → Int32 → Int32 → Int32 → Option Int32)} (hk4 : ∀ (z0 : Option Nat) (z1 : Int32) (z2 : Int32) (z3 : Int32), Go Γ E (gBpI Γ E S) 4 (0, 0) 4 S [(0, vA z0), (1, vI z1), (2, vI z2), (3, vI z3)] [] (k4 z0 z1 z2 z3)) (x0 : Option Nat) (x1 : Int32) (x2 : Int32) (x3 : Int32) : Go Γ E (gBpI Γ E S) 4 (0, 0) 50 S [(0, vA x0), (1, vI x1), (2, vI x2), (3, vI x3)] [] (f_X1_netOf_50 k4 S x0 x1 x2 x3) := by
  unfold f_X1_netOf_50
  refine g_iinc (lv' := [(3, vI (x3 + 1)), (0, vA x0), (1, vI x1), (2, vI x2)]) hO 1 d_X1_netOf_50 (by decide) 3 rfl (by decide) rfl ?_
  refine g_goto (tgt := 4) hO d_X1_netOf_53.1 d_X1_netOf_53.2 ?_
  exact g_sub [1, 2, 3, 0] rfl (hk4 _ _ _ _)
set_option maxRecDepth 20000 in
theorem w_X1_netOf_31 {Γ : GC} {E : GE} (hO : gOk Γ E cX1_netOf RX1 4 rm_X1_netOf (some .int) "netOf") (S : GS) {k4 : (Option Nat → Int32 → Int32 → Int32 → Option Int32)} (hk4 : ∀ (z0 : Option Nat) (z1 : Int32) (z2 : Int32) (z3 : Int32), Go Γ E (gBpI Γ E S) 4 (0, 0) 4 S [(0, vA z0), (1, vI z1), (2, vI z2), (3, vI z3)] [] (k4 z0 z1 z2 z3)) (x0 : Option Nat) (x1 : Int32) (x2 : Int32) (x3 : Int32) : Go Γ E (gBpI Γ E S) 4 (0, 0) 31 S [(0, vA x0), (1, vI x1), (2, vI x2), (3, vI x3)] [] (f_X1_netOf_31 k4 S x0 x1 x2 x3) := by
  unfold f_X1_netOf_31
  refine g_aload_n hO d_X1_netOf_31 (by rfl) 0 rfl ?_
  refine g_iload_n hO d_X1_netOf_32 (by rfl) 3 rfl ?_
  refine g_iconst hO 0 d_X1_netOf_33 (by decide) ?_
  refine k_virtIp hO cl_X7 mm_X7_cell lkV_X1_24 ⟨⟨Nat.le_of_ble_eq_true rfl, Nat.le_of_ble_eq_true rfl⟩, Nat.le_of_ble_eq_true rfl, Nat.le_of_ble_eq_true rfl⟩ (kn' := (0, 0)) rfl (As := [vI x3, vI 0]) rfl (Nat.le_of_ble_eq_true rfl) (fun o' _ => t_X7_cell Γ.2.1 E o' x3 0 S) d_X1_netOf_34 rfl (fun v1 => ?_)
  refine g_iload_n hO d_X1_netOf_37 (by rfl) 1 rfl ?_
  refine g_ic_ne (tgt := 50) hO d_X1_netOf_38.1 d_X1_netOf_38.2 (fun _ => ?_) (fun _ => ?_)
  · skip
    refine g_iload_n hO d_X1_netOf_41 (by rfl) 2 rfl ?_
    refine g_aload_n hO d_X1_netOf_42 (by rfl) 0 rfl ?_
    refine g_iload_n hO d_X1_netOf_43 (by rfl) 3 rfl ?_
    refine g_iconst hO 2 d_X1_netOf_44 (by decide) ?_
    refine k_virtIp hO cl_X7 mm_X7_cell lkV_X1_24 ⟨⟨Nat.le_of_ble_eq_true rfl, Nat.le_of_ble_eq_true rfl⟩, Nat.le_of_ble_eq_true rfl, Nat.le_of_ble_eq_true rfl⟩ (kn' := (0, 0)) rfl (As := [vI x3, vI 2]) rfl (Nat.le_of_ble_eq_true rfl) (fun o' _ => t_X7_cell Γ.2.1 E o' x3 2 S) d_X1_netOf_45 rfl (fun v3 => ?_)
    refine g_isub hO d_X1_netOf_48 ?_
    refine g_istore_n (lv' := [(2, vI (x2 - v3)), (0, vA x0), (1, vI x1), (3, vI x3)]) hO d_X1_netOf_49 (by rfl) (by decide) rfl ?_
    exact g_sub [1, 2, 0, 3] rfl (w_X1_netOf_50 hO _ hk4 _ _ _ _)
  · skip
    exact g_sub [0, 1, 2, 3] rfl (w_X1_netOf_50 hO _ hk4 _ _ _ _)
set_option maxRecDepth 20000 in
theorem w_X1_netOf_4 {Γ : GC} {E : GE} (hO : gOk Γ E cX1_netOf RX1 4 rm_X1_netOf (some .int) "netOf") (S : GS) : ∀ (n : Nat) (x0 : Option Nat) (x1 : Int32) (x2 : Int32) (x3 : Int32), Go Γ E (gBpI Γ E S) 4 (0, 0) 4 S [(0, vA x0), (1, vI x1), (2, vI x2), (3, vI x3)] [] (f_X1_netOf_4 S n x0 x1 x2 x3) := by
  intro n
  induction n with
  | zero =>
    intro x0 x1 x2 x3
    exact g_none
  | succ n ih =>
    intro x0 x1 x2 x3
    rw [f_X1_netOf_4]
    refine g_iload_n hO d_X1_netOf_4 (by rfl) 3 rfl ?_
    refine g_aload_n hO d_X1_netOf_5 (by rfl) 0 rfl ?_
    refine h_getI hO cl_X7 3 rfl wf_X1_18 d_X1_netOf_6 (fun v1 => ?_)
    refine g_ic_ge (tgt := 56) hO d_X1_netOf_9.1 d_X1_netOf_9.2 (fun _ => ?_) (fun _ => ?_)
    · skip
      refine g_iload_n hO d_X1_netOf_56 (by rfl) 2 rfl ?_
      exact g_ret hO rfl rfl ⟨Nat.le_of_ble_eq_true rfl, Nat.le_of_ble_eq_true rfl⟩ rfl rfl d_X1_netOf_57.1
    · skip
      refine g_aload_n hO d_X1_netOf_12 (by rfl) 0 rfl ?_
      refine g_iload_n hO d_X1_netOf_13 (by rfl) 3 rfl ?_
      refine g_iconst hO 1 d_X1_netOf_14 (by decide) ?_
      refine k_virtIp hO cl_X7 mm_X7_cell lkV_X1_24 ⟨⟨Nat.le_of_ble_eq_true rfl, Nat.le_of_ble_eq_true rfl⟩, Nat.le_of_ble_eq_true rfl, Nat.le_of_ble_eq_true rfl⟩ (kn' := (0, 0)) rfl (As := [vI x3, vI 1]) rfl (Nat.le_of_ble_eq_true rfl) (fun o' _ => t_X7_cell Γ.2.1 E o' x3 1 S) d_X1_netOf_15 rfl (fun v2 => ?_)
      refine g_iload_n hO d_X1_netOf_18 (by rfl) 1 rfl ?_
      refine g_ic_ne (tgt := 31) hO d_X1_netOf_19.1 d_X1_netOf_19.2 (fun _ => ?_) (fun _ => ?_)
      · skip
        refine g_iload_n hO d_X1_netOf_22 (by rfl) 2 rfl ?_
        refine g_aload_n hO d_X1_netOf_23 (by rfl) 0 rfl ?_
        refine g_iload_n hO d_X1_netOf_24 (by rfl) 3 rfl ?_
        refine g_iconst hO 2 d_X1_netOf_25 (by decide) ?_
        refine k_virtIp hO cl_X7 mm_X7_cell lkV_X1_24 ⟨⟨Nat.le_of_ble_eq_true rfl, Nat.le_of_ble_eq_true rfl⟩, Nat.le_of_ble_eq_true rfl, Nat.le_of_ble_eq_true rfl⟩ (kn' := (0, 0)) rfl (As := [vI x3, vI 2]) rfl (Nat.le_of_ble_eq_true rfl) (fun o' _ => t_X7_cell Γ.2.1 E o' x3 2 S) d_X1_netOf_26 rfl (fun v4 => ?_)
        refine g_iadd hO d_X1_netOf_29 ?_
        refine g_istore_n (lv' := [(2, vI (x2 + v4)), (0, vA x0), (1, vI x1), (3, vI x3)]) hO d_X1_netOf_30 (by rfl) (by decide) rfl ?_
        exact g_sub [1, 2, 0, 3] rfl (w_X1_netOf_31 hO _ ih _ _ _ _)
      · skip
        exact g_sub [0, 1, 2, 3] rfl (w_X1_netOf_31 hO _ ih _ _ _ _)
set_option maxRecDepth 20000 in
theorem w_X1_netOf {Γ : GC} {E : GE} (hO : gOk Γ E cX1_netOf RX1 4 rm_X1_netOf (some .int) "netOf") (x0 : Option Nat) (x1 : Int32) (S : GS) : Go Γ E (gBpI Γ E S) 4 (0, 0) 0 S [(0, vA x0), (1, vI x1)] [] (f_X1_netOf x0 x1 S) := by
  unfold f_X1_netOf
  refine g_iconst hO 0 d_X1_netOf_0 (by decide) ?_
  refine g_istore_n (lv' := [(2, vI 0), (0, vA x0), (1, vI x1)]) hO d_X1_netOf_1 (by rfl) (by decide) rfl ?_
  refine g_iconst hO 0 d_X1_netOf_2 (by decide) ?_
  refine g_istore_n (lv' := [(3, vI 0), (2, vI 0), (0, vA x0), (1, vI x1)]) hO d_X1_netOf_3 (by rfl) (by decide) rfl ?_
  exact g_sub [2, 3, 1, 0] rfl (w_X1_netOf_4 hO _ _ _ _ _ _)
theorem t_X1_netOf (l : Launch) (E : GE) (x0 : Option Nat) (x1 : Int32) (S : GS) : ∀ a, f_X1_netOf x0 x1 S = some a → Ct l E yX1_netOf cX1_netOf 4 (some .int) rm_X1_netOf [vA x0, vI x1] S (some (vI a)) S :=
  Ct_of (val := fun b => some (vI b)) (nxt := fun _ => S) (by decide) (Nat.le_of_ble_eq_true rfl) (fun Γ hl hO => w_X1_netOf hO x0 x1 S)
theorem d_X1_mostGroupsWithoutOne_0 : gD cX1_mostGroupsWithoutOne 0 (.iconst 0) 1 1 := ⟨by decide +kernel, rfl⟩
theorem d_X1_mostGroupsWithoutOne_1 : gD cX1_mostGroupsWithoutOne 1 (.istore_n 2) 1 2 := ⟨by decide +kernel, rfl⟩
theorem d_X1_mostGroupsWithoutOne_2 : gD cX1_mostGroupsWithoutOne 2 (.iconst 0) 1 3 := ⟨by decide +kernel, rfl⟩
theorem d_X1_mostGroupsWithoutOne_3 : gD cX1_mostGroupsWithoutOne 3 (.istore_n 3) 1 4 := ⟨by decide +kernel, rfl⟩
theorem d_X1_mostGroupsWithoutOne_4 : gD cX1_mostGroupsWithoutOne 4 (.iload_n 3) 1 5 := ⟨by decide +kernel, rfl⟩
theorem d_X1_mostGroupsWithoutOne_5 : gD cX1_mostGroupsWithoutOne 5 (.bipush 8) 2 7 := ⟨by decide +kernel, rfl⟩
theorem d_X1_mostGroupsWithoutOne_7 : gD cX1_mostGroupsWithoutOne 7 (.if_icmp .ge 37) 3 10 ∧ ((7 : Nat) : Int) + 37 = ((44 : Nat) : Int) := ⟨⟨by decide +kernel, rfl⟩, by decide⟩
theorem d_X1_mostGroupsWithoutOne_10 : gD cX1_mostGroupsWithoutOne 10 (.iload_n 1) 1 11 := ⟨by decide +kernel, rfl⟩
theorem d_X1_mostGroupsWithoutOne_11 : gD cX1_mostGroupsWithoutOne 11 (.iload_n 3) 1 12 := ⟨by decide +kernel, rfl⟩
theorem d_X1_mostGroupsWithoutOne_12 : gD cX1_mostGroupsWithoutOne 12 (.ishr) 1 13 := ⟨by decide +kernel, rfl⟩
theorem d_X1_mostGroupsWithoutOne_13 : gD cX1_mostGroupsWithoutOne 13 (.iconst 1) 1 14 := ⟨by decide +kernel, rfl⟩
theorem d_X1_mostGroupsWithoutOne_14 : gD cX1_mostGroupsWithoutOne 14 (.iand) 1 15 := ⟨by decide +kernel, rfl⟩
theorem d_X1_mostGroupsWithoutOne_15 : gD cX1_mostGroupsWithoutOne 15 (.iconst 1) 1 16 := ⟨by decide +kernel, rfl⟩
theorem d_X1_mostGroupsWithoutOne_16 : gD cX1_mostGroupsWithoutOne 16 (.if_icmp .ne 22) 3 19 ∧ ((16 : Nat) : Int) + 22 = ((38 : Nat) : Int) := ⟨⟨by decide +kernel, rfl⟩, by decide⟩
theorem d_X1_mostGroupsWithoutOne_19 : gD cX1_mostGroupsWithoutOne 19 (.iload_n 2) 1 20 := ⟨by decide +kernel, rfl⟩
theorem d_X1_mostGroupsWithoutOne_20 : gD cX1_mostGroupsWithoutOne 20 (.aload_n 0) 1 21 := ⟨by decide +kernel, rfl⟩
theorem d_X1_mostGroupsWithoutOne_21 : gD cX1_mostGroupsWithoutOne 21 (.getfield 15) 3 24 := ⟨by decide +kernel, rfl⟩
theorem d_X1_mostGroupsWithoutOne_24 : gD cX1_mostGroupsWithoutOne 24 (.iload_n 1) 1 25 := ⟨by decide +kernel, rfl⟩
theorem d_X1_mostGroupsWithoutOne_25 : gD cX1_mostGroupsWithoutOne 25 (.iconst 1) 1 26 := ⟨by decide +kernel, rfl⟩
theorem d_X1_mostGroupsWithoutOne_26 : gD cX1_mostGroupsWithoutOne 26 (.iload_n 3) 1 27 := ⟨by decide +kernel, rfl⟩
theorem d_X1_mostGroupsWithoutOne_27 : gD cX1_mostGroupsWithoutOne 27 (.ishl) 1 28 := ⟨by decide +kernel, rfl⟩
theorem d_X1_mostGroupsWithoutOne_28 : gD cX1_mostGroupsWithoutOne 28 (.ixor) 1 29 := ⟨by decide +kernel, rfl⟩
theorem d_X1_mostGroupsWithoutOne_29 : gD cX1_mostGroupsWithoutOne 29 (.sipush 255) 3 32 := ⟨by decide +kernel, rfl⟩
theorem d_X1_mostGroupsWithoutOne_32 : gD cX1_mostGroupsWithoutOne 32 (.iand) 1 33 := ⟨by decide +kernel, rfl⟩
theorem d_X1_mostGroupsWithoutOne_33 : gD cX1_mostGroupsWithoutOne 33 (.iaload) 1 34 := ⟨by decide +kernel, rfl⟩
theorem d_X1_mostGroupsWithoutOne_34 : gD cX1_mostGroupsWithoutOne 34 (.invokestatic 36) 3 37 := ⟨by decide +kernel, rfl⟩
theorem d_X1_mostGroupsWithoutOne_37 : gD cX1_mostGroupsWithoutOne 37 (.istore_n 2) 1 38 := ⟨by decide +kernel, rfl⟩
theorem d_X1_mostGroupsWithoutOne_38 : gD cX1_mostGroupsWithoutOne 38 (.iinc 3 1) 3 41 := ⟨by decide +kernel, rfl⟩
theorem d_X1_mostGroupsWithoutOne_41 : decode cX1_mostGroupsWithoutOne 41 = .ok (.goto (-37), 3) ∧ ((41 : Nat) : Int) + (-37) = ((4 : Nat) : Int) := ⟨by decide +kernel, by decide⟩
theorem d_X1_mostGroupsWithoutOne_44 : gD cX1_mostGroupsWithoutOne 44 (.iload_n 2) 1 45 := ⟨by decide +kernel, rfl⟩
theorem d_X1_mostGroupsWithoutOne_45 : gD cX1_mostGroupsWithoutOne 45 (.ireturn) 1 46 := ⟨by decide +kernel, rfl⟩
abbrev rm_X1_mostGroupsWithoutOne : Room := { frames := 1, cells := 0, slots := 0, locals := 13 }
set_option maxRecDepth 20000 in
theorem w_X1_mostGroupsWithoutOne_38 {Γ : GC} {E : GE} (hO : gOk Γ E cX1_mostGroupsWithoutOne RX1 4 rm_X1_mostGroupsWithoutOne (some .int) "mostGroupsWithoutOne") (o : Nat) (S : GS) {k4 : (Int32 → Int32 → Int32 → Option Int32)} (hk4 : ∀ (z1 : Int32) (z2 : Int32) (z3 : Int32), Go Γ E (gBpI Γ E S) 4 (0, 0) 4 S [(0, vA (some o)), (1, vI z1), (2, vI z2), (3, vI z3)] [] (k4 z1 z2 z3)) (x1 : Int32) (x2 : Int32) (x3 : Int32) : Go Γ E (gBpI Γ E S) 4 (0, 0) 38 S [(0, vA (some o)), (1, vI x1), (2, vI x2), (3, vI x3)] [] (f_X1_mostGroupsWithoutOne_38 k4 o S x1 x2 x3) := by
  unfold f_X1_mostGroupsWithoutOne_38
  refine g_iinc (lv' := [(3, vI (x3 + 1)), (0, vA (some o)), (1, vI x1), (2, vI x2)]) hO 1 d_X1_mostGroupsWithoutOne_38 (by decide) 3 rfl (by decide) rfl ?_
  refine g_goto (tgt := 4) hO d_X1_mostGroupsWithoutOne_41.1 d_X1_mostGroupsWithoutOne_41.2 ?_
  exact g_sub [1, 2, 3, 0] rfl (hk4 _ _ _)
set_option maxRecDepth 20000 in
theorem w_X1_mostGroupsWithoutOne_4 {Γ : GC} {E : GE} (hO : gOk Γ E cX1_mostGroupsWithoutOne RX1 4 rm_X1_mostGroupsWithoutOne (some .int) "mostGroupsWithoutOne") (o : Nat) (S : GS) : ∀ (n : Nat) (x1 : Int32) (x2 : Int32) (x3 : Int32), Go Γ E (gBpI Γ E S) 4 (0, 0) 4 S [(0, vA (some o)), (1, vI x1), (2, vI x2), (3, vI x3)] [] (f_X1_mostGroupsWithoutOne_4 o S n x1 x2 x3) := by
  intro n
  induction n with
  | zero =>
    intro x1 x2 x3
    exact g_none
  | succ n ih =>
    intro x1 x2 x3
    rw [f_X1_mostGroupsWithoutOne_4]
    refine g_iload_n hO d_X1_mostGroupsWithoutOne_4 (by rfl) 3 rfl ?_
    refine g_bipush hO 8 d_X1_mostGroupsWithoutOne_5 (by decide) ?_
    refine g_ic_ge (tgt := 44) hO d_X1_mostGroupsWithoutOne_7.1 d_X1_mostGroupsWithoutOne_7.2 (fun _ => ?_) (fun _ => ?_)
    · skip
      refine g_iload_n hO d_X1_mostGroupsWithoutOne_44 (by rfl) 2 rfl ?_
      exact g_ret hO rfl rfl ⟨Nat.le_of_ble_eq_true rfl, Nat.le_of_ble_eq_true rfl⟩ rfl rfl d_X1_mostGroupsWithoutOne_45.1
    · skip
      refine g_iload_n hO d_X1_mostGroupsWithoutOne_10 (by rfl) 1 rfl ?_
      refine g_iload_n hO d_X1_mostGroupsWithoutOne_11 (by rfl) 3 rfl ?_
      refine g_ishr hO d_X1_mostGroupsWithoutOne_12 ?_
      refine g_iconst hO 1 d_X1_mostGroupsWithoutOne_13 (by decide) ?_
      refine g_iand hO d_X1_mostGroupsWithoutOne_14 ?_
      refine g_iconst hO 1 d_X1_mostGroupsWithoutOne_15 (by decide) ?_
      refine g_ic_ne (tgt := 38) hO d_X1_mostGroupsWithoutOne_16.1 d_X1_mostGroupsWithoutOne_16.2 (fun _ => ?_) (fun _ => ?_)
      · skip
        refine g_iload_n hO d_X1_mostGroupsWithoutOne_19 (by rfl) 2 rfl ?_
        refine g_aload_n hO d_X1_mostGroupsWithoutOne_20 (by rfl) 0 rfl ?_
        refine h_getR hO cl_X1 1 rfl wf_X1_15 d_X1_mostGroupsWithoutOne_21 (fun v1 => ?_)
        refine g_iload_n hO d_X1_mostGroupsWithoutOne_24 (by rfl) 1 rfl ?_
        refine g_iconst hO 1 d_X1_mostGroupsWithoutOne_25 (by decide) ?_
        refine g_iload_n hO d_X1_mostGroupsWithoutOne_26 (by rfl) 3 rfl ?_
        refine g_ishl hO d_X1_mostGroupsWithoutOne_27 ?_
        refine g_ixor hO d_X1_mostGroupsWithoutOne_28 ?_
        refine g_sipush hO 255 d_X1_mostGroupsWithoutOne_29 (by decide) ?_
        refine g_iand hO d_X1_mostGroupsWithoutOne_32 ?_
        refine h_iald hO d_X1_mostGroupsWithoutOne_33 (fun v2 => ?_)
        refine g_mmax hO wm_X1_36 wt_max wi_Math wc_max ⟨by decide, Nat.le_of_ble_eq_true rfl, Nat.zero_le _, Nat.zero_le _⟩ d_X1_mostGroupsWithoutOne_34 ?_
        refine g_istore_n (lv' := [(2, vI (jmax x2 v2)), (0, vA (some o)), (1, vI x1), (3, vI x3)]) hO d_X1_mostGroupsWithoutOne_37 (by rfl) (by decide) rfl ?_
        exact g_sub [1, 2, 0, 3] rfl (w_X1_mostGroupsWithoutOne_38 hO o _ ih _ _ _)
      · skip
        exact g_sub [0, 1, 2, 3] rfl (w_X1_mostGroupsWithoutOne_38 hO o _ ih _ _ _)
set_option maxRecDepth 20000 in
theorem w_X1_mostGroupsWithoutOne {Γ : GC} {E : GE} (hO : gOk Γ E cX1_mostGroupsWithoutOne RX1 4 rm_X1_mostGroupsWithoutOne (some .int) "mostGroupsWithoutOne") (o : Nat) (x1 : Int32) (S : GS) : Go Γ E (gBpI Γ E S) 4 (0, 0) 0 S [(0, vA (some o)), (1, vI x1)] [] (f_X1_mostGroupsWithoutOne o x1 S) := by
  unfold f_X1_mostGroupsWithoutOne
  refine g_iconst hO 0 d_X1_mostGroupsWithoutOne_0 (by decide) ?_
  refine g_istore_n (lv' := [(2, vI 0), (0, vA (some o)), (1, vI x1)]) hO d_X1_mostGroupsWithoutOne_1 (by rfl) (by decide) rfl ?_
  refine g_iconst hO 0 d_X1_mostGroupsWithoutOne_2 (by decide) ?_
  refine g_istore_n (lv' := [(3, vI 0), (2, vI 0), (0, vA (some o)), (1, vI x1)]) hO d_X1_mostGroupsWithoutOne_3 (by rfl) (by decide) rfl ?_
  exact g_sub [2, 3, 1, 0] rfl (w_X1_mostGroupsWithoutOne_4 hO o _ _ _ _ _)
theorem t_X1_mostGroupsWithoutOne (l : Launch) (E : GE) (o : Nat) (x1 : Int32) (S : GS) : ∀ a, f_X1_mostGroupsWithoutOne o x1 S = some a → Ct l E yX1_mostGroupsWithoutOne cX1_mostGroupsWithoutOne 4 (some .int) rm_X1_mostGroupsWithoutOne [vA (some o), vI x1] S (some (vI a)) S :=
  Ct_of (val := fun b => some (vI b)) (nxt := fun _ => S) (by decide) (Nat.le_of_ble_eq_true rfl) (fun Γ hl hO => w_X1_mostGroupsWithoutOne hO o x1 S)
theorem d_X1_fewestPayments_0 : gD cX1_fewestPayments 0 (.iconst 0) 1 1 := ⟨by decide +kernel, rfl⟩
theorem d_X1_fewestPayments_1 : gD cX1_fewestPayments 1 (.istore_n 2) 1 2 := ⟨by decide +kernel, rfl⟩
theorem d_X1_fewestPayments_2 : gD cX1_fewestPayments 2 (.iload_n 2) 1 3 := ⟨by decide +kernel, rfl⟩
theorem d_X1_fewestPayments_3 : gD cX1_fewestPayments 3 (.bipush 8) 2 5 := ⟨by decide +kernel, rfl⟩
theorem d_X1_fewestPayments_5 : gD cX1_fewestPayments 5 (.if_icmp .ge 22) 3 8 ∧ ((5 : Nat) : Int) + 22 = ((27 : Nat) : Int) := ⟨⟨by decide +kernel, rfl⟩, by decide⟩
theorem d_X1_fewestPayments_8 : gD cX1_fewestPayments 8 (.aload_n 0) 1 9 := ⟨by decide +kernel, rfl⟩
theorem d_X1_fewestPayments_9 : gD cX1_fewestPayments 9 (.getfield 11) 3 12 := ⟨by decide +kernel, rfl⟩
theorem d_X1_fewestPayments_12 : gD cX1_fewestPayments 12 (.iconst 1) 1 13 := ⟨by decide +kernel, rfl⟩
theorem d_X1_fewestPayments_13 : gD cX1_fewestPayments 13 (.iload_n 2) 1 14 := ⟨by decide +kernel, rfl⟩
theorem d_X1_fewestPayments_14 : gD cX1_fewestPayments 14 (.ishl) 1 15 := ⟨by decide +kernel, rfl⟩
theorem d_X1_fewestPayments_15 : gD cX1_fewestPayments 15 (.aload_n 1) 1 16 := ⟨by decide +kernel, rfl⟩
theorem d_X1_fewestPayments_16 : gD cX1_fewestPayments 16 (.iload_n 2) 1 17 := ⟨by decide +kernel, rfl⟩
theorem d_X1_fewestPayments_17 : gD cX1_fewestPayments 17 (.invokestatic 28) 3 20 := ⟨by decide +kernel, rfl⟩
theorem d_X1_fewestPayments_20 : gD cX1_fewestPayments 20 (.iastore) 1 21 := ⟨by decide +kernel, rfl⟩
theorem d_X1_fewestPayments_21 : gD cX1_fewestPayments 21 (.iinc 2 1) 3 24 := ⟨by decide +kernel, rfl⟩
theorem d_X1_fewestPayments_24 : decode cX1_fewestPayments 24 = .ok (.goto (-22), 3) ∧ ((24 : Nat) : Int) + (-22) = ((2 : Nat) : Int) := ⟨by decide +kernel, by decide⟩
theorem d_X1_fewestPayments_27 : gD cX1_fewestPayments 27 (.aload_n 0) 1 28 := ⟨by decide +kernel, rfl⟩
theorem d_X1_fewestPayments_28 : gD cX1_fewestPayments 28 (.getfield 15) 3 31 := ⟨by decide +kernel, rfl⟩
theorem d_X1_fewestPayments_31 : gD cX1_fewestPayments 31 (.iconst 0) 1 32 := ⟨by decide +kernel, rfl⟩
theorem d_X1_fewestPayments_32 : gD cX1_fewestPayments 32 (.iconst 0) 1 33 := ⟨by decide +kernel, rfl⟩
theorem d_X1_fewestPayments_33 : gD cX1_fewestPayments 33 (.iastore) 1 34 := ⟨by decide +kernel, rfl⟩
theorem d_X1_fewestPayments_34 : gD cX1_fewestPayments 34 (.iconst 1) 1 35 := ⟨by decide +kernel, rfl⟩
theorem d_X1_fewestPayments_35 : gD cX1_fewestPayments 35 (.istore_n 2) 1 36 := ⟨by decide +kernel, rfl⟩
theorem d_X1_fewestPayments_36 : gD cX1_fewestPayments 36 (.iload_n 2) 1 37 := ⟨by decide +kernel, rfl⟩
theorem d_X1_fewestPayments_37 : gD cX1_fewestPayments 37 (.sipush 255) 3 40 := ⟨by decide +kernel, rfl⟩
theorem d_X1_fewestPayments_40 : gD cX1_fewestPayments 40 (.if_icmp .gt 61) 3 43 ∧ ((40 : Nat) : Int) + 61 = ((101 : Nat) : Int) := ⟨⟨by decide +kernel, rfl⟩, by decide⟩
theorem d_X1_fewestPayments_43 : gD cX1_fewestPayments 43 (.iload_n 2) 1 44 := ⟨by decide +kernel, rfl⟩
theorem d_X1_fewestPayments_44 : gD cX1_fewestPayments 44 (.iload_n 2) 1 45 := ⟨by decide +kernel, rfl⟩
theorem d_X1_fewestPayments_45 : gD cX1_fewestPayments 45 (.ineg) 1 46 := ⟨by decide +kernel, rfl⟩
theorem d_X1_fewestPayments_46 : gD cX1_fewestPayments 46 (.iand) 1 47 := ⟨by decide +kernel, rfl⟩
theorem d_X1_fewestPayments_47 : gD cX1_fewestPayments 47 (.istore_n 3) 1 48 := ⟨by decide +kernel, rfl⟩
theorem d_X1_fewestPayments_48 : gD cX1_fewestPayments 48 (.aload_n 0) 1 49 := ⟨by decide +kernel, rfl⟩
theorem d_X1_fewestPayments_49 : gD cX1_fewestPayments 49 (.getfield 11) 3 52 := ⟨by decide +kernel, rfl⟩
theorem d_X1_fewestPayments_52 : gD cX1_fewestPayments 52 (.iload_n 2) 1 53 := ⟨by decide +kernel, rfl⟩
theorem d_X1_fewestPayments_53 : gD cX1_fewestPayments 53 (.aload_n 0) 1 54 := ⟨by decide +kernel, rfl⟩
theorem d_X1_fewestPayments_54 : gD cX1_fewestPayments 54 (.getfield 11) 3 57 := ⟨by decide +kernel, rfl⟩
theorem d_X1_fewestPayments_57 : gD cX1_fewestPayments 57 (.iload_n 2) 1 58 := ⟨by decide +kernel, rfl⟩
theorem d_X1_fewestPayments_58 : gD cX1_fewestPayments 58 (.iload_n 3) 1 59 := ⟨by decide +kernel, rfl⟩
theorem d_X1_fewestPayments_59 : gD cX1_fewestPayments 59 (.ixor) 1 60 := ⟨by decide +kernel, rfl⟩
theorem d_X1_fewestPayments_60 : gD cX1_fewestPayments 60 (.iaload) 1 61 := ⟨by decide +kernel, rfl⟩
theorem d_X1_fewestPayments_61 : gD cX1_fewestPayments 61 (.aload_n 0) 1 62 := ⟨by decide +kernel, rfl⟩
theorem d_X1_fewestPayments_62 : gD cX1_fewestPayments 62 (.getfield 11) 3 65 := ⟨by decide +kernel, rfl⟩
theorem d_X1_fewestPayments_65 : gD cX1_fewestPayments 65 (.iload_n 3) 1 66 := ⟨by decide +kernel, rfl⟩
theorem d_X1_fewestPayments_66 : gD cX1_fewestPayments 66 (.iaload) 1 67 := ⟨by decide +kernel, rfl⟩
theorem d_X1_fewestPayments_67 : gD cX1_fewestPayments 67 (.iadd) 1 68 := ⟨by decide +kernel, rfl⟩
theorem d_X1_fewestPayments_68 : gD cX1_fewestPayments 68 (.iastore) 1 69 := ⟨by decide +kernel, rfl⟩
theorem d_X1_fewestPayments_69 : gD cX1_fewestPayments 69 (.aload_n 0) 1 70 := ⟨by decide +kernel, rfl⟩
theorem d_X1_fewestPayments_70 : gD cX1_fewestPayments 70 (.getfield 15) 3 73 := ⟨by decide +kernel, rfl⟩
theorem d_X1_fewestPayments_73 : gD cX1_fewestPayments 73 (.iload_n 2) 1 74 := ⟨by decide +kernel, rfl⟩
theorem d_X1_fewestPayments_74 : gD cX1_fewestPayments 74 (.aload_n 0) 1 75 := ⟨by decide +kernel, rfl⟩
theorem d_X1_fewestPayments_75 : gD cX1_fewestPayments 75 (.iload_n 2) 1 76 := ⟨by decide +kernel, rfl⟩
theorem d_X1_fewestPayments_76 : gD cX1_fewestPayments 76 (.invokevirtual 32) 3 79 := ⟨by decide +kernel, rfl⟩
theorem d_X1_fewestPayments_79 : gD cX1_fewestPayments 79 (.aload_n 0) 1 80 := ⟨by decide +kernel, rfl⟩
theorem d_X1_fewestPayments_80 : gD cX1_fewestPayments 80 (.getfield 11) 3 83 := ⟨by decide +kernel, rfl⟩
theorem d_X1_fewestPayments_83 : gD cX1_fewestPayments 83 (.iload_n 2) 1 84 := ⟨by decide +kernel, rfl⟩
theorem d_X1_fewestPayments_84 : gD cX1_fewestPayments 84 (.iaload) 1 85 := ⟨by decide +kernel, rfl⟩
theorem d_X1_fewestPayments_85 : gD cX1_fewestPayments 85 (.ifCond .ne 7) 3 88 ∧ ((85 : Nat) : Int) + 7 = ((92 : Nat) : Int) := ⟨⟨by decide +kernel, rfl⟩, by decide⟩
theorem d_X1_fewestPayments_88 : gD cX1_fewestPayments 88 (.iconst 1) 1 89 := ⟨by decide +kernel, rfl⟩
theorem d_X1_fewestPayments_89 : decode cX1_fewestPayments 89 = .ok (.goto 4, 3) ∧ ((89 : Nat) : Int) + 4 = ((93 : Nat) : Int) := ⟨by decide +kernel, by decide⟩
theorem d_X1_fewestPayments_92 : gD cX1_fewestPayments 92 (.iconst 0) 1 93 := ⟨by decide +kernel, rfl⟩
theorem d_X1_fewestPayments_93 : gD cX1_fewestPayments 93 (.iadd) 1 94 := ⟨by decide +kernel, rfl⟩
theorem d_X1_fewestPayments_94 : gD cX1_fewestPayments 94 (.iastore) 1 95 := ⟨by decide +kernel, rfl⟩
theorem d_X1_fewestPayments_95 : gD cX1_fewestPayments 95 (.iinc 2 1) 3 98 := ⟨by decide +kernel, rfl⟩
theorem d_X1_fewestPayments_98 : decode cX1_fewestPayments 98 = .ok (.goto (-62), 3) ∧ ((98 : Nat) : Int) + (-62) = ((36 : Nat) : Int) := ⟨by decide +kernel, by decide⟩
theorem d_X1_fewestPayments_101 : gD cX1_fewestPayments 101 (.bipush 8) 2 103 := ⟨by decide +kernel, rfl⟩
theorem d_X1_fewestPayments_103 : gD cX1_fewestPayments 103 (.aload_n 0) 1 104 := ⟨by decide +kernel, rfl⟩
theorem d_X1_fewestPayments_104 : gD cX1_fewestPayments 104 (.getfield 15) 3 107 := ⟨by decide +kernel, rfl⟩
theorem d_X1_fewestPayments_107 : gD cX1_fewestPayments 107 (.sipush 255) 3 110 := ⟨by decide +kernel, rfl⟩
theorem d_X1_fewestPayments_110 : gD cX1_fewestPayments 110 (.iaload) 1 111 := ⟨by decide +kernel, rfl⟩
theorem d_X1_fewestPayments_111 : gD cX1_fewestPayments 111 (.isub) 1 112 := ⟨by decide +kernel, rfl⟩
theorem d_X1_fewestPayments_112 : gD cX1_fewestPayments 112 (.ireturn) 1 113 := ⟨by decide +kernel, rfl⟩
abbrev rm_X1_fewestPayments : Room := { frames := 2, cells := 0, slots := 0, locals := 45 }
set_option maxRecDepth 20000 in
theorem w_X1_fewestPayments_93 {Γ : GC} {E : GE} (hO : gOk Γ E cX1_fewestPayments RX1 4 rm_X1_fewestPayments (some .int) "fewestPayments") (o : Nat) {k36 : (Int32 → GS → Option (Int32 × GS))} (hk36 : ∀ (z2 : Int32) (S1 : GS), Go Γ E (gBsI Γ E) 4 (0, 0) 36 S1 [(0, vA (some o)), (2, vI z2)] [] (k36 z2 S1)) (x2 : Int32) (y0 : Option Nat) (y1 : Int32) (y2 : Int32) (y3 : Int32) (S : GS) : Go Γ E (gBsI Γ E) 4 (0, 0) 93 S [(0, vA (some o)), (2, vI x2)] [vI y3, vI y2, vI y1, vA y0] (f_X1_fewestPayments_93 k36 o x2 y0 y1 y2 y3 S) := by
  unfold f_X1_fewestPayments_93
  refine g_iadd hO d_X1_fewestPayments_93 ?_
  refine h_iast hO d_X1_fewestPayments_94 (fun S1 => ?_)
  refine g_iinc (lv' := [(2, vI (x2 + 1)), (0, vA (some o))]) hO 1 d_X1_fewestPayments_95 (by decide) 1 rfl (by decide) rfl ?_
  refine g_goto (tgt := 36) hO d_X1_fewestPayments_98.1 d_X1_fewestPayments_98.2 ?_
  exact g_sub [1, 0] rfl (hk36 _ _)
set_option maxRecDepth 20000 in
theorem w_X1_fewestPayments_36 {Γ : GC} {E : GE} (hO : gOk Γ E cX1_fewestPayments RX1 4 rm_X1_fewestPayments (some .int) "fewestPayments") (o : Nat) : ∀ (n : Nat) (x2 : Int32) (S : GS), Go Γ E (gBsI Γ E) 4 (0, 0) 36 S [(0, vA (some o)), (2, vI x2)] [] (f_X1_fewestPayments_36 o n x2 S) := by
  intro n
  induction n with
  | zero =>
    intro x2 S
    exact g_none
  | succ n ih =>
    intro x2 S
    rw [f_X1_fewestPayments_36]
    refine g_iload_n hO d_X1_fewestPayments_36 (by rfl) 1 rfl ?_
    refine g_sipush hO 255 d_X1_fewestPayments_37 (by decide) ?_
    refine g_ic_gt (tgt := 101) hO d_X1_fewestPayments_40.1 d_X1_fewestPayments_40.2 (fun _ => ?_) (fun _ => ?_)
    · skip
      refine g_bipush hO 8 d_X1_fewestPayments_101 (by decide) ?_
      refine g_aload_n hO d_X1_fewestPayments_103 (by rfl) 0 rfl ?_
      refine h_getR hO cl_X1 1 rfl wf_X1_15 d_X1_fewestPayments_104 (fun v1 => ?_)
      refine g_sipush hO 255 d_X1_fewestPayments_107 (by decide) ?_
      refine h_iald hO d_X1_fewestPayments_110 (fun v2 => ?_)
      refine g_isub hO d_X1_fewestPayments_111 ?_
      exact g_ret hO rfl rfl ⟨Nat.le_of_ble_eq_true rfl, Nat.le_of_ble_eq_true rfl⟩ rfl rfl d_X1_fewestPayments_112.1
    · skip
      refine g_iload_n hO d_X1_fewestPayments_43 (by rfl) 1 rfl ?_
      refine g_iload_n hO d_X1_fewestPayments_44 (by rfl) 1 rfl ?_
      refine g_ineg hO d_X1_fewestPayments_45 ?_
      refine g_iand hO d_X1_fewestPayments_46 ?_
      refine g_istore_n (lv' := [(3, vI (x2 &&& (-x2))), (0, vA (some o)), (2, vI x2)]) hO d_X1_fewestPayments_47 (by rfl) (by decide) rfl ?_
      refine g_aload_n hO d_X1_fewestPayments_48 (by rfl) 1 rfl ?_
      refine h_getR hO cl_X1 0 rfl wf_X1_11 d_X1_fewestPayments_49 (fun v3 => ?_)
      refine g_iload_n hO d_X1_fewestPayments_52 (by rfl) 2 rfl ?_
      refine g_aload_n hO d_X1_fewestPayments_53 (by rfl) 1 rfl ?_
      refine h_getR hO cl_X1 0 rfl wf_X1_11 d_X1_fewestPayments_54 (fun v4 => ?_)
      refine g_iload_n hO d_X1_fewestPayments_57 (by rfl) 2 rfl ?_
      refine g_iload_n hO d_X1_fewestPayments_58 (by rfl) 0 rfl ?_
      refine g_ixor hO d_X1_fewestPayments_59 ?_
      refine h_iald hO d_X1_fewestPayments_60 (fun v5 => ?_)
      refine g_aload_n hO d_X1_fewestPayments_61 (by rfl) 1 rfl ?_
      refine h_getR hO cl_X1 0 rfl wf_X1_11 d_X1_fewestPayments_62 (fun v6 => ?_)
      refine g_iload_n hO d_X1_fewestPayments_65 (by rfl) 0 rfl ?_
      refine h_iald hO d_X1_fewestPayments_66 (fun v7 => ?_)
      refine g_iadd hO d_X1_fewestPayments_67 ?_
      refine h_iast hO d_X1_fewestPayments_68 (fun S8 => ?_)
      refine g_aload_n hO d_X1_fewestPayments_69 (by rfl) 1 rfl ?_
      refine h_getR hO cl_X1 1 rfl wf_X1_15 d_X1_fewestPayments_70 (fun v9 => ?_)
      refine g_iload_n hO d_X1_fewestPayments_73 (by rfl) 2 rfl ?_
      refine g_aload_n hO d_X1_fewestPayments_74 (by rfl) 1 rfl ?_
      refine g_iload_n hO d_X1_fewestPayments_75 (by rfl) 2 rfl ?_
      refine k_virtIp hO cl_X1 mm_X1_mostGroupsWithoutOne lkV_X1_32 ⟨⟨Nat.le_of_ble_eq_true rfl, Nat.le_of_ble_eq_true rfl⟩, Nat.le_of_ble_eq_true rfl, Nat.le_of_ble_eq_true rfl⟩ (kn' := (0, 0)) rfl (As := [vI x2]) rfl (Nat.le_of_ble_eq_true rfl) (fun o' _ => t_X1_mostGroupsWithoutOne Γ.2.1 E o' x2 S8) d_X1_fewestPayments_76 rfl (fun v10 => ?_)
      refine g_aload_n hO d_X1_fewestPayments_79 (by rfl) 1 rfl ?_
      refine h_getR hO cl_X1 0 rfl wf_X1_11 d_X1_fewestPayments_80 (fun v12 => ?_)
      refine g_iload_n hO d_X1_fewestPayments_83 (by rfl) 2 rfl ?_
      refine h_iald hO d_X1_fewestPayments_84 (fun v13 => ?_)
      refine g_if_ne (tgt := 92) hO d_X1_fewestPayments_85.1 d_X1_fewestPayments_85.2 (fun _ => ?_) (fun _ => ?_)
      · skip
        refine g_iconst hO 1 d_X1_fewestPayments_88 (by decide) ?_
        refine g_goto (tgt := 93) hO d_X1_fewestPayments_89.1 d_X1_fewestPayments_89.2 ?_
        exact g_sub [1, 2] rfl (w_X1_fewestPayments_93 hO o ih _ _ _ _ _ _)
      · skip
        refine g_iconst hO 0 d_X1_fewestPayments_92 (by decide) ?_
        exact g_sub [1, 2] rfl (w_X1_fewestPayments_93 hO o ih _ _ _ _ _ _)
set_option maxRecDepth 20000 in
theorem w_X1_fewestPayments_2 {Γ : GC} {E : GE} (hO : gOk Γ E cX1_fewestPayments RX1 4 rm_X1_fewestPayments (some .int) "fewestPayments") (o : Nat) : ∀ (n : Nat) (x1 : Option Nat) (x2 : Int32) (S : GS), Go Γ E (gBsI Γ E) 4 (0, 0) 2 S [(0, vA (some o)), (1, vA x1), (2, vI x2)] [] (f_X1_fewestPayments_2 o n x1 x2 S) := by
  intro n
  induction n with
  | zero =>
    intro x1 x2 S
    exact g_none
  | succ n ih =>
    intro x1 x2 S
    rw [f_X1_fewestPayments_2]
    refine g_iload_n hO d_X1_fewestPayments_2 (by rfl) 2 rfl ?_
    refine g_bipush hO 8 d_X1_fewestPayments_3 (by decide) ?_
    refine g_ic_ge (tgt := 27) hO d_X1_fewestPayments_5.1 d_X1_fewestPayments_5.2 (fun _ => ?_) (fun _ => ?_)
    · skip
      refine g_aload_n hO d_X1_fewestPayments_27 (by rfl) 0 rfl ?_
      refine h_getR hO cl_X1 1 rfl wf_X1_15 d_X1_fewestPayments_28 (fun v1 => ?_)
      refine g_iconst hO 0 d_X1_fewestPayments_31 (by decide) ?_
      refine g_iconst hO 0 d_X1_fewestPayments_32 (by decide) ?_
      refine h_iast hO d_X1_fewestPayments_33 (fun S2 => ?_)
      refine g_iconst hO 1 d_X1_fewestPayments_34 (by decide) ?_
      refine g_istore_n (lv' := [(2, vI 1), (0, vA (some o)), (1, vA x1)]) hO d_X1_fewestPayments_35 (by rfl) (by decide) rfl ?_
      exact g_sub [1, 0] rfl (w_X1_fewestPayments_36 hO o _ _ _)
    · skip
      refine g_aload_n hO d_X1_fewestPayments_8 (by rfl) 0 rfl ?_
      refine h_getR hO cl_X1 0 rfl wf_X1_11 d_X1_fewestPayments_9 (fun v3 => ?_)
      refine g_iconst hO 1 d_X1_fewestPayments_12 (by decide) ?_
      refine g_iload_n hO d_X1_fewestPayments_13 (by rfl) 2 rfl ?_
      refine g_ishl hO d_X1_fewestPayments_14 ?_
      refine g_aload_n hO d_X1_fewestPayments_15 (by rfl) 1 rfl ?_
      refine g_iload_n hO d_X1_fewestPayments_16 (by rfl) 2 rfl ?_
      refine k_statIp hO mm_X1_netOf lkS_X1_28 ⟨⟨Nat.le_of_ble_eq_true rfl, Nat.le_of_ble_eq_true rfl⟩, Nat.le_of_ble_eq_true rfl, Nat.le_of_ble_eq_true rfl⟩ (kn' := (0, 0)) rfl (As := [vA x1, vI x2]) rfl (Nat.le_of_ble_eq_true rfl) (t_X1_netOf Γ.2.1 E x1 x2 S) d_X1_fewestPayments_17 rfl (fun v4 => ?_)
      refine h_iast hO d_X1_fewestPayments_20 (fun S6 => ?_)
      refine g_iinc (lv' := [(2, vI (x2 + 1)), (0, vA (some o)), (1, vA x1)]) hO 1 d_X1_fewestPayments_21 (by decide) 2 rfl (by decide) rfl ?_
      refine g_goto (tgt := 2) hO d_X1_fewestPayments_24.1 d_X1_fewestPayments_24.2 ?_
      exact g_sub [1, 2, 0] rfl (ih _ _ _)
set_option maxRecDepth 20000 in
theorem w_X1_fewestPayments {Γ : GC} {E : GE} (hO : gOk Γ E cX1_fewestPayments RX1 4 rm_X1_fewestPayments (some .int) "fewestPayments") (o : Nat) (x1 : Option Nat) (S : GS) : Go Γ E (gBsI Γ E) 4 (0, 0) 0 S [(0, vA (some o)), (1, vA x1)] [] (f_X1_fewestPayments o x1 S) := by
  unfold f_X1_fewestPayments
  refine g_iconst hO 0 d_X1_fewestPayments_0 (by decide) ?_
  refine g_istore_n (lv' := [(2, vI 0), (0, vA (some o)), (1, vA x1)]) hO d_X1_fewestPayments_1 (by rfl) (by decide) rfl ?_
  exact g_sub [1, 2, 0] rfl (w_X1_fewestPayments_2 hO o _ _ _ _)
theorem t_X1_fewestPayments (l : Launch) (E : GE) (o : Nat) (x1 : Option Nat) (S : GS) : ∀ a, f_X1_fewestPayments o x1 S = some a → Ct l E yX1_fewestPayments cX1_fewestPayments 4 (some .int) rm_X1_fewestPayments [vA (some o), vA x1] S (some (vI a.1)) a.2 :=
  Ct_of (val := fun (b : Int32 × GS) => some (vI b.1)) (nxt := fun (b : Int32 × GS) => b.2) (by decide) (Nat.le_of_ble_eq_true rfl) (fun Γ hl hO => w_X1_fewestPayments hO o x1 S)
theorem d_X1_deepestInDebt_0 : gD cX1_deepestInDebt 0 (.iconst (-1)) 1 1 := ⟨by decide +kernel, rfl⟩
theorem d_X1_deepestInDebt_1 : gD cX1_deepestInDebt 1 (.istore_n 1) 1 2 := ⟨by decide +kernel, rfl⟩
theorem d_X1_deepestInDebt_2 : gD cX1_deepestInDebt 2 (.iconst 0) 1 3 := ⟨by decide +kernel, rfl⟩
theorem d_X1_deepestInDebt_3 : gD cX1_deepestInDebt 3 (.istore_n 2) 1 4 := ⟨by decide +kernel, rfl⟩
theorem d_X1_deepestInDebt_4 : gD cX1_deepestInDebt 4 (.iconst 0) 1 5 := ⟨by decide +kernel, rfl⟩
theorem d_X1_deepestInDebt_5 : gD cX1_deepestInDebt 5 (.istore_n 3) 1 6 := ⟨by decide +kernel, rfl⟩
theorem d_X1_deepestInDebt_6 : gD cX1_deepestInDebt 6 (.iload_n 3) 1 7 := ⟨by decide +kernel, rfl⟩
theorem d_X1_deepestInDebt_7 : gD cX1_deepestInDebt 7 (.bipush 8) 2 9 := ⟨by decide +kernel, rfl⟩
theorem d_X1_deepestInDebt_9 : gD cX1_deepestInDebt 9 (.if_icmp .ge 68) 3 12 ∧ ((9 : Nat) : Int) + 68 = ((77 : Nat) : Int) := ⟨⟨by decide +kernel, rfl⟩, by decide⟩
theorem d_X1_deepestInDebt_12 : gD cX1_deepestInDebt 12 (.iconst 0) 1 13 := ⟨by decide +kernel, rfl⟩
theorem d_X1_deepestInDebt_13 : gD cX1_deepestInDebt 13 (.istore 4) 2 15 := ⟨by decide +kernel, rfl⟩
theorem d_X1_deepestInDebt_15 : gD cX1_deepestInDebt 15 (.iconst 0) 1 16 := ⟨by decide +kernel, rfl⟩
theorem d_X1_deepestInDebt_16 : gD cX1_deepestInDebt 16 (.istore 5) 2 18 := ⟨by decide +kernel, rfl⟩
theorem d_X1_deepestInDebt_18 : gD cX1_deepestInDebt 18 (.iload 5) 2 20 := ⟨by decide +kernel, rfl⟩
theorem d_X1_deepestInDebt_20 : gD cX1_deepestInDebt 20 (.aload_n 0) 1 21 := ⟨by decide +kernel, rfl⟩
theorem d_X1_deepestInDebt_21 : gD cX1_deepestInDebt 21 (.getfield 18) 3 24 := ⟨by decide +kernel, rfl⟩
theorem d_X1_deepestInDebt_24 : gD cX1_deepestInDebt 24 (.if_icmp .ge 36) 3 27 ∧ ((24 : Nat) : Int) + 36 = ((60 : Nat) : Int) := ⟨⟨by decide +kernel, rfl⟩, by decide⟩
theorem d_X1_deepestInDebt_27 : gD cX1_deepestInDebt 27 (.iload 4) 2 29 := ⟨by decide +kernel, rfl⟩
theorem d_X1_deepestInDebt_29 : gD cX1_deepestInDebt 29 (.aload_n 0) 1 30 := ⟨by decide +kernel, rfl⟩
theorem d_X1_deepestInDebt_30 : gD cX1_deepestInDebt 30 (.iload 5) 2 32 := ⟨by decide +kernel, rfl⟩
theorem d_X1_deepestInDebt_32 : gD cX1_deepestInDebt 32 (.iconst 0) 1 33 := ⟨by decide +kernel, rfl⟩
theorem d_X1_deepestInDebt_33 : gD cX1_deepestInDebt 33 (.invokevirtual 24) 3 36 := ⟨by decide +kernel, rfl⟩
theorem d_X1_deepestInDebt_36 : gD cX1_deepestInDebt 36 (.iload_n 3) 1 37 := ⟨by decide +kernel, rfl⟩
theorem d_X1_deepestInDebt_37 : gD cX1_deepestInDebt 37 (.if_icmp .ne 13) 3 40 ∧ ((37 : Nat) : Int) + 13 = ((50 : Nat) : Int) := ⟨⟨by decide +kernel, rfl⟩, by decide⟩
theorem d_X1_deepestInDebt_40 : gD cX1_deepestInDebt 40 (.aload_n 0) 1 41 := ⟨by decide +kernel, rfl⟩
theorem d_X1_deepestInDebt_41 : gD cX1_deepestInDebt 41 (.iload 5) 2 43 := ⟨by decide +kernel, rfl⟩
theorem d_X1_deepestInDebt_43 : gD cX1_deepestInDebt 43 (.iconst 2) 1 44 := ⟨by decide +kernel, rfl⟩
theorem d_X1_deepestInDebt_44 : gD cX1_deepestInDebt 44 (.invokevirtual 24) 3 47 := ⟨by decide +kernel, rfl⟩
theorem d_X1_deepestInDebt_47 : decode cX1_deepestInDebt 47 = .ok (.goto 4, 3) ∧ ((47 : Nat) : Int) + 4 = ((51 : Nat) : Int) := ⟨by decide +kernel, by decide⟩
theorem d_X1_deepestInDebt_50 : gD cX1_deepestInDebt 50 (.iconst 0) 1 51 := ⟨by decide +kernel, rfl⟩
theorem d_X1_deepestInDebt_51 : gD cX1_deepestInDebt 51 (.iadd) 1 52 := ⟨by decide +kernel, rfl⟩
theorem d_X1_deepestInDebt_52 : gD cX1_deepestInDebt 52 (.istore 4) 2 54 := ⟨by decide +kernel, rfl⟩
theorem d_X1_deepestInDebt_54 : gD cX1_deepestInDebt 54 (.iinc 5 1) 3 57 := ⟨by decide +kernel, rfl⟩
theorem d_X1_deepestInDebt_57 : decode cX1_deepestInDebt 57 = .ok (.goto (-39), 3) ∧ ((57 : Nat) : Int) + (-39) = ((18 : Nat) : Int) := ⟨by decide +kernel, by decide⟩
theorem d_X1_deepestInDebt_60 : gD cX1_deepestInDebt 60 (.iload 4) 2 62 := ⟨by decide +kernel, rfl⟩
theorem d_X1_deepestInDebt_62 : gD cX1_deepestInDebt 62 (.iload_n 2) 1 63 := ⟨by decide +kernel, rfl⟩
theorem d_X1_deepestInDebt_63 : gD cX1_deepestInDebt 63 (.if_icmp .le 8) 3 66 ∧ ((63 : Nat) : Int) + 8 = ((71 : Nat) : Int) := ⟨⟨by decide +kernel, rfl⟩, by decide⟩
theorem d_X1_deepestInDebt_66 : gD cX1_deepestInDebt 66 (.iload 4) 2 68 := ⟨by decide +kernel, rfl⟩
theorem d_X1_deepestInDebt_68 : gD cX1_deepestInDebt 68 (.istore_n 2) 1 69 := ⟨by decide +kernel, rfl⟩
theorem d_X1_deepestInDebt_69 : gD cX1_deepestInDebt 69 (.iload_n 3) 1 70 := ⟨by decide +kernel, rfl⟩
theorem d_X1_deepestInDebt_70 : gD cX1_deepestInDebt 70 (.istore_n 1) 1 71 := ⟨by decide +kernel, rfl⟩
theorem d_X1_deepestInDebt_71 : gD cX1_deepestInDebt 71 (.iinc 3 1) 3 74 := ⟨by decide +kernel, rfl⟩
theorem d_X1_deepestInDebt_74 : decode cX1_deepestInDebt 74 = .ok (.goto (-68), 3) ∧ ((74 : Nat) : Int) + (-68) = ((6 : Nat) : Int) := ⟨by decide +kernel, by decide⟩
theorem d_X1_deepestInDebt_77 : gD cX1_deepestInDebt 77 (.iload_n 1) 1 78 := ⟨by decide +kernel, rfl⟩
theorem d_X1_deepestInDebt_78 : gD cX1_deepestInDebt 78 (.ireturn) 1 79 := ⟨by decide +kernel, rfl⟩
abbrev rm_X1_deepestInDebt : Room := { frames := 1, cells := 0, slots := 0, locals := 22 }
set_option maxRecDepth 20000 in
theorem w_X1_deepestInDebt_51 {Γ : GC} {E : GE} (hO : gOk Γ E cX1_deepestInDebt RX1 6 rm_X1_deepestInDebt (some .int) "deepestInDebt") (S : GS) {k6 : (Option Nat → Int32 → Int32 → Int32 → Option Int32)} {k18 : (Option Nat → Int32 → Int32 → Int32 → Int32 → Int32 → Option Int32)} (hk6 : ∀ (z0 : Option Nat) (z1 : Int32) (z2 : Int32) (z3 : Int32), Go Γ E (gBpI Γ E S) 6 (0, 0) 6 S [(0, vA z0), (1, vI z1), (2, vI z2), (3, vI z3)] [] (k6 z0 z1 z2 z3)) (hk18 : ∀ (z0 : Option Nat) (z1 : Int32) (z2 : Int32) (z3 : Int32) (z4 : Int32) (z5 : Int32), Go Γ E (gBpI Γ E S) 6 (0, 0) 18 S [(0, vA z0), (1, vI z1), (2, vI z2), (3, vI z3), (4, vI z4), (5, vI z5)] [] (k18 z0 z1 z2 z3 z4 z5)) (x0 : Option Nat) (x1 : Int32) (x2 : Int32) (x3 : Int32) (x5 : Int32) (y0 : Int32) (y1 : Int32) : Go Γ E (gBpI Γ E S) 6 (0, 0) 51 S [(0, vA x0), (1, vI x1), (2, vI x2), (3, vI x3), (5, vI x5)] [vI y1, vI y0] (f_X1_deepestInDebt_51 k6 k18 S x0 x1 x2 x3 x5 y0 y1) := by
  unfold f_X1_deepestInDebt_51
  refine g_iadd hO d_X1_deepestInDebt_51 ?_
  refine g_istore (lv' := [(4, vI (y0 + y1)), (0, vA x0), (1, vI x1), (2, vI x2), (3, vI x3), (5, vI x5)]) hO d_X1_deepestInDebt_52 (by decide) rfl ?_
  refine g_iinc (lv' := [(5, vI (x5 + 1)), (4, vI (y0 + y1)), (0, vA x0), (1, vI x1), (2, vI x2), (3, vI x3)]) hO 1 d_X1_deepestInDebt_54 (by decide) 5 rfl (by decide) rfl ?_
  refine g_goto (tgt := 18) hO d_X1_deepestInDebt_57.1 d_X1_deepestInDebt_57.2 ?_
  exact g_sub [2, 3, 4, 5, 1, 0] rfl (hk18 _ _ _ _ _ _)
set_option maxRecDepth 20000 in
theorem w_X1_deepestInDebt_71 {Γ : GC} {E : GE} (hO : gOk Γ E cX1_deepestInDebt RX1 6 rm_X1_deepestInDebt (some .int) "deepestInDebt") (S : GS) {k6 : (Option Nat → Int32 → Int32 → Int32 → Option Int32)} (hk6 : ∀ (z0 : Option Nat) (z1 : Int32) (z2 : Int32) (z3 : Int32), Go Γ E (gBpI Γ E S) 6 (0, 0) 6 S [(0, vA z0), (1, vI z1), (2, vI z2), (3, vI z3)] [] (k6 z0 z1 z2 z3)) (x0 : Option Nat) (x1 : Int32) (x2 : Int32) (x3 : Int32) : Go Γ E (gBpI Γ E S) 6 (0, 0) 71 S [(0, vA x0), (1, vI x1), (2, vI x2), (3, vI x3)] [] (f_X1_deepestInDebt_71 k6 S x0 x1 x2 x3) := by
  unfold f_X1_deepestInDebt_71
  refine g_iinc (lv' := [(3, vI (x3 + 1)), (0, vA x0), (1, vI x1), (2, vI x2)]) hO 1 d_X1_deepestInDebt_71 (by decide) 3 rfl (by decide) rfl ?_
  refine g_goto (tgt := 6) hO d_X1_deepestInDebt_74.1 d_X1_deepestInDebt_74.2 ?_
  exact g_sub [1, 2, 3, 0] rfl (hk6 _ _ _ _)
set_option maxRecDepth 20000 in
theorem w_X1_deepestInDebt_18 {Γ : GC} {E : GE} (hO : gOk Γ E cX1_deepestInDebt RX1 6 rm_X1_deepestInDebt (some .int) "deepestInDebt") (S : GS) {k6 : (Option Nat → Int32 → Int32 → Int32 → Option Int32)} (hk6 : ∀ (z0 : Option Nat) (z1 : Int32) (z2 : Int32) (z3 : Int32), Go Γ E (gBpI Γ E S) 6 (0, 0) 6 S [(0, vA z0), (1, vI z1), (2, vI z2), (3, vI z3)] [] (k6 z0 z1 z2 z3)) : ∀ (n : Nat) (x0 : Option Nat) (x1 : Int32) (x2 : Int32) (x3 : Int32) (x4 : Int32) (x5 : Int32), Go Γ E (gBpI Γ E S) 6 (0, 0) 18 S [(0, vA x0), (1, vI x1), (2, vI x2), (3, vI x3), (4, vI x4), (5, vI x5)] [] (f_X1_deepestInDebt_18 k6 S n x0 x1 x2 x3 x4 x5) := by
  intro n
  induction n with
  | zero =>
    intro x0 x1 x2 x3 x4 x5
    exact g_none
  | succ n ih =>
    intro x0 x1 x2 x3 x4 x5
    rw [f_X1_deepestInDebt_18]
    refine g_iload hO d_X1_deepestInDebt_18 5 rfl ?_
    refine g_aload_n hO d_X1_deepestInDebt_20 (by rfl) 0 rfl ?_
    refine h_getI hO cl_X7 3 rfl wf_X1_18 d_X1_deepestInDebt_21 (fun v1 => ?_)
    refine g_ic_ge (tgt := 60) hO d_X1_deepestInDebt_24.1 d_X1_deepestInDebt_24.2 (fun _ => ?_) (fun _ => ?_)
    · skip
      refine g_iload hO d_X1_deepestInDebt_60 4 rfl ?_
      refine g_iload_n hO d_X1_deepestInDebt_62 (by rfl) 2 rfl ?_
      refine g_ic_le (tgt := 71) hO d_X1_deepestInDebt_63.1 d_X1_deepestInDebt_63.2 (fun _ => ?_) (fun _ => ?_)
      · skip
        exact g_sub [0, 1, 2, 3] rfl (w_X1_deepestInDebt_71 hO _ hk6 _ _ _ _)
      · skip
        refine g_iload hO d_X1_deepestInDebt_66 4 rfl ?_
        refine g_istore_n (lv' := [(2, vI x4), (0, vA x0), (1, vI x1), (3, vI x3), (4, vI x4), (5, vI x5)]) hO d_X1_deepestInDebt_68 (by rfl) (by decide) rfl ?_
        refine g_iload_n hO d_X1_deepestInDebt_69 (by rfl) 3 rfl ?_
        refine g_istore_n (lv' := [(1, vI x3), (2, vI x4), (0, vA x0), (3, vI x3), (4, vI x4), (5, vI x5)]) hO d_X1_deepestInDebt_70 (by rfl) (by decide) rfl ?_
        exact g_sub [2, 0, 1, 3] rfl (w_X1_deepestInDebt_71 hO _ hk6 _ _ _ _)
    · skip
      refine g_iload hO d_X1_deepestInDebt_27 4 rfl ?_
      refine g_aload_n hO d_X1_deepestInDebt_29 (by rfl) 0 rfl ?_
      refine g_iload hO d_X1_deepestInDebt_30 5 rfl ?_
      refine g_iconst hO 0 d_X1_deepestInDebt_32 (by decide) ?_
      refine k_virtIp hO cl_X7 mm_X7_cell lkV_X1_24 ⟨⟨Nat.le_of_ble_eq_true rfl, Nat.le_of_ble_eq_true rfl⟩, Nat.le_of_ble_eq_true rfl, Nat.le_of_ble_eq_true rfl⟩ (kn' := (0, 0)) rfl (As := [vI x5, vI 0]) rfl (Nat.le_of_ble_eq_true rfl) (fun o' _ => t_X7_cell Γ.2.1 E o' x5 0 S) d_X1_deepestInDebt_33 rfl (fun v2 => ?_)
      refine g_iload_n hO d_X1_deepestInDebt_36 (by rfl) 3 rfl ?_
      refine g_ic_ne (tgt := 50) hO d_X1_deepestInDebt_37.1 d_X1_deepestInDebt_37.2 (fun _ => ?_) (fun _ => ?_)
      · skip
        refine g_aload_n hO d_X1_deepestInDebt_40 (by rfl) 0 rfl ?_
        refine g_iload hO d_X1_deepestInDebt_41 5 rfl ?_
        refine g_iconst hO 2 d_X1_deepestInDebt_43 (by decide) ?_
        refine k_virtIp hO cl_X7 mm_X7_cell lkV_X1_24 ⟨⟨Nat.le_of_ble_eq_true rfl, Nat.le_of_ble_eq_true rfl⟩, Nat.le_of_ble_eq_true rfl, Nat.le_of_ble_eq_true rfl⟩ (kn' := (0, 0)) rfl (As := [vI x5, vI 2]) rfl (Nat.le_of_ble_eq_true rfl) (fun o' _ => t_X7_cell Γ.2.1 E o' x5 2 S) d_X1_deepestInDebt_44 rfl (fun v4 => ?_)
        refine g_goto (tgt := 51) hO d_X1_deepestInDebt_47.1 d_X1_deepestInDebt_47.2 ?_
        exact g_sub [0, 1, 2, 3, 5] rfl (w_X1_deepestInDebt_51 hO _ hk6 ih _ _ _ _ _ _ _)
      · skip
        refine g_iconst hO 0 d_X1_deepestInDebt_50 (by decide) ?_
        exact g_sub [0, 1, 2, 3, 5] rfl (w_X1_deepestInDebt_51 hO _ hk6 ih _ _ _ _ _ _ _)
set_option maxRecDepth 20000 in
theorem w_X1_deepestInDebt_6 {Γ : GC} {E : GE} (hO : gOk Γ E cX1_deepestInDebt RX1 6 rm_X1_deepestInDebt (some .int) "deepestInDebt") (S : GS) : ∀ (n : Nat) (x0 : Option Nat) (x1 : Int32) (x2 : Int32) (x3 : Int32), Go Γ E (gBpI Γ E S) 6 (0, 0) 6 S [(0, vA x0), (1, vI x1), (2, vI x2), (3, vI x3)] [] (f_X1_deepestInDebt_6 S n x0 x1 x2 x3) := by
  intro n
  induction n with
  | zero =>
    intro x0 x1 x2 x3
    exact g_none
  | succ n ih =>
    intro x0 x1 x2 x3
    rw [f_X1_deepestInDebt_6]
    refine g_iload_n hO d_X1_deepestInDebt_6 (by rfl) 3 rfl ?_
    refine g_bipush hO 8 d_X1_deepestInDebt_7 (by decide) ?_
    refine g_ic_ge (tgt := 77) hO d_X1_deepestInDebt_9.1 d_X1_deepestInDebt_9.2 (fun _ => ?_) (fun _ => ?_)
    · skip
      refine g_iload_n hO d_X1_deepestInDebt_77 (by rfl) 1 rfl ?_
      exact g_ret hO rfl rfl ⟨Nat.le_of_ble_eq_true rfl, Nat.le_of_ble_eq_true rfl⟩ rfl rfl d_X1_deepestInDebt_78.1
    · skip
      refine g_iconst hO 0 d_X1_deepestInDebt_12 (by decide) ?_
      refine g_istore (lv' := [(4, vI 0), (0, vA x0), (1, vI x1), (2, vI x2), (3, vI x3)]) hO d_X1_deepestInDebt_13 (by decide) rfl ?_
      refine g_iconst hO 0 d_X1_deepestInDebt_15 (by decide) ?_
      refine g_istore (lv' := [(5, vI 0), (4, vI 0), (0, vA x0), (1, vI x1), (2, vI x2), (3, vI x3)]) hO d_X1_deepestInDebt_16 (by decide) rfl ?_
      exact g_sub [2, 3, 4, 5, 1, 0] rfl (w_X1_deepestInDebt_18 hO _ ih _ _ _ _ _ _ _)
set_option maxRecDepth 20000 in
theorem w_X1_deepestInDebt {Γ : GC} {E : GE} (hO : gOk Γ E cX1_deepestInDebt RX1 6 rm_X1_deepestInDebt (some .int) "deepestInDebt") (x0 : Option Nat) (S : GS) : Go Γ E (gBpI Γ E S) 6 (0, 0) 0 S [(0, vA x0)] [] (f_X1_deepestInDebt x0 S) := by
  unfold f_X1_deepestInDebt
  refine g_iconst hO (-1) d_X1_deepestInDebt_0 (by decide) ?_
  refine g_istore_n (lv' := [(1, vI (-1)), (0, vA x0)]) hO d_X1_deepestInDebt_1 (by rfl) (by decide) rfl ?_
  refine g_iconst hO 0 d_X1_deepestInDebt_2 (by decide) ?_
  refine g_istore_n (lv' := [(2, vI 0), (1, vI (-1)), (0, vA x0)]) hO d_X1_deepestInDebt_3 (by rfl) (by decide) rfl ?_
  refine g_iconst hO 0 d_X1_deepestInDebt_4 (by decide) ?_
  refine g_istore_n (lv' := [(3, vI 0), (2, vI 0), (1, vI (-1)), (0, vA x0)]) hO d_X1_deepestInDebt_5 (by rfl) (by decide) rfl ?_
  exact g_sub [3, 2, 1, 0] rfl (w_X1_deepestInDebt_6 hO _ _ _ _ _ _)
theorem t_X1_deepestInDebt (l : Launch) (E : GE) (x0 : Option Nat) (S : GS) : ∀ a, f_X1_deepestInDebt x0 S = some a → Ct l E yX1_deepestInDebt cX1_deepestInDebt 6 (some .int) rm_X1_deepestInDebt [vA x0] S (some (vI a)) S :=
  Ct_of (val := fun b => some (vI b)) (nxt := fun _ => S) (by decide) (Nat.le_of_ble_eq_true rfl) (fun Γ hl hO => w_X1_deepestInDebt hO x0 S)
theorem d_X1_chainOf_0 : gD cX1_chainOf 0 (.aload_n 0) 1 1 := ⟨by decide +kernel, rfl⟩
theorem d_X1_chainOf_1 : gD cX1_chainOf 1 (.invokestatic 41) 3 4 := ⟨by decide +kernel, rfl⟩
theorem d_X1_chainOf_4 : gD cX1_chainOf 4 (.istore_n 1) 1 5 := ⟨by decide +kernel, rfl⟩
theorem d_X1_chainOf_5 : gD cX1_chainOf 5 (.iload_n 1) 1 6 := ⟨by decide +kernel, rfl⟩
theorem d_X1_chainOf_6 : gD cX1_chainOf 6 (.iconst (-1)) 1 7 := ⟨by decide +kernel, rfl⟩
theorem d_X1_chainOf_7 : gD cX1_chainOf 7 (.if_icmp .ne 7) 3 10 ∧ ((7 : Nat) : Int) + 7 = ((14 : Nat) : Int) := ⟨⟨by decide +kernel, rfl⟩, by decide⟩
theorem d_X1_chainOf_10 : gD cX1_chainOf 10 (.iconst 0) 1 11 := ⟨by decide +kernel, rfl⟩
theorem d_X1_chainOf_11 : decode cX1_chainOf 11 = .ok (.goto 6, 3) ∧ ((11 : Nat) : Int) + 6 = ((17 : Nat) : Int) := ⟨by decide +kernel, by decide⟩
theorem d_X1_chainOf_14 : gD cX1_chainOf 14 (.iconst 1) 1 15 := ⟨by decide +kernel, rfl⟩
theorem d_X1_chainOf_15 : gD cX1_chainOf 15 (.iload_n 1) 1 16 := ⟨by decide +kernel, rfl⟩
theorem d_X1_chainOf_16 : gD cX1_chainOf 16 (.ishl) 1 17 := ⟨by decide +kernel, rfl⟩
theorem d_X1_chainOf_17 : gD cX1_chainOf 17 (.istore_n 2) 1 18 := ⟨by decide +kernel, rfl⟩
theorem d_X1_chainOf_18 : gD cX1_chainOf 18 (.iconst 0) 1 19 := ⟨by decide +kernel, rfl⟩
theorem d_X1_chainOf_19 : gD cX1_chainOf 19 (.istore_n 3) 1 20 := ⟨by decide +kernel, rfl⟩
theorem d_X1_chainOf_20 : gD cX1_chainOf 20 (.iload_n 3) 1 21 := ⟨by decide +kernel, rfl⟩
theorem d_X1_chainOf_21 : gD cX1_chainOf 21 (.bipush 8) 2 23 := ⟨by decide +kernel, rfl⟩
theorem d_X1_chainOf_23 : gD cX1_chainOf 23 (.if_icmp .ge 54) 3 26 ∧ ((23 : Nat) : Int) + 54 = ((77 : Nat) : Int) := ⟨⟨by decide +kernel, rfl⟩, by decide⟩
theorem d_X1_chainOf_26 : gD cX1_chainOf 26 (.iconst 0) 1 27 := ⟨by decide +kernel, rfl⟩
theorem d_X1_chainOf_27 : gD cX1_chainOf 27 (.istore 4) 2 29 := ⟨by decide +kernel, rfl⟩
theorem d_X1_chainOf_29 : gD cX1_chainOf 29 (.iload 4) 2 31 := ⟨by decide +kernel, rfl⟩
theorem d_X1_chainOf_31 : gD cX1_chainOf 31 (.aload_n 0) 1 32 := ⟨by decide +kernel, rfl⟩
theorem d_X1_chainOf_32 : gD cX1_chainOf 32 (.getfield 18) 3 35 := ⟨by decide +kernel, rfl⟩
theorem d_X1_chainOf_35 : gD cX1_chainOf 35 (.if_icmp .ge 36) 3 38 ∧ ((35 : Nat) : Int) + 36 = ((71 : Nat) : Int) := ⟨⟨by decide +kernel, rfl⟩, by decide⟩
theorem d_X1_chainOf_38 : gD cX1_chainOf 38 (.iload_n 2) 1 39 := ⟨by decide +kernel, rfl⟩
theorem d_X1_chainOf_39 : gD cX1_chainOf 39 (.aload_n 0) 1 40 := ⟨by decide +kernel, rfl⟩
theorem d_X1_chainOf_40 : gD cX1_chainOf 40 (.iload 4) 2 42 := ⟨by decide +kernel, rfl⟩
theorem d_X1_chainOf_42 : gD cX1_chainOf 42 (.iconst 0) 1 43 := ⟨by decide +kernel, rfl⟩
theorem d_X1_chainOf_43 : gD cX1_chainOf 43 (.invokevirtual 24) 3 46 := ⟨by decide +kernel, rfl⟩
theorem d_X1_chainOf_46 : gD cX1_chainOf 46 (.ishr) 1 47 := ⟨by decide +kernel, rfl⟩
theorem d_X1_chainOf_47 : gD cX1_chainOf 47 (.iconst 1) 1 48 := ⟨by decide +kernel, rfl⟩
theorem d_X1_chainOf_48 : gD cX1_chainOf 48 (.iand) 1 49 := ⟨by decide +kernel, rfl⟩
theorem d_X1_chainOf_49 : gD cX1_chainOf 49 (.iconst 1) 1 50 := ⟨by decide +kernel, rfl⟩
theorem d_X1_chainOf_50 : gD cX1_chainOf 50 (.if_icmp .ne 15) 3 53 ∧ ((50 : Nat) : Int) + 15 = ((65 : Nat) : Int) := ⟨⟨by decide +kernel, rfl⟩, by decide⟩
theorem d_X1_chainOf_53 : gD cX1_chainOf 53 (.iload_n 2) 1 54 := ⟨by decide +kernel, rfl⟩
theorem d_X1_chainOf_54 : gD cX1_chainOf 54 (.iconst 1) 1 55 := ⟨by decide +kernel, rfl⟩
theorem d_X1_chainOf_55 : gD cX1_chainOf 55 (.aload_n 0) 1 56 := ⟨by decide +kernel, rfl⟩
theorem d_X1_chainOf_56 : gD cX1_chainOf 56 (.iload 4) 2 58 := ⟨by decide +kernel, rfl⟩
theorem d_X1_chainOf_58 : gD cX1_chainOf 58 (.iconst 1) 1 59 := ⟨by decide +kernel, rfl⟩
theorem d_X1_chainOf_59 : gD cX1_chainOf 59 (.invokevirtual 24) 3 62 := ⟨by decide +kernel, rfl⟩
theorem d_X1_chainOf_62 : gD cX1_chainOf 62 (.ishl) 1 63 := ⟨by decide +kernel, rfl⟩
theorem d_X1_chainOf_63 : gD cX1_chainOf 63 (.ior) 1 64 := ⟨by decide +kernel, rfl⟩
theorem d_X1_chainOf_64 : gD cX1_chainOf 64 (.istore_n 2) 1 65 := ⟨by decide +kernel, rfl⟩
theorem d_X1_chainOf_65 : gD cX1_chainOf 65 (.iinc 4 1) 3 68 := ⟨by decide +kernel, rfl⟩
theorem d_X1_chainOf_68 : decode cX1_chainOf 68 = .ok (.goto (-39), 3) ∧ ((68 : Nat) : Int) + (-39) = ((29 : Nat) : Int) := ⟨by decide +kernel, by decide⟩
theorem d_X1_chainOf_71 : gD cX1_chainOf 71 (.iinc 3 1) 3 74 := ⟨by decide +kernel, rfl⟩
theorem d_X1_chainOf_74 : decode cX1_chainOf 74 = .ok (.goto (-54), 3) ∧ ((74 : Nat) : Int) + (-54) = ((20 : Nat) : Int) := ⟨by decide +kernel, by decide⟩
theorem d_X1_chainOf_77 : gD cX1_chainOf 77 (.iload_n 2) 1 78 := ⟨by decide +kernel, rfl⟩
theorem d_X1_chainOf_78 : gD cX1_chainOf 78 (.ireturn) 1 79 := ⟨by decide +kernel, rfl⟩
abbrev rm_X1_chainOf : Room := { frames := 2, cells := 0, slots := 0, locals := 47 }
set_option maxRecDepth 20000 in
theorem w_X1_chainOf_65 {Γ : GC} {E : GE} (hO : gOk Γ E cX1_chainOf RX1 5 rm_X1_chainOf (some .int) "chainOf") (S : GS) {k20 : (Option Nat → Int32 → Int32 → Option Int32)} {k29 : (Option Nat → Int32 → Int32 → Int32 → Option Int32)} (hk20 : ∀ (z0 : Option Nat) (z2 : Int32) (z3 : Int32), Go Γ E (gBpI Γ E S) 5 (0, 0) 20 S [(0, vA z0), (2, vI z2), (3, vI z3)] [] (k20 z0 z2 z3)) (hk29 : ∀ (z0 : Option Nat) (z2 : Int32) (z3 : Int32) (z4 : Int32), Go Γ E (gBpI Γ E S) 5 (0, 0) 29 S [(0, vA z0), (2, vI z2), (3, vI z3), (4, vI z4)] [] (k29 z0 z2 z3 z4)) (x0 : Option Nat) (x2 : Int32) (x3 : Int32) (x4 : Int32) : Go Γ E (gBpI Γ E S) 5 (0, 0) 65 S [(0, vA x0), (2, vI x2), (3, vI x3), (4, vI x4)] [] (f_X1_chainOf_65 k20 k29 S x0 x2 x3 x4) := by
  unfold f_X1_chainOf_65
  refine g_iinc (lv' := [(4, vI (x4 + 1)), (0, vA x0), (2, vI x2), (3, vI x3)]) hO 1 d_X1_chainOf_65 (by decide) 3 rfl (by decide) rfl ?_
  refine g_goto (tgt := 29) hO d_X1_chainOf_68.1 d_X1_chainOf_68.2 ?_
  exact g_sub [1, 2, 3, 0] rfl (hk29 _ _ _ _)
set_option maxRecDepth 20000 in
theorem w_X1_chainOf_29 {Γ : GC} {E : GE} (hO : gOk Γ E cX1_chainOf RX1 5 rm_X1_chainOf (some .int) "chainOf") (S : GS) {k20 : (Option Nat → Int32 → Int32 → Option Int32)} (hk20 : ∀ (z0 : Option Nat) (z2 : Int32) (z3 : Int32), Go Γ E (gBpI Γ E S) 5 (0, 0) 20 S [(0, vA z0), (2, vI z2), (3, vI z3)] [] (k20 z0 z2 z3)) : ∀ (n : Nat) (x0 : Option Nat) (x2 : Int32) (x3 : Int32) (x4 : Int32), Go Γ E (gBpI Γ E S) 5 (0, 0) 29 S [(0, vA x0), (2, vI x2), (3, vI x3), (4, vI x4)] [] (f_X1_chainOf_29 k20 S n x0 x2 x3 x4) := by
  intro n
  induction n with
  | zero =>
    intro x0 x2 x3 x4
    exact g_none
  | succ n ih =>
    intro x0 x2 x3 x4
    rw [f_X1_chainOf_29]
    refine g_iload hO d_X1_chainOf_29 3 rfl ?_
    refine g_aload_n hO d_X1_chainOf_31 (by rfl) 0 rfl ?_
    refine h_getI hO cl_X7 3 rfl wf_X1_18 d_X1_chainOf_32 (fun v1 => ?_)
    refine g_ic_ge (tgt := 71) hO d_X1_chainOf_35.1 d_X1_chainOf_35.2 (fun _ => ?_) (fun _ => ?_)
    · skip
      refine g_iinc (lv' := [(3, vI (x3 + 1)), (0, vA x0), (2, vI x2), (4, vI x4)]) hO 1 d_X1_chainOf_71 (by decide) 2 rfl (by decide) rfl ?_
      refine g_goto (tgt := 20) hO d_X1_chainOf_74.1 d_X1_chainOf_74.2 ?_
      exact g_sub [1, 2, 0] rfl (hk20 _ _ _)
    · skip
      refine g_iload_n hO d_X1_chainOf_38 (by rfl) 1 rfl ?_
      refine g_aload_n hO d_X1_chainOf_39 (by rfl) 0 rfl ?_
      refine g_iload hO d_X1_chainOf_40 3 rfl ?_
      refine g_iconst hO 0 d_X1_chainOf_42 (by decide) ?_
      refine k_virtIp hO cl_X7 mm_X7_cell lkV_X1_24 ⟨⟨Nat.le_of_ble_eq_true rfl, Nat.le_of_ble_eq_true rfl⟩, Nat.le_of_ble_eq_true rfl, Nat.le_of_ble_eq_true rfl⟩ (kn' := (0, 0)) rfl (As := [vI x4, vI 0]) rfl (Nat.le_of_ble_eq_true rfl) (fun o' _ => t_X7_cell Γ.2.1 E o' x4 0 S) d_X1_chainOf_43 rfl (fun v2 => ?_)
      refine g_ishr hO d_X1_chainOf_46 ?_
      refine g_iconst hO 1 d_X1_chainOf_47 (by decide) ?_
      refine g_iand hO d_X1_chainOf_48 ?_
      refine g_iconst hO 1 d_X1_chainOf_49 (by decide) ?_
      refine g_ic_ne (tgt := 65) hO d_X1_chainOf_50.1 d_X1_chainOf_50.2 (fun _ => ?_) (fun _ => ?_)
      · skip
        refine g_iload_n hO d_X1_chainOf_53 (by rfl) 1 rfl ?_
        refine g_iconst hO 1 d_X1_chainOf_54 (by decide) ?_
        refine g_aload_n hO d_X1_chainOf_55 (by rfl) 0 rfl ?_
        refine g_iload hO d_X1_chainOf_56 3 rfl ?_
        refine g_iconst hO 1 d_X1_chainOf_58 (by decide) ?_
        refine k_virtIp hO cl_X7 mm_X7_cell lkV_X1_24 ⟨⟨Nat.le_of_ble_eq_true rfl, Nat.le_of_ble_eq_true rfl⟩, Nat.le_of_ble_eq_true rfl, Nat.le_of_ble_eq_true rfl⟩ (kn' := (0, 0)) rfl (As := [vI x4, vI 1]) rfl (Nat.le_of_ble_eq_true rfl) (fun o' _ => t_X7_cell Γ.2.1 E o' x4 1 S) d_X1_chainOf_59 rfl (fun v4 => ?_)
        refine g_ishl hO d_X1_chainOf_62 ?_
        refine g_ior hO d_X1_chainOf_63 ?_
        refine g_istore_n (lv' := [(2, vI (x2 ||| (jshl 1 v4))), (0, vA x0), (3, vI x3), (4, vI x4)]) hO d_X1_chainOf_64 (by rfl) (by decide) rfl ?_
        exact g_sub [1, 0, 2, 3] rfl (w_X1_chainOf_65 hO _ hk20 ih _ _ _ _)
      · skip
        exact g_sub [0, 1, 2, 3] rfl (w_X1_chainOf_65 hO _ hk20 ih _ _ _ _)
set_option maxRecDepth 20000 in
theorem w_X1_chainOf_20 {Γ : GC} {E : GE} (hO : gOk Γ E cX1_chainOf RX1 5 rm_X1_chainOf (some .int) "chainOf") (S : GS) : ∀ (n : Nat) (x0 : Option Nat) (x2 : Int32) (x3 : Int32), Go Γ E (gBpI Γ E S) 5 (0, 0) 20 S [(0, vA x0), (2, vI x2), (3, vI x3)] [] (f_X1_chainOf_20 S n x0 x2 x3) := by
  intro n
  induction n with
  | zero =>
    intro x0 x2 x3
    exact g_none
  | succ n ih =>
    intro x0 x2 x3
    rw [f_X1_chainOf_20]
    refine g_iload_n hO d_X1_chainOf_20 (by rfl) 2 rfl ?_
    refine g_bipush hO 8 d_X1_chainOf_21 (by decide) ?_
    refine g_ic_ge (tgt := 77) hO d_X1_chainOf_23.1 d_X1_chainOf_23.2 (fun _ => ?_) (fun _ => ?_)
    · skip
      refine g_iload_n hO d_X1_chainOf_77 (by rfl) 1 rfl ?_
      exact g_ret hO rfl rfl ⟨Nat.le_of_ble_eq_true rfl, Nat.le_of_ble_eq_true rfl⟩ rfl rfl d_X1_chainOf_78.1
    · skip
      refine g_iconst hO 0 d_X1_chainOf_26 (by decide) ?_
      refine g_istore (lv' := [(4, vI 0), (0, vA x0), (2, vI x2), (3, vI x3)]) hO d_X1_chainOf_27 (by decide) rfl ?_
      exact g_sub [1, 2, 3, 0] rfl (w_X1_chainOf_29 hO _ ih _ _ _ _ _)
set_option maxRecDepth 20000 in
theorem w_X1_chainOf_17 {Γ : GC} {E : GE} (hO : gOk Γ E cX1_chainOf RX1 5 rm_X1_chainOf (some .int) "chainOf") (S : GS) (x0 : Option Nat) (y0 : Int32) : Go Γ E (gBpI Γ E S) 5 (0, 0) 17 S [(0, vA x0)] [vI y0] (f_X1_chainOf_17 S x0 y0) := by
  unfold f_X1_chainOf_17
  refine g_istore_n (lv' := [(2, vI y0), (0, vA x0)]) hO d_X1_chainOf_17 (by rfl) (by decide) rfl ?_
  refine g_iconst hO 0 d_X1_chainOf_18 (by decide) ?_
  refine g_istore_n (lv' := [(3, vI 0), (2, vI y0), (0, vA x0)]) hO d_X1_chainOf_19 (by rfl) (by decide) rfl ?_
  exact g_sub [2, 1, 0] rfl (w_X1_chainOf_20 hO _ _ _ _ _)
set_option maxRecDepth 20000 in
theorem w_X1_chainOf {Γ : GC} {E : GE} (hO : gOk Γ E cX1_chainOf RX1 5 rm_X1_chainOf (some .int) "chainOf") (x0 : Option Nat) (S : GS) : Go Γ E (gBpI Γ E S) 5 (0, 0) 0 S [(0, vA x0)] [] (f_X1_chainOf x0 S) := by
  unfold f_X1_chainOf
  refine g_aload_n hO d_X1_chainOf_0 (by rfl) 0 rfl ?_
  refine k_statIp hO mm_X1_deepestInDebt lkS_X1_41 ⟨⟨Nat.le_of_ble_eq_true rfl, Nat.le_of_ble_eq_true rfl⟩, Nat.le_of_ble_eq_true rfl, Nat.le_of_ble_eq_true rfl⟩ (kn' := (0, 0)) rfl (As := [vA x0]) rfl (Nat.le_of_ble_eq_true rfl) (t_X1_deepestInDebt Γ.2.1 E x0 S) d_X1_chainOf_1 rfl (fun v1 => ?_)
  refine g_istore_n (lv' := [(1, vI v1), (0, vA x0)]) hO d_X1_chainOf_4 (by rfl) (by decide) rfl ?_
  refine g_iload_n hO d_X1_chainOf_5 (by rfl) 0 rfl ?_
  refine g_iconst hO (-1) d_X1_chainOf_6 (by decide) ?_
  refine g_ic_ne (tgt := 14) hO d_X1_chainOf_7.1 d_X1_chainOf_7.2 (fun _ => ?_) (fun _ => ?_)
  · skip
    refine g_iconst hO 0 d_X1_chainOf_10 (by decide) ?_
    refine g_goto (tgt := 17) hO d_X1_chainOf_11.1 d_X1_chainOf_11.2 ?_
    exact g_sub [1] rfl (w_X1_chainOf_17 hO _ _ _)
  · skip
    refine g_iconst hO 1 d_X1_chainOf_14 (by decide) ?_
    refine g_iload_n hO d_X1_chainOf_15 (by rfl) 0 rfl ?_
    refine g_ishl hO d_X1_chainOf_16 ?_
    exact g_sub [1] rfl (w_X1_chainOf_17 hO _ _ _)
theorem t_X1_chainOf (l : Launch) (E : GE) (x0 : Option Nat) (S : GS) : ∀ a, f_X1_chainOf x0 S = some a → Ct l E yX1_chainOf cX1_chainOf 5 (some .int) rm_X1_chainOf [vA x0] S (some (vI a)) S :=
  Ct_of (val := fun b => some (vI b)) (nxt := fun _ => S) (by decide) (Nat.le_of_ble_eq_true rfl) (fun Γ hl hO => w_X1_chainOf hO x0 S)
theorem d_X2_init_0 : gD cX2_init 0 (.aload_n 0) 1 1 := ⟨by decide +kernel, rfl⟩
theorem d_X2_init_1 : gD cX2_init 1 (.invokespecial 3) 3 4 := ⟨by decide +kernel, rfl⟩
theorem d_X2_init_4 : gD cX2_init 4 (.aload_n 0) 1 5 := ⟨by decide +kernel, rfl⟩
theorem d_X2_init_5 : gD cX2_init 5 (.iconst 4) 1 6 := ⟨by decide +kernel, rfl⟩
theorem d_X2_init_6 : gD cX2_init 6 (.newarray .int) 2 8 := ⟨by decide +kernel, rfl⟩
theorem d_X2_init_8 : gD cX2_init 8 (.putfield 9) 3 11 := ⟨by decide +kernel, rfl⟩
theorem d_X2_init_11 : gD cX2_init 11 (.aload_n 0) 1 12 := ⟨by decide +kernel, rfl⟩
theorem d_X2_init_12 : gD cX2_init 12 (.iconst 4) 1 13 := ⟨by decide +kernel, rfl⟩
theorem d_X2_init_13 : gD cX2_init 13 (.newarray .boolean) 2 15 := ⟨by decide +kernel, rfl⟩
theorem d_X2_init_15 : gD cX2_init 15 (.putfield 15) 3 18 := ⟨by decide +kernel, rfl⟩
theorem d_X2_init_18 : gD cX2_init 18 (.aload_n 0) 1 19 := ⟨by decide +kernel, rfl⟩
theorem d_X2_init_19 : gD cX2_init 19 (.bipush 8) 2 21 := ⟨by decide +kernel, rfl⟩
theorem d_X2_init_21 : gD cX2_init 21 (.newarray .int) 2 23 := ⟨by decide +kernel, rfl⟩
theorem d_X2_init_23 : gD cX2_init 23 (.putfield 19) 3 26 := ⟨by decide +kernel, rfl⟩
theorem d_X2_init_26 : gD cX2_init 26 (.aload_n 0) 1 27 := ⟨by decide +kernel, rfl⟩
theorem d_X2_init_27 : gD cX2_init 27 (.bipush 8) 2 29 := ⟨by decide +kernel, rfl⟩
theorem d_X2_init_29 : gD cX2_init 29 (.newarray .int) 2 31 := ⟨by decide +kernel, rfl⟩
theorem d_X2_init_31 : gD cX2_init 31 (.putfield 22) 3 34 := ⟨by decide +kernel, rfl⟩
theorem d_X2_init_34 : gD cX2_init 34 (.aload_n 0) 1 35 := ⟨by decide +kernel, rfl⟩
theorem d_X2_init_35 : gD cX2_init 35 (.bipush 8) 2 37 := ⟨by decide +kernel, rfl⟩
theorem d_X2_init_37 : gD cX2_init 37 (.newarray .int) 2 39 := ⟨by decide +kernel, rfl⟩
theorem d_X2_init_39 : gD cX2_init 39 (.putfield 25) 3 42 := ⟨by decide +kernel, rfl⟩
theorem d_X2_init_42 : gD cX2_init 42 (.aload_n 0) 1 43 := ⟨by decide +kernel, rfl⟩
theorem d_X2_init_43 : gD cX2_init 43 (.bipush 8) 2 45 := ⟨by decide +kernel, rfl⟩
theorem d_X2_init_45 : gD cX2_init 45 (.newarray .boolean) 2 47 := ⟨by decide +kernel, rfl⟩
theorem d_X2_init_47 : gD cX2_init 47 (.putfield 28) 3 50 := ⟨by decide +kernel, rfl⟩
theorem d_X2_init_50 : gD cX2_init 50 (.aload_n 0) 1 51 := ⟨by decide +kernel, rfl⟩
theorem d_X2_init_51 : gD cX2_init 51 (.bipush 8) 2 53 := ⟨by decide +kernel, rfl⟩
theorem d_X2_init_53 : gD cX2_init 53 (.newarray .int) 2 55 := ⟨by decide +kernel, rfl⟩
theorem d_X2_init_55 : gD cX2_init 55 (.putfield 31) 3 58 := ⟨by decide +kernel, rfl⟩
theorem d_X2_init_58 : gD cX2_init 58 (.aload_n 0) 1 59 := ⟨by decide +kernel, rfl⟩
theorem d_X2_init_59 : gD cX2_init 59 (.bipush 8) 2 61 := ⟨by decide +kernel, rfl⟩
theorem d_X2_init_61 : gD cX2_init 61 (.newarray .int) 2 63 := ⟨by decide +kernel, rfl⟩
theorem d_X2_init_63 : gD cX2_init 63 (.putfield 34) 3 66 := ⟨by decide +kernel, rfl⟩
theorem d_X2_init_66 : gD cX2_init 66 (.aload_n 0) 1 67 := ⟨by decide +kernel, rfl⟩
theorem d_X2_init_67 : gD cX2_init 67 (.new 37) 3 70 := ⟨by decide +kernel, rfl⟩
theorem d_X2_init_70 : gD cX2_init 70 (.dup) 1 71 := ⟨by decide +kernel, rfl⟩
theorem d_X2_init_71 : gD cX2_init 71 (.invokespecial 39) 3 74 := ⟨by decide +kernel, rfl⟩
theorem d_X2_init_74 : gD cX2_init 74 (.putfield 40) 3 77 := ⟨by decide +kernel, rfl⟩
theorem d_X2_init_77 : gD cX2_init 77 (.return_) 1 78 := ⟨by decide +kernel, rfl⟩
abbrev rm_X2_init : Room := { frames := 3, cells := 16, slots := 138, locals := 54 }
set_option maxRecDepth 20000 in
theorem w_X2_init {Γ : GC} {E : GE} (hO : gOk Γ E cX2_init RX2 1 rm_X2_init none "<init>") (o : Nat) (S : GS) : Go Γ E (gBsV Γ E) 1 (0, 0) 0 S [(0, vA (some o))] [] (f_X2_init o S) := by
  unfold f_X2_init
  refine g_aload_n hO d_X2_init_0 (by rfl) 0 rfl ?_
  refine g_oinit hO wm_X2_3 wn_obj wc_obj (Nat.le_of_ble_eq_true rfl) (Nat.le_of_ble_eq_true rfl) (fun h => nomatch h) d_X2_init_1 ?_
  refine g_aload_n hO d_X2_init_4 (by rfl) 0 rfl ?_
  refine g_iconst hO 4 d_X2_init_5 (by decide) ?_
  refine h_na hO 14 (by decide) rfl wac_14 (4) (by decide) (kn' := (1, 4)) rfl ⟨by decide, by decide⟩ d_X2_init_6 (fun v1 S2 => ?_)
  refine h_putR hO cl_X2 0 rfl (ty := .array .int) (by decide +kernel) (Or.inr ⟨_, rfl⟩) wf_X2_9 (Or.inr ⟨rfl, rfl, rfl⟩) d_X2_init_8 (fun S3 => ?_)
  refine g_aload_n hO d_X2_init_11 (by rfl) 0 rfl ?_
  refine g_iconst hO 4 d_X2_init_12 (by decide) ?_
  refine h_na hO 16 (by decide) rfl wac_16 (4) (by decide) (kn' := (2, 8)) rfl ⟨by decide, by decide⟩ d_X2_init_13 (fun v4 S5 => ?_)
  refine h_putR hO cl_X2 1 rfl (ty := .array .boolean) (by decide +kernel) (Or.inr ⟨_, rfl⟩) wf_X2_15 (Or.inr ⟨rfl, rfl, rfl⟩) d_X2_init_15 (fun S6 => ?_)
  refine g_aload_n hO d_X2_init_18 (by rfl) 0 rfl ?_
  refine g_bipush hO 8 d_X2_init_19 (by decide) ?_
  refine h_na hO 14 (by decide) rfl wac_14 (8) (by decide) (kn' := (3, 16)) rfl ⟨by decide, by decide⟩ d_X2_init_21 (fun v7 S8 => ?_)
  refine h_putR hO cl_X2 2 rfl (ty := .array .int) (by decide +kernel) (Or.inr ⟨_, rfl⟩) wf_X2_19 (Or.inr ⟨rfl, rfl, rfl⟩) d_X2_init_23 (fun S9 => ?_)
  refine g_aload_n hO d_X2_init_26 (by rfl) 0 rfl ?_
  refine g_bipush hO 8 d_X2_init_27 (by decide) ?_
  refine h_na hO 14 (by decide) rfl wac_14 (8) (by decide) (kn' := (4, 24)) rfl ⟨by decide, by decide⟩ d_X2_init_29 (fun v10 S11 => ?_)
  refine h_putR hO cl_X2 3 rfl (ty := .array .int) (by decide +kernel) (Or.inr ⟨_, rfl⟩) wf_X2_22 (Or.inr ⟨rfl, rfl, rfl⟩) d_X2_init_31 (fun S12 => ?_)
  refine g_aload_n hO d_X2_init_34 (by rfl) 0 rfl ?_
  refine g_bipush hO 8 d_X2_init_35 (by decide) ?_
  refine h_na hO 14 (by decide) rfl wac_14 (8) (by decide) (kn' := (5, 32)) rfl ⟨by decide, by decide⟩ d_X2_init_37 (fun v13 S14 => ?_)
  refine h_putR hO cl_X2 4 rfl (ty := .array .int) (by decide +kernel) (Or.inr ⟨_, rfl⟩) wf_X2_25 (Or.inr ⟨rfl, rfl, rfl⟩) d_X2_init_39 (fun S15 => ?_)
  refine g_aload_n hO d_X2_init_42 (by rfl) 0 rfl ?_
  refine g_bipush hO 8 d_X2_init_43 (by decide) ?_
  refine h_na hO 16 (by decide) rfl wac_16 (8) (by decide) (kn' := (6, 40)) rfl ⟨by decide, by decide⟩ d_X2_init_45 (fun v16 S17 => ?_)
  refine h_putR hO cl_X2 5 rfl (ty := .array .boolean) (by decide +kernel) (Or.inr ⟨_, rfl⟩) wf_X2_28 (Or.inr ⟨rfl, rfl, rfl⟩) d_X2_init_47 (fun S18 => ?_)
  refine g_aload_n hO d_X2_init_50 (by rfl) 0 rfl ?_
  refine g_bipush hO 8 d_X2_init_51 (by decide) ?_
  refine h_na hO 14 (by decide) rfl wac_14 (8) (by decide) (kn' := (7, 48)) rfl ⟨by decide, by decide⟩ d_X2_init_53 (fun v19 S20 => ?_)
  refine h_putR hO cl_X2 6 rfl (ty := .array .int) (by decide +kernel) (Or.inr ⟨_, rfl⟩) wf_X2_31 (Or.inr ⟨rfl, rfl, rfl⟩) d_X2_init_55 (fun S21 => ?_)
  refine g_aload_n hO d_X2_init_58 (by rfl) 0 rfl ?_
  refine g_bipush hO 8 d_X2_init_59 (by decide) ?_
  refine h_na hO 14 (by decide) rfl wac_14 (8) (by decide) (kn' := (8, 56)) rfl ⟨by decide, by decide⟩ d_X2_init_61 (fun v22 S23 => ?_)
  refine h_putR hO cl_X2 7 rfl (ty := .array .int) (by decide +kernel) (Or.inr ⟨_, rfl⟩) wf_X2_34 (Or.inr ⟨rfl, rfl, rfl⟩) d_X2_init_63 (fun S24 => ?_)
  refine g_aload_n hO d_X2_init_66 (by rfl) 0 rfl ?_
  refine h_new hO cl_X0 tyX0 tyX0_ok dv_X0 wcl_X2_37 wins_X0 wi_X0 (kn' := (9, 63)) rfl ⟨by decide, by decide⟩ d_X2_init_67 (fun v25 S26 => ?_)
  refine g_dup hO d_X2_init_70 rfl ?_
  refine k_initN hO mm_X0_init lkIN_X2_39 ⟨⟨by decide, by decide⟩, by decide +kernel, by decide +kernel⟩ (kn' := (16, 138)) (by decide +kernel) (As := []) rfl (Nat.le_of_ble_eq_true rfl) (fun o' _ => t_X0_init Γ.2.1 E o' S26) d_X2_init_71 rfl (fun S27 => ?_)
  refine h_putR hO cl_X2 8 rfl (ty := .object "GlassLaces$Court") (by decide +kernel) (Or.inl ⟨_, rfl⟩) wf_X2_40 (Or.inl rfl) d_X2_init_74 (fun S28 => ?_)
  exact g_vret hO rfl ⟨Nat.le_of_ble_eq_true rfl, Nat.le_of_ble_eq_true rfl⟩ rfl rfl d_X2_init_77.1
theorem t_X2_init (l : Launch) (E : GE) (o : Nat) (S : GS) : ∀ a, f_X2_init o S = some a → Ct l E yX2_init cX2_init 1 none rm_X2_init [vA (some o)] S none a :=
  Ct_of (val := fun _ => none) (nxt := fun b => b) (by decide) (Nat.le_of_ble_eq_true rfl) (fun Γ hl hO => w_X2_init hO o S)
