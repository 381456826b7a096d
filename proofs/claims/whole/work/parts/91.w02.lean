theorem d_X3_init_0 : gD cX3_init 0 (.aload_n 0) 1 1 := ⟨by decide +kernel, rfl⟩
theorem d_X3_init_1 : gD cX3_init 1 (.invokespecial 3) 3 4 := ⟨by decide +kernel, rfl⟩
theorem d_X3_init_4 : gD cX3_init 4 (.aload_n 0) 1 5 := ⟨by decide +kernel, rfl⟩
theorem d_X3_init_5 : gD cX3_init 5 (.bipush 17) 2 7 := ⟨by decide +kernel, rfl⟩
theorem d_X3_init_7 : gD cX3_init 7 (.bipush 31) 2 9 := ⟨by decide +kernel, rfl⟩
theorem d_X3_init_9 : gD cX3_init 9 (.multianewarray 9 2) 4 13 := ⟨by decide +kernel, rfl⟩
theorem d_X3_init_13 : gD cX3_init 13 (.putfield 11) 3 16 := ⟨by decide +kernel, rfl⟩
theorem d_X3_init_16 : gD cX3_init 16 (.aload_n 0) 1 17 := ⟨by decide +kernel, rfl⟩
theorem d_X3_init_17 : gD cX3_init 17 (.sipush 527) 3 20 := ⟨by decide +kernel, rfl⟩
theorem d_X3_init_20 : gD cX3_init 20 (.newarray .boolean) 2 22 := ⟨by decide +kernel, rfl⟩
theorem d_X3_init_22 : gD cX3_init 22 (.putfield 16) 3 25 := ⟨by decide +kernel, rfl⟩
theorem d_X3_init_25 : gD cX3_init 25 (.aload_n 0) 1 26 := ⟨by decide +kernel, rfl⟩
theorem d_X3_init_26 : gD cX3_init 26 (.bipush 8) 2 28 := ⟨by decide +kernel, rfl⟩
theorem d_X3_init_28 : gD cX3_init 28 (.newarray .int) 2 30 := ⟨by decide +kernel, rfl⟩
theorem d_X3_init_30 : gD cX3_init 30 (.putfield 20) 3 33 := ⟨by decide +kernel, rfl⟩
theorem d_X3_init_33 : gD cX3_init 33 (.return_) 1 34 := ⟨by decide +kernel, rfl⟩
abbrev rm_X3_init : Room := { frames := 1, cells := 20, slots := 1079, locals := 12 }
set_option maxRecDepth 20000 in
theorem w_X3_init {Γ : GC} {E : GE} (hO : gOk Γ E cX3_init RX3 1 rm_X3_init none "<init>") (o : Nat) (S : GS) : Go Γ E (gBsV Γ E) 1 (0, 0) 0 S [(0, vA (some o))] [] (f_X3_init o S) := by
  unfold f_X3_init
  refine g_aload_n hO d_X3_init_0 (by rfl) 0 rfl ?_
  refine g_oinit hO wm_X3_3 wn_obj wc_obj (Nat.le_of_ble_eq_true rfl) (Nat.le_of_ble_eq_true rfl) (fun h => nomatch h) d_X3_init_1 ?_
  refine g_aload_n hO d_X3_init_4 (by rfl) 0 rfl ?_
  refine g_bipush hO 17 d_X3_init_5 (by decide) ?_
  refine g_bipush hO 31 d_X3_init_7 (by decide) ?_
  refine h_mna hO wcl_X3_9 wac_14 17 31 (by decide) (by decide) (by decide) (by decide) (kn' := (18, 544)) rfl ⟨by decide, by decide⟩ ⟨by decide, by decide⟩ d_X3_init_9 (fun v1 S2 => ?_)
  refine h_putR hO cl_X3 0 rfl (ty := .array (.array .int)) (by decide +kernel) (Or.inr ⟨_, rfl⟩) wf_X3_11 (Or.inr ⟨rfl, rfl, rfl⟩) d_X3_init_13 (fun S3 => ?_)
  refine g_aload_n hO d_X3_init_16 (by rfl) 0 rfl ?_
  refine g_sipush hO 527 d_X3_init_17 (by decide) ?_
  refine h_na hO 16 (by decide) rfl wac_16 (527) (by decide) (kn' := (19, 1071)) rfl ⟨by decide, by decide⟩ d_X3_init_20 (fun v4 S5 => ?_)
  refine h_putR hO cl_X3 1 rfl (ty := .array .boolean) (by decide +kernel) (Or.inr ⟨_, rfl⟩) wf_X3_16 (Or.inr ⟨rfl, rfl, rfl⟩) d_X3_init_22 (fun S6 => ?_)
  refine g_aload_n hO d_X3_init_25 (by rfl) 0 rfl ?_
  refine g_bipush hO 8 d_X3_init_26 (by decide) ?_
  refine h_na hO 14 (by decide) rfl wac_14 (8) (by decide) (kn' := (20, 1079)) rfl ⟨by decide, by decide⟩ d_X3_init_28 (fun v7 S8 => ?_)
  refine h_putR hO cl_X3 2 rfl (ty := .array .int) (by decide +kernel) (Or.inr ⟨_, rfl⟩) wf_X3_20 (Or.inr ⟨rfl, rfl, rfl⟩) d_X3_init_30 (fun S9 => ?_)
  exact g_vret hO rfl ⟨Nat.le_of_ble_eq_true rfl, Nat.le_of_ble_eq_true rfl⟩ rfl rfl d_X3_init_33.1
theorem t_X3_init (l : Launch) (E : GE) (o : Nat) (S : GS) : ∀ a, f_X3_init o S = some a → Ct l E yX3_init cX3_init 1 none rm_X3_init [vA (some o)] S none a :=
  Ct_of (val := fun _ => none) (nxt := fun b => b) (by decide) (Nat.le_of_ble_eq_true rfl) (fun Γ hl hO => w_X3_init hO o S)
theorem d_X3_spreadKnots_0 : gD cX3_spreadKnots 0 (.iconst 1) 1 1 := ⟨by decide +kernel, rfl⟩
theorem d_X3_spreadKnots_1 : gD cX3_spreadKnots 1 (.istore_n 2) 1 2 := ⟨by decide +kernel, rfl⟩
theorem d_X3_spreadKnots_2 : gD cX3_spreadKnots 2 (.iload_n 2) 1 3 := ⟨by decide +kernel, rfl⟩
theorem d_X3_spreadKnots_3 : gD cX3_spreadKnots 3 (.bipush 30) 2 5 := ⟨by decide +kernel, rfl⟩
theorem d_X3_spreadKnots_5 : gD cX3_spreadKnots 5 (.if_icmp .gt 40) 3 8 ∧ ((5 : Nat) : Int) + 40 = ((45 : Nat) : Int) := ⟨⟨by decide +kernel, rfl⟩, by decide⟩
theorem d_X3_spreadKnots_8 : gD cX3_spreadKnots 8 (.aload_n 0) 1 9 := ⟨by decide +kernel, rfl⟩
theorem d_X3_spreadKnots_9 : gD cX3_spreadKnots 9 (.getfield 11) 3 12 := ⟨by decide +kernel, rfl⟩
theorem d_X3_spreadKnots_12 : gD cX3_spreadKnots 12 (.iload_n 1) 1 13 := ⟨by decide +kernel, rfl⟩
theorem d_X3_spreadKnots_13 : gD cX3_spreadKnots 13 (.aaload) 1 14 := ⟨by decide +kernel, rfl⟩
theorem d_X3_spreadKnots_14 : gD cX3_spreadKnots 14 (.iload_n 2) 1 15 := ⟨by decide +kernel, rfl⟩
theorem d_X3_spreadKnots_15 : gD cX3_spreadKnots 15 (.aload_n 0) 1 16 := ⟨by decide +kernel, rfl⟩
theorem d_X3_spreadKnots_16 : gD cX3_spreadKnots 16 (.getfield 11) 3 19 := ⟨by decide +kernel, rfl⟩
theorem d_X3_spreadKnots_19 : gD cX3_spreadKnots 19 (.iload_n 1) 1 20 := ⟨by decide +kernel, rfl⟩
theorem d_X3_spreadKnots_20 : gD cX3_spreadKnots 20 (.aaload) 1 21 := ⟨by decide +kernel, rfl⟩
theorem d_X3_spreadKnots_21 : gD cX3_spreadKnots 21 (.iload_n 2) 1 22 := ⟨by decide +kernel, rfl⟩
theorem d_X3_spreadKnots_22 : gD cX3_spreadKnots 22 (.iaload) 1 23 := ⟨by decide +kernel, rfl⟩
theorem d_X3_spreadKnots_23 : gD cX3_spreadKnots 23 (.aload_n 0) 1 24 := ⟨by decide +kernel, rfl⟩
theorem d_X3_spreadKnots_24 : gD cX3_spreadKnots 24 (.getfield 11) 3 27 := ⟨by decide +kernel, rfl⟩
theorem d_X3_spreadKnots_27 : gD cX3_spreadKnots 27 (.iload_n 1) 1 28 := ⟨by decide +kernel, rfl⟩
theorem d_X3_spreadKnots_28 : gD cX3_spreadKnots 28 (.aaload) 1 29 := ⟨by decide +kernel, rfl⟩
theorem d_X3_spreadKnots_29 : gD cX3_spreadKnots 29 (.iload_n 2) 1 30 := ⟨by decide +kernel, rfl⟩
theorem d_X3_spreadKnots_30 : gD cX3_spreadKnots 30 (.iconst 1) 1 31 := ⟨by decide +kernel, rfl⟩
theorem d_X3_spreadKnots_31 : gD cX3_spreadKnots 31 (.isub) 1 32 := ⟨by decide +kernel, rfl⟩
theorem d_X3_spreadKnots_32 : gD cX3_spreadKnots 32 (.iaload) 1 33 := ⟨by decide +kernel, rfl⟩
theorem d_X3_spreadKnots_33 : gD cX3_spreadKnots 33 (.iconst 1) 1 34 := ⟨by decide +kernel, rfl⟩
theorem d_X3_spreadKnots_34 : gD cX3_spreadKnots 34 (.iadd) 1 35 := ⟨by decide +kernel, rfl⟩
theorem d_X3_spreadKnots_35 : gD cX3_spreadKnots 35 (.invokestatic 43) 3 38 := ⟨by decide +kernel, rfl⟩
theorem d_X3_spreadKnots_38 : gD cX3_spreadKnots 38 (.iastore) 1 39 := ⟨by decide +kernel, rfl⟩
theorem d_X3_spreadKnots_39 : gD cX3_spreadKnots 39 (.iinc 2 1) 3 42 := ⟨by decide +kernel, rfl⟩
theorem d_X3_spreadKnots_42 : decode cX3_spreadKnots 42 = .ok (.goto (-40), 3) ∧ ((42 : Nat) : Int) + (-40) = ((2 : Nat) : Int) := ⟨by decide +kernel, by decide⟩
theorem d_X3_spreadKnots_45 : gD cX3_spreadKnots 45 (.bipush 29) 2 47 := ⟨by decide +kernel, rfl⟩
theorem d_X3_spreadKnots_47 : gD cX3_spreadKnots 47 (.istore_n 2) 1 48 := ⟨by decide +kernel, rfl⟩
theorem d_X3_spreadKnots_48 : gD cX3_spreadKnots 48 (.iload_n 2) 1 49 := ⟨by decide +kernel, rfl⟩
theorem d_X3_spreadKnots_49 : gD cX3_spreadKnots 49 (.ifCond .lt 40) 3 52 ∧ ((49 : Nat) : Int) + 40 = ((89 : Nat) : Int) := ⟨⟨by decide +kernel, rfl⟩, by decide⟩
theorem d_X3_spreadKnots_52 : gD cX3_spreadKnots 52 (.aload_n 0) 1 53 := ⟨by decide +kernel, rfl⟩
theorem d_X3_spreadKnots_53 : gD cX3_spreadKnots 53 (.getfield 11) 3 56 := ⟨by decide +kernel, rfl⟩
theorem d_X3_spreadKnots_56 : gD cX3_spreadKnots 56 (.iload_n 1) 1 57 := ⟨by decide +kernel, rfl⟩
theorem d_X3_spreadKnots_57 : gD cX3_spreadKnots 57 (.aaload) 1 58 := ⟨by decide +kernel, rfl⟩
theorem d_X3_spreadKnots_58 : gD cX3_spreadKnots 58 (.iload_n 2) 1 59 := ⟨by decide +kernel, rfl⟩
theorem d_X3_spreadKnots_59 : gD cX3_spreadKnots 59 (.aload_n 0) 1 60 := ⟨by decide +kernel, rfl⟩
theorem d_X3_spreadKnots_60 : gD cX3_spreadKnots 60 (.getfield 11) 3 63 := ⟨by decide +kernel, rfl⟩
theorem d_X3_spreadKnots_63 : gD cX3_spreadKnots 63 (.iload_n 1) 1 64 := ⟨by decide +kernel, rfl⟩
theorem d_X3_spreadKnots_64 : gD cX3_spreadKnots 64 (.aaload) 1 65 := ⟨by decide +kernel, rfl⟩
theorem d_X3_spreadKnots_65 : gD cX3_spreadKnots 65 (.iload_n 2) 1 66 := ⟨by decide +kernel, rfl⟩
theorem d_X3_spreadKnots_66 : gD cX3_spreadKnots 66 (.iaload) 1 67 := ⟨by decide +kernel, rfl⟩
theorem d_X3_spreadKnots_67 : gD cX3_spreadKnots 67 (.aload_n 0) 1 68 := ⟨by decide +kernel, rfl⟩
theorem d_X3_spreadKnots_68 : gD cX3_spreadKnots 68 (.getfield 11) 3 71 := ⟨by decide +kernel, rfl⟩
theorem d_X3_spreadKnots_71 : gD cX3_spreadKnots 71 (.iload_n 1) 1 72 := ⟨by decide +kernel, rfl⟩
theorem d_X3_spreadKnots_72 : gD cX3_spreadKnots 72 (.aaload) 1 73 := ⟨by decide +kernel, rfl⟩
theorem d_X3_spreadKnots_73 : gD cX3_spreadKnots 73 (.iload_n 2) 1 74 := ⟨by decide +kernel, rfl⟩
theorem d_X3_spreadKnots_74 : gD cX3_spreadKnots 74 (.iconst 1) 1 75 := ⟨by decide +kernel, rfl⟩
theorem d_X3_spreadKnots_75 : gD cX3_spreadKnots 75 (.iadd) 1 76 := ⟨by decide +kernel, rfl⟩
theorem d_X3_spreadKnots_76 : gD cX3_spreadKnots 76 (.iaload) 1 77 := ⟨by decide +kernel, rfl⟩
theorem d_X3_spreadKnots_77 : gD cX3_spreadKnots 77 (.iconst 1) 1 78 := ⟨by decide +kernel, rfl⟩
theorem d_X3_spreadKnots_78 : gD cX3_spreadKnots 78 (.iadd) 1 79 := ⟨by decide +kernel, rfl⟩
theorem d_X3_spreadKnots_79 : gD cX3_spreadKnots 79 (.invokestatic 43) 3 82 := ⟨by decide +kernel, rfl⟩
theorem d_X3_spreadKnots_82 : gD cX3_spreadKnots 82 (.iastore) 1 83 := ⟨by decide +kernel, rfl⟩
theorem d_X3_spreadKnots_83 : gD cX3_spreadKnots 83 (.iinc 2 (-1)) 3 86 := ⟨by decide +kernel, rfl⟩
theorem d_X3_spreadKnots_86 : decode cX3_spreadKnots 86 = .ok (.goto (-38), 3) ∧ ((86 : Nat) : Int) + (-38) = ((48 : Nat) : Int) := ⟨by decide +kernel, by decide⟩
theorem d_X3_spreadKnots_89 : gD cX3_spreadKnots 89 (.return_) 1 90 := ⟨by decide +kernel, rfl⟩
abbrev rm_X3_spreadKnots : Room := { frames := 1, cells := 0, slots := 0, locals := 15 }
set_option maxRecDepth 20000 in
theorem w_X3_spreadKnots_48 {Γ : GC} {E : GE} (hO : gOk Γ E cX3_spreadKnots RX3 3 rm_X3_spreadKnots none "spreadKnots") (o : Nat) : ∀ (n : Nat) (x1 : Int32) (x2 : Int32) (S : GS), Go Γ E (gBsV Γ E) 3 (0, 0) 48 S [(0, vA (some o)), (1, vI x1), (2, vI x2)] [] (f_X3_spreadKnots_48 o n x1 x2 S) := by
  intro n
  induction n with
  | zero =>
    intro x1 x2 S
    exact g_none
  | succ n ih =>
    intro x1 x2 S
    rw [f_X3_spreadKnots_48]
    refine g_iload_n hO d_X3_spreadKnots_48 (by rfl) 2 rfl ?_
    refine g_if_lt (tgt := 89) hO d_X3_spreadKnots_49.1 d_X3_spreadKnots_49.2 (fun _ => ?_) (fun _ => ?_)
    · skip
      exact g_vret hO rfl ⟨Nat.le_of_ble_eq_true rfl, Nat.le_of_ble_eq_true rfl⟩ rfl rfl d_X3_spreadKnots_89.1
    · skip
      refine g_aload_n hO d_X3_spreadKnots_52 (by rfl) 0 rfl ?_
      refine h_getR hO cl_X3 0 rfl wf_X3_11 d_X3_spreadKnots_53 (fun v1 => ?_)
      refine g_iload_n hO d_X3_spreadKnots_56 (by rfl) 1 rfl ?_
      refine h_aald hO 21 (by omega) (by omega) d_X3_spreadKnots_57 (fun v2 => ?_)
      refine g_iload_n hO d_X3_spreadKnots_58 (by rfl) 2 rfl ?_
      refine g_aload_n hO d_X3_spreadKnots_59 (by rfl) 0 rfl ?_
      refine h_getR hO cl_X3 0 rfl wf_X3_11 d_X3_spreadKnots_60 (fun v3 => ?_)
      refine g_iload_n hO d_X3_spreadKnots_63 (by rfl) 1 rfl ?_
      refine h_aald hO 21 (by omega) (by omega) d_X3_spreadKnots_64 (fun v4 => ?_)
      refine g_iload_n hO d_X3_spreadKnots_65 (by rfl) 2 rfl ?_
      refine h_iald hO d_X3_spreadKnots_66 (fun v5 => ?_)
      refine g_aload_n hO d_X3_spreadKnots_67 (by rfl) 0 rfl ?_
      refine h_getR hO cl_X3 0 rfl wf_X3_11 d_X3_spreadKnots_68 (fun v6 => ?_)
      refine g_iload_n hO d_X3_spreadKnots_71 (by rfl) 1 rfl ?_
      refine h_aald hO 21 (by omega) (by omega) d_X3_spreadKnots_72 (fun v7 => ?_)
      refine g_iload_n hO d_X3_spreadKnots_73 (by rfl) 2 rfl ?_
      refine g_iconst hO 1 d_X3_spreadKnots_74 (by decide) ?_
      refine g_iadd hO d_X3_spreadKnots_75 ?_
      refine h_iald hO d_X3_spreadKnots_76 (fun v8 => ?_)
      refine g_iconst hO 1 d_X3_spreadKnots_77 (by decide) ?_
      refine g_iadd hO d_X3_spreadKnots_78 ?_
      refine g_mmin hO wm_X3_43 wt_min wi_Math wc_min ⟨by decide, Nat.le_of_ble_eq_true rfl, Nat.zero_le _, Nat.zero_le _⟩ d_X3_spreadKnots_79 ?_
      refine h_iast hO d_X3_spreadKnots_82 (fun S9 => ?_)
      refine g_iinc (lv' := [(2, vI (x2 + (-1))), (0, vA (some o)), (1, vI x1)]) hO (-1) d_X3_spreadKnots_83 (by decide) 2 rfl (by decide) rfl ?_
      refine g_goto (tgt := 48) hO d_X3_spreadKnots_86.1 d_X3_spreadKnots_86.2 ?_
      exact g_sub [1, 2, 0] rfl (ih _ _ _)
set_option maxRecDepth 20000 in
theorem w_X3_spreadKnots_2 {Γ : GC} {E : GE} (hO : gOk Γ E cX3_spreadKnots RX3 3 rm_X3_spreadKnots none "spreadKnots") (o : Nat) : ∀ (n : Nat) (x1 : Int32) (x2 : Int32) (S : GS), Go Γ E (gBsV Γ E) 3 (0, 0) 2 S [(0, vA (some o)), (1, vI x1), (2, vI x2)] [] (f_X3_spreadKnots_2 o n x1 x2 S) := by
  intro n
  induction n with
  | zero =>
    intro x1 x2 S
    exact g_none
  | succ n ih =>
    intro x1 x2 S
    rw [f_X3_spreadKnots_2]
    refine g_iload_n hO d_X3_spreadKnots_2 (by rfl) 2 rfl ?_
    refine g_bipush hO 30 d_X3_spreadKnots_3 (by decide) ?_
    refine g_ic_gt (tgt := 45) hO d_X3_spreadKnots_5.1 d_X3_spreadKnots_5.2 (fun _ => ?_) (fun _ => ?_)
    · skip
      refine g_bipush hO 29 d_X3_spreadKnots_45 (by decide) ?_
      refine g_istore_n (lv' := [(2, vI 29), (0, vA (some o)), (1, vI x1)]) hO d_X3_spreadKnots_47 (by rfl) (by decide) rfl ?_
      exact g_sub [1, 2, 0] rfl (w_X3_spreadKnots_48 hO o _ _ _ _)
    · skip
      refine g_aload_n hO d_X3_spreadKnots_8 (by rfl) 0 rfl ?_
      refine h_getR hO cl_X3 0 rfl wf_X3_11 d_X3_spreadKnots_9 (fun v1 => ?_)
      refine g_iload_n hO d_X3_spreadKnots_12 (by rfl) 1 rfl ?_
      refine h_aald hO 21 (by omega) (by omega) d_X3_spreadKnots_13 (fun v2 => ?_)
      refine g_iload_n hO d_X3_spreadKnots_14 (by rfl) 2 rfl ?_
      refine g_aload_n hO d_X3_spreadKnots_15 (by rfl) 0 rfl ?_
      refine h_getR hO cl_X3 0 rfl wf_X3_11 d_X3_spreadKnots_16 (fun v3 => ?_)
      refine g_iload_n hO d_X3_spreadKnots_19 (by rfl) 1 rfl ?_
      refine h_aald hO 21 (by omega) (by omega) d_X3_spreadKnots_20 (fun v4 => ?_)
      refine g_iload_n hO d_X3_spreadKnots_21 (by rfl) 2 rfl ?_
      refine h_iald hO d_X3_spreadKnots_22 (fun v5 => ?_)
      refine g_aload_n hO d_X3_spreadKnots_23 (by rfl) 0 rfl ?_
      refine h_getR hO cl_X3 0 rfl wf_X3_11 d_X3_spreadKnots_24 (fun v6 => ?_)
      refine g_iload_n hO d_X3_spreadKnots_27 (by rfl) 1 rfl ?_
      refine h_aald hO 21 (by omega) (by omega) d_X3_spreadKnots_28 (fun v7 => ?_)
      refine g_iload_n hO d_X3_spreadKnots_29 (by rfl) 2 rfl ?_
      refine g_iconst hO 1 d_X3_spreadKnots_30 (by decide) ?_
      refine g_isub hO d_X3_spreadKnots_31 ?_
      refine h_iald hO d_X3_spreadKnots_32 (fun v8 => ?_)
      refine g_iconst hO 1 d_X3_spreadKnots_33 (by decide) ?_
      refine g_iadd hO d_X3_spreadKnots_34 ?_
      refine g_mmin hO wm_X3_43 wt_min wi_Math wc_min ⟨by decide, Nat.le_of_ble_eq_true rfl, Nat.zero_le _, Nat.zero_le _⟩ d_X3_spreadKnots_35 ?_
      refine h_iast hO d_X3_spreadKnots_38 (fun S9 => ?_)
      refine g_iinc (lv' := [(2, vI (x2 + 1)), (0, vA (some o)), (1, vI x1)]) hO 1 d_X3_spreadKnots_39 (by decide) 2 rfl (by decide) rfl ?_
      refine g_goto (tgt := 2) hO d_X3_spreadKnots_42.1 d_X3_spreadKnots_42.2 ?_
      exact g_sub [1, 2, 0] rfl (ih _ _ _)
set_option maxRecDepth 20000 in
theorem w_X3_spreadKnots {Γ : GC} {E : GE} (hO : gOk Γ E cX3_spreadKnots RX3 3 rm_X3_spreadKnots none "spreadKnots") (o : Nat) (x1 : Int32) (S : GS) : Go Γ E (gBsV Γ E) 3 (0, 0) 0 S [(0, vA (some o)), (1, vI x1)] [] (f_X3_spreadKnots o x1 S) := by
  unfold f_X3_spreadKnots
  refine g_iconst hO 1 d_X3_spreadKnots_0 (by decide) ?_
  refine g_istore_n (lv' := [(2, vI 1), (0, vA (some o)), (1, vI x1)]) hO d_X3_spreadKnots_1 (by rfl) (by decide) rfl ?_
  exact g_sub [1, 2, 0] rfl (w_X3_spreadKnots_2 hO o _ _ _ _)
theorem t_X3_spreadKnots (l : Launch) (E : GE) (o : Nat) (x1 : Int32) (S : GS) : ∀ a, f_X3_spreadKnots o x1 S = some a → Ct l E yX3_spreadKnots cX3_spreadKnots 3 none rm_X3_spreadKnots [vA (some o), vI x1] S none a :=
  Ct_of (val := fun _ => none) (nxt := fun b => b) (by decide) (Nat.le_of_ble_eq_true rfl) (fun Γ hl hO => w_X3_spreadKnots hO o x1 S)
theorem d_X3_fewest_0 : gD cX3_fewest 0 (.aload_n 0) 1 1 := ⟨by decide +kernel, rfl⟩
theorem d_X3_fewest_1 : gD cX3_fewest 1 (.aload_n 1) 1 2 := ⟨by decide +kernel, rfl⟩
theorem d_X3_fewest_2 : gD cX3_fewest 2 (.getfield 24) 3 5 := ⟨by decide +kernel, rfl⟩
theorem d_X3_fewest_5 : gD cX3_fewest 5 (.iload_n 3) 1 6 := ⟨by decide +kernel, rfl⟩
theorem d_X3_fewest_6 : gD cX3_fewest 6 (.iconst 1) 1 7 := ⟨by decide +kernel, rfl⟩
theorem d_X3_fewest_7 : gD cX3_fewest 7 (.invokevirtual 30) 3 10 := ⟨by decide +kernel, rfl⟩
theorem d_X3_fewest_10 : gD cX3_fewest 10 (.putfield 36) 3 13 := ⟨by decide +kernel, rfl⟩
theorem d_X3_fewest_13 : gD cX3_fewest 13 (.bipush 16) 2 15 := ⟨by decide +kernel, rfl⟩
theorem d_X3_fewest_15 : gD cX3_fewest 15 (.aload_n 2) 1 16 := ⟨by decide +kernel, rfl⟩
theorem d_X3_fewest_16 : gD cX3_fewest 16 (.getfield 40) 3 19 := ⟨by decide +kernel, rfl⟩
theorem d_X3_fewest_19 : gD cX3_fewest 19 (.invokestatic 43) 3 22 := ⟨by decide +kernel, rfl⟩
theorem d_X3_fewest_22 : gD cX3_fewest 22 (.istore 5) 2 24 := ⟨by decide +kernel, rfl⟩
theorem d_X3_fewest_24 : gD cX3_fewest 24 (.aload_n 0) 1 25 := ⟨by decide +kernel, rfl⟩
theorem d_X3_fewest_25 : gD cX3_fewest 25 (.getfield 11) 3 28 := ⟨by decide +kernel, rfl⟩
theorem d_X3_fewest_28 : gD cX3_fewest 28 (.iload 5) 2 30 := ⟨by decide +kernel, rfl⟩
theorem d_X3_fewest_30 : gD cX3_fewest 30 (.aaload) 1 31 := ⟨by decide +kernel, rfl⟩
theorem d_X3_fewest_31 : gD cX3_fewest 31 (.iconst 0) 1 32 := ⟨by decide +kernel, rfl⟩
theorem d_X3_fewest_32 : gD cX3_fewest 32 (.invokestatic 48) 3 35 := ⟨by decide +kernel, rfl⟩
theorem d_X3_fewest_35 : gD cX3_fewest 35 (.iload 5) 2 37 := ⟨by decide +kernel, rfl⟩
theorem d_X3_fewest_37 : gD cX3_fewest 37 (.iconst 1) 1 38 := ⟨by decide +kernel, rfl⟩
theorem d_X3_fewest_38 : gD cX3_fewest 38 (.isub) 1 39 := ⟨by decide +kernel, rfl⟩
theorem d_X3_fewest_39 : gD cX3_fewest 39 (.istore 6) 2 41 := ⟨by decide +kernel, rfl⟩
theorem d_X3_fewest_41 : gD cX3_fewest 41 (.iload 6) 2 43 := ⟨by decide +kernel, rfl⟩
theorem d_X3_fewest_43 : gD cX3_fewest 43 (.ifCond .lt 139) 3 46 ∧ ((43 : Nat) : Int) + 139 = ((182 : Nat) : Int) := ⟨⟨by decide +kernel, rfl⟩, by decide⟩
theorem d_X3_fewest_46 : gD cX3_fewest 46 (.aload_n 2) 1 47 := ⟨by decide +kernel, rfl⟩
theorem d_X3_fewest_47 : gD cX3_fewest 47 (.iload 6) 2 49 := ⟨by decide +kernel, rfl⟩
theorem d_X3_fewest_49 : gD cX3_fewest 49 (.iconst 0) 1 50 := ⟨by decide +kernel, rfl⟩
theorem d_X3_fewest_50 : gD cX3_fewest 50 (.invokevirtual 30) 3 53 := ⟨by decide +kernel, rfl⟩
theorem d_X3_fewest_53 : gD cX3_fewest 53 (.istore 7) 2 55 := ⟨by decide +kernel, rfl⟩
theorem d_X3_fewest_55 : gD cX3_fewest 55 (.aload_n 1) 1 56 := ⟨by decide +kernel, rfl⟩
theorem d_X3_fewest_56 : gD cX3_fewest 56 (.iload_n 3) 1 57 := ⟨by decide +kernel, rfl⟩
theorem d_X3_fewest_57 : gD cX3_fewest 57 (.iload 7) 2 59 := ⟨by decide +kernel, rfl⟩
theorem d_X3_fewest_59 : gD cX3_fewest 59 (.invokevirtual 54) 3 62 := ⟨by decide +kernel, rfl⟩
theorem d_X3_fewest_62 : gD cX3_fewest 62 (.istore 8) 2 64 := ⟨by decide +kernel, rfl⟩
theorem d_X3_fewest_64 : gD cX3_fewest 64 (.aload_n 1) 1 65 := ⟨by decide +kernel, rfl⟩
theorem d_X3_fewest_65 : gD cX3_fewest 65 (.iload 7) 2 67 := ⟨by decide +kernel, rfl⟩
theorem d_X3_fewest_67 : gD cX3_fewest 67 (.invokevirtual 57) 3 70 := ⟨by decide +kernel, rfl⟩
theorem d_X3_fewest_70 : gD cX3_fewest 70 (.istore 9) 2 72 := ⟨by decide +kernel, rfl⟩
theorem d_X3_fewest_72 : gD cX3_fewest 72 (.iconst 0) 1 73 := ⟨by decide +kernel, rfl⟩
theorem d_X3_fewest_73 : gD cX3_fewest 73 (.istore 10) 2 75 := ⟨by decide +kernel, rfl⟩
theorem d_X3_fewest_75 : gD cX3_fewest 75 (.iload 10) 2 77 := ⟨by decide +kernel, rfl⟩
theorem d_X3_fewest_77 : gD cX3_fewest 77 (.bipush 30) 2 79 := ⟨by decide +kernel, rfl⟩
theorem d_X3_fewest_79 : gD cX3_fewest 79 (.if_icmp .gt 91) 3 82 ∧ ((79 : Nat) : Int) + 91 = ((170 : Nat) : Int) := ⟨⟨by decide +kernel, rfl⟩, by decide⟩
theorem d_X3_fewest_82 : gD cX3_fewest 82 (.aload_n 1) 1 83 := ⟨by decide +kernel, rfl⟩
theorem d_X3_fewest_83 : gD cX3_fewest 83 (.iload_n 3) 1 84 := ⟨by decide +kernel, rfl⟩
theorem d_X3_fewest_84 : gD cX3_fewest 84 (.iload 10) 2 86 := ⟨by decide +kernel, rfl⟩
theorem d_X3_fewest_86 : gD cX3_fewest 86 (.iload 8) 2 88 := ⟨by decide +kernel, rfl⟩
theorem d_X3_fewest_88 : gD cX3_fewest 88 (.invokevirtual 61) 3 91 := ⟨by decide +kernel, rfl⟩
theorem d_X3_fewest_91 : gD cX3_fewest 91 (.ifCond .eq 23) 3 94 ∧ ((91 : Nat) : Int) + 23 = ((114 : Nat) : Int) := ⟨⟨by decide +kernel, rfl⟩, by decide⟩
theorem d_X3_fewest_94 : gD cX3_fewest 94 (.iload 4) 2 96 := ⟨by decide +kernel, rfl⟩
theorem d_X3_fewest_96 : gD cX3_fewest 96 (.ifCond .eq 14) 3 99 ∧ ((96 : Nat) : Int) + 14 = ((110 : Nat) : Int) := ⟨⟨by decide +kernel, rfl⟩, by decide⟩
theorem d_X3_fewest_99 : gD cX3_fewest 99 (.aload_n 1) 1 100 := ⟨by decide +kernel, rfl⟩
theorem d_X3_fewest_100 : gD cX3_fewest 100 (.iload 10) 2 102 := ⟨by decide +kernel, rfl⟩
theorem d_X3_fewest_102 : gD cX3_fewest 102 (.iload 9) 2 104 := ⟨by decide +kernel, rfl⟩
theorem d_X3_fewest_104 : gD cX3_fewest 104 (.invokevirtual 65) 3 107 := ⟨by decide +kernel, rfl⟩
theorem d_X3_fewest_107 : gD cX3_fewest 107 (.ifCond .eq 7) 3 110 ∧ ((107 : Nat) : Int) + 7 = ((114 : Nat) : Int) := ⟨⟨by decide +kernel, rfl⟩, by decide⟩
theorem d_X3_fewest_110 : gD cX3_fewest 110 (.iconst 1) 1 111 := ⟨by decide +kernel, rfl⟩
theorem d_X3_fewest_111 : decode cX3_fewest 111 = .ok (.goto 4, 3) ∧ ((111 : Nat) : Int) + 4 = ((115 : Nat) : Int) := ⟨by decide +kernel, by decide⟩
theorem d_X3_fewest_114 : gD cX3_fewest 114 (.iconst 0) 1 115 := ⟨by decide +kernel, rfl⟩
theorem d_X3_fewest_115 : gD cX3_fewest 115 (.istore 11) 2 117 := ⟨by decide +kernel, rfl⟩
theorem d_X3_fewest_117 : gD cX3_fewest 117 (.aload_n 0) 1 118 := ⟨by decide +kernel, rfl⟩
theorem d_X3_fewest_118 : gD cX3_fewest 118 (.getfield 16) 3 121 := ⟨by decide +kernel, rfl⟩
theorem d_X3_fewest_121 : gD cX3_fewest 121 (.iload 6) 2 123 := ⟨by decide +kernel, rfl⟩
theorem d_X3_fewest_123 : gD cX3_fewest 123 (.bipush 31) 2 125 := ⟨by decide +kernel, rfl⟩
theorem d_X3_fewest_125 : gD cX3_fewest 125 (.imul) 1 126 := ⟨by decide +kernel, rfl⟩
theorem d_X3_fewest_126 : gD cX3_fewest 126 (.iload 10) 2 128 := ⟨by decide +kernel, rfl⟩
theorem d_X3_fewest_128 : gD cX3_fewest 128 (.iadd) 1 129 := ⟨by decide +kernel, rfl⟩
theorem d_X3_fewest_129 : gD cX3_fewest 129 (.iload 11) 2 131 := ⟨by decide +kernel, rfl⟩
theorem d_X3_fewest_131 : gD cX3_fewest 131 (.bastore) 1 132 := ⟨by decide +kernel, rfl⟩
theorem d_X3_fewest_132 : gD cX3_fewest 132 (.aload_n 0) 1 133 := ⟨by decide +kernel, rfl⟩
theorem d_X3_fewest_133 : gD cX3_fewest 133 (.getfield 11) 3 136 := ⟨by decide +kernel, rfl⟩
theorem d_X3_fewest_136 : gD cX3_fewest 136 (.iload 6) 2 138 := ⟨by decide +kernel, rfl⟩
theorem d_X3_fewest_138 : gD cX3_fewest 138 (.aaload) 1 139 := ⟨by decide +kernel, rfl⟩
theorem d_X3_fewest_139 : gD cX3_fewest 139 (.iload 10) 2 141 := ⟨by decide +kernel, rfl⟩
theorem d_X3_fewest_141 : gD cX3_fewest 141 (.iload 11) 2 143 := ⟨by decide +kernel, rfl⟩
theorem d_X3_fewest_143 : gD cX3_fewest 143 (.ifCond .eq 18) 3 146 ∧ ((143 : Nat) : Int) + 18 = ((161 : Nat) : Int) := ⟨⟨by decide +kernel, rfl⟩, by decide⟩
theorem d_X3_fewest_146 : gD cX3_fewest 146 (.aload_n 0) 1 147 := ⟨by decide +kernel, rfl⟩
theorem d_X3_fewest_147 : gD cX3_fewest 147 (.getfield 11) 3 150 := ⟨by decide +kernel, rfl⟩
theorem d_X3_fewest_150 : gD cX3_fewest 150 (.iload 6) 2 152 := ⟨by decide +kernel, rfl⟩
theorem d_X3_fewest_152 : gD cX3_fewest 152 (.iconst 1) 1 153 := ⟨by decide +kernel, rfl⟩
theorem d_X3_fewest_153 : gD cX3_fewest 153 (.iadd) 1 154 := ⟨by decide +kernel, rfl⟩
theorem d_X3_fewest_154 : gD cX3_fewest 154 (.aaload) 1 155 := ⟨by decide +kernel, rfl⟩
theorem d_X3_fewest_155 : gD cX3_fewest 155 (.iload 10) 2 157 := ⟨by decide +kernel, rfl⟩
theorem d_X3_fewest_157 : gD cX3_fewest 157 (.iaload) 1 158 := ⟨by decide +kernel, rfl⟩
theorem d_X3_fewest_158 : decode cX3_fewest 158 = .ok (.goto 5, 3) ∧ ((158 : Nat) : Int) + 5 = ((163 : Nat) : Int) := ⟨by decide +kernel, by decide⟩
theorem d_X3_fewest_161 : gD cX3_fewest 161 (.ldc 69) 2 163 := ⟨by decide +kernel, rfl⟩
theorem d_X3_fewest_163 : gD cX3_fewest 163 (.iastore) 1 164 := ⟨by decide +kernel, rfl⟩
theorem d_X3_fewest_164 : gD cX3_fewest 164 (.iinc 10 1) 3 167 := ⟨by decide +kernel, rfl⟩
theorem d_X3_fewest_167 : decode cX3_fewest 167 = .ok (.goto (-92), 3) ∧ ((167 : Nat) : Int) + (-92) = ((75 : Nat) : Int) := ⟨by decide +kernel, by decide⟩
theorem d_X3_fewest_170 : gD cX3_fewest 170 (.aload_n 0) 1 171 := ⟨by decide +kernel, rfl⟩
theorem d_X3_fewest_171 : gD cX3_fewest 171 (.iload 6) 2 173 := ⟨by decide +kernel, rfl⟩
theorem d_X3_fewest_173 : gD cX3_fewest 173 (.invokevirtual 70) 3 176 := ⟨by decide +kernel, rfl⟩
theorem d_X3_fewest_176 : gD cX3_fewest 176 (.iinc 6 (-1)) 3 179 := ⟨by decide +kernel, rfl⟩
theorem d_X3_fewest_179 : decode cX3_fewest 179 = .ok (.goto (-138), 3) ∧ ((179 : Nat) : Int) + (-138) = ((41 : Nat) : Int) := ⟨by decide +kernel, by decide⟩
theorem d_X3_fewest_182 : gD cX3_fewest 182 (.aload_n 0) 1 183 := ⟨by decide +kernel, rfl⟩
theorem d_X3_fewest_183 : gD cX3_fewest 183 (.getfield 36) 3 186 := ⟨by decide +kernel, rfl⟩
theorem d_X3_fewest_186 : gD cX3_fewest 186 (.invokestatic 74) 3 189 := ⟨by decide +kernel, rfl⟩
theorem d_X3_fewest_189 : gD cX3_fewest 189 (.ifCond .eq 33) 3 192 ∧ ((189 : Nat) : Int) + 33 = ((222 : Nat) : Int) := ⟨⟨by decide +kernel, rfl⟩, by decide⟩
theorem d_X3_fewest_192 : gD cX3_fewest 192 (.aload_n 0) 1 193 := ⟨by decide +kernel, rfl⟩
theorem d_X3_fewest_193 : gD cX3_fewest 193 (.getfield 11) 3 196 := ⟨by decide +kernel, rfl⟩
theorem d_X3_fewest_196 : gD cX3_fewest 196 (.iconst 0) 1 197 := ⟨by decide +kernel, rfl⟩
theorem d_X3_fewest_197 : gD cX3_fewest 197 (.aaload) 1 198 := ⟨by decide +kernel, rfl⟩
theorem d_X3_fewest_198 : gD cX3_fewest 198 (.aload_n 0) 1 199 := ⟨by decide +kernel, rfl⟩
theorem d_X3_fewest_199 : gD cX3_fewest 199 (.getfield 36) 3 202 := ⟨by decide +kernel, rfl⟩
theorem d_X3_fewest_202 : gD cX3_fewest 202 (.iaload) 1 203 := ⟨by decide +kernel, rfl⟩
theorem d_X3_fewest_203 : gD cX3_fewest 203 (.ldc 69) 2 205 := ⟨by decide +kernel, rfl⟩
theorem d_X3_fewest_205 : gD cX3_fewest 205 (.if_icmp .ge 17) 3 208 ∧ ((205 : Nat) : Int) + 17 = ((222 : Nat) : Int) := ⟨⟨by decide +kernel, rfl⟩, by decide⟩
theorem d_X3_fewest_208 : gD cX3_fewest 208 (.aload_n 0) 1 209 := ⟨by decide +kernel, rfl⟩
theorem d_X3_fewest_209 : gD cX3_fewest 209 (.getfield 11) 3 212 := ⟨by decide +kernel, rfl⟩
theorem d_X3_fewest_212 : gD cX3_fewest 212 (.iconst 0) 1 213 := ⟨by decide +kernel, rfl⟩
theorem d_X3_fewest_213 : gD cX3_fewest 213 (.aaload) 1 214 := ⟨by decide +kernel, rfl⟩
theorem d_X3_fewest_214 : gD cX3_fewest 214 (.aload_n 0) 1 215 := ⟨by decide +kernel, rfl⟩
theorem d_X3_fewest_215 : gD cX3_fewest 215 (.getfield 36) 3 218 := ⟨by decide +kernel, rfl⟩
theorem d_X3_fewest_218 : gD cX3_fewest 218 (.iaload) 1 219 := ⟨by decide +kernel, rfl⟩
theorem d_X3_fewest_219 : decode cX3_fewest 219 = .ok (.goto 4, 3) ∧ ((219 : Nat) : Int) + 4 = ((223 : Nat) : Int) := ⟨by decide +kernel, by decide⟩
theorem d_X3_fewest_222 : gD cX3_fewest 222 (.iconst (-1)) 1 223 := ⟨by decide +kernel, rfl⟩
theorem d_X3_fewest_223 : gD cX3_fewest 223 (.ireturn) 1 224 := ⟨by decide +kernel, rfl⟩
abbrev rm_X3_fewest : Room := { frames := 3, cells := 0, slots := 0, locals := 68 }
set_option maxRecDepth 20000 in
theorem w_X3_fewest_163 {Γ : GC} {E : GE} (hO : gOk Γ E cX3_fewest RX3 12 rm_X3_fewest (some .int) "fewest") (o : Nat) {k41 : (Option Nat → Option Nat → Int32 → Int32 → Int32 → GS → Option (Int32 × GS))} {k75 : (Option Nat → Option Nat → Int32 → Int32 → Int32 → Int32 → Int32 → Int32 → GS → Option (Int32 × GS))} (hk41 : ∀ (z1 : Option Nat) (z2 : Option Nat) (z3 : Int32) (z4 : Int32) (z6 : Int32) (S1 : GS), Go Γ E (gBsI Γ E) 12 (0, 0) 41 S1 [(0, vA (some o)), (1, vA z1), (2, vA z2), (3, vI z3), (4, vI z4), (6, vI z6)] [] (k41 z1 z2 z3 z4 z6 S1)) (hk75 : ∀ (z1 : Option Nat) (z2 : Option Nat) (z3 : Int32) (z4 : Int32) (z6 : Int32) (z8 : Int32) (z9 : Int32) (z10 : Int32) (S1 : GS), Go Γ E (gBsI Γ E) 12 (0, 0) 75 S1 [(0, vA (some o)), (1, vA z1), (2, vA z2), (3, vI z3), (4, vI z4), (6, vI z6), (8, vI z8), (9, vI z9), (10, vI z10)] [] (k75 z1 z2 z3 z4 z6 z8 z9 z10 S1)) (x1 : Option Nat) (x2 : Option Nat) (x3 : Int32) (x4 : Int32) (x6 : Int32) (x8 : Int32) (x9 : Int32) (x10 : Int32) (y0 : Option Nat) (y1 : Int32) (y2 : Int32) (S : GS) : Go Γ E (gBsI Γ E) 12 (0, 0) 163 S [(0, vA (some o)), (1, vA x1), (2, vA x2), (3, vI x3), (4, vI x4), (6, vI x6), (8, vI x8), (9, vI x9), (10, vI x10)] [vI y2, vI y1, vA y0] (f_X3_fewest_163 k41 k75 o x1 x2 x3 x4 x6 x8 x9 x10 y0 y1 y2 S) := by
  unfold f_X3_fewest_163
  refine h_iast hO d_X3_fewest_163 (fun S1 => ?_)
  refine g_iinc (lv' := [(10, vI (x10 + 1)), (0, vA (some o)), (1, vA x1), (2, vA x2), (3, vI x3), (4, vI x4), (6, vI x6), (8, vI x8), (9, vI x9)]) hO 1 d_X3_fewest_164 (by decide) 8 rfl (by decide) rfl ?_
  refine g_goto (tgt := 75) hO d_X3_fewest_167.1 d_X3_fewest_167.2 ?_
  exact g_sub [1, 2, 3, 4, 5, 6, 7, 8, 0] rfl (hk75 _ _ _ _ _ _ _ _ _)
set_option maxRecDepth 20000 in
theorem w_X3_fewest_115 {Γ : GC} {E : GE} (hO : gOk Γ E cX3_fewest RX3 12 rm_X3_fewest (some .int) "fewest") (o : Nat) {k41 : (Option Nat → Option Nat → Int32 → Int32 → Int32 → GS → Option (Int32 × GS))} {k75 : (Option Nat → Option Nat → Int32 → Int32 → Int32 → Int32 → Int32 → Int32 → GS → Option (Int32 × GS))} (hk41 : ∀ (z1 : Option Nat) (z2 : Option Nat) (z3 : Int32) (z4 : Int32) (z6 : Int32) (S1 : GS), Go Γ E (gBsI Γ E) 12 (0, 0) 41 S1 [(0, vA (some o)), (1, vA z1), (2, vA z2), (3, vI z3), (4, vI z4), (6, vI z6)] [] (k41 z1 z2 z3 z4 z6 S1)) (hk75 : ∀ (z1 : Option Nat) (z2 : Option Nat) (z3 : Int32) (z4 : Int32) (z6 : Int32) (z8 : Int32) (z9 : Int32) (z10 : Int32) (S1 : GS), Go Γ E (gBsI Γ E) 12 (0, 0) 75 S1 [(0, vA (some o)), (1, vA z1), (2, vA z2), (3, vI z3), (4, vI z4), (6, vI z6), (8, vI z8), (9, vI z9), (10, vI z10)] [] (k75 z1 z2 z3 z4 z6 z8 z9 z10 S1)) (x1 : Option Nat) (x2 : Option Nat) (x3 : Int32) (x4 : Int32) (x6 : Int32) (x8 : Int32) (x9 : Int32) (x10 : Int32) (y0 : Int32) (S : GS) : Go Γ E (gBsI Γ E) 12 (0, 0) 115 S [(0, vA (some o)), (1, vA x1), (2, vA x2), (3, vI x3), (4, vI x4), (6, vI x6), (8, vI x8), (9, vI x9), (10, vI x10)] [vI y0] (f_X3_fewest_115 k41 k75 o x1 x2 x3 x4 x6 x8 x9 x10 y0 S) := by
  unfold f_X3_fewest_115
  refine g_istore (lv' := [(11, vI y0), (0, vA (some o)), (1, vA x1), (2, vA x2), (3, vI x3), (4, vI x4), (6, vI x6), (8, vI x8), (9, vI x9), (10, vI x10)]) hO d_X3_fewest_115 (by decide) rfl ?_
  refine g_aload_n hO d_X3_fewest_117 (by rfl) 1 rfl ?_
  refine h_getR hO cl_X3 1 rfl wf_X3_16 d_X3_fewest_118 (fun v1 => ?_)
  refine g_iload hO d_X3_fewest_121 6 rfl ?_
  refine g_bipush hO 31 d_X3_fewest_123 (by decide) ?_
  refine g_imul hO d_X3_fewest_125 ?_
  refine g_iload hO d_X3_fewest_126 9 rfl ?_
  refine g_iadd hO d_X3_fewest_128 ?_
  refine g_iload hO d_X3_fewest_129 0 rfl ?_
  refine h_zast hO d_X3_fewest_131 (fun S2 => ?_)
  refine g_aload_n hO d_X3_fewest_132 (by rfl) 1 rfl ?_
  refine h_getR hO cl_X3 0 rfl wf_X3_11 d_X3_fewest_133 (fun v3 => ?_)
  refine g_iload hO d_X3_fewest_136 6 rfl ?_
  refine h_aald hO 21 (by omega) (by omega) d_X3_fewest_138 (fun v4 => ?_)
  refine g_iload hO d_X3_fewest_139 9 rfl ?_
  refine g_iload hO d_X3_fewest_141 0 rfl ?_
  refine g_if_eq (tgt := 161) hO d_X3_fewest_143.1 d_X3_fewest_143.2 (fun _ => ?_) (fun _ => ?_)
  · skip
    refine g_ldc hO 1000000 d_X3_fewest_161 wk_X3_69 ?_
    exact g_sub [1, 2, 3, 4, 5, 6, 7, 8, 9] rfl (w_X3_fewest_163 hO o hk41 hk75 _ _ _ _ _ _ _ _ _ _ _ _)
  · skip
    refine g_aload_n hO d_X3_fewest_146 (by rfl) 1 rfl ?_
    refine h_getR hO cl_X3 0 rfl wf_X3_11 d_X3_fewest_147 (fun v5 => ?_)
    refine g_iload hO d_X3_fewest_150 6 rfl ?_
    refine g_iconst hO 1 d_X3_fewest_152 (by decide) ?_
    refine g_iadd hO d_X3_fewest_153 ?_
    refine h_aald hO 21 (by omega) (by omega) d_X3_fewest_154 (fun v6 => ?_)
    refine g_iload hO d_X3_fewest_155 9 rfl ?_
    refine h_iald hO d_X3_fewest_157 (fun v7 => ?_)
    refine g_goto (tgt := 163) hO d_X3_fewest_158.1 d_X3_fewest_158.2 ?_
    exact g_sub [1, 2, 3, 4, 5, 6, 7, 8, 9] rfl (w_X3_fewest_163 hO o hk41 hk75 _ _ _ _ _ _ _ _ _ _ _ _)
set_option maxRecDepth 20000 in
theorem w_X3_fewest_110 {Γ : GC} {E : GE} (hO : gOk Γ E cX3_fewest RX3 12 rm_X3_fewest (some .int) "fewest") (o : Nat) {k41 : (Option Nat → Option Nat → Int32 → Int32 → Int32 → GS → Option (Int32 × GS))} {k75 : (Option Nat → Option Nat → Int32 → Int32 → Int32 → Int32 → Int32 → Int32 → GS → Option (Int32 × GS))} (hk41 : ∀ (z1 : Option Nat) (z2 : Option Nat) (z3 : Int32) (z4 : Int32) (z6 : Int32) (S1 : GS), Go Γ E (gBsI Γ E) 12 (0, 0) 41 S1 [(0, vA (some o)), (1, vA z1), (2, vA z2), (3, vI z3), (4, vI z4), (6, vI z6)] [] (k41 z1 z2 z3 z4 z6 S1)) (hk75 : ∀ (z1 : Option Nat) (z2 : Option Nat) (z3 : Int32) (z4 : Int32) (z6 : Int32) (z8 : Int32) (z9 : Int32) (z10 : Int32) (S1 : GS), Go Γ E (gBsI Γ E) 12 (0, 0) 75 S1 [(0, vA (some o)), (1, vA z1), (2, vA z2), (3, vI z3), (4, vI z4), (6, vI z6), (8, vI z8), (9, vI z9), (10, vI z10)] [] (k75 z1 z2 z3 z4 z6 z8 z9 z10 S1)) (x1 : Option Nat) (x2 : Option Nat) (x3 : Int32) (x4 : Int32) (x6 : Int32) (x8 : Int32) (x9 : Int32) (x10 : Int32) (S : GS) : Go Γ E (gBsI Γ E) 12 (0, 0) 110 S [(0, vA (some o)), (1, vA x1), (2, vA x2), (3, vI x3), (4, vI x4), (6, vI x6), (8, vI x8), (9, vI x9), (10, vI x10)] [] (f_X3_fewest_110 k41 k75 o x1 x2 x3 x4 x6 x8 x9 x10 S) := by
  unfold f_X3_fewest_110
  refine g_iconst hO 1 d_X3_fewest_110 (by decide) ?_
  refine g_goto (tgt := 115) hO d_X3_fewest_111.1 d_X3_fewest_111.2 ?_
  exact g_sub [0, 1, 2, 3, 4, 5, 6, 7, 8] rfl (w_X3_fewest_115 hO o hk41 hk75 _ _ _ _ _ _ _ _ _ _)
set_option maxRecDepth 20000 in
theorem w_X3_fewest_114 {Γ : GC} {E : GE} (hO : gOk Γ E cX3_fewest RX3 12 rm_X3_fewest (some .int) "fewest") (o : Nat) {k41 : (Option Nat → Option Nat → Int32 → Int32 → Int32 → GS → Option (Int32 × GS))} {k75 : (Option Nat → Option Nat → Int32 → Int32 → Int32 → Int32 → Int32 → Int32 → GS → Option (Int32 × GS))} (hk41 : ∀ (z1 : Option Nat) (z2 : Option Nat) (z3 : Int32) (z4 : Int32) (z6 : Int32) (S1 : GS), Go Γ E (gBsI Γ E) 12 (0, 0) 41 S1 [(0, vA (some o)), (1, vA z1), (2, vA z2), (3, vI z3), (4, vI z4), (6, vI z6)] [] (k41 z1 z2 z3 z4 z6 S1)) (hk75 : ∀ (z1 : Option Nat) (z2 : Option Nat) (z3 : Int32) (z4 : Int32) (z6 : Int32) (z8 : Int32) (z9 : Int32) (z10 : Int32) (S1 : GS), Go Γ E (gBsI Γ E) 12 (0, 0) 75 S1 [(0, vA (some o)), (1, vA z1), (2, vA z2), (3, vI z3), (4, vI z4), (6, vI z6), (8, vI z8), (9, vI z9), (10, vI z10)] [] (k75 z1 z2 z3 z4 z6 z8 z9 z10 S1)) (x1 : Option Nat) (x2 : Option Nat) (x3 : Int32) (x4 : Int32) (x6 : Int32) (x8 : Int32) (x9 : Int32) (x10 : Int32) (S : GS) : Go Γ E (gBsI Γ E) 12 (0, 0) 114 S [(0, vA (some o)), (1, vA x1), (2, vA x2), (3, vI x3), (4, vI x4), (6, vI x6), (8, vI x8), (9, vI x9), (10, vI x10)] [] (f_X3_fewest_114 k41 k75 o x1 x2 x3 x4 x6 x8 x9 x10 S) := by
  unfold f_X3_fewest_114
  refine g_iconst hO 0 d_X3_fewest_114 (by decide) ?_
  exact g_sub [0, 1, 2, 3, 4, 5, 6, 7, 8] rfl (w_X3_fewest_115 hO o hk41 hk75 _ _ _ _ _ _ _ _ _ _)
set_option maxRecDepth 20000 in
theorem w_X3_fewest_75 {Γ : GC} {E : GE} (hO : gOk Γ E cX3_fewest RX3 12 rm_X3_fewest (some .int) "fewest") (o : Nat) {k41 : (Option Nat → Option Nat → Int32 → Int32 → Int32 → GS → Option (Int32 × GS))} (hk41 : ∀ (z1 : Option Nat) (z2 : Option Nat) (z3 : Int32) (z4 : Int32) (z6 : Int32) (S1 : GS), Go Γ E (gBsI Γ E) 12 (0, 0) 41 S1 [(0, vA (some o)), (1, vA z1), (2, vA z2), (3, vI z3), (4, vI z4), (6, vI z6)] [] (k41 z1 z2 z3 z4 z6 S1)) : ∀ (n : Nat) (x1 : Option Nat) (x2 : Option Nat) (x3 : Int32) (x4 : Int32) (x6 : Int32) (x8 : Int32) (x9 : Int32) (x10 : Int32) (S : GS), Go Γ E (gBsI Γ E) 12 (0, 0) 75 S [(0, vA (some o)), (1, vA x1), (2, vA x2), (3, vI x3), (4, vI x4), (6, vI x6), (8, vI x8), (9, vI x9), (10, vI x10)] [] (f_X3_fewest_75 k41 o n x1 x2 x3 x4 x6 x8 x9 x10 S) := by
  intro n
  induction n with
  | zero =>
    intro x1 x2 x3 x4 x6 x8 x9 x10 S
    exact g_none
  | succ n ih =>
    intro x1 x2 x3 x4 x6 x8 x9 x10 S
    rw [f_X3_fewest_75]
    refine g_iload hO d_X3_fewest_75 8 rfl ?_
    refine g_bipush hO 30 d_X3_fewest_77 (by decide) ?_
    refine g_ic_gt (tgt := 170) hO d_X3_fewest_79.1 d_X3_fewest_79.2 (fun _ => ?_) (fun _ => ?_)
    · skip
      refine g_aload_n hO d_X3_fewest_170 (by rfl) 0 rfl ?_
      refine g_iload hO d_X3_fewest_171 5 rfl ?_
      refine k_virtVs hO cl_X3 mm_X3_spreadKnots lkV_X3_70 ⟨⟨Nat.le_of_ble_eq_true rfl, Nat.le_of_ble_eq_true rfl⟩, Nat.le_of_ble_eq_true rfl, Nat.le_of_ble_eq_true rfl⟩ (kn' := (0, 0)) rfl (As := [vI x6]) rfl (Nat.le_of_ble_eq_true rfl) (fun o' _ => t_X3_spreadKnots Γ.2.1 E o' x6 S) d_X3_fewest_173 rfl (fun S2 => ?_)
      refine g_iinc (lv' := [(6, vI (x6 + (-1))), (0, vA (some o)), (1, vA x1), (2, vA x2), (3, vI x3), (4, vI x4), (8, vI x8), (9, vI x9), (10, vI x10)]) hO (-1) d_X3_fewest_176 (by decide) 5 rfl (by decide) rfl ?_
      refine g_goto (tgt := 41) hO d_X3_fewest_179.1 d_X3_fewest_179.2 ?_
      exact g_sub [1, 2, 3, 4, 5, 0] rfl (hk41 _ _ _ _ _ _)
    · skip
      refine g_aload_n hO d_X3_fewest_82 (by rfl) 1 rfl ?_
      refine g_iload_n hO d_X3_fewest_83 (by rfl) 3 rfl ?_
      refine g_iload hO d_X3_fewest_84 8 rfl ?_
      refine g_iload hO d_X3_fewest_86 6 rfl ?_
      refine k_virtIp hO cl_X0 mm_X0_stands lkV_X3_61 ⟨⟨Nat.le_of_ble_eq_true rfl, Nat.le_of_ble_eq_true rfl⟩, Nat.le_of_ble_eq_true rfl, Nat.le_of_ble_eq_true rfl⟩ (kn' := (0, 0)) rfl (As := [vI x3, vI x10, vI x8]) rfl (Nat.le_of_ble_eq_true rfl) (fun o' _ => t_X0_stands Γ.2.1 E o' x3 x10 x8 S) d_X3_fewest_88 rfl (fun v3 => ?_)
      refine g_if_eq (tgt := 114) hO d_X3_fewest_91.1 d_X3_fewest_91.2 (fun _ => ?_) (fun _ => ?_)
      · skip
        exact g_sub [0, 1, 2, 3, 4, 5, 6, 7, 8] rfl (w_X3_fewest_114 hO o hk41 ih _ _ _ _ _ _ _ _ _)
      · skip
        refine g_iload hO d_X3_fewest_94 4 rfl ?_
        refine g_if_eq (tgt := 110) hO d_X3_fewest_96.1 d_X3_fewest_96.2 (fun _ => ?_) (fun _ => ?_)
        · skip
          exact g_sub [0, 1, 2, 3, 4, 5, 6, 7, 8] rfl (w_X3_fewest_110 hO o hk41 ih _ _ _ _ _ _ _ _ _)
        · skip
          refine g_aload_n hO d_X3_fewest_99 (by rfl) 1 rfl ?_
          refine g_iload hO d_X3_fewest_100 8 rfl ?_
          refine g_iload hO d_X3_fewest_102 7 rfl ?_
          refine k_virtIp hO cl_X0 mm_X0_isNear lkV_X3_65 ⟨⟨Nat.le_of_ble_eq_true rfl, Nat.le_of_ble_eq_true rfl⟩, Nat.le_of_ble_eq_true rfl, Nat.le_of_ble_eq_true rfl⟩ (kn' := (0, 0)) rfl (As := [vI x10, vI x9]) rfl (Nat.le_of_ble_eq_true rfl) (fun o' _ => t_X0_isNear Γ.2.1 E o' x10 x9 S) d_X3_fewest_104 rfl (fun v5 => ?_)
          refine g_if_eq (tgt := 114) hO d_X3_fewest_107.1 d_X3_fewest_107.2 (fun _ => ?_) (fun _ => ?_)
          · skip
            exact g_sub [0, 1, 2, 3, 4, 5, 6, 7, 8] rfl (w_X3_fewest_114 hO o hk41 ih _ _ _ _ _ _ _ _ _)
          · skip
            exact g_sub [0, 1, 2, 3, 4, 5, 6, 7, 8] rfl (w_X3_fewest_110 hO o hk41 ih _ _ _ _ _ _ _ _ _)
set_option maxRecDepth 20000 in
theorem w_X3_fewest_41 {Γ : GC} {E : GE} (hO : gOk Γ E cX3_fewest RX3 12 rm_X3_fewest (some .int) "fewest") (o : Nat) : ∀ (n : Nat) (x1 : Option Nat) (x2 : Option Nat) (x3 : Int32) (x4 : Int32) (x6 : Int32) (S : GS), Go Γ E (gBsI Γ E) 12 (0, 0) 41 S [(0, vA (some o)), (1, vA x1), (2, vA x2), (3, vI x3), (4, vI x4), (6, vI x6)] [] (f_X3_fewest_41 o n x1 x2 x3 x4 x6 S) := by
  intro n
  induction n with
  | zero =>
    intro x1 x2 x3 x4 x6 S
    exact g_none
  | succ n ih =>
    intro x1 x2 x3 x4 x6 S
    rw [f_X3_fewest_41]
    refine g_iload hO d_X3_fewest_41 5 rfl ?_
    refine g_if_lt (tgt := 182) hO d_X3_fewest_43.1 d_X3_fewest_43.2 (fun _ => ?_) (fun _ => ?_)
    · skip
      refine g_aload_n hO d_X3_fewest_182 (by rfl) 0 rfl ?_
      refine h_getI hO cl_X3 3 rfl wf_X3_36 d_X3_fewest_183 (fun v1 => ?_)
      refine k_statNIp hO mm_X11_isLace lkSN_X3_74 ⟨⟨Nat.le_of_ble_eq_true rfl, Nat.le_of_ble_eq_true rfl⟩, Nat.le_of_ble_eq_true rfl, Nat.le_of_ble_eq_true rfl⟩ (kn' := (0, 0)) rfl (As := [vI v1]) rfl (Nat.le_of_ble_eq_true rfl) (t_X11_isLace Γ.2.1 E v1 S) d_X3_fewest_186 rfl (fun v2 => ?_)
      refine g_if_eq (tgt := 222) hO d_X3_fewest_189.1 d_X3_fewest_189.2 (fun _ => ?_) (fun _ => ?_)
      · skip
        refine g_iconst hO (-1) d_X3_fewest_222 (by decide) ?_
        exact g_ret hO rfl rfl ⟨Nat.le_of_ble_eq_true rfl, Nat.le_of_ble_eq_true rfl⟩ rfl rfl d_X3_fewest_223.1
      · skip
        refine g_aload_n hO d_X3_fewest_192 (by rfl) 0 rfl ?_
        refine h_getR hO cl_X3 0 rfl wf_X3_11 d_X3_fewest_193 (fun v4 => ?_)
        refine g_iconst hO 0 d_X3_fewest_196 (by decide) ?_
        refine h_aald hO 21 (by omega) (by omega) d_X3_fewest_197 (fun v5 => ?_)
        refine g_aload_n hO d_X3_fewest_198 (by rfl) 0 rfl ?_
        refine h_getI hO cl_X3 3 rfl wf_X3_36 d_X3_fewest_199 (fun v6 => ?_)
        refine h_iald hO d_X3_fewest_202 (fun v7 => ?_)
        refine g_ldc hO 1000000 d_X3_fewest_203 wk_X3_69 ?_
        refine g_ic_ge (tgt := 222) hO d_X3_fewest_205.1 d_X3_fewest_205.2 (fun _ => ?_) (fun _ => ?_)
        · skip
          refine g_iconst hO (-1) d_X3_fewest_222 (by decide) ?_
          exact g_ret hO rfl rfl ⟨Nat.le_of_ble_eq_true rfl, Nat.le_of_ble_eq_true rfl⟩ rfl rfl d_X3_fewest_223.1
        · skip
          refine g_aload_n hO d_X3_fewest_208 (by rfl) 0 rfl ?_
          refine h_getR hO cl_X3 0 rfl wf_X3_11 d_X3_fewest_209 (fun v8 => ?_)
          refine g_iconst hO 0 d_X3_fewest_212 (by decide) ?_
          refine h_aald hO 21 (by omega) (by omega) d_X3_fewest_213 (fun v9 => ?_)
          refine g_aload_n hO d_X3_fewest_214 (by rfl) 0 rfl ?_
          refine h_getI hO cl_X3 3 rfl wf_X3_36 d_X3_fewest_215 (fun v10 => ?_)
          refine h_iald hO d_X3_fewest_218 (fun v11 => ?_)
          refine g_goto (tgt := 223) hO d_X3_fewest_219.1 d_X3_fewest_219.2 ?_
          exact g_ret hO rfl rfl ⟨Nat.le_of_ble_eq_true rfl, Nat.le_of_ble_eq_true rfl⟩ rfl rfl d_X3_fewest_223.1
    · skip
      refine g_aload_n hO d_X3_fewest_46 (by rfl) 2 rfl ?_
      refine g_iload hO d_X3_fewest_47 5 rfl ?_
      refine g_iconst hO 0 d_X3_fewest_49 (by decide) ?_
      refine k_virtIp hO cl_X7 mm_X7_cell lkV_X3_30 ⟨⟨Nat.le_of_ble_eq_true rfl, Nat.le_of_ble_eq_true rfl⟩, Nat.le_of_ble_eq_true rfl, Nat.le_of_ble_eq_true rfl⟩ (kn' := (0, 0)) rfl (As := [vI x6, vI 0]) rfl (Nat.le_of_ble_eq_true rfl) (fun o' _ => t_X7_cell Γ.2.1 E o' x6 0 S) d_X3_fewest_50 rfl (fun v12 => ?_)
      refine g_istore (lv' := [(7, vI v12), (0, vA (some o)), (1, vA x1), (2, vA x2), (3, vI x3), (4, vI x4), (6, vI x6)]) hO d_X3_fewest_53 (by decide) rfl ?_
      refine g_aload_n hO d_X3_fewest_55 (by rfl) 2 rfl ?_
      refine g_iload_n hO d_X3_fewest_56 (by rfl) 4 rfl ?_
      refine g_iload hO d_X3_fewest_57 0 rfl ?_
      refine k_virtIp hO cl_X0 mm_X0_pressureOf lkV_X3_54 ⟨⟨Nat.le_of_ble_eq_true rfl, Nat.le_of_ble_eq_true rfl⟩, Nat.le_of_ble_eq_true rfl, Nat.le_of_ble_eq_true rfl⟩ (kn' := (0, 0)) rfl (As := [vI x3, vI v12]) rfl (Nat.le_of_ble_eq_true rfl) (fun o' _ => t_X0_pressureOf Γ.2.1 E o' x3 v12 S) d_X3_fewest_59 rfl (fun v14 => ?_)
      refine g_istore (lv' := [(8, vI v14), (7, vI v12), (0, vA (some o)), (1, vA x1), (2, vA x2), (3, vI x3), (4, vI x4), (6, vI x6)]) hO d_X3_fewest_62 (by decide) rfl ?_
      refine g_aload_n hO d_X3_fewest_64 (by rfl) 3 rfl ?_
      refine g_iload hO d_X3_fewest_65 1 rfl ?_
      refine k_virtIp hO cl_X0 mm_X0_properAt lkV_X3_57 ⟨⟨Nat.le_of_ble_eq_true rfl, Nat.le_of_ble_eq_true rfl⟩, Nat.le_of_ble_eq_true rfl, Nat.le_of_ble_eq_true rfl⟩ (kn' := (0, 0)) rfl (As := [vI v12]) rfl (Nat.le_of_ble_eq_true rfl) (fun o' _ => t_X0_properAt Γ.2.1 E o' v12 S) d_X3_fewest_67 rfl (fun v16 => ?_)
      refine g_istore (lv' := [(9, vI v16), (8, vI v14), (7, vI v12), (0, vA (some o)), (1, vA x1), (2, vA x2), (3, vI x3), (4, vI x4), (6, vI x6)]) hO d_X3_fewest_70 (by decide) rfl ?_
      refine g_iconst hO 0 d_X3_fewest_72 (by decide) ?_
      refine g_istore (lv' := [(10, vI 0), (9, vI v16), (8, vI v14), (7, vI v12), (0, vA (some o)), (1, vA x1), (2, vA x2), (3, vI x3), (4, vI x4), (6, vI x6)]) hO d_X3_fewest_73 (by decide) rfl ?_
      exact g_sub [4, 5, 6, 7, 8, 9, 2, 1, 0] rfl (w_X3_fewest_75 hO o ih _ _ _ _ _ _ _ _ _ _)
set_option maxRecDepth 20000 in
theorem w_X3_fewest {Γ : GC} {E : GE} (hO : gOk Γ E cX3_fewest RX3 12 rm_X3_fewest (some .int) "fewest") (o : Nat) (x1 : Option Nat) (x2 : Option Nat) (x3 : Int32) (x4 : Int32) (S : GS) : Go Γ E (gBsI Γ E) 12 (0, 0) 0 S [(0, vA (some o)), (1, vA x1), (2, vA x2), (3, vI x3), (4, vI x4)] [] (f_X3_fewest o x1 x2 x3 x4 S) := by
  unfold f_X3_fewest
  refine g_aload_n hO d_X3_fewest_0 (by rfl) 0 rfl ?_
  refine g_aload_n hO d_X3_fewest_1 (by rfl) 1 rfl ?_
  refine h_getR hO cl_X0 1 rfl wf_X3_24 d_X3_fewest_2 (fun v1 => ?_)
  refine g_iload_n hO d_X3_fewest_5 (by rfl) 3 rfl ?_
  refine g_iconst hO 1 d_X3_fewest_6 (by decide) ?_
  refine k_virtIp hO cl_X7 mm_X7_cell lkV_X3_30 ⟨⟨Nat.le_of_ble_eq_true rfl, Nat.le_of_ble_eq_true rfl⟩, Nat.le_of_ble_eq_true rfl, Nat.le_of_ble_eq_true rfl⟩ (kn' := (0, 0)) rfl (As := [vI x3, vI 1]) rfl (Nat.le_of_ble_eq_true rfl) (fun o' _ => t_X7_cell Γ.2.1 E o' x3 1 S) d_X3_fewest_7 rfl (fun v2 => ?_)
  refine h_putI hO cl_X3 3 rfl rfl wf_X3_36 (Or.inl rfl) d_X3_fewest_10 (fun S4 => ?_)
  refine g_bipush hO 16 d_X3_fewest_13 (by decide) ?_
  refine g_aload_n hO d_X3_fewest_15 (by rfl) 2 rfl ?_
  refine h_getI hO cl_X7 3 rfl wf_X3_40 d_X3_fewest_16 (fun v5 => ?_)
  refine g_mmin hO wm_X3_43 wt_min wi_Math wc_min ⟨by decide, Nat.le_of_ble_eq_true rfl, Nat.zero_le _, Nat.zero_le _⟩ d_X3_fewest_19 ?_
  refine g_istore (lv' := [(5, vI (jmin 16 v5)), (0, vA (some o)), (1, vA x1), (2, vA x2), (3, vI x3), (4, vI x4)]) hO d_X3_fewest_22 (by decide) rfl ?_
  refine g_aload_n hO d_X3_fewest_24 (by rfl) 1 rfl ?_
  refine h_getR hO cl_X3 0 rfl wf_X3_11 d_X3_fewest_25 (fun v6 => ?_)
  refine g_iload hO d_X3_fewest_28 0 rfl ?_
  refine h_aald hO 21 (by omega) (by omega) d_X3_fewest_30 (fun v7 => ?_)
  refine g_iconst hO 0 d_X3_fewest_31 (by decide) ?_
  refine k_statVs hO mm_J7_fill_53178 lkS_X3_48 ⟨⟨Nat.le_of_ble_eq_true rfl, Nat.le_of_ble_eq_true rfl⟩, Nat.le_of_ble_eq_true rfl, Nat.le_of_ble_eq_true rfl⟩ (kn' := (0, 0)) rfl (As := [vA v7, vI 0]) rfl (Nat.le_of_ble_eq_true rfl) (t_J7_fill_53178 Γ.2.1 E v7 0 S4) d_X3_fewest_32 rfl (fun S9 => ?_)
  refine g_iload hO d_X3_fewest_35 0 rfl ?_
  refine g_iconst hO 1 d_X3_fewest_37 (by decide) ?_
  refine g_isub hO d_X3_fewest_38 ?_
  refine g_istore (lv' := [(6, vI ((jmin 16 v5) - 1)), (5, vI (jmin 16 v5)), (0, vA (some o)), (1, vA x1), (2, vA x2), (3, vI x3), (4, vI x4)]) hO d_X3_fewest_39 (by decide) rfl ?_
  exact g_sub [2, 3, 4, 5, 6, 0] rfl (w_X3_fewest_41 hO o _ _ _ _ _ _ _)
theorem t_X3_fewest (l : Launch) (E : GE) (o : Nat) (x1 : Option Nat) (x2 : Option Nat) (x3 : Int32) (x4 : Int32) (S : GS) : ∀ a, f_X3_fewest o x1 x2 x3 x4 S = some a → Ct l E yX3_fewest cX3_fewest 12 (some .int) rm_X3_fewest [vA (some o), vA x1, vA x2, vI x3, vI x4] S (some (vI a.1)) a.2 :=
  Ct_of (val := fun (b : Int32 × GS) => some (vI b.1)) (nxt := fun (b : Int32 × GS) => b.2) (by decide) (Nat.le_of_ble_eq_true rfl) (fun Γ hl hO => w_X3_fewest hO o x1 x2 x3 x4 S)
theorem d_X3_leastNextLace_0 : gD cX3_leastNextLace 0 (.iconst 0) 1 1 := ⟨by decide +kernel, rfl⟩
theorem d_X3_leastNextLace_1 : gD cX3_leastNextLace 1 (.istore_n 3) 1 2 := ⟨by decide +kernel, rfl⟩
theorem d_X3_leastNextLace_2 : gD cX3_leastNextLace 2 (.iload_n 3) 1 3 := ⟨by decide +kernel, rfl⟩
theorem d_X3_leastNextLace_3 : gD cX3_leastNextLace 3 (.bipush 30) 2 5 := ⟨by decide +kernel, rfl⟩
theorem d_X3_leastNextLace_5 : gD cX3_leastNextLace 5 (.if_icmp .gt 60) 3 8 ∧ ((5 : Nat) : Int) + 60 = ((65 : Nat) : Int) := ⟨⟨by decide +kernel, rfl⟩, by decide⟩
theorem d_X3_leastNextLace_8 : gD cX3_leastNextLace 8 (.iload_n 2) 1 9 := ⟨by decide +kernel, rfl⟩
theorem d_X3_leastNextLace_9 : gD cX3_leastNextLace 9 (.invokestatic 74) 3 12 := ⟨by decide +kernel, rfl⟩
theorem d_X3_leastNextLace_12 : gD cX3_leastNextLace 12 (.ifCond .eq 53) 3 15 ∧ ((12 : Nat) : Int) + 53 = ((65 : Nat) : Int) := ⟨⟨by decide +kernel, rfl⟩, by decide⟩
theorem d_X3_leastNextLace_15 : gD cX3_leastNextLace 15 (.aload_n 0) 1 16 := ⟨by decide +kernel, rfl⟩
theorem d_X3_leastNextLace_16 : gD cX3_leastNextLace 16 (.getfield 16) 3 19 := ⟨by decide +kernel, rfl⟩
theorem d_X3_leastNextLace_19 : gD cX3_leastNextLace 19 (.iload_n 1) 1 20 := ⟨by decide +kernel, rfl⟩
theorem d_X3_leastNextLace_20 : gD cX3_leastNextLace 20 (.bipush 31) 2 22 := ⟨by decide +kernel, rfl⟩
theorem d_X3_leastNextLace_22 : gD cX3_leastNextLace 22 (.imul) 1 23 := ⟨by decide +kernel, rfl⟩
theorem d_X3_leastNextLace_23 : gD cX3_leastNextLace 23 (.iload_n 3) 1 24 := ⟨by decide +kernel, rfl⟩
theorem d_X3_leastNextLace_24 : gD cX3_leastNextLace 24 (.iadd) 1 25 := ⟨by decide +kernel, rfl⟩
theorem d_X3_leastNextLace_25 : gD cX3_leastNextLace 25 (.baload) 1 26 := ⟨by decide +kernel, rfl⟩
theorem d_X3_leastNextLace_26 : gD cX3_leastNextLace 26 (.ifCond .eq 33) 3 29 ∧ ((26 : Nat) : Int) + 33 = ((59 : Nat) : Int) := ⟨⟨by decide +kernel, rfl⟩, by decide⟩
theorem d_X3_leastNextLace_29 : gD cX3_leastNextLace 29 (.iload_n 3) 1 30 := ⟨by decide +kernel, rfl⟩
theorem d_X3_leastNextLace_30 : gD cX3_leastNextLace 30 (.iload_n 2) 1 31 := ⟨by decide +kernel, rfl⟩
theorem d_X3_leastNextLace_31 : gD cX3_leastNextLace 31 (.isub) 1 32 := ⟨by decide +kernel, rfl⟩
theorem d_X3_leastNextLace_32 : gD cX3_leastNextLace 32 (.invokestatic 81) 3 35 := ⟨by decide +kernel, rfl⟩
theorem d_X3_leastNextLace_35 : gD cX3_leastNextLace 35 (.aload_n 0) 1 36 := ⟨by decide +kernel, rfl⟩
theorem d_X3_leastNextLace_36 : gD cX3_leastNextLace 36 (.getfield 11) 3 39 := ⟨by decide +kernel, rfl⟩
theorem d_X3_leastNextLace_39 : gD cX3_leastNextLace 39 (.iload_n 1) 1 40 := ⟨by decide +kernel, rfl⟩
theorem d_X3_leastNextLace_40 : gD cX3_leastNextLace 40 (.iconst 1) 1 41 := ⟨by decide +kernel, rfl⟩
theorem d_X3_leastNextLace_41 : gD cX3_leastNextLace 41 (.iadd) 1 42 := ⟨by decide +kernel, rfl⟩
theorem d_X3_leastNextLace_42 : gD cX3_leastNextLace 42 (.aaload) 1 43 := ⟨by decide +kernel, rfl⟩
theorem d_X3_leastNextLace_43 : gD cX3_leastNextLace 43 (.iload_n 3) 1 44 := ⟨by decide +kernel, rfl⟩
theorem d_X3_leastNextLace_44 : gD cX3_leastNextLace 44 (.iaload) 1 45 := ⟨by decide +kernel, rfl⟩
theorem d_X3_leastNextLace_45 : gD cX3_leastNextLace 45 (.iadd) 1 46 := ⟨by decide +kernel, rfl⟩
theorem d_X3_leastNextLace_46 : gD cX3_leastNextLace 46 (.aload_n 0) 1 47 := ⟨by decide +kernel, rfl⟩
theorem d_X3_leastNextLace_47 : gD cX3_leastNextLace 47 (.getfield 11) 3 50 := ⟨by decide +kernel, rfl⟩
theorem d_X3_leastNextLace_50 : gD cX3_leastNextLace 50 (.iload_n 1) 1 51 := ⟨by decide +kernel, rfl⟩
theorem d_X3_leastNextLace_51 : gD cX3_leastNextLace 51 (.aaload) 1 52 := ⟨by decide +kernel, rfl⟩
theorem d_X3_leastNextLace_52 : gD cX3_leastNextLace 52 (.iload_n 2) 1 53 := ⟨by decide +kernel, rfl⟩
theorem d_X3_leastNextLace_53 : gD cX3_leastNextLace 53 (.iaload) 1 54 := ⟨by decide +kernel, rfl⟩
theorem d_X3_leastNextLace_54 : gD cX3_leastNextLace 54 (.if_icmp .ne 5) 3 57 ∧ ((54 : Nat) : Int) + 5 = ((59 : Nat) : Int) := ⟨⟨by decide +kernel, rfl⟩, by decide⟩
theorem d_X3_leastNextLace_57 : gD cX3_leastNextLace 57 (.iload_n 3) 1 58 := ⟨by decide +kernel, rfl⟩
theorem d_X3_leastNextLace_58 : gD cX3_leastNextLace 58 (.ireturn) 1 59 := ⟨by decide +kernel, rfl⟩
theorem d_X3_leastNextLace_59 : gD cX3_leastNextLace 59 (.iinc 3 1) 3 62 := ⟨by decide +kernel, rfl⟩
theorem d_X3_leastNextLace_62 : decode cX3_leastNextLace 62 = .ok (.goto (-60), 3) ∧ ((62 : Nat) : Int) + (-60) = ((2 : Nat) : Int) := ⟨by decide +kernel, by decide⟩
theorem d_X3_leastNextLace_65 : gD cX3_leastNextLace 65 (.iload_n 2) 1 66 := ⟨by decide +kernel, rfl⟩
theorem d_X3_leastNextLace_66 : gD cX3_leastNextLace 66 (.ireturn) 1 67 := ⟨by decide +kernel, rfl⟩
abbrev rm_X3_leastNextLace : Room := { frames := 1, cells := 0, slots := 0, locals := 20 }
set_option maxRecDepth 20000 in
theorem w_X3_leastNextLace_59 {Γ : GC} {E : GE} (hO : gOk Γ E cX3_leastNextLace RX3 4 rm_X3_leastNextLace (some .int) "leastNextLace") (o : Nat) (S : GS) {k2 : (Int32 → Int32 → Int32 → Option Int32)} (hk2 : ∀ (z1 : Int32) (z2 : Int32) (z3 : Int32), Go Γ E (gBpI Γ E S) 4 (0, 0) 2 S [(0, vA (some o)), (1, vI z1), (2, vI z2), (3, vI z3)] [] (k2 z1 z2 z3)) (x1 : Int32) (x2 : Int32) (x3 : Int32) : Go Γ E (gBpI Γ E S) 4 (0, 0) 59 S [(0, vA (some o)), (1, vI x1), (2, vI x2), (3, vI x3)] [] (f_X3_leastNextLace_59 k2 o S x1 x2 x3) := by
  unfold f_X3_leastNextLace_59
  refine g_iinc (lv' := [(3, vI (x3 + 1)), (0, vA (some o)), (1, vI x1), (2, vI x2)]) hO 1 d_X3_leastNextLace_59 (by decide) 3 rfl (by decide) rfl ?_
  refine g_goto (tgt := 2) hO d_X3_leastNextLace_62.1 d_X3_leastNextLace_62.2 ?_
  exact g_sub [1, 2, 3, 0] rfl (hk2 _ _ _)
set_option maxRecDepth 20000 in
theorem w_X3_leastNextLace_2 {Γ : GC} {E : GE} (hO : gOk Γ E cX3_leastNextLace RX3 4 rm_X3_leastNextLace (some .int) "leastNextLace") (o : Nat) (S : GS) : ∀ (n : Nat) (x1 : Int32) (x2 : Int32) (x3 : Int32), Go Γ E (gBpI Γ E S) 4 (0, 0) 2 S [(0, vA (some o)), (1, vI x1), (2, vI x2), (3, vI x3)] [] (f_X3_leastNextLace_2 o S n x1 x2 x3) := by
  intro n
  induction n with
  | zero =>
    intro x1 x2 x3
    exact g_none
  | succ n ih =>
    intro x1 x2 x3
    rw [f_X3_leastNextLace_2]
    refine g_iload_n hO d_X3_leastNextLace_2 (by rfl) 3 rfl ?_
    refine g_bipush hO 30 d_X3_leastNextLace_3 (by decide) ?_
    refine g_ic_gt (tgt := 65) hO d_X3_leastNextLace_5.1 d_X3_leastNextLace_5.2 (fun _ => ?_) (fun _ => ?_)
    · skip
      refine g_iload_n hO d_X3_leastNextLace_65 (by rfl) 2 rfl ?_
      exact g_ret hO rfl rfl ⟨Nat.le_of_ble_eq_true rfl, Nat.le_of_ble_eq_true rfl⟩ rfl rfl d_X3_leastNextLace_66.1
    · skip
      refine g_iload_n hO d_X3_leastNextLace_8 (by rfl) 2 rfl ?_
      refine k_statNIp hO mm_X11_isLace lkSN_X3_74 ⟨⟨Nat.le_of_ble_eq_true rfl, Nat.le_of_ble_eq_true rfl⟩, Nat.le_of_ble_eq_true rfl, Nat.le_of_ble_eq_true rfl⟩ (kn' := (0, 0)) rfl (As := [vI x2]) rfl (Nat.le_of_ble_eq_true rfl) (t_X11_isLace Γ.2.1 E x2 S) d_X3_leastNextLace_9 rfl (fun v1 => ?_)
      refine g_if_eq (tgt := 65) hO d_X3_leastNextLace_12.1 d_X3_leastNextLace_12.2 (fun _ => ?_) (fun _ => ?_)
      · skip
        refine g_iload_n hO d_X3_leastNextLace_65 (by rfl) 2 rfl ?_
        exact g_ret hO rfl rfl ⟨Nat.le_of_ble_eq_true rfl, Nat.le_of_ble_eq_true rfl⟩ rfl rfl d_X3_leastNextLace_66.1
      · skip
        refine g_aload_n hO d_X3_leastNextLace_15 (by rfl) 0 rfl ?_
        refine h_getR hO cl_X3 1 rfl wf_X3_16 d_X3_leastNextLace_16 (fun v3 => ?_)
        refine g_iload_n hO d_X3_leastNextLace_19 (by rfl) 1 rfl ?_
        refine g_bipush hO 31 d_X3_leastNextLace_20 (by decide) ?_
        refine g_imul hO d_X3_leastNextLace_22 ?_
        refine g_iload_n hO d_X3_leastNextLace_23 (by rfl) 3 rfl ?_
        refine g_iadd hO d_X3_leastNextLace_24 ?_
        refine h_zald hO d_X3_leastNextLace_25 (fun v4 => ?_)
        refine g_if_eq (tgt := 59) hO d_X3_leastNextLace_26.1 d_X3_leastNextLace_26.2 (fun _ => ?_) (fun _ => ?_)
        · skip
          exact g_sub [0, 1, 2, 3] rfl (w_X3_leastNextLace_59 hO o _ ih _ _ _)
        · skip
          refine g_iload_n hO d_X3_leastNextLace_29 (by rfl) 3 rfl ?_
          refine g_iload_n hO d_X3_leastNextLace_30 (by rfl) 2 rfl ?_
          refine g_isub hO d_X3_leastNextLace_31 ?_
          refine g_mabs hO wm_X3_81 wt_abs wi_Math wc_abs ⟨by decide, Nat.le_of_ble_eq_true rfl, Nat.zero_le _, Nat.zero_le _⟩ d_X3_leastNextLace_32 ?_
          refine g_aload_n hO d_X3_leastNextLace_35 (by rfl) 0 rfl ?_
          refine h_getR hO cl_X3 0 rfl wf_X3_11 d_X3_leastNextLace_36 (fun v5 => ?_)
          refine g_iload_n hO d_X3_leastNextLace_39 (by rfl) 1 rfl ?_
          refine g_iconst hO 1 d_X3_leastNextLace_40 (by decide) ?_
          refine g_iadd hO d_X3_leastNextLace_41 ?_
          refine h_aald hO 21 (by omega) (by omega) d_X3_leastNextLace_42 (fun v6 => ?_)
          refine g_iload_n hO d_X3_leastNextLace_43 (by rfl) 3 rfl ?_
          refine h_iald hO d_X3_leastNextLace_44 (fun v7 => ?_)
          refine g_iadd hO d_X3_leastNextLace_45 ?_
          refine g_aload_n hO d_X3_leastNextLace_46 (by rfl) 0 rfl ?_
          refine h_getR hO cl_X3 0 rfl wf_X3_11 d_X3_leastNextLace_47 (fun v8 => ?_)
          refine g_iload_n hO d_X3_leastNextLace_50 (by rfl) 1 rfl ?_
          refine h_aald hO 21 (by omega) (by omega) d_X3_leastNextLace_51 (fun v9 => ?_)
          refine g_iload_n hO d_X3_leastNextLace_52 (by rfl) 2 rfl ?_
          refine h_iald hO d_X3_leastNextLace_53 (fun v10 => ?_)
          refine g_ic_ne (tgt := 59) hO d_X3_leastNextLace_54.1 d_X3_leastNextLace_54.2 (fun _ => ?_) (fun _ => ?_)
          · skip
            refine g_iload_n hO d_X3_leastNextLace_57 (by rfl) 3 rfl ?_
            exact g_ret hO rfl rfl ⟨Nat.le_of_ble_eq_true rfl, Nat.le_of_ble_eq_true rfl⟩ rfl rfl d_X3_leastNextLace_58.1
          · skip
            exact g_sub [0, 1, 2, 3] rfl (w_X3_leastNextLace_59 hO o _ ih _ _ _)
set_option maxRecDepth 20000 in
theorem w_X3_leastNextLace {Γ : GC} {E : GE} (hO : gOk Γ E cX3_leastNextLace RX3 4 rm_X3_leastNextLace (some .int) "leastNextLace") (o : Nat) (x1 : Int32) (x2 : Int32) (S : GS) : Go Γ E (gBpI Γ E S) 4 (0, 0) 0 S [(0, vA (some o)), (1, vI x1), (2, vI x2)] [] (f_X3_leastNextLace o x1 x2 S) := by
  unfold f_X3_leastNextLace
  refine g_iconst hO 0 d_X3_leastNextLace_0 (by decide) ?_
  refine g_istore_n (lv' := [(3, vI 0), (0, vA (some o)), (1, vI x1), (2, vI x2)]) hO d_X3_leastNextLace_1 (by rfl) (by decide) rfl ?_
  exact g_sub [1, 2, 3, 0] rfl (w_X3_leastNextLace_2 hO o _ _ _ _ _)
theorem t_X3_leastNextLace (l : Launch) (E : GE) (o : Nat) (x1 : Int32) (x2 : Int32) (S : GS) : ∀ a, f_X3_leastNextLace o x1 x2 S = some a → Ct l E yX3_leastNextLace cX3_leastNextLace 4 (some .int) rm_X3_leastNextLace [vA (some o), vI x1, vI x2] S (some (vI a)) S :=
  Ct_of (val := fun b => some (vI b)) (nxt := fun _ => S) (by decide) (Nat.le_of_ble_eq_true rfl) (fun Γ hl hO => w_X3_leastNextLace hO o x1 x2 S)
theorem d_X3_laceAt_0 : gD cX3_laceAt 0 (.aload_n 0) 1 1 := ⟨by decide +kernel, rfl⟩
theorem d_X3_laceAt_1 : gD cX3_laceAt 1 (.getfield 36) 3 4 := ⟨by decide +kernel, rfl⟩
theorem d_X3_laceAt_4 : gD cX3_laceAt 4 (.istore_n 2) 1 5 := ⟨by decide +kernel, rfl⟩
theorem d_X3_laceAt_5 : gD cX3_laceAt 5 (.iconst 0) 1 6 := ⟨by decide +kernel, rfl⟩
theorem d_X3_laceAt_6 : gD cX3_laceAt 6 (.istore_n 3) 1 7 := ⟨by decide +kernel, rfl⟩
theorem d_X3_laceAt_7 : gD cX3_laceAt 7 (.iload_n 3) 1 8 := ⟨by decide +kernel, rfl⟩
theorem d_X3_laceAt_8 : gD cX3_laceAt 8 (.iload_n 1) 1 9 := ⟨by decide +kernel, rfl⟩
theorem d_X3_laceAt_9 : gD cX3_laceAt 9 (.if_icmp .gt 22) 3 12 ∧ ((9 : Nat) : Int) + 22 = ((31 : Nat) : Int) := ⟨⟨by decide +kernel, rfl⟩, by decide⟩
theorem d_X3_laceAt_12 : gD cX3_laceAt 12 (.iload_n 3) 1 13 := ⟨by decide +kernel, rfl⟩
theorem d_X3_laceAt_13 : gD cX3_laceAt 13 (.bipush 16) 2 15 := ⟨by decide +kernel, rfl⟩
theorem d_X3_laceAt_15 : gD cX3_laceAt 15 (.if_icmp .ge 16) 3 18 ∧ ((15 : Nat) : Int) + 16 = ((31 : Nat) : Int) := ⟨⟨by decide +kernel, rfl⟩, by decide⟩
theorem d_X3_laceAt_18 : gD cX3_laceAt 18 (.aload_n 0) 1 19 := ⟨by decide +kernel, rfl⟩
theorem d_X3_laceAt_19 : gD cX3_laceAt 19 (.iload_n 3) 1 20 := ⟨by decide +kernel, rfl⟩
theorem d_X3_laceAt_20 : gD cX3_laceAt 20 (.iload_n 2) 1 21 := ⟨by decide +kernel, rfl⟩
theorem d_X3_laceAt_21 : gD cX3_laceAt 21 (.invokevirtual 78) 3 24 := ⟨by decide +kernel, rfl⟩
theorem d_X3_laceAt_24 : gD cX3_laceAt 24 (.istore_n 2) 1 25 := ⟨by decide +kernel, rfl⟩
theorem d_X3_laceAt_25 : gD cX3_laceAt 25 (.iinc 3 1) 3 28 := ⟨by decide +kernel, rfl⟩
theorem d_X3_laceAt_28 : decode cX3_laceAt 28 = .ok (.goto (-21), 3) ∧ ((28 : Nat) : Int) + (-21) = ((7 : Nat) : Int) := ⟨by decide +kernel, by decide⟩
theorem d_X3_laceAt_31 : gD cX3_laceAt 31 (.iload_n 2) 1 32 := ⟨by decide +kernel, rfl⟩
theorem d_X3_laceAt_32 : gD cX3_laceAt 32 (.ireturn) 1 33 := ⟨by decide +kernel, rfl⟩
abbrev rm_X3_laceAt : Room := { frames := 2, cells := 0, slots := 0, locals := 43 }
set_option maxRecDepth 20000 in
theorem w_X3_laceAt_7 {Γ : GC} {E : GE} (hO : gOk Γ E cX3_laceAt RX3 4 rm_X3_laceAt (some .int) "laceAt") (o : Nat) (S : GS) : ∀ (n : Nat) (x1 : Int32) (x2 : Int32) (x3 : Int32), Go Γ E (gBpI Γ E S) 4 (0, 0) 7 S [(0, vA (some o)), (1, vI x1), (2, vI x2), (3, vI x3)] [] (f_X3_laceAt_7 o S n x1 x2 x3) := by
  intro n
  induction n with
  | zero =>
    intro x1 x2 x3
    exact g_none
  | succ n ih =>
    intro x1 x2 x3
    rw [f_X3_laceAt_7]
    refine g_iload_n hO d_X3_laceAt_7 (by rfl) 3 rfl ?_
    refine g_iload_n hO d_X3_laceAt_8 (by rfl) 1 rfl ?_
    refine g_ic_gt (tgt := 31) hO d_X3_laceAt_9.1 d_X3_laceAt_9.2 (fun _ => ?_) (fun _ => ?_)
    · skip
      refine g_iload_n hO d_X3_laceAt_31 (by rfl) 2 rfl ?_
      exact g_ret hO rfl rfl ⟨Nat.le_of_ble_eq_true rfl, Nat.le_of_ble_eq_true rfl⟩ rfl rfl d_X3_laceAt_32.1
    · skip
      refine g_iload_n hO d_X3_laceAt_12 (by rfl) 3 rfl ?_
      refine g_bipush hO 16 d_X3_laceAt_13 (by decide) ?_
      refine g_ic_ge (tgt := 31) hO d_X3_laceAt_15.1 d_X3_laceAt_15.2 (fun _ => ?_) (fun _ => ?_)
      · skip
        refine g_iload_n hO d_X3_laceAt_31 (by rfl) 2 rfl ?_
        exact g_ret hO rfl rfl ⟨Nat.le_of_ble_eq_true rfl, Nat.le_of_ble_eq_true rfl⟩ rfl rfl d_X3_laceAt_32.1
      · skip
        refine g_aload_n hO d_X3_laceAt_18 (by rfl) 0 rfl ?_
        refine g_iload_n hO d_X3_laceAt_19 (by rfl) 3 rfl ?_
        refine g_iload_n hO d_X3_laceAt_20 (by rfl) 2 rfl ?_
        refine k_virtIp hO cl_X3 mm_X3_leastNextLace lkV_X3_78 ⟨⟨Nat.le_of_ble_eq_true rfl, Nat.le_of_ble_eq_true rfl⟩, Nat.le_of_ble_eq_true rfl, Nat.le_of_ble_eq_true rfl⟩ (kn' := (0, 0)) rfl (As := [vI x3, vI x2]) rfl (Nat.le_of_ble_eq_true rfl) (fun o' _ => t_X3_leastNextLace Γ.2.1 E o' x3 x2 S) d_X3_laceAt_21 rfl (fun v1 => ?_)
        refine g_istore_n (lv' := [(2, vI v1), (0, vA (some o)), (1, vI x1), (3, vI x3)]) hO d_X3_laceAt_24 (by rfl) (by decide) rfl ?_
        refine g_iinc (lv' := [(3, vI (x3 + 1)), (2, vI v1), (0, vA (some o)), (1, vI x1)]) hO 1 d_X3_laceAt_25 (by decide) 3 rfl (by decide) rfl ?_
        refine g_goto (tgt := 7) hO d_X3_laceAt_28.1 d_X3_laceAt_28.2 ?_
        exact g_sub [2, 3, 1, 0] rfl (ih _ _ _)
set_option maxRecDepth 20000 in
theorem w_X3_laceAt {Γ : GC} {E : GE} (hO : gOk Γ E cX3_laceAt RX3 4 rm_X3_laceAt (some .int) "laceAt") (o : Nat) (x1 : Int32) (S : GS) : Go Γ E (gBpI Γ E S) 4 (0, 0) 0 S [(0, vA (some o)), (1, vI x1)] [] (f_X3_laceAt o x1 S) := by
  unfold f_X3_laceAt
  refine g_aload_n hO d_X3_laceAt_0 (by rfl) 0 rfl ?_
  refine h_getI hO cl_X3 3 rfl wf_X3_36 d_X3_laceAt_1 (fun v1 => ?_)
  refine g_istore_n (lv' := [(2, vI v1), (0, vA (some o)), (1, vI x1)]) hO d_X3_laceAt_4 (by rfl) (by decide) rfl ?_
  refine g_iconst hO 0 d_X3_laceAt_5 (by decide) ?_
  refine g_istore_n (lv' := [(3, vI 0), (2, vI v1), (0, vA (some o)), (1, vI x1)]) hO d_X3_laceAt_6 (by rfl) (by decide) rfl ?_
  exact g_sub [2, 3, 1, 0] rfl (w_X3_laceAt_7 hO o _ _ _ _ _)
theorem t_X3_laceAt (l : Launch) (E : GE) (o : Nat) (x1 : Int32) (S : GS) : ∀ a, f_X3_laceAt o x1 S = some a → Ct l E yX3_laceAt cX3_laceAt 4 (some .int) rm_X3_laceAt [vA (some o), vI x1] S (some (vI a)) S :=
  Ct_of (val := fun b => some (vI b)) (nxt := fun _ => S) (by decide) (Nat.le_of_ble_eq_true rfl) (fun Γ hl hO => w_X3_laceAt hO o x1 S)
theorem d_X3_knotsOf_0 : gD cX3_knotsOf 0 (.iconst 0) 1 1 := ⟨by decide +kernel, rfl⟩
theorem d_X3_knotsOf_1 : gD cX3_knotsOf 1 (.istore_n 2) 1 2 := ⟨by decide +kernel, rfl⟩
theorem d_X3_knotsOf_2 : gD cX3_knotsOf 2 (.iconst 0) 1 3 := ⟨by decide +kernel, rfl⟩
theorem d_X3_knotsOf_3 : gD cX3_knotsOf 3 (.istore_n 3) 1 4 := ⟨by decide +kernel, rfl⟩
theorem d_X3_knotsOf_4 : gD cX3_knotsOf 4 (.iload_n 3) 1 5 := ⟨by decide +kernel, rfl⟩
theorem d_X3_knotsOf_5 : gD cX3_knotsOf 5 (.bipush 8) 2 7 := ⟨by decide +kernel, rfl⟩
theorem d_X3_knotsOf_7 : gD cX3_knotsOf 7 (.if_icmp .ge 39) 3 10 ∧ ((7 : Nat) : Int) + 39 = ((46 : Nat) : Int) := ⟨⟨by decide +kernel, rfl⟩, by decide⟩
theorem d_X3_knotsOf_10 : gD cX3_knotsOf 10 (.iload_n 1) 1 11 := ⟨by decide +kernel, rfl⟩
theorem d_X3_knotsOf_11 : gD cX3_knotsOf 11 (.iload_n 3) 1 12 := ⟨by decide +kernel, rfl⟩
theorem d_X3_knotsOf_12 : gD cX3_knotsOf 12 (.ishr) 1 13 := ⟨by decide +kernel, rfl⟩
theorem d_X3_knotsOf_13 : gD cX3_knotsOf 13 (.iconst 1) 1 14 := ⟨by decide +kernel, rfl⟩
theorem d_X3_knotsOf_14 : gD cX3_knotsOf 14 (.iand) 1 15 := ⟨by decide +kernel, rfl⟩
theorem d_X3_knotsOf_15 : gD cX3_knotsOf 15 (.iconst 1) 1 16 := ⟨by decide +kernel, rfl⟩
theorem d_X3_knotsOf_16 : gD cX3_knotsOf 16 (.if_icmp .ne 24) 3 19 ∧ ((16 : Nat) : Int) + 24 = ((40 : Nat) : Int) := ⟨⟨by decide +kernel, rfl⟩, by decide⟩
theorem d_X3_knotsOf_19 : gD cX3_knotsOf 19 (.aload_n 0) 1 20 := ⟨by decide +kernel, rfl⟩
theorem d_X3_knotsOf_20 : gD cX3_knotsOf 20 (.getfield 20) 3 23 := ⟨by decide +kernel, rfl⟩
theorem d_X3_knotsOf_23 : gD cX3_knotsOf 23 (.iload_n 3) 1 24 := ⟨by decide +kernel, rfl⟩
theorem d_X3_knotsOf_24 : gD cX3_knotsOf 24 (.iaload) 1 25 := ⟨by decide +kernel, rfl⟩
theorem d_X3_knotsOf_25 : gD cX3_knotsOf 25 (.iconst (-1)) 1 26 := ⟨by decide +kernel, rfl⟩
theorem d_X3_knotsOf_26 : gD cX3_knotsOf 26 (.if_icmp .ne 5) 3 29 ∧ ((26 : Nat) : Int) + 5 = ((31 : Nat) : Int) := ⟨⟨by decide +kernel, rfl⟩, by decide⟩
theorem d_X3_knotsOf_29 : gD cX3_knotsOf 29 (.iconst (-1)) 1 30 := ⟨by decide +kernel, rfl⟩
theorem d_X3_knotsOf_30 : gD cX3_knotsOf 30 (.ireturn) 1 31 := ⟨by decide +kernel, rfl⟩
theorem d_X3_knotsOf_31 : gD cX3_knotsOf 31 (.iload_n 2) 1 32 := ⟨by decide +kernel, rfl⟩
theorem d_X3_knotsOf_32 : gD cX3_knotsOf 32 (.aload_n 0) 1 33 := ⟨by decide +kernel, rfl⟩
theorem d_X3_knotsOf_33 : gD cX3_knotsOf 33 (.getfield 20) 3 36 := ⟨by decide +kernel, rfl⟩
theorem d_X3_knotsOf_36 : gD cX3_knotsOf 36 (.iload_n 3) 1 37 := ⟨by decide +kernel, rfl⟩
theorem d_X3_knotsOf_37 : gD cX3_knotsOf 37 (.iaload) 1 38 := ⟨by decide +kernel, rfl⟩
theorem d_X3_knotsOf_38 : gD cX3_knotsOf 38 (.iadd) 1 39 := ⟨by decide +kernel, rfl⟩
theorem d_X3_knotsOf_39 : gD cX3_knotsOf 39 (.istore_n 2) 1 40 := ⟨by decide +kernel, rfl⟩
theorem d_X3_knotsOf_40 : gD cX3_knotsOf 40 (.iinc 3 1) 3 43 := ⟨by decide +kernel, rfl⟩
theorem d_X3_knotsOf_43 : decode cX3_knotsOf 43 = .ok (.goto (-39), 3) ∧ ((43 : Nat) : Int) + (-39) = ((4 : Nat) : Int) := ⟨by decide +kernel, by decide⟩
theorem d_X3_knotsOf_46 : gD cX3_knotsOf 46 (.iload_n 2) 1 47 := ⟨by decide +kernel, rfl⟩
theorem d_X3_knotsOf_47 : gD cX3_knotsOf 47 (.ireturn) 1 48 := ⟨by decide +kernel, rfl⟩
abbrev rm_X3_knotsOf : Room := { frames := 0, cells := 0, slots := 0, locals := 0 }
set_option maxRecDepth 20000 in
theorem w_X3_knotsOf_40 {Γ : GC} {E : GE} (hO : gOk Γ E cX3_knotsOf RX3 4 rm_X3_knotsOf (some .int) "knotsOf") (o : Nat) (S : GS) {k4 : (Int32 → Int32 → Int32 → Option Int32)} (hk4 : ∀ (z1 : Int32) (z2 : Int32) (z3 : Int32), Go Γ E (gBpI Γ E S) 4 (0, 0) 4 S [(0, vA (some o)), (1, vI z1), (2, vI z2), (3, vI z3)] [] (k4 z1 z2 z3)) (x1 : Int32) (x2 : Int32) (x3 : Int32) : Go Γ E (gBpI Γ E S) 4 (0, 0) 40 S [(0, vA (some o)), (1, vI x1), (2, vI x2), (3, vI x3)] [] (f_X3_knotsOf_40 k4 o S x1 x2 x3) := by
  unfold f_X3_knotsOf_40
  refine g_iinc (lv' := [(3, vI (x3 + 1)), (0, vA (some o)), (1, vI x1), (2, vI x2)]) hO 1 d_X3_knotsOf_40 (by decide) 3 rfl (by decide) rfl ?_
  refine g_goto (tgt := 4) hO d_X3_knotsOf_43.1 d_X3_knotsOf_43.2 ?_
  exact g_sub [1, 2, 3, 0] rfl (hk4 _ _ _)
set_option maxRecDepth 20000 in
theorem w_X3_knotsOf_4 {Γ : GC} {E : GE} (hO : gOk Γ E cX3_knotsOf RX3 4 rm_X3_knotsOf (some .int) "knotsOf") (o : Nat) (S : GS) : ∀ (n : Nat) (x1 : Int32) (x2 : Int32) (x3 : Int32), Go Γ E (gBpI Γ E S) 4 (0, 0) 4 S [(0, vA (some o)), (1, vI x1), (2, vI x2), (3, vI x3)] [] (f_X3_knotsOf_4 o S n x1 x2 x3) := by
  intro n
  induction n with
  | zero =>
    intro x1 x2 x3
    exact g_none
  | succ n ih =>
    intro x1 x2 x3
    rw [f_X3_knotsOf_4]
    refine g_iload_n hO d_X3_knotsOf_4 (by rfl) 3 rfl ?_
    refine g_bipush hO 8 d_X3_knotsOf_5 (by decide) ?_
    refine g_ic_ge (tgt := 46) hO d_X3_knotsOf_7.1 d_X3_knotsOf_7.2 (fun _ => ?_) (fun _ => ?_)
    · skip
      refine g_iload_n hO d_X3_knotsOf_46 (by rfl) 2 rfl ?_
      exact g_ret hO rfl rfl ⟨Nat.le_of_ble_eq_true rfl, Nat.le_of_ble_eq_true rfl⟩ rfl rfl d_X3_knotsOf_47.1
    · skip
      refine g_iload_n hO d_X3_knotsOf_10 (by rfl) 1 rfl ?_
      refine g_iload_n hO d_X3_knotsOf_11 (by rfl) 3 rfl ?_
      refine g_ishr hO d_X3_knotsOf_12 ?_
      refine g_iconst hO 1 d_X3_knotsOf_13 (by decide) ?_
      refine g_iand hO d_X3_knotsOf_14 ?_
      refine g_iconst hO 1 d_X3_knotsOf_15 (by decide) ?_
      refine g_ic_ne (tgt := 40) hO d_X3_knotsOf_16.1 d_X3_knotsOf_16.2 (fun _ => ?_) (fun _ => ?_)
      · skip
        refine g_aload_n hO d_X3_knotsOf_19 (by rfl) 0 rfl ?_
        refine h_getR hO cl_X3 2 rfl wf_X3_20 d_X3_knotsOf_20 (fun v1 => ?_)
        refine g_iload_n hO d_X3_knotsOf_23 (by rfl) 3 rfl ?_
        refine h_iald hO d_X3_knotsOf_24 (fun v2 => ?_)
        refine g_iconst hO (-1) d_X3_knotsOf_25 (by decide) ?_
        refine g_ic_ne (tgt := 31) hO d_X3_knotsOf_26.1 d_X3_knotsOf_26.2 (fun _ => ?_) (fun _ => ?_)
        · skip
          refine g_iconst hO (-1) d_X3_knotsOf_29 (by decide) ?_
          exact g_ret hO rfl rfl ⟨Nat.le_of_ble_eq_true rfl, Nat.le_of_ble_eq_true rfl⟩ rfl rfl d_X3_knotsOf_30.1
        · skip
          refine g_iload_n hO d_X3_knotsOf_31 (by rfl) 2 rfl ?_
          refine g_aload_n hO d_X3_knotsOf_32 (by rfl) 0 rfl ?_
          refine h_getR hO cl_X3 2 rfl wf_X3_20 d_X3_knotsOf_33 (fun v3 => ?_)
          refine g_iload_n hO d_X3_knotsOf_36 (by rfl) 3 rfl ?_
          refine h_iald hO d_X3_knotsOf_37 (fun v4 => ?_)
          refine g_iadd hO d_X3_knotsOf_38 ?_
          refine g_istore_n (lv' := [(2, vI (x2 + v4)), (0, vA (some o)), (1, vI x1), (3, vI x3)]) hO d_X3_knotsOf_39 (by rfl) (by decide) rfl ?_
          exact g_sub [1, 2, 0, 3] rfl (w_X3_knotsOf_40 hO o _ ih _ _ _)
      · skip
        exact g_sub [0, 1, 2, 3] rfl (w_X3_knotsOf_40 hO o _ ih _ _ _)
set_option maxRecDepth 20000 in
theorem w_X3_knotsOf {Γ : GC} {E : GE} (hO : gOk Γ E cX3_knotsOf RX3 4 rm_X3_knotsOf (some .int) "knotsOf") (o : Nat) (x1 : Int32) (S : GS) : Go Γ E (gBpI Γ E S) 4 (0, 0) 0 S [(0, vA (some o)), (1, vI x1)] [] (f_X3_knotsOf o x1 S) := by
  unfold f_X3_knotsOf
  refine g_iconst hO 0 d_X3_knotsOf_0 (by decide) ?_
  refine g_istore_n (lv' := [(2, vI 0), (0, vA (some o)), (1, vI x1)]) hO d_X3_knotsOf_1 (by rfl) (by decide) rfl ?_
  refine g_iconst hO 0 d_X3_knotsOf_2 (by decide) ?_
  refine g_istore_n (lv' := [(3, vI 0), (2, vI 0), (0, vA (some o)), (1, vI x1)]) hO d_X3_knotsOf_3 (by rfl) (by decide) rfl ?_
  exact g_sub [2, 3, 1, 0] rfl (w_X3_knotsOf_4 hO o _ _ _ _ _)
theorem t_X3_knotsOf (l : Launch) (E : GE) (o : Nat) (x1 : Int32) (S : GS) : ∀ a, f_X3_knotsOf o x1 S = some a → Ct l E yX3_knotsOf cX3_knotsOf 4 (some .int) rm_X3_knotsOf [vA (some o), vI x1] S (some (vI a)) S :=
  Ct_of (val := fun b => some (vI b)) (nxt := fun _ => S) (by decide) (Nat.le_of_ble_eq_true rfl) (fun Γ hl hO => w_X3_knotsOf hO o x1 S)
theorem d_X3_leastOf_0 : gD cX3_leastOf 0 (.iconst 0) 1 1 := ⟨by decide +kernel, rfl⟩
theorem d_X3_leastOf_1 : gD cX3_leastOf 1 (.istore 5) 2 3 := ⟨by decide +kernel, rfl⟩
theorem d_X3_leastOf_3 : gD cX3_leastOf 3 (.iload 5) 2 5 := ⟨by decide +kernel, rfl⟩
theorem d_X3_leastOf_5 : gD cX3_leastOf 5 (.bipush 8) 2 7 := ⟨by decide +kernel, rfl⟩
theorem d_X3_leastOf_7 : gD cX3_leastOf 7 (.if_icmp .ge 42) 3 10 ∧ ((7 : Nat) : Int) + 42 = ((49 : Nat) : Int) := ⟨⟨by decide +kernel, rfl⟩, by decide⟩
theorem d_X3_leastOf_10 : gD cX3_leastOf 10 (.aload_n 0) 1 11 := ⟨by decide +kernel, rfl⟩
theorem d_X3_leastOf_11 : gD cX3_leastOf 11 (.getfield 20) 3 14 := ⟨by decide +kernel, rfl⟩
theorem d_X3_leastOf_14 : gD cX3_leastOf 14 (.iload 5) 2 16 := ⟨by decide +kernel, rfl⟩
theorem d_X3_leastOf_16 : gD cX3_leastOf 16 (.aload_n 1) 1 17 := ⟨by decide +kernel, rfl⟩
theorem d_X3_leastOf_17 : gD cX3_leastOf 17 (.getfield 24) 3 20 := ⟨by decide +kernel, rfl⟩
theorem d_X3_leastOf_20 : gD cX3_leastOf 20 (.iload 5) 2 22 := ⟨by decide +kernel, rfl⟩
theorem d_X3_leastOf_22 : gD cX3_leastOf 22 (.invokevirtual 84) 3 25 := ⟨by decide +kernel, rfl⟩
theorem d_X3_leastOf_25 : gD cX3_leastOf 25 (.ifCond .eq 16) 3 28 ∧ ((25 : Nat) : Int) + 16 = ((41 : Nat) : Int) := ⟨⟨by decide +kernel, rfl⟩, by decide⟩
theorem d_X3_leastOf_28 : gD cX3_leastOf 28 (.aload_n 0) 1 29 := ⟨by decide +kernel, rfl⟩
theorem d_X3_leastOf_29 : gD cX3_leastOf 29 (.aload_n 1) 1 30 := ⟨by decide +kernel, rfl⟩
theorem d_X3_leastOf_30 : gD cX3_leastOf 30 (.aload_n 2) 1 31 := ⟨by decide +kernel, rfl⟩
theorem d_X3_leastOf_31 : gD cX3_leastOf 31 (.iload 5) 2 33 := ⟨by decide +kernel, rfl⟩
theorem d_X3_leastOf_33 : gD cX3_leastOf 33 (.iload 4) 2 35 := ⟨by decide +kernel, rfl⟩
theorem d_X3_leastOf_35 : gD cX3_leastOf 35 (.invokevirtual 87) 3 38 := ⟨by decide +kernel, rfl⟩
theorem d_X3_leastOf_38 : decode cX3_leastOf 38 = .ok (.goto 4, 3) ∧ ((38 : Nat) : Int) + 4 = ((42 : Nat) : Int) := ⟨by decide +kernel, by decide⟩
theorem d_X3_leastOf_41 : gD cX3_leastOf 41 (.iconst (-1)) 1 42 := ⟨by decide +kernel, rfl⟩
theorem d_X3_leastOf_42 : gD cX3_leastOf 42 (.iastore) 1 43 := ⟨by decide +kernel, rfl⟩
theorem d_X3_leastOf_43 : gD cX3_leastOf 43 (.iinc 5 1) 3 46 := ⟨by decide +kernel, rfl⟩
theorem d_X3_leastOf_46 : decode cX3_leastOf 46 = .ok (.goto (-43), 3) ∧ ((46 : Nat) : Int) + (-43) = ((3 : Nat) : Int) := ⟨by decide +kernel, by decide⟩
theorem d_X3_leastOf_49 : gD cX3_leastOf 49 (.iconst (-1)) 1 50 := ⟨by decide +kernel, rfl⟩
theorem d_X3_leastOf_50 : gD cX3_leastOf 50 (.istore 5) 2 52 := ⟨by decide +kernel, rfl⟩
theorem d_X3_leastOf_52 : gD cX3_leastOf 52 (.iconst 0) 1 53 := ⟨by decide +kernel, rfl⟩
theorem d_X3_leastOf_53 : gD cX3_leastOf 53 (.istore 6) 2 55 := ⟨by decide +kernel, rfl⟩
theorem d_X3_leastOf_55 : gD cX3_leastOf 55 (.iload 6) 2 57 := ⟨by decide +kernel, rfl⟩
theorem d_X3_leastOf_57 : gD cX3_leastOf 57 (.iconst 1) 1 58 := ⟨by decide +kernel, rfl⟩
theorem d_X3_leastOf_58 : gD cX3_leastOf 58 (.aload_n 1) 1 59 := ⟨by decide +kernel, rfl⟩
theorem d_X3_leastOf_59 : gD cX3_leastOf 59 (.getfield 24) 3 62 := ⟨by decide +kernel, rfl⟩
theorem d_X3_leastOf_62 : gD cX3_leastOf 62 (.getfield 40) 3 65 := ⟨by decide +kernel, rfl⟩
theorem d_X3_leastOf_65 : gD cX3_leastOf 65 (.ishl) 1 66 := ⟨by decide +kernel, rfl⟩
theorem d_X3_leastOf_66 : gD cX3_leastOf 66 (.if_icmp .ge 53) 3 69 ∧ ((66 : Nat) : Int) + 53 = ((119 : Nat) : Int) := ⟨⟨by decide +kernel, rfl⟩, by decide⟩
theorem d_X3_leastOf_69 : gD cX3_leastOf 69 (.iload 6) 2 71 := ⟨by decide +kernel, rfl⟩
theorem d_X3_leastOf_71 : gD cX3_leastOf 71 (.invokestatic 91) 3 74 := ⟨by decide +kernel, rfl⟩
theorem d_X3_leastOf_74 : gD cX3_leastOf 74 (.iload_n 3) 1 75 := ⟨by decide +kernel, rfl⟩
theorem d_X3_leastOf_75 : gD cX3_leastOf 75 (.if_icmp .ne 38) 3 78 ∧ ((75 : Nat) : Int) + 38 = ((113 : Nat) : Int) := ⟨⟨by decide +kernel, rfl⟩, by decide⟩
theorem d_X3_leastOf_78 : gD cX3_leastOf 78 (.aload_n 0) 1 79 := ⟨by decide +kernel, rfl⟩
theorem d_X3_leastOf_79 : gD cX3_leastOf 79 (.iload 6) 2 81 := ⟨by decide +kernel, rfl⟩
theorem d_X3_leastOf_81 : gD cX3_leastOf 81 (.invokevirtual 96) 3 84 := ⟨by decide +kernel, rfl⟩
theorem d_X3_leastOf_84 : gD cX3_leastOf 84 (.iconst (-1)) 1 85 := ⟨by decide +kernel, rfl⟩
theorem d_X3_leastOf_85 : gD cX3_leastOf 85 (.if_icmp .eq 28) 3 88 ∧ ((85 : Nat) : Int) + 28 = ((113 : Nat) : Int) := ⟨⟨by decide +kernel, rfl⟩, by decide⟩
theorem d_X3_leastOf_88 : gD cX3_leastOf 88 (.iload 5) 2 90 := ⟨by decide +kernel, rfl⟩
theorem d_X3_leastOf_90 : gD cX3_leastOf 90 (.iconst (-1)) 1 91 := ⟨by decide +kernel, rfl⟩
theorem d_X3_leastOf_91 : gD cX3_leastOf 91 (.if_icmp .eq 18) 3 94 ∧ ((91 : Nat) : Int) + 18 = ((109 : Nat) : Int) := ⟨⟨by decide +kernel, rfl⟩, by decide⟩
theorem d_X3_leastOf_94 : gD cX3_leastOf 94 (.aload_n 0) 1 95 := ⟨by decide +kernel, rfl⟩
theorem d_X3_leastOf_95 : gD cX3_leastOf 95 (.iload 6) 2 97 := ⟨by decide +kernel, rfl⟩
theorem d_X3_leastOf_97 : gD cX3_leastOf 97 (.invokevirtual 96) 3 100 := ⟨by decide +kernel, rfl⟩
theorem d_X3_leastOf_100 : gD cX3_leastOf 100 (.aload_n 0) 1 101 := ⟨by decide +kernel, rfl⟩
theorem d_X3_leastOf_101 : gD cX3_leastOf 101 (.iload 5) 2 103 := ⟨by decide +kernel, rfl⟩
theorem d_X3_leastOf_103 : gD cX3_leastOf 103 (.invokevirtual 96) 3 106 := ⟨by decide +kernel, rfl⟩
theorem d_X3_leastOf_106 : gD cX3_leastOf 106 (.if_icmp .ge 7) 3 109 ∧ ((106 : Nat) : Int) + 7 = ((113 : Nat) : Int) := ⟨⟨by decide +kernel, rfl⟩, by decide⟩
theorem d_X3_leastOf_109 : gD cX3_leastOf 109 (.iload 6) 2 111 := ⟨by decide +kernel, rfl⟩
theorem d_X3_leastOf_111 : gD cX3_leastOf 111 (.istore 5) 2 113 := ⟨by decide +kernel, rfl⟩
theorem d_X3_leastOf_113 : gD cX3_leastOf 113 (.iinc 6 1) 3 116 := ⟨by decide +kernel, rfl⟩
theorem d_X3_leastOf_116 : decode cX3_leastOf 116 = .ok (.goto (-61), 3) ∧ ((116 : Nat) : Int) + (-61) = ((55 : Nat) : Int) := ⟨by decide +kernel, by decide⟩
theorem d_X3_leastOf_119 : gD cX3_leastOf 119 (.iload 5) 2 121 := ⟨by decide +kernel, rfl⟩
theorem d_X3_leastOf_121 : gD cX3_leastOf 121 (.ireturn) 1 122 := ⟨by decide +kernel, rfl⟩
abbrev rm_X3_leastOf : Room := { frames := 4, cells := 0, slots := 0, locals := 99 }
set_option maxRecDepth 20000 in
theorem w_X3_leastOf_42 {Γ : GC} {E : GE} (hO : gOk Γ E cX3_leastOf RX3 7 rm_X3_leastOf (some .int) "leastOf") (o : Nat) {k3 : (Option Nat → Option Nat → Int32 → Int32 → Int32 → GS → Option (Int32 × GS))} (hk3 : ∀ (z1 : Option Nat) (z2 : Option Nat) (z3 : Int32) (z4 : Int32) (z5 : Int32) (S1 : GS), Go Γ E (gBsI Γ E) 7 (0, 0) 3 S1 [(0, vA (some o)), (1, vA z1), (2, vA z2), (3, vI z3), (4, vI z4), (5, vI z5)] [] (k3 z1 z2 z3 z4 z5 S1)) (x1 : Option Nat) (x2 : Option Nat) (x3 : Int32) (x4 : Int32) (x5 : Int32) (y0 : Option Nat) (y1 : Int32) (y2 : Int32) (S : GS) : Go Γ E (gBsI Γ E) 7 (0, 0) 42 S [(0, vA (some o)), (1, vA x1), (2, vA x2), (3, vI x3), (4, vI x4), (5, vI x5)] [vI y2, vI y1, vA y0] (f_X3_leastOf_42 k3 o x1 x2 x3 x4 x5 y0 y1 y2 S) := by
  unfold f_X3_leastOf_42
  refine h_iast hO d_X3_leastOf_42 (fun S1 => ?_)
  refine g_iinc (lv' := [(5, vI (x5 + 1)), (0, vA (some o)), (1, vA x1), (2, vA x2), (3, vI x3), (4, vI x4)]) hO 1 d_X3_leastOf_43 (by decide) 5 rfl (by decide) rfl ?_
  refine g_goto (tgt := 3) hO d_X3_leastOf_46.1 d_X3_leastOf_46.2 ?_
  exact g_sub [1, 2, 3, 4, 5, 0] rfl (hk3 _ _ _ _ _ _)
set_option maxRecDepth 20000 in
theorem w_X3_leastOf_113 {Γ : GC} {E : GE} (hO : gOk Γ E cX3_leastOf RX3 7 rm_X3_leastOf (some .int) "leastOf") (o : Nat) {k55 : (Option Nat → Int32 → Int32 → Int32 → GS → Option (Int32 × GS))} (hk55 : ∀ (z1 : Option Nat) (z3 : Int32) (z5 : Int32) (z6 : Int32) (S1 : GS), Go Γ E (gBsI Γ E) 7 (0, 0) 55 S1 [(0, vA (some o)), (1, vA z1), (3, vI z3), (5, vI z5), (6, vI z6)] [] (k55 z1 z3 z5 z6 S1)) (x1 : Option Nat) (x3 : Int32) (x5 : Int32) (x6 : Int32) (S : GS) : Go Γ E (gBsI Γ E) 7 (0, 0) 113 S [(0, vA (some o)), (1, vA x1), (3, vI x3), (5, vI x5), (6, vI x6)] [] (f_X3_leastOf_113 k55 o x1 x3 x5 x6 S) := by
  unfold f_X3_leastOf_113
  refine g_iinc (lv' := [(6, vI (x6 + 1)), (0, vA (some o)), (1, vA x1), (3, vI x3), (5, vI x5)]) hO 1 d_X3_leastOf_113 (by decide) 4 rfl (by decide) rfl ?_
  refine g_goto (tgt := 55) hO d_X3_leastOf_116.1 d_X3_leastOf_116.2 ?_
  exact g_sub [1, 2, 3, 4, 0] rfl (hk55 _ _ _ _ _)
set_option maxRecDepth 20000 in
theorem w_X3_leastOf_109 {Γ : GC} {E : GE} (hO : gOk Γ E cX3_leastOf RX3 7 rm_X3_leastOf (some .int) "leastOf") (o : Nat) {k55 : (Option Nat → Int32 → Int32 → Int32 → GS → Option (Int32 × GS))} (hk55 : ∀ (z1 : Option Nat) (z3 : Int32) (z5 : Int32) (z6 : Int32) (S1 : GS), Go Γ E (gBsI Γ E) 7 (0, 0) 55 S1 [(0, vA (some o)), (1, vA z1), (3, vI z3), (5, vI z5), (6, vI z6)] [] (k55 z1 z3 z5 z6 S1)) (x1 : Option Nat) (x3 : Int32) (x6 : Int32) (S : GS) : Go Γ E (gBsI Γ E) 7 (0, 0) 109 S [(0, vA (some o)), (1, vA x1), (3, vI x3), (6, vI x6)] [] (f_X3_leastOf_109 k55 o x1 x3 x6 S) := by
  unfold f_X3_leastOf_109
  refine g_iload hO d_X3_leastOf_109 3 rfl ?_
  refine g_istore (lv' := [(5, vI x6), (0, vA (some o)), (1, vA x1), (3, vI x3), (6, vI x6)]) hO d_X3_leastOf_111 (by decide) rfl ?_
  exact g_sub [1, 2, 3, 0, 4] rfl (w_X3_leastOf_113 hO o hk55 _ _ _ _ _)
set_option maxRecDepth 20000 in
theorem w_X3_leastOf_55 {Γ : GC} {E : GE} (hO : gOk Γ E cX3_leastOf RX3 7 rm_X3_leastOf (some .int) "leastOf") (o : Nat) : ∀ (n : Nat) (x1 : Option Nat) (x3 : Int32) (x5 : Int32) (x6 : Int32) (S : GS), Go Γ E (gBsI Γ E) 7 (0, 0) 55 S [(0, vA (some o)), (1, vA x1), (3, vI x3), (5, vI x5), (6, vI x6)] [] (f_X3_leastOf_55 o n x1 x3 x5 x6 S) := by
  intro n
  induction n with
  | zero =>
    intro x1 x3 x5 x6 S
    exact g_none
  | succ n ih =>
    intro x1 x3 x5 x6 S
    rw [f_X3_leastOf_55]
    refine g_iload hO d_X3_leastOf_55 4 rfl ?_
    refine g_iconst hO 1 d_X3_leastOf_57 (by decide) ?_
    refine g_aload_n hO d_X3_leastOf_58 (by rfl) 1 rfl ?_
    refine h_getR hO cl_X0 1 rfl wf_X3_24 d_X3_leastOf_59 (fun v1 => ?_)
    refine h_getI hO cl_X7 3 rfl wf_X3_40 d_X3_leastOf_62 (fun v2 => ?_)
    refine g_ishl hO d_X3_leastOf_65 ?_
    refine g_ic_ge (tgt := 119) hO d_X3_leastOf_66.1 d_X3_leastOf_66.2 (fun _ => ?_) (fun _ => ?_)
    · skip
      refine g_iload hO d_X3_leastOf_119 3 rfl ?_
      exact g_ret hO rfl rfl ⟨Nat.le_of_ble_eq_true rfl, Nat.le_of_ble_eq_true rfl⟩ rfl rfl d_X3_leastOf_121.1
    · skip
      refine g_iload hO d_X3_leastOf_69 4 rfl ?_
      refine k_statIp hO mm_J6_bitCount_0f7a4 lkS_X3_91 ⟨⟨Nat.le_of_ble_eq_true rfl, Nat.le_of_ble_eq_true rfl⟩, Nat.le_of_ble_eq_true rfl, Nat.le_of_ble_eq_true rfl⟩ (kn' := (0, 0)) rfl (As := [vI x6]) rfl (Nat.le_of_ble_eq_true rfl) (t_J6_bitCount_0f7a4 Γ.2.1 E x6 S) d_X3_leastOf_71 rfl (fun v3 => ?_)
      refine g_iload_n hO d_X3_leastOf_74 (by rfl) 2 rfl ?_
      refine g_ic_ne (tgt := 113) hO d_X3_leastOf_75.1 d_X3_leastOf_75.2 (fun _ => ?_) (fun _ => ?_)
      · skip
        refine g_aload_n hO d_X3_leastOf_78 (by rfl) 0 rfl ?_
        refine g_iload hO d_X3_leastOf_79 4 rfl ?_
        refine k_virtIp hO cl_X3 mm_X3_knotsOf lkV_X3_96 ⟨⟨Nat.le_of_ble_eq_true rfl, Nat.le_of_ble_eq_true rfl⟩, Nat.le_of_ble_eq_true rfl, Nat.le_of_ble_eq_true rfl⟩ (kn' := (0, 0)) rfl (As := [vI x6]) rfl (Nat.le_of_ble_eq_true rfl) (fun o' _ => t_X3_knotsOf Γ.2.1 E o' x6 S) d_X3_leastOf_81 rfl (fun v5 => ?_)
        refine g_iconst hO (-1) d_X3_leastOf_84 (by decide) ?_
        refine g_ic_eq (tgt := 113) hO d_X3_leastOf_85.1 d_X3_leastOf_85.2 (fun _ => ?_) (fun _ => ?_)
        · skip
          exact g_sub [0, 1, 2, 3, 4] rfl (w_X3_leastOf_113 hO o ih _ _ _ _ _)
        · skip
          refine g_iload hO d_X3_leastOf_88 3 rfl ?_
          refine g_iconst hO (-1) d_X3_leastOf_90 (by decide) ?_
          refine g_ic_eq (tgt := 109) hO d_X3_leastOf_91.1 d_X3_leastOf_91.2 (fun _ => ?_) (fun _ => ?_)
          · skip
            exact g_sub [0, 1, 2, 4] rfl (w_X3_leastOf_109 hO o ih _ _ _ _)
          · skip
            refine g_aload_n hO d_X3_leastOf_94 (by rfl) 0 rfl ?_
            refine g_iload hO d_X3_leastOf_95 4 rfl ?_
            refine k_virtIp hO cl_X3 mm_X3_knotsOf lkV_X3_96 ⟨⟨Nat.le_of_ble_eq_true rfl, Nat.le_of_ble_eq_true rfl⟩, Nat.le_of_ble_eq_true rfl, Nat.le_of_ble_eq_true rfl⟩ (kn' := (0, 0)) rfl (As := [vI x6]) rfl (Nat.le_of_ble_eq_true rfl) (fun o' _ => t_X3_knotsOf Γ.2.1 E o' x6 S) d_X3_leastOf_97 rfl (fun v7 => ?_)
            refine g_aload_n hO d_X3_leastOf_100 (by rfl) 0 rfl ?_
            refine g_iload hO d_X3_leastOf_101 3 rfl ?_
            refine k_virtIp hO cl_X3 mm_X3_knotsOf lkV_X3_96 ⟨⟨Nat.le_of_ble_eq_true rfl, Nat.le_of_ble_eq_true rfl⟩, Nat.le_of_ble_eq_true rfl, Nat.le_of_ble_eq_true rfl⟩ (kn' := (0, 0)) rfl (As := [vI x5]) rfl (Nat.le_of_ble_eq_true rfl) (fun o' _ => t_X3_knotsOf Γ.2.1 E o' x5 S) d_X3_leastOf_103 rfl (fun v9 => ?_)
            refine g_ic_ge (tgt := 113) hO d_X3_leastOf_106.1 d_X3_leastOf_106.2 (fun _ => ?_) (fun _ => ?_)
            · skip
              exact g_sub [0, 1, 2, 3, 4] rfl (w_X3_leastOf_113 hO o ih _ _ _ _ _)
            · skip
              exact g_sub [0, 1, 2, 4] rfl (w_X3_leastOf_109 hO o ih _ _ _ _)
      · skip
        exact g_sub [0, 1, 2, 3, 4] rfl (w_X3_leastOf_113 hO o ih _ _ _ _ _)
set_option maxRecDepth 20000 in
theorem w_X3_leastOf_3 {Γ : GC} {E : GE} (hO : gOk Γ E cX3_leastOf RX3 7 rm_X3_leastOf (some .int) "leastOf") (o : Nat) : ∀ (n : Nat) (x1 : Option Nat) (x2 : Option Nat) (x3 : Int32) (x4 : Int32) (x5 : Int32) (S : GS), Go Γ E (gBsI Γ E) 7 (0, 0) 3 S [(0, vA (some o)), (1, vA x1), (2, vA x2), (3, vI x3), (4, vI x4), (5, vI x5)] [] (f_X3_leastOf_3 o n x1 x2 x3 x4 x5 S) := by
  intro n
  induction n with
  | zero =>
    intro x1 x2 x3 x4 x5 S
    exact g_none
  | succ n ih =>
    intro x1 x2 x3 x4 x5 S
    rw [f_X3_leastOf_3]
    refine g_iload hO d_X3_leastOf_3 5 rfl ?_
    refine g_bipush hO 8 d_X3_leastOf_5 (by decide) ?_
    refine g_ic_ge (tgt := 49) hO d_X3_leastOf_7.1 d_X3_leastOf_7.2 (fun _ => ?_) (fun _ => ?_)
    · skip
      refine g_iconst hO (-1) d_X3_leastOf_49 (by decide) ?_
      refine g_istore (lv' := [(5, vI (-1)), (0, vA (some o)), (1, vA x1), (2, vA x2), (3, vI x3), (4, vI x4)]) hO d_X3_leastOf_50 (by decide) rfl ?_
      refine g_iconst hO 0 d_X3_leastOf_52 (by decide) ?_
      refine g_istore (lv' := [(6, vI 0), (5, vI (-1)), (0, vA (some o)), (1, vA x1), (2, vA x2), (3, vI x3), (4, vI x4)]) hO d_X3_leastOf_53 (by decide) rfl ?_
      exact g_sub [2, 3, 5, 1, 0] rfl (w_X3_leastOf_55 hO o _ _ _ _ _ _)
    · skip
      refine g_aload_n hO d_X3_leastOf_10 (by rfl) 0 rfl ?_
      refine h_getR hO cl_X3 2 rfl wf_X3_20 d_X3_leastOf_11 (fun v1 => ?_)
      refine g_iload hO d_X3_leastOf_14 5 rfl ?_
      refine g_aload_n hO d_X3_leastOf_16 (by rfl) 1 rfl ?_
      refine h_getR hO cl_X0 1 rfl wf_X3_24 d_X3_leastOf_17 (fun v2 => ?_)
      refine g_iload hO d_X3_leastOf_20 5 rfl ?_
      refine k_virtIp hO cl_X7 mm_X7_has lkV_X3_84 ⟨⟨Nat.le_of_ble_eq_true rfl, Nat.le_of_ble_eq_true rfl⟩, Nat.le_of_ble_eq_true rfl, Nat.le_of_ble_eq_true rfl⟩ (kn' := (0, 0)) rfl (As := [vI x5]) rfl (Nat.le_of_ble_eq_true rfl) (fun o' _ => t_X7_has Γ.2.1 E o' x5 S) d_X3_leastOf_22 rfl (fun v3 => ?_)
      refine g_if_eq (tgt := 41) hO d_X3_leastOf_25.1 d_X3_leastOf_25.2 (fun _ => ?_) (fun _ => ?_)
      · skip
        refine g_iconst hO (-1) d_X3_leastOf_41 (by decide) ?_
        exact g_sub [0, 1, 2, 3, 4, 5] rfl (w_X3_leastOf_42 hO o ih _ _ _ _ _ _ _ _ _)
      · skip
        refine g_aload_n hO d_X3_leastOf_28 (by rfl) 0 rfl ?_
        refine g_aload_n hO d_X3_leastOf_29 (by rfl) 1 rfl ?_
        refine g_aload_n hO d_X3_leastOf_30 (by rfl) 2 rfl ?_
        refine g_iload hO d_X3_leastOf_31 5 rfl ?_
        refine g_iload hO d_X3_leastOf_33 4 rfl ?_
        refine k_virtIs hO cl_X3 mm_X3_fewest lkV_X3_87 ⟨⟨Nat.le_of_ble_eq_true rfl, Nat.le_of_ble_eq_true rfl⟩, Nat.le_of_ble_eq_true rfl, Nat.le_of_ble_eq_true rfl⟩ (kn' := (0, 0)) rfl (As := [vA x1, vA x2, vI x5, vI x4]) rfl (Nat.le_of_ble_eq_true rfl) (fun o' _ => t_X3_fewest Γ.2.1 E o' x1 x2 x5 x4 S) d_X3_leastOf_35 rfl (fun v5 S6 => ?_)
        refine g_goto (tgt := 42) hO d_X3_leastOf_38.1 d_X3_leastOf_38.2 ?_
        exact g_sub [0, 1, 2, 3, 4, 5] rfl (w_X3_leastOf_42 hO o ih _ _ _ _ _ _ _ _ _)
set_option maxRecDepth 20000 in
theorem w_X3_leastOf {Γ : GC} {E : GE} (hO : gOk Γ E cX3_leastOf RX3 7 rm_X3_leastOf (some .int) "leastOf") (o : Nat) (x1 : Option Nat) (x2 : Option Nat) (x3 : Int32) (x4 : Int32) (S : GS) : Go Γ E (gBsI Γ E) 7 (0, 0) 0 S [(0, vA (some o)), (1, vA x1), (2, vA x2), (3, vI x3), (4, vI x4)] [] (f_X3_leastOf o x1 x2 x3 x4 S) := by
  unfold f_X3_leastOf
  refine g_iconst hO 0 d_X3_leastOf_0 (by decide) ?_
  refine g_istore (lv' := [(5, vI 0), (0, vA (some o)), (1, vA x1), (2, vA x2), (3, vI x3), (4, vI x4)]) hO d_X3_leastOf_1 (by decide) rfl ?_
  exact g_sub [1, 2, 3, 4, 5, 0] rfl (w_X3_leastOf_3 hO o _ _ _ _ _ _ _)
theorem t_X3_leastOf (l : Launch) (E : GE) (o : Nat) (x1 : Option Nat) (x2 : Option Nat) (x3 : Int32) (x4 : Int32) (S : GS) : ∀ a, f_X3_leastOf o x1 x2 x3 x4 S = some a → Ct l E yX3_leastOf cX3_leastOf 7 (some .int) rm_X3_leastOf [vA (some o), vA x1, vA x2, vI x3, vI x4] S (some (vI a.1)) a.2 :=
  Ct_of (val := fun (b : Int32 × GS) => some (vI b.1)) (nxt := fun (b : Int32 × GS) => b.2) (by decide) (Nat.le_of_ble_eq_true rfl) (fun Γ hl hO => w_X3_leastOf hO o x1 x2 x3 x4 S)
theorem d_X4_init_0 : gD cX4_init 0 (.aload_n 0) 1 1 := ⟨by decide +kernel, rfl⟩
theorem d_X4_init_1 : gD cX4_init 1 (.invokespecial 3) 3 4 := ⟨by decide +kernel, rfl⟩
theorem d_X4_init_4 : gD cX4_init 4 (.aload_n 0) 1 5 := ⟨by decide +kernel, rfl⟩
theorem d_X4_init_5 : gD cX4_init 5 (.bipush 41) 2 7 := ⟨by decide +kernel, rfl⟩
theorem d_X4_init_7 : gD cX4_init 7 (.newarray .long) 2 9 := ⟨by decide +kernel, rfl⟩
theorem d_X4_init_9 : gD cX4_init 9 (.putfield 9) 3 12 := ⟨by decide +kernel, rfl⟩
theorem d_X4_init_12 : gD cX4_init 12 (.aload_n 0) 1 13 := ⟨by decide +kernel, rfl⟩
theorem d_X4_init_13 : gD cX4_init 13 (.bipush 41) 2 15 := ⟨by decide +kernel, rfl⟩
theorem d_X4_init_15 : gD cX4_init 15 (.newarray .long) 2 17 := ⟨by decide +kernel, rfl⟩
theorem d_X4_init_17 : gD cX4_init 17 (.putfield 15) 3 20 := ⟨by decide +kernel, rfl⟩
theorem d_X4_init_20 : gD cX4_init 20 (.aload_n 0) 1 21 := ⟨by decide +kernel, rfl⟩
theorem d_X4_init_21 : gD cX4_init 21 (.lconst 1) 1 22 := ⟨by decide +kernel, rfl⟩
theorem d_X4_init_22 : gD cX4_init 22 (.putfield 18) 3 25 := ⟨by decide +kernel, rfl⟩
theorem d_X4_init_25 : gD cX4_init 25 (.return_) 1 26 := ⟨by decide +kernel, rfl⟩
abbrev rm_X4_init : Room := { frames := 1, cells := 2, slots := 82, locals := 12 }
set_option maxRecDepth 20000 in
theorem w_X4_init {Γ : GC} {E : GE} (hO : gOk Γ E cX4_init RX4 1 rm_X4_init none "<init>") (o : Nat) (S : GS) : Go Γ E (gBsV Γ E) 1 (0, 0) 0 S [(0, vA (some o))] [] (f_X4_init o S) := by
  unfold f_X4_init
  refine g_aload_n hO d_X4_init_0 (by rfl) 0 rfl ?_
  refine g_oinit hO wm_X4_3 wn_obj wc_obj (Nat.le_of_ble_eq_true rfl) (Nat.le_of_ble_eq_true rfl) (fun h => nomatch h) d_X4_init_1 ?_
  refine g_aload_n hO d_X4_init_4 (by rfl) 0 rfl ?_
  refine g_bipush hO 41 d_X4_init_5 (by decide) ?_
  refine h_na hO 15 (by decide) rfl wac_15 (41) (by decide) (kn' := (1, 41)) rfl ⟨by decide, by decide⟩ d_X4_init_7 (fun v1 S2 => ?_)
  refine h_putR hO cl_X4 0 rfl (ty := .array .long) (by decide +kernel) (Or.inr ⟨_, rfl⟩) wf_X4_9 (Or.inr ⟨rfl, rfl, rfl⟩) d_X4_init_9 (fun S3 => ?_)
  refine g_aload_n hO d_X4_init_12 (by rfl) 0 rfl ?_
  refine g_bipush hO 41 d_X4_init_13 (by decide) ?_
  refine h_na hO 15 (by decide) rfl wac_15 (41) (by decide) (kn' := (2, 82)) rfl ⟨by decide, by decide⟩ d_X4_init_15 (fun v4 S5 => ?_)
  refine h_putR hO cl_X4 1 rfl (ty := .array .long) (by decide +kernel) (Or.inr ⟨_, rfl⟩) wf_X4_15 (Or.inr ⟨rfl, rfl, rfl⟩) d_X4_init_17 (fun S6 => ?_)
  refine g_aload_n hO d_X4_init_20 (by rfl) 0 rfl ?_
  refine g_lconst hO 1 d_X4_init_21 (by decide) ?_
  refine h_putJ hO cl_X4 3 rfl rfl wf_X4_18 (Or.inl rfl) d_X4_init_22 (fun S7 => ?_)
  exact g_vret hO rfl ⟨Nat.le_of_ble_eq_true rfl, Nat.le_of_ble_eq_true rfl⟩ rfl rfl d_X4_init_25.1
theorem t_X4_init (l : Launch) (E : GE) (o : Nat) (S : GS) : ∀ a, f_X4_init o S = some a → Ct l E yX4_init cX4_init 1 none rm_X4_init [vA (some o)] S none a :=
  Ct_of (val := fun _ => none) (nxt := fun b => b) (by decide) (Nat.le_of_ble_eq_true rfl) (fun Γ hl hO => w_X4_init hO o S)
theorem d_J7_fill_d0a16_0 : gD cJ7_fill_d0a16 0 (.iconst 0) 1 1 := ⟨by decide +kernel, rfl⟩
theorem d_J7_fill_d0a16_1 : gD cJ7_fill_d0a16 1 (.istore_n 3) 1 2 := ⟨by decide +kernel, rfl⟩
theorem d_J7_fill_d0a16_2 : gD cJ7_fill_d0a16 2 (.aload_n 0) 1 3 := ⟨by decide +kernel, rfl⟩
theorem d_J7_fill_d0a16_3 : gD cJ7_fill_d0a16 3 (.arraylength) 1 4 := ⟨by decide +kernel, rfl⟩
theorem d_J7_fill_d0a16_4 : gD cJ7_fill_d0a16 4 (.istore 4) 2 6 := ⟨by decide +kernel, rfl⟩
theorem d_J7_fill_d0a16_6 : gD cJ7_fill_d0a16 6 (.iload_n 3) 1 7 := ⟨by decide +kernel, rfl⟩
theorem d_J7_fill_d0a16_7 : gD cJ7_fill_d0a16 7 (.iload 4) 2 9 := ⟨by decide +kernel, rfl⟩
theorem d_J7_fill_d0a16_9 : gD cJ7_fill_d0a16 9 (.if_icmp .ge 13) 3 12 ∧ ((9 : Nat) : Int) + 13 = ((22 : Nat) : Int) := ⟨⟨by decide +kernel, rfl⟩, by decide⟩
theorem d_J7_fill_d0a16_12 : gD cJ7_fill_d0a16 12 (.aload_n 0) 1 13 := ⟨by decide +kernel, rfl⟩
theorem d_J7_fill_d0a16_13 : gD cJ7_fill_d0a16 13 (.iload_n 3) 1 14 := ⟨by decide +kernel, rfl⟩
theorem d_J7_fill_d0a16_14 : gD cJ7_fill_d0a16 14 (.lload_n 1) 1 15 := ⟨by decide +kernel, rfl⟩
theorem d_J7_fill_d0a16_15 : gD cJ7_fill_d0a16 15 (.lastore) 1 16 := ⟨by decide +kernel, rfl⟩
theorem d_J7_fill_d0a16_16 : gD cJ7_fill_d0a16 16 (.iinc 3 1) 3 19 := ⟨by decide +kernel, rfl⟩
theorem d_J7_fill_d0a16_19 : decode cJ7_fill_d0a16 19 = .ok (.goto (-13), 3) ∧ ((19 : Nat) : Int) + (-13) = ((6 : Nat) : Int) := ⟨by decide +kernel, by decide⟩
theorem d_J7_fill_d0a16_22 : gD cJ7_fill_d0a16 22 (.return_) 1 23 := ⟨by decide +kernel, rfl⟩
abbrev rm_J7_fill_d0a16 : Room := { frames := 0, cells := 0, slots := 0, locals := 0 }
set_option maxRecDepth 20000 in
theorem w_J7_fill_d0a16_6 {Γ : GC} {E : GE} (hO : gOk Γ E cJ7_fill_d0a16 RJ7 5 rm_J7_fill_d0a16 none "fill") : ∀ (n : Nat) (x0 : Option Nat) (x1 : Int64) (x3 : Int32) (x4 : Int32) (S : GS), Go Γ E (gBsV Γ E) 5 (0, 0) 6 S [(0, vA x0), (1, vJ x1), (3, vI x3), (4, vI x4)] [] (f_J7_fill_d0a16_6 n x0 x1 x3 x4 S) := by
  intro n
  induction n with
  | zero =>
    intro x0 x1 x3 x4 S
    exact g_none
  | succ n ih =>
    intro x0 x1 x3 x4 S
    rw [f_J7_fill_d0a16_6]
    refine g_iload_n hO d_J7_fill_d0a16_6 (by rfl) 2 rfl ?_
    refine g_iload hO d_J7_fill_d0a16_7 3 rfl ?_
    refine g_ic_ge (tgt := 22) hO d_J7_fill_d0a16_9.1 d_J7_fill_d0a16_9.2 (fun _ => ?_) (fun _ => ?_)
    · skip
      exact g_vret hO rfl ⟨Nat.le_of_ble_eq_true rfl, Nat.le_of_ble_eq_true rfl⟩ rfl rfl d_J7_fill_d0a16_22.1
    · skip
      refine g_aload_n hO d_J7_fill_d0a16_12 (by rfl) 0 rfl ?_
      refine g_iload_n hO d_J7_fill_d0a16_13 (by rfl) 2 rfl ?_
      refine g_lload_n hO d_J7_fill_d0a16_14 (by rfl) 1 rfl ?_
      refine h_last hO d_J7_fill_d0a16_15 (fun S1 => ?_)
      refine g_iinc (lv' := [(3, vI (x3 + 1)), (0, vA x0), (1, vJ x1), (4, vI x4)]) hO 1 d_J7_fill_d0a16_16 (by decide) 2 rfl (by decide) rfl ?_
      refine g_goto (tgt := 6) hO d_J7_fill_d0a16_19.1 d_J7_fill_d0a16_19.2 ?_
      exact g_sub [1, 2, 0, 3] rfl (ih _ _ _ _ _)
set_option maxRecDepth 20000 in
theorem w_J7_fill_d0a16 {Γ : GC} {E : GE} (hO : gOk Γ E cJ7_fill_d0a16 RJ7 5 rm_J7_fill_d0a16 none "fill") (x0 : Option Nat) (x1 : Int64) (S : GS) : Go Γ E (gBsV Γ E) 5 (0, 0) 0 S [(0, vA x0), (1, vJ x1)] [] (f_J7_fill_d0a16 x0 x1 S) := by
  unfold f_J7_fill_d0a16
  refine g_iconst hO 0 d_J7_fill_d0a16_0 (by decide) ?_
  refine g_istore_n (lv' := [(3, vI 0), (0, vA x0), (1, vJ x1)]) hO d_J7_fill_d0a16_1 (by rfl) (by decide) rfl ?_
  refine g_aload_n hO d_J7_fill_d0a16_2 (by rfl) 1 rfl ?_
  refine h_alen hO 15 (by omega) (by omega) d_J7_fill_d0a16_3 (fun v1 => ?_)
  refine g_istore (lv' := [(4, vI v1), (3, vI 0), (0, vA x0), (1, vJ x1)]) hO d_J7_fill_d0a16_4 (by decide) rfl ?_
  exact g_sub [2, 3, 1, 0] rfl (w_J7_fill_d0a16_6 hO _ _ _ _ _ _)
theorem t_J7_fill_d0a16 (l : Launch) (E : GE) (x0 : Option Nat) (x1 : Int64) (S : GS) : ∀ a, f_J7_fill_d0a16 x0 x1 S = some a → Ct l E yJ7_fill_d0a16 cJ7_fill_d0a16 5 none rm_J7_fill_d0a16 [vA x0, vJ x1] S none a :=
  Ct_of (val := fun _ => none) (nxt := fun b => b) (by decide) (Nat.le_of_ble_eq_true rfl) (fun Γ hl hO => w_J7_fill_d0a16 hO x0 x1 S)
theorem d_X4_begin_0 : gD cX4_begin 0 (.aload_n 0) 1 1 := ⟨by decide +kernel, rfl⟩
theorem d_X4_begin_1 : gD cX4_begin 1 (.getfield 9) 3 4 := ⟨by decide +kernel, rfl⟩
theorem d_X4_begin_4 : gD cX4_begin 4 (.lconst 0) 1 5 := ⟨by decide +kernel, rfl⟩
theorem d_X4_begin_5 : gD cX4_begin 5 (.invokestatic 22) 3 8 := ⟨by decide +kernel, rfl⟩
theorem d_X4_begin_8 : gD cX4_begin 8 (.aload_n 1) 1 9 := ⟨by decide +kernel, rfl⟩
theorem d_X4_begin_9 : gD cX4_begin 9 (.getfield 28) 3 12 := ⟨by decide +kernel, rfl⟩
theorem d_X4_begin_12 : gD cX4_begin 12 (.invokestatic 34) 3 15 := ⟨by decide +kernel, rfl⟩
theorem d_X4_begin_15 : gD cX4_begin 15 (.ifCond .eq 13) 3 18 ∧ ((15 : Nat) : Int) + 13 = ((28 : Nat) : Int) := ⟨⟨by decide +kernel, rfl⟩, by decide⟩
theorem d_X4_begin_18 : gD cX4_begin 18 (.aload_n 0) 1 19 := ⟨by decide +kernel, rfl⟩
theorem d_X4_begin_19 : gD cX4_begin 19 (.getfield 9) 3 22 := ⟨by decide +kernel, rfl⟩
theorem d_X4_begin_22 : gD cX4_begin 22 (.aload_n 1) 1 23 := ⟨by decide +kernel, rfl⟩
theorem d_X4_begin_23 : gD cX4_begin 23 (.getfield 28) 3 26 := ⟨by decide +kernel, rfl⟩
theorem d_X4_begin_26 : gD cX4_begin 26 (.lconst 1) 1 27 := ⟨by decide +kernel, rfl⟩
theorem d_X4_begin_27 : gD cX4_begin 27 (.lastore) 1 28 := ⟨by decide +kernel, rfl⟩
theorem d_X4_begin_28 : gD cX4_begin 28 (.return_) 1 29 := ⟨by decide +kernel, rfl⟩
abbrev rm_X4_begin : Room := { frames := 1, cells := 0, slots := 0, locals := 24 }
set_option maxRecDepth 20000 in
theorem w_X4_begin {Γ : GC} {E : GE} (hO : gOk Γ E cX4_begin RX4 2 rm_X4_begin none "begin") (o : Nat) (x1 : Option Nat) (S : GS) : Go Γ E (gBsV Γ E) 2 (0, 0) 0 S [(0, vA (some o)), (1, vA x1)] [] (f_X4_begin o x1 S) := by
  unfold f_X4_begin
  refine g_aload_n hO d_X4_begin_0 (by rfl) 0 rfl ?_
  refine h_getR hO cl_X4 0 rfl wf_X4_9 d_X4_begin_1 (fun v1 => ?_)
  refine g_lconst hO 0 d_X4_begin_4 (by decide) ?_
  refine k_statVs hO mm_J7_fill_d0a16 lkS_X4_22 ⟨⟨Nat.le_of_ble_eq_true rfl, Nat.le_of_ble_eq_true rfl⟩, Nat.le_of_ble_eq_true rfl, Nat.le_of_ble_eq_true rfl⟩ (kn' := (0, 0)) rfl (As := [vA v1, vJ 0]) rfl (Nat.le_of_ble_eq_true rfl) (t_J7_fill_d0a16 Γ.2.1 E v1 0 S) d_X4_begin_5 rfl (fun S3 => ?_)
  refine g_aload_n hO d_X4_begin_8 (by rfl) 1 rfl ?_
  refine h_getI hO cl_X0 6 rfl wf_X4_28 d_X4_begin_9 (fun v4 => ?_)
  refine k_statNIp hO mm_X11_isMark lkSN_X4_34 ⟨⟨Nat.le_of_ble_eq_true rfl, Nat.le_of_ble_eq_true rfl⟩, Nat.le_of_ble_eq_true rfl, Nat.le_of_ble_eq_true rfl⟩ (kn' := (0, 0)) rfl (As := [vI v4]) rfl (Nat.le_of_ble_eq_true rfl) (t_X11_isMark Γ.2.1 E v4 S3) d_X4_begin_12 rfl (fun v5 => ?_)
  refine g_if_eq (tgt := 28) hO d_X4_begin_15.1 d_X4_begin_15.2 (fun _ => ?_) (fun _ => ?_)
  · skip
    exact g_vret hO rfl ⟨Nat.le_of_ble_eq_true rfl, Nat.le_of_ble_eq_true rfl⟩ rfl rfl d_X4_begin_28.1
  · skip
    refine g_aload_n hO d_X4_begin_18 (by rfl) 0 rfl ?_
    refine h_getR hO cl_X4 0 rfl wf_X4_9 d_X4_begin_19 (fun v7 => ?_)
    refine g_aload_n hO d_X4_begin_22 (by rfl) 1 rfl ?_
    refine h_getI hO cl_X0 6 rfl wf_X4_28 d_X4_begin_23 (fun v8 => ?_)
    refine g_lconst hO 1 d_X4_begin_26 (by decide) ?_
    refine h_last hO d_X4_begin_27 (fun S9 => ?_)
    exact g_vret hO rfl ⟨Nat.le_of_ble_eq_true rfl, Nat.le_of_ble_eq_true rfl⟩ rfl rfl d_X4_begin_28.1
theorem t_X4_begin (l : Launch) (E : GE) (o : Nat) (x1 : Option Nat) (S : GS) : ∀ a, f_X4_begin o x1 S = some a → Ct l E yX4_begin cX4_begin 2 none rm_X4_begin [vA (some o), vA x1] S none a :=
  Ct_of (val := fun _ => none) (nxt := fun b => b) (by decide) (Nat.le_of_ble_eq_true rfl) (fun Γ hl hO => w_X4_begin hO o x1 S)
theorem d_X4_blow_0 : gD cX4_blow 0 (.aload_n 0) 1 1 := ⟨by decide +kernel, rfl⟩
theorem d_X4_blow_1 : gD cX4_blow 1 (.getfield 15) 3 4 := ⟨by decide +kernel, rfl⟩
theorem d_X4_blow_4 : gD cX4_blow 4 (.lconst 0) 1 5 := ⟨by decide +kernel, rfl⟩
theorem d_X4_blow_5 : gD cX4_blow 5 (.invokestatic 22) 3 8 := ⟨by decide +kernel, rfl⟩
theorem d_X4_blow_8 : gD cX4_blow 8 (.iconst 0) 1 9 := ⟨by decide +kernel, rfl⟩
theorem d_X4_blow_9 : gD cX4_blow 9 (.istore_n 2) 1 10 := ⟨by decide +kernel, rfl⟩
theorem d_X4_blow_10 : gD cX4_blow 10 (.iload_n 2) 1 11 := ⟨by decide +kernel, rfl⟩
theorem d_X4_blow_11 : gD cX4_blow 11 (.bipush 40) 2 13 := ⟨by decide +kernel, rfl⟩
theorem d_X4_blow_13 : gD cX4_blow 13 (.if_icmp .gt 61) 3 16 ∧ ((13 : Nat) : Int) + 61 = ((74 : Nat) : Int) := ⟨⟨by decide +kernel, rfl⟩, by decide⟩
theorem d_X4_blow_16 : gD cX4_blow 16 (.iconst 0) 1 17 := ⟨by decide +kernel, rfl⟩
theorem d_X4_blow_17 : gD cX4_blow 17 (.istore_n 3) 1 18 := ⟨by decide +kernel, rfl⟩
theorem d_X4_blow_18 : gD cX4_blow 18 (.iload_n 3) 1 19 := ⟨by decide +kernel, rfl⟩
theorem d_X4_blow_19 : gD cX4_blow 19 (.iconst 3) 1 20 := ⟨by decide +kernel, rfl⟩
theorem d_X4_blow_20 : gD cX4_blow 20 (.if_icmp .ge 48) 3 23 ∧ ((20 : Nat) : Int) + 48 = ((68 : Nat) : Int) := ⟨⟨by decide +kernel, rfl⟩, by decide⟩
theorem d_X4_blow_23 : gD cX4_blow 23 (.aload_n 0) 1 24 := ⟨by decide +kernel, rfl⟩
theorem d_X4_blow_24 : gD cX4_blow 24 (.getfield 9) 3 27 := ⟨by decide +kernel, rfl⟩
theorem d_X4_blow_27 : gD cX4_blow 27 (.iload_n 2) 1 28 := ⟨by decide +kernel, rfl⟩
theorem d_X4_blow_28 : gD cX4_blow 28 (.laload) 1 29 := ⟨by decide +kernel, rfl⟩
theorem d_X4_blow_29 : gD cX4_blow 29 (.lconst 0) 1 30 := ⟨by decide +kernel, rfl⟩
theorem d_X4_blow_30 : gD cX4_blow 30 (.lcmp) 1 31 := ⟨by decide +kernel, rfl⟩
theorem d_X4_blow_31 : gD cX4_blow 31 (.ifCond .eq 37) 3 34 ∧ ((31 : Nat) : Int) + 37 = ((68 : Nat) : Int) := ⟨⟨by decide +kernel, rfl⟩, by decide⟩
theorem d_X4_blow_34 : gD cX4_blow 34 (.aload_n 0) 1 35 := ⟨by decide +kernel, rfl⟩
theorem d_X4_blow_35 : gD cX4_blow 35 (.getfield 15) 3 38 := ⟨by decide +kernel, rfl⟩
theorem d_X4_blow_38 : gD cX4_blow 38 (.aload_n 1) 1 39 := ⟨by decide +kernel, rfl⟩
theorem d_X4_blow_39 : gD cX4_blow 39 (.iload_n 2) 1 40 := ⟨by decide +kernel, rfl⟩
theorem d_X4_blow_40 : gD cX4_blow 40 (.iload_n 3) 1 41 := ⟨by decide +kernel, rfl⟩
theorem d_X4_blow_41 : gD cX4_blow 41 (.invokevirtual 38) 3 44 := ⟨by decide +kernel, rfl⟩
theorem d_X4_blow_44 : gD cX4_blow 44 (.dup2) 1 45 := ⟨by decide +kernel, rfl⟩
theorem d_X4_blow_45 : gD cX4_blow 45 (.laload) 1 46 := ⟨by decide +kernel, rfl⟩
theorem d_X4_blow_46 : gD cX4_blow 46 (.aload_n 0) 1 47 := ⟨by decide +kernel, rfl⟩
theorem d_X4_blow_47 : gD cX4_blow 47 (.getfield 9) 3 50 := ⟨by decide +kernel, rfl⟩
theorem d_X4_blow_50 : gD cX4_blow 50 (.iload_n 2) 1 51 := ⟨by decide +kernel, rfl⟩
theorem d_X4_blow_51 : gD cX4_blow 51 (.laload) 1 52 := ⟨by decide +kernel, rfl⟩
theorem d_X4_blow_52 : gD cX4_blow 52 (.aload_n 1) 1 53 := ⟨by decide +kernel, rfl⟩
theorem d_X4_blow_53 : gD cX4_blow 53 (.getfield 42) 3 56 := ⟨by decide +kernel, rfl⟩
theorem d_X4_blow_56 : gD cX4_blow 56 (.iload_n 3) 1 57 := ⟨by decide +kernel, rfl⟩
theorem d_X4_blow_57 : gD cX4_blow 57 (.iaload) 1 58 := ⟨by decide +kernel, rfl⟩
theorem d_X4_blow_58 : gD cX4_blow 58 (.i2l) 1 59 := ⟨by decide +kernel, rfl⟩
theorem d_X4_blow_59 : gD cX4_blow 59 (.lmul) 1 60 := ⟨by decide +kernel, rfl⟩
theorem d_X4_blow_60 : gD cX4_blow 60 (.ladd) 1 61 := ⟨by decide +kernel, rfl⟩
theorem d_X4_blow_61 : gD cX4_blow 61 (.lastore) 1 62 := ⟨by decide +kernel, rfl⟩
theorem d_X4_blow_62 : gD cX4_blow 62 (.iinc 3 1) 3 65 := ⟨by decide +kernel, rfl⟩
theorem d_X4_blow_65 : decode cX4_blow 65 = .ok (.goto (-47), 3) ∧ ((65 : Nat) : Int) + (-47) = ((18 : Nat) : Int) := ⟨by decide +kernel, by decide⟩
theorem d_X4_blow_68 : gD cX4_blow 68 (.iinc 2 1) 3 71 := ⟨by decide +kernel, rfl⟩
theorem d_X4_blow_71 : decode cX4_blow 71 = .ok (.goto (-61), 3) ∧ ((71 : Nat) : Int) + (-61) = ((10 : Nat) : Int) := ⟨by decide +kernel, by decide⟩
theorem d_X4_blow_74 : gD cX4_blow 74 (.aload_n 0) 1 75 := ⟨by decide +kernel, rfl⟩
theorem d_X4_blow_75 : gD cX4_blow 75 (.getfield 15) 3 78 := ⟨by decide +kernel, rfl⟩
theorem d_X4_blow_78 : gD cX4_blow 78 (.iconst 0) 1 79 := ⟨by decide +kernel, rfl⟩
theorem d_X4_blow_79 : gD cX4_blow 79 (.aload_n 0) 1 80 := ⟨by decide +kernel, rfl⟩
theorem d_X4_blow_80 : gD cX4_blow 80 (.getfield 9) 3 83 := ⟨by decide +kernel, rfl⟩
theorem d_X4_blow_83 : gD cX4_blow 83 (.iconst 0) 1 84 := ⟨by decide +kernel, rfl⟩
theorem d_X4_blow_84 : gD cX4_blow 84 (.bipush 41) 2 86 := ⟨by decide +kernel, rfl⟩
theorem d_X4_blow_86 : gD cX4_blow 86 (.invokestatic 46) 3 89 := ⟨by decide +kernel, rfl⟩
theorem d_X4_blow_89 : gD cX4_blow 89 (.return_) 1 90 := ⟨by decide +kernel, rfl⟩
abbrev rm_X4_blow : Room := { frames := 2, cells := 0, slots := 0, locals := 36 }
set_option maxRecDepth 20000 in
theorem w_X4_blow_68 {Γ : GC} {E : GE} (hO : gOk Γ E cX4_blow RX4 4 rm_X4_blow none "blow") (o : Nat) {k10 : (Option Nat → Int32 → GS → Option GS)} (hk10 : ∀ (z1 : Option Nat) (z2 : Int32) (S1 : GS), Go Γ E (gBsV Γ E) 4 (0, 0) 10 S1 [(0, vA (some o)), (1, vA z1), (2, vI z2)] [] (k10 z1 z2 S1)) (x1 : Option Nat) (x2 : Int32) (S : GS) : Go Γ E (gBsV Γ E) 4 (0, 0) 68 S [(0, vA (some o)), (1, vA x1), (2, vI x2)] [] (f_X4_blow_68 k10 o x1 x2 S) := by
  unfold f_X4_blow_68
  refine g_iinc (lv' := [(2, vI (x2 + 1)), (0, vA (some o)), (1, vA x1)]) hO 1 d_X4_blow_68 (by decide) 2 rfl (by decide) rfl ?_
  refine g_goto (tgt := 10) hO d_X4_blow_71.1 d_X4_blow_71.2 ?_
  exact g_sub [1, 2, 0] rfl (hk10 _ _ _)
set_option maxRecDepth 20000 in
theorem w_X4_blow_18 {Γ : GC} {E : GE} (hO : gOk Γ E cX4_blow RX4 4 rm_X4_blow none "blow") (o : Nat) {k10 : (Option Nat → Int32 → GS → Option GS)} (hk10 : ∀ (z1 : Option Nat) (z2 : Int32) (S1 : GS), Go Γ E (gBsV Γ E) 4 (0, 0) 10 S1 [(0, vA (some o)), (1, vA z1), (2, vI z2)] [] (k10 z1 z2 S1)) : ∀ (n : Nat) (x1 : Option Nat) (x2 : Int32) (x3 : Int32) (S : GS), Go Γ E (gBsV Γ E) 4 (0, 0) 18 S [(0, vA (some o)), (1, vA x1), (2, vI x2), (3, vI x3)] [] (f_X4_blow_18 k10 o n x1 x2 x3 S) := by
  intro n
  induction n with
  | zero =>
    intro x1 x2 x3 S
    exact g_none
  | succ n ih =>
    intro x1 x2 x3 S
    rw [f_X4_blow_18]
    refine g_iload_n hO d_X4_blow_18 (by rfl) 3 rfl ?_
    refine g_iconst hO 3 d_X4_blow_19 (by decide) ?_
    refine g_ic_ge (tgt := 68) hO d_X4_blow_20.1 d_X4_blow_20.2 (fun _ => ?_) (fun _ => ?_)
    · skip
      exact g_sub [0, 1, 2] rfl (w_X4_blow_68 hO o hk10 _ _ _)
    · skip
      refine g_aload_n hO d_X4_blow_23 (by rfl) 0 rfl ?_
      refine h_getR hO cl_X4 0 rfl wf_X4_9 d_X4_blow_24 (fun v1 => ?_)
      refine g_iload_n hO d_X4_blow_27 (by rfl) 2 rfl ?_
      refine h_lald hO d_X4_blow_28 (fun v2 => ?_)
      refine g_lconst hO 0 d_X4_blow_29 (by decide) ?_
      refine g_lcmp hO d_X4_blow_30 ?_
      refine g_if_eq (tgt := 68) hO d_X4_blow_31.1 d_X4_blow_31.2 (fun _ => ?_) (fun _ => ?_)
      · skip
        exact g_sub [0, 1, 2] rfl (w_X4_blow_68 hO o hk10 _ _ _)
      · skip
        refine g_aload_n hO d_X4_blow_34 (by rfl) 0 rfl ?_
        refine h_getR hO cl_X4 1 rfl wf_X4_15 d_X4_blow_35 (fun v3 => ?_)
        refine g_aload_n hO d_X4_blow_38 (by rfl) 1 rfl ?_
        refine g_iload_n hO d_X4_blow_39 (by rfl) 2 rfl ?_
        refine g_iload_n hO d_X4_blow_40 (by rfl) 3 rfl ?_
        refine k_virtIp hO cl_X0 mm_X0_markAfter lkV_X4_38 ⟨⟨Nat.le_of_ble_eq_true rfl, Nat.le_of_ble_eq_true rfl⟩, Nat.le_of_ble_eq_true rfl, Nat.le_of_ble_eq_true rfl⟩ (kn' := (0, 0)) rfl (As := [vI x2, vI x3]) rfl (Nat.le_of_ble_eq_true rfl) (fun o' _ => t_X0_markAfter Γ.2.1 E o' x2 x3 S) d_X4_blow_41 rfl (fun v4 => ?_)
        refine g_dup2 hO d_X4_blow_44 rfl rfl ?_
        refine h_lald hO d_X4_blow_45 (fun v6 => ?_)
        refine g_aload_n hO d_X4_blow_46 (by rfl) 0 rfl ?_
        refine h_getR hO cl_X4 0 rfl wf_X4_9 d_X4_blow_47 (fun v7 => ?_)
        refine g_iload_n hO d_X4_blow_50 (by rfl) 2 rfl ?_
        refine h_lald hO d_X4_blow_51 (fun v8 => ?_)
        refine g_aload_n hO d_X4_blow_52 (by rfl) 1 rfl ?_
        refine h_getR hO cl_X0 3 rfl wf_X4_42 d_X4_blow_53 (fun v9 => ?_)
        refine g_iload_n hO d_X4_blow_56 (by rfl) 3 rfl ?_
        refine h_iald hO d_X4_blow_57 (fun v10 => ?_)
        refine g_i2l hO d_X4_blow_58 ?_
        refine g_lmul hO d_X4_blow_59 ?_
        refine g_ladd hO d_X4_blow_60 ?_
        refine h_last hO d_X4_blow_61 (fun S11 => ?_)
        refine g_iinc (lv' := [(3, vI (x3 + 1)), (0, vA (some o)), (1, vA x1), (2, vI x2)]) hO 1 d_X4_blow_62 (by decide) 3 rfl (by decide) rfl ?_
        refine g_goto (tgt := 18) hO d_X4_blow_65.1 d_X4_blow_65.2 ?_
        exact g_sub [1, 2, 3, 0] rfl (ih _ _ _ _)
set_option maxRecDepth 20000 in
theorem w_X4_blow_10 {Γ : GC} {E : GE} (hO : gOk Γ E cX4_blow RX4 4 rm_X4_blow none "blow") (o : Nat) : ∀ (n : Nat) (x1 : Option Nat) (x2 : Int32) (S : GS), Go Γ E (gBsV Γ E) 4 (0, 0) 10 S [(0, vA (some o)), (1, vA x1), (2, vI x2)] [] (f_X4_blow_10 o n x1 x2 S) := by
  intro n
  induction n with
  | zero =>
    intro x1 x2 S
    exact g_none
  | succ n ih =>
    intro x1 x2 S
    rw [f_X4_blow_10]
    refine g_iload_n hO d_X4_blow_10 (by rfl) 2 rfl ?_
    refine g_bipush hO 40 d_X4_blow_11 (by decide) ?_
    refine g_ic_gt (tgt := 74) hO d_X4_blow_13.1 d_X4_blow_13.2 (fun _ => ?_) (fun _ => ?_)
    · skip
      refine g_aload_n hO d_X4_blow_74 (by rfl) 0 rfl ?_
      refine h_getR hO cl_X4 1 rfl wf_X4_15 d_X4_blow_75 (fun v1 => ?_)
      refine g_iconst hO 0 d_X4_blow_78 (by decide) ?_
      refine g_aload_n hO d_X4_blow_79 (by rfl) 0 rfl ?_
      refine h_getR hO cl_X4 0 rfl wf_X4_9 d_X4_blow_80 (fun v2 => ?_)
      refine g_iconst hO 0 d_X4_blow_83 (by decide) ?_
      refine g_bipush hO 41 d_X4_blow_84 (by decide) ?_
      refine h_acJ hO wm_X4_46 w_acn w_acs wi_System ⟨by decide, Nat.le_of_ble_eq_true rfl⟩ d_X4_blow_86 (fun S3 => ?_)
      exact g_vret hO rfl ⟨Nat.le_of_ble_eq_true rfl, Nat.le_of_ble_eq_true rfl⟩ rfl rfl d_X4_blow_89.1
    · skip
      refine g_iconst hO 0 d_X4_blow_16 (by decide) ?_
      refine g_istore_n (lv' := [(3, vI 0), (0, vA (some o)), (1, vA x1), (2, vI x2)]) hO d_X4_blow_17 (by rfl) (by decide) rfl ?_
      exact g_sub [1, 2, 3, 0] rfl (w_X4_blow_18 hO o ih _ _ _ _ _)
set_option maxRecDepth 20000 in
theorem w_X4_blow {Γ : GC} {E : GE} (hO : gOk Γ E cX4_blow RX4 4 rm_X4_blow none "blow") (o : Nat) (x1 : Option Nat) (S : GS) : Go Γ E (gBsV Γ E) 4 (0, 0) 0 S [(0, vA (some o)), (1, vA x1)] [] (f_X4_blow o x1 S) := by
  unfold f_X4_blow
  refine g_aload_n hO d_X4_blow_0 (by rfl) 0 rfl ?_
  refine h_getR hO cl_X4 1 rfl wf_X4_15 d_X4_blow_1 (fun v1 => ?_)
  refine g_lconst hO 0 d_X4_blow_4 (by decide) ?_
  refine k_statVs hO mm_J7_fill_d0a16 lkS_X4_22 ⟨⟨Nat.le_of_ble_eq_true rfl, Nat.le_of_ble_eq_true rfl⟩, Nat.le_of_ble_eq_true rfl, Nat.le_of_ble_eq_true rfl⟩ (kn' := (0, 0)) rfl (As := [vA v1, vJ 0]) rfl (Nat.le_of_ble_eq_true rfl) (t_J7_fill_d0a16 Γ.2.1 E v1 0 S) d_X4_blow_5 rfl (fun S3 => ?_)
  refine g_iconst hO 0 d_X4_blow_8 (by decide) ?_
  refine g_istore_n (lv' := [(2, vI 0), (0, vA (some o)), (1, vA x1)]) hO d_X4_blow_9 (by rfl) (by decide) rfl ?_
  exact g_sub [1, 2, 0] rfl (w_X4_blow_10 hO o _ _ _ _)
theorem t_X4_blow (l : Launch) (E : GE) (o : Nat) (x1 : Option Nat) (S : GS) : ∀ a, f_X4_blow o x1 S = some a → Ct l E yX4_blow cX4_blow 4 none rm_X4_blow [vA (some o), vA x1] S none a :=
  Ct_of (val := fun _ => none) (nxt := fun b => b) (by decide) (Nat.le_of_ble_eq_true rfl) (fun Γ hl hO => w_X4_blow hO o x1 S)
theorem d_X4_power_0 : gD cX4_power 0 (.lconst 1) 1 1 := ⟨by decide +kernel, rfl⟩
theorem d_X4_power_1 : gD cX4_power 1 (.lstore_n 3) 1 2 := ⟨by decide +kernel, rfl⟩
theorem d_X4_power_2 : gD cX4_power 2 (.iconst 0) 1 3 := ⟨by decide +kernel, rfl⟩
theorem d_X4_power_3 : gD cX4_power 3 (.istore 5) 2 5 := ⟨by decide +kernel, rfl⟩
theorem d_X4_power_5 : gD cX4_power 5 (.iload 5) 2 7 := ⟨by decide +kernel, rfl⟩
theorem d_X4_power_7 : gD cX4_power 7 (.iload_n 2) 1 8 := ⟨by decide +kernel, rfl⟩
theorem d_X4_power_8 : gD cX4_power 8 (.if_icmp .ge 13) 3 11 ∧ ((8 : Nat) : Int) + 13 = ((21 : Nat) : Int) := ⟨⟨by decide +kernel, rfl⟩, by decide⟩
theorem d_X4_power_11 : gD cX4_power 11 (.lload_n 3) 1 12 := ⟨by decide +kernel, rfl⟩
theorem d_X4_power_12 : gD cX4_power 12 (.lload_n 0) 1 13 := ⟨by decide +kernel, rfl⟩
theorem d_X4_power_13 : gD cX4_power 13 (.lmul) 1 14 := ⟨by decide +kernel, rfl⟩
theorem d_X4_power_14 : gD cX4_power 14 (.lstore_n 3) 1 15 := ⟨by decide +kernel, rfl⟩
theorem d_X4_power_15 : gD cX4_power 15 (.iinc 5 1) 3 18 := ⟨by decide +kernel, rfl⟩
theorem d_X4_power_18 : decode cX4_power 18 = .ok (.goto (-13), 3) ∧ ((18 : Nat) : Int) + (-13) = ((5 : Nat) : Int) := ⟨by decide +kernel, by decide⟩
theorem d_X4_power_21 : gD cX4_power 21 (.lload_n 3) 1 22 := ⟨by decide +kernel, rfl⟩
theorem d_X4_power_22 : gD cX4_power 22 (.lreturn) 1 23 := ⟨by decide +kernel, rfl⟩
abbrev rm_X4_power : Room := { frames := 0, cells := 0, slots := 0, locals := 0 }
set_option maxRecDepth 20000 in
theorem w_X4_power_5 {Γ : GC} {E : GE} (hO : gOk Γ E cX4_power RX4 6 rm_X4_power (some .long) "power") (S : GS) : ∀ (n : Nat) (x0 : Int64) (x2 : Int32) (x3 : Int64) (x5 : Int32), Go Γ E (gBpJ Γ E S) 6 (0, 0) 5 S [(0, vJ x0), (2, vI x2), (3, vJ x3), (5, vI x5)] [] (f_X4_power_5 S n x0 x2 x3 x5) := by
  intro n
  induction n with
  | zero =>
    intro x0 x2 x3 x5
    exact g_none
  | succ n ih =>
    intro x0 x2 x3 x5
    rw [f_X4_power_5]
    refine g_iload hO d_X4_power_5 3 rfl ?_
    refine g_iload_n hO d_X4_power_7 (by rfl) 1 rfl ?_
    refine g_ic_ge (tgt := 21) hO d_X4_power_8.1 d_X4_power_8.2 (fun _ => ?_) (fun _ => ?_)
    · skip
      refine g_lload_n hO d_X4_power_21 (by rfl) 2 rfl ?_
      exact g_lret hO rfl ⟨Nat.le_of_ble_eq_true rfl, Nat.le_of_ble_eq_true rfl⟩ rfl rfl d_X4_power_22.1
    · skip
      refine g_lload_n hO d_X4_power_11 (by rfl) 2 rfl ?_
      refine g_lload_n hO d_X4_power_12 (by rfl) 0 rfl ?_
      refine g_lmul hO d_X4_power_13 ?_
      refine g_lstore_n (lv' := [(3, vJ (x3 * x0)), (0, vJ x0), (2, vI x2), (5, vI x5)]) hO d_X4_power_14 (by rfl) (by decide) rfl ?_
      refine g_iinc (lv' := [(5, vI (x5 + 1)), (3, vJ (x3 * x0)), (0, vJ x0), (2, vI x2)]) hO 1 d_X4_power_15 (by decide) 3 rfl (by decide) rfl ?_
      refine g_goto (tgt := 5) hO d_X4_power_18.1 d_X4_power_18.2 ?_
      exact g_sub [2, 3, 1, 0] rfl (ih _ _ _ _)
set_option maxRecDepth 20000 in
theorem w_X4_power {Γ : GC} {E : GE} (hO : gOk Γ E cX4_power RX4 6 rm_X4_power (some .long) "power") (x0 : Int64) (x2 : Int32) (S : GS) : Go Γ E (gBpJ Γ E S) 6 (0, 0) 0 S [(0, vJ x0), (2, vI x2)] [] (f_X4_power x0 x2 S) := by
  unfold f_X4_power
  refine g_lconst hO 1 d_X4_power_0 (by decide) ?_
  refine g_lstore_n (lv' := [(3, vJ 1), (0, vJ x0), (2, vI x2)]) hO d_X4_power_1 (by rfl) (by decide) rfl ?_
  refine g_iconst hO 0 d_X4_power_2 (by decide) ?_
  refine g_istore (lv' := [(5, vI 0), (3, vJ 1), (0, vJ x0), (2, vI x2)]) hO d_X4_power_3 (by decide) rfl ?_
  exact g_sub [2, 3, 1, 0] rfl (w_X4_power_5 hO _ _ _ _ _ _)
theorem t_X4_power (l : Launch) (E : GE) (x0 : Int64) (x2 : Int32) (S : GS) : ∀ a, f_X4_power x0 x2 S = some a → Ct l E yX4_power cX4_power 6 (some .long) rm_X4_power [vJ x0, vI x2] S (some (vJ a)) S :=
  Ct_of (val := fun b => some (vJ b)) (nxt := fun _ => S) (by decide) (Nat.le_of_ble_eq_true rfl) (fun Γ hl hO => w_X4_power hO x0 x2 S)
theorem d_X4_commonDivisor_0 : gD cX4_commonDivisor 0 (.lload_n 0) 1 1 := ⟨by decide +kernel, rfl⟩
theorem d_X4_commonDivisor_1 : gD cX4_commonDivisor 1 (.lstore 4) 2 3 := ⟨by decide +kernel, rfl⟩
theorem d_X4_commonDivisor_3 : gD cX4_commonDivisor 3 (.lload_n 2) 1 4 := ⟨by decide +kernel, rfl⟩
theorem d_X4_commonDivisor_4 : gD cX4_commonDivisor 4 (.lstore 6) 2 6 := ⟨by decide +kernel, rfl⟩
theorem d_X4_commonDivisor_6 : gD cX4_commonDivisor 6 (.iconst 0) 1 7 := ⟨by decide +kernel, rfl⟩
theorem d_X4_commonDivisor_7 : gD cX4_commonDivisor 7 (.istore 8) 2 9 := ⟨by decide +kernel, rfl⟩
theorem d_X4_commonDivisor_9 : gD cX4_commonDivisor 9 (.iload 8) 2 11 := ⟨by decide +kernel, rfl⟩
theorem d_X4_commonDivisor_11 : gD cX4_commonDivisor 11 (.bipush 100) 2 13 := ⟨by decide +kernel, rfl⟩
theorem d_X4_commonDivisor_13 : gD cX4_commonDivisor 13 (.if_icmp .ge 31) 3 16 ∧ ((13 : Nat) : Int) + 31 = ((44 : Nat) : Int) := ⟨⟨by decide +kernel, rfl⟩, by decide⟩
theorem d_X4_commonDivisor_16 : gD cX4_commonDivisor 16 (.lload 6) 2 18 := ⟨by decide +kernel, rfl⟩
theorem d_X4_commonDivisor_18 : gD cX4_commonDivisor 18 (.lconst 0) 1 19 := ⟨by decide +kernel, rfl⟩
theorem d_X4_commonDivisor_19 : gD cX4_commonDivisor 19 (.lcmp) 1 20 := ⟨by decide +kernel, rfl⟩
theorem d_X4_commonDivisor_20 : gD cX4_commonDivisor 20 (.ifCond .eq 24) 3 23 ∧ ((20 : Nat) : Int) + 24 = ((44 : Nat) : Int) := ⟨⟨by decide +kernel, rfl⟩, by decide⟩
theorem d_X4_commonDivisor_23 : gD cX4_commonDivisor 23 (.lload 4) 2 25 := ⟨by decide +kernel, rfl⟩
theorem d_X4_commonDivisor_25 : gD cX4_commonDivisor 25 (.lload 6) 2 27 := ⟨by decide +kernel, rfl⟩
theorem d_X4_commonDivisor_27 : gD cX4_commonDivisor 27 (.lrem) 1 28 := ⟨by decide +kernel, rfl⟩
theorem d_X4_commonDivisor_28 : gD cX4_commonDivisor 28 (.lstore 9) 2 30 := ⟨by decide +kernel, rfl⟩
theorem d_X4_commonDivisor_30 : gD cX4_commonDivisor 30 (.lload 6) 2 32 := ⟨by decide +kernel, rfl⟩
theorem d_X4_commonDivisor_32 : gD cX4_commonDivisor 32 (.lstore 4) 2 34 := ⟨by decide +kernel, rfl⟩
theorem d_X4_commonDivisor_34 : gD cX4_commonDivisor 34 (.lload 9) 2 36 := ⟨by decide +kernel, rfl⟩
theorem d_X4_commonDivisor_36 : gD cX4_commonDivisor 36 (.lstore 6) 2 38 := ⟨by decide +kernel, rfl⟩
theorem d_X4_commonDivisor_38 : gD cX4_commonDivisor 38 (.iinc 8 1) 3 41 := ⟨by decide +kernel, rfl⟩
theorem d_X4_commonDivisor_41 : decode cX4_commonDivisor 41 = .ok (.goto (-32), 3) ∧ ((41 : Nat) : Int) + (-32) = ((9 : Nat) : Int) := ⟨by decide +kernel, by decide⟩
theorem d_X4_commonDivisor_44 : gD cX4_commonDivisor 44 (.lload 4) 2 46 := ⟨by decide +kernel, rfl⟩
theorem d_X4_commonDivisor_46 : gD cX4_commonDivisor 46 (.lreturn) 1 47 := ⟨by decide +kernel, rfl⟩
abbrev rm_X4_commonDivisor : Room := { frames := 0, cells := 0, slots := 0, locals := 0 }
set_option maxRecDepth 20000 in
theorem w_X4_commonDivisor_9 {Γ : GC} {E : GE} (hO : gOk Γ E cX4_commonDivisor RX4 11 rm_X4_commonDivisor (some .long) "commonDivisor") (S : GS) : ∀ (n : Nat) (x4 : Int64) (x6 : Int64) (x8 : Int32), Go Γ E (gBpJ Γ E S) 11 (0, 0) 9 S [(4, vJ x4), (6, vJ x6), (8, vI x8)] [] (f_X4_commonDivisor_9 S n x4 x6 x8) := by
  intro n
  induction n with
  | zero =>
    intro x4 x6 x8
    exact g_none
  | succ n ih =>
    intro x4 x6 x8
    rw [f_X4_commonDivisor_9]
    refine g_iload hO d_X4_commonDivisor_9 2 rfl ?_
    refine g_bipush hO 100 d_X4_commonDivisor_11 (by decide) ?_
    refine g_ic_ge (tgt := 44) hO d_X4_commonDivisor_13.1 d_X4_commonDivisor_13.2 (fun _ => ?_) (fun _ => ?_)
    · skip
      refine g_lload hO d_X4_commonDivisor_44 0 rfl ?_
      exact g_lret hO rfl ⟨Nat.le_of_ble_eq_true rfl, Nat.le_of_ble_eq_true rfl⟩ rfl rfl d_X4_commonDivisor_46.1
    · skip
      refine g_lload hO d_X4_commonDivisor_16 1 rfl ?_
      refine g_lconst hO 0 d_X4_commonDivisor_18 (by decide) ?_
      refine g_lcmp hO d_X4_commonDivisor_19 ?_
      refine g_if_eq (tgt := 44) hO d_X4_commonDivisor_20.1 d_X4_commonDivisor_20.2 (fun _ => ?_) (fun _ => ?_)
      · skip
        refine g_lload hO d_X4_commonDivisor_44 0 rfl ?_
        exact g_lret hO rfl ⟨Nat.le_of_ble_eq_true rfl, Nat.le_of_ble_eq_true rfl⟩ rfl rfl d_X4_commonDivisor_46.1
      · skip
        refine g_lload hO d_X4_commonDivisor_23 0 rfl ?_
        refine g_lload hO d_X4_commonDivisor_25 1 rfl ?_
        refine g_lrem hO d_X4_commonDivisor_27 ?_
        refine g_lstore (lv' := [(9, vJ (jlrem x4 x6)), (4, vJ x4), (6, vJ x6), (8, vI x8)]) hO d_X4_commonDivisor_28 (by decide) rfl ?_
        refine g_lload hO d_X4_commonDivisor_30 2 rfl ?_
        refine g_lstore (lv' := [(4, vJ x6), (9, vJ (jlrem x4 x6)), (6, vJ x6), (8, vI x8)]) hO d_X4_commonDivisor_32 (by decide) rfl ?_
        refine g_lload hO d_X4_commonDivisor_34 1 rfl ?_
        refine g_lstore (lv' := [(6, vJ (jlrem x4 x6)), (4, vJ x6), (9, vJ (jlrem x4 x6)), (8, vI x8)]) hO d_X4_commonDivisor_36 (by decide) rfl ?_
        refine g_iinc (lv' := [(8, vI (x8 + 1)), (6, vJ (jlrem x4 x6)), (4, vJ x6), (9, vJ (jlrem x4 x6))]) hO 1 d_X4_commonDivisor_38 (by decide) 3 rfl (by decide) rfl ?_
        refine g_goto (tgt := 9) hO d_X4_commonDivisor_41.1 d_X4_commonDivisor_41.2 ?_
        exact g_sub [2, 1, 0] rfl (ih _ _ _)
set_option maxRecDepth 20000 in
theorem w_X4_commonDivisor {Γ : GC} {E : GE} (hO : gOk Γ E cX4_commonDivisor RX4 11 rm_X4_commonDivisor (some .long) "commonDivisor") (x0 : Int64) (x2 : Int64) (S : GS) : Go Γ E (gBpJ Γ E S) 11 (0, 0) 0 S [(0, vJ x0), (2, vJ x2)] [] (f_X4_commonDivisor x0 x2 S) := by
  unfold f_X4_commonDivisor
  refine g_lload_n hO d_X4_commonDivisor_0 (by rfl) 0 rfl ?_
  refine g_lstore (lv' := [(4, vJ x0), (0, vJ x0), (2, vJ x2)]) hO d_X4_commonDivisor_1 (by decide) rfl ?_
  refine g_lload_n hO d_X4_commonDivisor_3 (by rfl) 2 rfl ?_
  refine g_lstore (lv' := [(6, vJ x2), (4, vJ x0), (0, vJ x0), (2, vJ x2)]) hO d_X4_commonDivisor_4 (by decide) rfl ?_
  refine g_iconst hO 0 d_X4_commonDivisor_6 (by decide) ?_
  refine g_istore (lv' := [(8, vI 0), (6, vJ x2), (4, vJ x0), (0, vJ x0), (2, vJ x2)]) hO d_X4_commonDivisor_7 (by decide) rfl ?_
  exact g_sub [2, 1, 0] rfl (w_X4_commonDivisor_9 hO _ _ _ _ _)
theorem t_X4_commonDivisor (l : Launch) (E : GE) (x0 : Int64) (x2 : Int64) (S : GS) : ∀ a, f_X4_commonDivisor x0 x2 S = some a → Ct l E yX4_commonDivisor cX4_commonDivisor 11 (some .long) rm_X4_commonDivisor [vJ x0, vJ x2] S (some (vJ a)) S :=
  Ct_of (val := fun b => some (vJ b)) (nxt := fun _ => S) (by decide) (Nat.le_of_ble_eq_true rfl) (fun Γ hl hO => w_X4_commonDivisor hO x0 x2 S)
theorem d_X4_setOdds_0 : gD cX4_setOdds 0 (.lload_n 1) 1 1 := ⟨by decide +kernel, rfl⟩
theorem d_X4_setOdds_1 : gD cX4_setOdds 1 (.lload_n 3) 1 2 := ⟨by decide +kernel, rfl⟩
theorem d_X4_setOdds_2 : gD cX4_setOdds 2 (.invokestatic 112) 3 5 := ⟨by decide +kernel, rfl⟩
theorem d_X4_setOdds_5 : gD cX4_setOdds 5 (.lstore 5) 2 7 := ⟨by decide +kernel, rfl⟩
theorem d_X4_setOdds_7 : gD cX4_setOdds 7 (.aload_n 0) 1 8 := ⟨by decide +kernel, rfl⟩
theorem d_X4_setOdds_8 : gD cX4_setOdds 8 (.lload 5) 2 10 := ⟨by decide +kernel, rfl⟩
theorem d_X4_setOdds_10 : gD cX4_setOdds 10 (.lconst 0) 1 11 := ⟨by decide +kernel, rfl⟩
theorem d_X4_setOdds_11 : gD cX4_setOdds 11 (.lcmp) 1 12 := ⟨by decide +kernel, rfl⟩
theorem d_X4_setOdds_12 : gD cX4_setOdds 12 (.ifCond .le 10) 3 15 ∧ ((12 : Nat) : Int) + 10 = ((22 : Nat) : Int) := ⟨⟨by decide +kernel, rfl⟩, by decide⟩
theorem d_X4_setOdds_15 : gD cX4_setOdds 15 (.lload_n 1) 1 16 := ⟨by decide +kernel, rfl⟩
theorem d_X4_setOdds_16 : gD cX4_setOdds 16 (.lload 5) 2 18 := ⟨by decide +kernel, rfl⟩
theorem d_X4_setOdds_18 : gD cX4_setOdds 18 (.ldiv) 1 19 := ⟨by decide +kernel, rfl⟩
theorem d_X4_setOdds_19 : decode cX4_setOdds 19 = .ok (.goto 4, 3) ∧ ((19 : Nat) : Int) + 4 = ((23 : Nat) : Int) := ⟨by decide +kernel, by decide⟩
theorem d_X4_setOdds_22 : gD cX4_setOdds 22 (.lload_n 1) 1 23 := ⟨by decide +kernel, rfl⟩
theorem d_X4_setOdds_23 : gD cX4_setOdds 23 (.putfield 116) 3 26 := ⟨by decide +kernel, rfl⟩
theorem d_X4_setOdds_26 : gD cX4_setOdds 26 (.aload_n 0) 1 27 := ⟨by decide +kernel, rfl⟩
theorem d_X4_setOdds_27 : gD cX4_setOdds 27 (.lload 5) 2 29 := ⟨by decide +kernel, rfl⟩
theorem d_X4_setOdds_29 : gD cX4_setOdds 29 (.lconst 0) 1 30 := ⟨by decide +kernel, rfl⟩
theorem d_X4_setOdds_30 : gD cX4_setOdds 30 (.lcmp) 1 31 := ⟨by decide +kernel, rfl⟩
theorem d_X4_setOdds_31 : gD cX4_setOdds 31 (.ifCond .le 10) 3 34 ∧ ((31 : Nat) : Int) + 10 = ((41 : Nat) : Int) := ⟨⟨by decide +kernel, rfl⟩, by decide⟩
theorem d_X4_setOdds_34 : gD cX4_setOdds 34 (.lload_n 3) 1 35 := ⟨by decide +kernel, rfl⟩
theorem d_X4_setOdds_35 : gD cX4_setOdds 35 (.lload 5) 2 37 := ⟨by decide +kernel, rfl⟩
theorem d_X4_setOdds_37 : gD cX4_setOdds 37 (.ldiv) 1 38 := ⟨by decide +kernel, rfl⟩
theorem d_X4_setOdds_38 : decode cX4_setOdds 38 = .ok (.goto 4, 3) ∧ ((38 : Nat) : Int) + 4 = ((42 : Nat) : Int) := ⟨by decide +kernel, by decide⟩
theorem d_X4_setOdds_41 : gD cX4_setOdds 41 (.lload_n 3) 1 42 := ⟨by decide +kernel, rfl⟩
theorem d_X4_setOdds_42 : gD cX4_setOdds 42 (.putfield 18) 3 45 := ⟨by decide +kernel, rfl⟩
theorem d_X4_setOdds_45 : gD cX4_setOdds 45 (.return_) 1 46 := ⟨by decide +kernel, rfl⟩
abbrev rm_X4_setOdds : Room := { frames := 1, cells := 0, slots := 0, locals := 30 }
set_option maxRecDepth 20000 in
theorem w_X4_setOdds_23 {Γ : GC} {E : GE} (hO : gOk Γ E cX4_setOdds RX4 7 rm_X4_setOdds none "setOdds") (o : Nat) (x3 : Int64) (x5 : Int64) (y0 : Option Nat) (y1 : Int64) (S : GS) : Go Γ E (gBsV Γ E) 7 (0, 0) 23 S [(0, vA (some o)), (3, vJ x3), (5, vJ x5)] [vJ y1, vA y0] (f_X4_setOdds_23 o x3 x5 y0 y1 S) := by
  unfold f_X4_setOdds_23
  refine h_putJ hO cl_X4 2 rfl rfl wf_X4_116 (Or.inl rfl) d_X4_setOdds_23 (fun S1 => ?_)
  refine g_aload_n hO d_X4_setOdds_26 (by rfl) 0 rfl ?_
  refine g_lload hO d_X4_setOdds_27 2 rfl ?_
  refine g_lconst hO 0 d_X4_setOdds_29 (by decide) ?_
  refine g_lcmp hO d_X4_setOdds_30 ?_
  refine g_if_le (tgt := 41) hO d_X4_setOdds_31.1 d_X4_setOdds_31.2 (fun _ => ?_) (fun _ => ?_)
  · skip
    refine g_lload_n hO d_X4_setOdds_41 (by rfl) 1 rfl ?_
    refine h_putJ hO cl_X4 3 rfl rfl wf_X4_18 (Or.inl rfl) d_X4_setOdds_42 (fun S2 => ?_)
    exact g_vret hO rfl ⟨Nat.le_of_ble_eq_true rfl, Nat.le_of_ble_eq_true rfl⟩ rfl rfl d_X4_setOdds_45.1
  · skip
    refine g_lload_n hO d_X4_setOdds_34 (by rfl) 1 rfl ?_
    refine g_lload hO d_X4_setOdds_35 2 rfl ?_
    refine g_ldiv hO d_X4_setOdds_37 ?_
    refine g_goto (tgt := 42) hO d_X4_setOdds_38.1 d_X4_setOdds_38.2 ?_
    refine h_putJ hO cl_X4 3 rfl rfl wf_X4_18 (Or.inl rfl) d_X4_setOdds_42 (fun S3 => ?_)
    exact g_vret hO rfl ⟨Nat.le_of_ble_eq_true rfl, Nat.le_of_ble_eq_true rfl⟩ rfl rfl d_X4_setOdds_45.1
set_option maxRecDepth 20000 in
theorem w_X4_setOdds {Γ : GC} {E : GE} (hO : gOk Γ E cX4_setOdds RX4 7 rm_X4_setOdds none "setOdds") (o : Nat) (x1 : Int64) (x3 : Int64) (S : GS) : Go Γ E (gBsV Γ E) 7 (0, 0) 0 S [(0, vA (some o)), (1, vJ x1), (3, vJ x3)] [] (f_X4_setOdds o x1 x3 S) := by
  unfold f_X4_setOdds
  refine g_lload_n hO d_X4_setOdds_0 (by rfl) 1 rfl ?_
  refine g_lload_n hO d_X4_setOdds_1 (by rfl) 2 rfl ?_
  refine k_statJp hO mm_X4_commonDivisor lkS_X4_112 ⟨⟨Nat.le_of_ble_eq_true rfl, Nat.le_of_ble_eq_true rfl⟩, Nat.le_of_ble_eq_true rfl, Nat.le_of_ble_eq_true rfl⟩ (kn' := (0, 0)) rfl (As := [vJ x1, vJ x3]) rfl (Nat.le_of_ble_eq_true rfl) (t_X4_commonDivisor Γ.2.1 E x1 x3 S) d_X4_setOdds_2 rfl (fun v1 => ?_)
  refine g_lstore (lv' := [(5, vJ v1), (0, vA (some o)), (1, vJ x1), (3, vJ x3)]) hO d_X4_setOdds_5 (by decide) rfl ?_
  refine g_aload_n hO d_X4_setOdds_7 (by rfl) 1 rfl ?_
  refine g_lload hO d_X4_setOdds_8 0 rfl ?_
  refine g_lconst hO 0 d_X4_setOdds_10 (by decide) ?_
  refine g_lcmp hO d_X4_setOdds_11 ?_
  refine g_if_le (tgt := 22) hO d_X4_setOdds_12.1 d_X4_setOdds_12.2 (fun _ => ?_) (fun _ => ?_)
  · skip
    refine g_lload_n hO d_X4_setOdds_22 (by rfl) 2 rfl ?_
    exact g_sub [1, 3, 0] rfl (w_X4_setOdds_23 hO o _ _ _ _ _)
  · skip
    refine g_lload_n hO d_X4_setOdds_15 (by rfl) 2 rfl ?_
    refine g_lload hO d_X4_setOdds_16 0 rfl ?_
    refine g_ldiv hO d_X4_setOdds_18 ?_
    refine g_goto (tgt := 23) hO d_X4_setOdds_19.1 d_X4_setOdds_19.2 ?_
    exact g_sub [1, 3, 0] rfl (w_X4_setOdds_23 hO o _ _ _ _ _)
theorem t_X4_setOdds (l : Launch) (E : GE) (o : Nat) (x1 : Int64) (x3 : Int64) (S : GS) : ∀ a, f_X4_setOdds o x1 x3 S = some a → Ct l E yX4_setOdds cX4_setOdds 7 none rm_X4_setOdds [vA (some o), vJ x1, vJ x3] S none a :=
  Ct_of (val := fun _ => none) (nxt := fun b => b) (by decide) (Nat.le_of_ble_eq_true rfl) (fun Γ hl hO => w_X4_setOdds hO o x1 x3 S)
theorem d_X4_thenAt_0 : gD cX4_thenAt 0 (.aload_n 0) 1 1 := ⟨by decide +kernel, rfl⟩
theorem d_X4_thenAt_1 : gD cX4_thenAt 1 (.aload_n 1) 1 2 := ⟨by decide +kernel, rfl⟩
theorem d_X4_thenAt_2 : gD cX4_thenAt 2 (.invokevirtual 52) 3 5 := ⟨by decide +kernel, rfl⟩
theorem d_X4_thenAt_5 : gD cX4_thenAt 5 (.iconst 0) 1 6 := ⟨by decide +kernel, rfl⟩
theorem d_X4_thenAt_6 : gD cX4_thenAt 6 (.istore 4) 2 8 := ⟨by decide +kernel, rfl⟩
theorem d_X4_thenAt_8 : gD cX4_thenAt 8 (.iload 4) 2 10 := ⟨by decide +kernel, rfl⟩
theorem d_X4_thenAt_10 : gD cX4_thenAt 10 (.iload_n 3) 1 11 := ⟨by decide +kernel, rfl⟩
theorem d_X4_thenAt_11 : gD cX4_thenAt 11 (.if_icmp .ge 14) 3 14 ∧ ((11 : Nat) : Int) + 14 = ((25 : Nat) : Int) := ⟨⟨by decide +kernel, rfl⟩, by decide⟩
theorem d_X4_thenAt_14 : gD cX4_thenAt 14 (.aload_n 0) 1 15 := ⟨by decide +kernel, rfl⟩
theorem d_X4_thenAt_15 : gD cX4_thenAt 15 (.aload_n 1) 1 16 := ⟨by decide +kernel, rfl⟩
theorem d_X4_thenAt_16 : gD cX4_thenAt 16 (.invokevirtual 56) 3 19 := ⟨by decide +kernel, rfl⟩
theorem d_X4_thenAt_19 : gD cX4_thenAt 19 (.iinc 4 1) 3 22 := ⟨by decide +kernel, rfl⟩
theorem d_X4_thenAt_22 : decode cX4_thenAt 22 = .ok (.goto (-14), 3) ∧ ((22 : Nat) : Int) + (-14) = ((8 : Nat) : Int) := ⟨by decide +kernel, by decide⟩
theorem d_X4_thenAt_25 : gD cX4_thenAt 25 (.aload_n 0) 1 26 := ⟨by decide +kernel, rfl⟩
theorem d_X4_thenAt_26 : gD cX4_thenAt 26 (.iload_n 2) 1 27 := ⟨by decide +kernel, rfl⟩
theorem d_X4_thenAt_27 : gD cX4_thenAt 27 (.invokestatic 34) 3 30 := ⟨by decide +kernel, rfl⟩
theorem d_X4_thenAt_30 : gD cX4_thenAt 30 (.ifCond .eq 12) 3 33 ∧ ((30 : Nat) : Int) + 12 = ((42 : Nat) : Int) := ⟨⟨by decide +kernel, rfl⟩, by decide⟩
theorem d_X4_thenAt_33 : gD cX4_thenAt 33 (.aload_n 0) 1 34 := ⟨by decide +kernel, rfl⟩
theorem d_X4_thenAt_34 : gD cX4_thenAt 34 (.getfield 9) 3 37 := ⟨by decide +kernel, rfl⟩
theorem d_X4_thenAt_37 : gD cX4_thenAt 37 (.iload_n 2) 1 38 := ⟨by decide +kernel, rfl⟩
theorem d_X4_thenAt_38 : gD cX4_thenAt 38 (.laload) 1 39 := ⟨by decide +kernel, rfl⟩
theorem d_X4_thenAt_39 : decode cX4_thenAt 39 = .ok (.goto 4, 3) ∧ ((39 : Nat) : Int) + 4 = ((43 : Nat) : Int) := ⟨by decide +kernel, by decide⟩
theorem d_X4_thenAt_42 : gD cX4_thenAt 42 (.lconst 0) 1 43 := ⟨by decide +kernel, rfl⟩
theorem d_X4_thenAt_43 : gD cX4_thenAt 43 (.aload_n 1) 1 44 := ⟨by decide +kernel, rfl⟩
theorem d_X4_thenAt_44 : gD cX4_thenAt 44 (.invokevirtual 59) 3 47 := ⟨by decide +kernel, rfl⟩
theorem d_X4_thenAt_47 : gD cX4_thenAt 47 (.i2l) 1 48 := ⟨by decide +kernel, rfl⟩
theorem d_X4_thenAt_48 : gD cX4_thenAt 48 (.iload_n 3) 1 49 := ⟨by decide +kernel, rfl⟩
theorem d_X4_thenAt_49 : gD cX4_thenAt 49 (.invokestatic 63) 3 52 := ⟨by decide +kernel, rfl⟩
theorem d_X4_thenAt_52 : gD cX4_thenAt 52 (.invokevirtual 67) 3 55 := ⟨by decide +kernel, rfl⟩
theorem d_X4_thenAt_55 : gD cX4_thenAt 55 (.return_) 1 56 := ⟨by decide +kernel, rfl⟩
abbrev rm_X4_thenAt : Room := { frames := 3, cells := 0, slots := 0, locals := 59 }
set_option maxRecDepth 20000 in
theorem w_X4_thenAt_43 {Γ : GC} {E : GE} (hO : gOk Γ E cX4_thenAt RX4 5 rm_X4_thenAt none "thenAt") (o : Nat) (x1 : Option Nat) (x3 : Int32) (y0 : Option Nat) (y1 : Int64) (S : GS) : Go Γ E (gBsV Γ E) 5 (0, 0) 43 S [(0, vA (some o)), (1, vA x1), (3, vI x3)] [vJ y1, vA y0] (f_X4_thenAt_43 o x1 x3 y0 y1 S) := by
  unfold f_X4_thenAt_43
  refine g_aload_n hO d_X4_thenAt_43 (by rfl) 1 rfl ?_
  refine k_virtIp hO cl_X0 mm_X0_allWeights lkV_X4_59 ⟨⟨Nat.le_of_ble_eq_true rfl, Nat.le_of_ble_eq_true rfl⟩, Nat.le_of_ble_eq_true rfl, Nat.le_of_ble_eq_true rfl⟩ (kn' := (0, 0)) rfl (As := []) rfl (Nat.le_of_ble_eq_true rfl) (fun o' _ => t_X0_allWeights Γ.2.1 E o' S) d_X4_thenAt_44 rfl (fun v1 => ?_)
  refine g_i2l hO d_X4_thenAt_47 ?_
  refine g_iload_n hO d_X4_thenAt_48 (by rfl) 2 rfl ?_
  refine k_statJp hO mm_X4_power lkS_X4_63 ⟨⟨Nat.le_of_ble_eq_true rfl, Nat.le_of_ble_eq_true rfl⟩, Nat.le_of_ble_eq_true rfl, Nat.le_of_ble_eq_true rfl⟩ (kn' := (0, 0)) rfl (As := [vJ (v1).toInt64, vI x3]) rfl (Nat.le_of_ble_eq_true rfl) (t_X4_power Γ.2.1 E (v1).toInt64 x3 S) d_X4_thenAt_49 rfl (fun v3 => ?_)
  refine k_virtVs hO cl_X4 mm_X4_setOdds lkV_X4_67 ⟨⟨Nat.le_of_ble_eq_true rfl, Nat.le_of_ble_eq_true rfl⟩, Nat.le_of_ble_eq_true rfl, Nat.le_of_ble_eq_true rfl⟩ (kn' := (0, 0)) rfl (As := [vJ y1, vJ v3]) rfl (Nat.le_of_ble_eq_true rfl) (fun o' _ => t_X4_setOdds Γ.2.1 E o' y1 v3 S) d_X4_thenAt_52 rfl (fun S6 => ?_)
  exact g_vret hO rfl ⟨Nat.le_of_ble_eq_true rfl, Nat.le_of_ble_eq_true rfl⟩ rfl rfl d_X4_thenAt_55.1
set_option maxRecDepth 20000 in
theorem w_X4_thenAt_8 {Γ : GC} {E : GE} (hO : gOk Γ E cX4_thenAt RX4 5 rm_X4_thenAt none "thenAt") (o : Nat) : ∀ (n : Nat) (x1 : Option Nat) (x2 : Int32) (x3 : Int32) (x4 : Int32) (S : GS), Go Γ E (gBsV Γ E) 5 (0, 0) 8 S [(0, vA (some o)), (1, vA x1), (2, vI x2), (3, vI x3), (4, vI x4)] [] (f_X4_thenAt_8 o n x1 x2 x3 x4 S) := by
  intro n
  induction n with
  | zero =>
    intro x1 x2 x3 x4 S
    exact g_none
  | succ n ih =>
    intro x1 x2 x3 x4 S
    rw [f_X4_thenAt_8]
    refine g_iload hO d_X4_thenAt_8 4 rfl ?_
    refine g_iload_n hO d_X4_thenAt_10 (by rfl) 3 rfl ?_
    refine g_ic_ge (tgt := 25) hO d_X4_thenAt_11.1 d_X4_thenAt_11.2 (fun _ => ?_) (fun _ => ?_)
    · skip
      refine g_aload_n hO d_X4_thenAt_25 (by rfl) 0 rfl ?_
      refine g_iload_n hO d_X4_thenAt_26 (by rfl) 2 rfl ?_
      refine k_statNIp hO mm_X11_isMark lkSN_X4_34 ⟨⟨Nat.le_of_ble_eq_true rfl, Nat.le_of_ble_eq_true rfl⟩, Nat.le_of_ble_eq_true rfl, Nat.le_of_ble_eq_true rfl⟩ (kn' := (0, 0)) rfl (As := [vI x2]) rfl (Nat.le_of_ble_eq_true rfl) (t_X11_isMark Γ.2.1 E x2 S) d_X4_thenAt_27 rfl (fun v1 => ?_)
      refine g_if_eq (tgt := 42) hO d_X4_thenAt_30.1 d_X4_thenAt_30.2 (fun _ => ?_) (fun _ => ?_)
      · skip
        refine g_lconst hO 0 d_X4_thenAt_42 (by decide) ?_
        exact g_sub [0, 1, 3] rfl (w_X4_thenAt_43 hO o _ _ _ _ _)
      · skip
        refine g_aload_n hO d_X4_thenAt_33 (by rfl) 0 rfl ?_
        refine h_getR hO cl_X4 0 rfl wf_X4_9 d_X4_thenAt_34 (fun v3 => ?_)
        refine g_iload_n hO d_X4_thenAt_37 (by rfl) 2 rfl ?_
        refine h_lald hO d_X4_thenAt_38 (fun v4 => ?_)
        refine g_goto (tgt := 43) hO d_X4_thenAt_39.1 d_X4_thenAt_39.2 ?_
        exact g_sub [0, 1, 3] rfl (w_X4_thenAt_43 hO o _ _ _ _ _)
    · skip
      refine g_aload_n hO d_X4_thenAt_14 (by rfl) 0 rfl ?_
      refine g_aload_n hO d_X4_thenAt_15 (by rfl) 1 rfl ?_
      refine k_virtVs hO cl_X4 mm_X4_blow lkV_X4_56 ⟨⟨Nat.le_of_ble_eq_true rfl, Nat.le_of_ble_eq_true rfl⟩, Nat.le_of_ble_eq_true rfl, Nat.le_of_ble_eq_true rfl⟩ (kn' := (0, 0)) rfl (As := [vA x1]) rfl (Nat.le_of_ble_eq_true rfl) (fun o' _ => t_X4_blow Γ.2.1 E o' x1 S) d_X4_thenAt_16 rfl (fun S6 => ?_)
      refine g_iinc (lv' := [(4, vI (x4 + 1)), (0, vA (some o)), (1, vA x1), (2, vI x2), (3, vI x3)]) hO 1 d_X4_thenAt_19 (by decide) 4 rfl (by decide) rfl ?_
      refine g_goto (tgt := 8) hO d_X4_thenAt_22.1 d_X4_thenAt_22.2 ?_
      exact g_sub [1, 2, 3, 4, 0] rfl (ih _ _ _ _ _)
set_option maxRecDepth 20000 in
theorem w_X4_thenAt {Γ : GC} {E : GE} (hO : gOk Γ E cX4_thenAt RX4 5 rm_X4_thenAt none "thenAt") (o : Nat) (x1 : Option Nat) (x2 : Int32) (x3 : Int32) (S : GS) : Go Γ E (gBsV Γ E) 5 (0, 0) 0 S [(0, vA (some o)), (1, vA x1), (2, vI x2), (3, vI x3)] [] (f_X4_thenAt o x1 x2 x3 S) := by
  unfold f_X4_thenAt
  refine g_aload_n hO d_X4_thenAt_0 (by rfl) 0 rfl ?_
  refine g_aload_n hO d_X4_thenAt_1 (by rfl) 1 rfl ?_
  refine k_virtVs hO cl_X4 mm_X4_begin lkV_X4_52 ⟨⟨Nat.le_of_ble_eq_true rfl, Nat.le_of_ble_eq_true rfl⟩, Nat.le_of_ble_eq_true rfl, Nat.le_of_ble_eq_true rfl⟩ (kn' := (0, 0)) rfl (As := [vA x1]) rfl (Nat.le_of_ble_eq_true rfl) (fun o' _ => t_X4_begin Γ.2.1 E o' x1 S) d_X4_thenAt_2 rfl (fun S2 => ?_)
  refine g_iconst hO 0 d_X4_thenAt_5 (by decide) ?_
  refine g_istore (lv' := [(4, vI 0), (0, vA (some o)), (1, vA x1), (2, vI x2), (3, vI x3)]) hO d_X4_thenAt_6 (by decide) rfl ?_
  exact g_sub [1, 2, 3, 4, 0] rfl (w_X4_thenAt_8 hO o _ _ _ _ _ _)
theorem t_X4_thenAt (l : Launch) (E : GE) (o : Nat) (x1 : Option Nat) (x2 : Int32) (x3 : Int32) (S : GS) : ∀ a, f_X4_thenAt o x1 x2 x3 S = some a → Ct l E yX4_thenAt cX4_thenAt 5 none rm_X4_thenAt [vA (some o), vA x1, vI x2, vI x3] S none a :=
  Ct_of (val := fun _ => none) (nxt := fun b => b) (by decide) (Nat.le_of_ble_eq_true rfl) (fun Γ hl hO => w_X4_thenAt hO o x1 x2 x3 S)
theorem d_X4_strike_0 : gD cX4_strike 0 (.iload_n 1) 1 1 := ⟨by decide +kernel, rfl⟩
theorem d_X4_strike_1 : gD cX4_strike 1 (.invokestatic 34) 3 4 := ⟨by decide +kernel, rfl⟩
theorem d_X4_strike_4 : gD cX4_strike 4 (.ifCond .eq 10) 3 7 ∧ ((4 : Nat) : Int) + 10 = ((14 : Nat) : Int) := ⟨⟨by decide +kernel, rfl⟩, by decide⟩
theorem d_X4_strike_7 : gD cX4_strike 7 (.aload_n 0) 1 8 := ⟨by decide +kernel, rfl⟩
theorem d_X4_strike_8 : gD cX4_strike 8 (.getfield 9) 3 11 := ⟨by decide +kernel, rfl⟩
theorem d_X4_strike_11 : gD cX4_strike 11 (.iload_n 1) 1 12 := ⟨by decide +kernel, rfl⟩
theorem d_X4_strike_12 : gD cX4_strike 12 (.lconst 0) 1 13 := ⟨by decide +kernel, rfl⟩
theorem d_X4_strike_13 : gD cX4_strike 13 (.lastore) 1 14 := ⟨by decide +kernel, rfl⟩
theorem d_X4_strike_14 : gD cX4_strike 14 (.return_) 1 15 := ⟨by decide +kernel, rfl⟩
abbrev rm_X4_strike : Room := { frames := 1, cells := 0, slots := 0, locals := 20 }
set_option maxRecDepth 20000 in
theorem w_X4_strike {Γ : GC} {E : GE} (hO : gOk Γ E cX4_strike RX4 2 rm_X4_strike none "strike") (o : Nat) (x1 : Int32) (S : GS) : Go Γ E (gBsV Γ E) 2 (0, 0) 0 S [(0, vA (some o)), (1, vI x1)] [] (f_X4_strike o x1 S) := by
  unfold f_X4_strike
  refine g_iload_n hO d_X4_strike_0 (by rfl) 1 rfl ?_
  refine k_statNIp hO mm_X11_isMark lkSN_X4_34 ⟨⟨Nat.le_of_ble_eq_true rfl, Nat.le_of_ble_eq_true rfl⟩, Nat.le_of_ble_eq_true rfl, Nat.le_of_ble_eq_true rfl⟩ (kn' := (0, 0)) rfl (As := [vI x1]) rfl (Nat.le_of_ble_eq_true rfl) (t_X11_isMark Γ.2.1 E x1 S) d_X4_strike_1 rfl (fun v1 => ?_)
  refine g_if_eq (tgt := 14) hO d_X4_strike_4.1 d_X4_strike_4.2 (fun _ => ?_) (fun _ => ?_)
  · skip
    exact g_vret hO rfl ⟨Nat.le_of_ble_eq_true rfl, Nat.le_of_ble_eq_true rfl⟩ rfl rfl d_X4_strike_14.1
  · skip
    refine g_aload_n hO d_X4_strike_7 (by rfl) 0 rfl ?_
    refine h_getR hO cl_X4 0 rfl wf_X4_9 d_X4_strike_8 (fun v3 => ?_)
    refine g_iload_n hO d_X4_strike_11 (by rfl) 1 rfl ?_
    refine g_lconst hO 0 d_X4_strike_12 (by decide) ?_
    refine h_last hO d_X4_strike_13 (fun S4 => ?_)
    exact g_vret hO rfl ⟨Nat.le_of_ble_eq_true rfl, Nat.le_of_ble_eq_true rfl⟩ rfl rfl d_X4_strike_14.1
theorem t_X4_strike (l : Launch) (E : GE) (o : Nat) (x1 : Int32) (S : GS) : ∀ a, f_X4_strike o x1 S = some a → Ct l E yX4_strike cX4_strike 2 none rm_X4_strike [vA (some o), vI x1] S none a :=
  Ct_of (val := fun _ => none) (nxt := fun b => b) (by decide) (Nat.le_of_ble_eq_true rfl) (fun Γ hl hO => w_X4_strike hO o x1 S)
theorem d_X4_setOddsOfStruck_0 : gD cX4_setOddsOfStruck 0 (.lconst 0) 1 1 := ⟨by decide +kernel, rfl⟩
theorem d_X4_setOddsOfStruck_1 : gD cX4_setOddsOfStruck 1 (.lstore_n 3) 1 2 := ⟨by decide +kernel, rfl⟩
theorem d_X4_setOddsOfStruck_2 : gD cX4_setOddsOfStruck 2 (.iconst 0) 1 3 := ⟨by decide +kernel, rfl⟩
theorem d_X4_setOddsOfStruck_3 : gD cX4_setOddsOfStruck 3 (.istore 5) 2 5 := ⟨by decide +kernel, rfl⟩
theorem d_X4_setOddsOfStruck_5 : gD cX4_setOddsOfStruck 5 (.iload 5) 2 7 := ⟨by decide +kernel, rfl⟩
theorem d_X4_setOddsOfStruck_7 : gD cX4_setOddsOfStruck 7 (.bipush 40) 2 9 := ⟨by decide +kernel, rfl⟩
theorem d_X4_setOddsOfStruck_9 : gD cX4_setOddsOfStruck 9 (.if_icmp .gt 19) 3 12 ∧ ((9 : Nat) : Int) + 19 = ((28 : Nat) : Int) := ⟨⟨by decide +kernel, rfl⟩, by decide⟩
theorem d_X4_setOddsOfStruck_12 : gD cX4_setOddsOfStruck 12 (.lload_n 3) 1 13 := ⟨by decide +kernel, rfl⟩
theorem d_X4_setOddsOfStruck_13 : gD cX4_setOddsOfStruck 13 (.aload_n 0) 1 14 := ⟨by decide +kernel, rfl⟩
theorem d_X4_setOddsOfStruck_14 : gD cX4_setOddsOfStruck 14 (.getfield 9) 3 17 := ⟨by decide +kernel, rfl⟩
theorem d_X4_setOddsOfStruck_17 : gD cX4_setOddsOfStruck 17 (.iload 5) 2 19 := ⟨by decide +kernel, rfl⟩
theorem d_X4_setOddsOfStruck_19 : gD cX4_setOddsOfStruck 19 (.laload) 1 20 := ⟨by decide +kernel, rfl⟩
theorem d_X4_setOddsOfStruck_20 : gD cX4_setOddsOfStruck 20 (.ladd) 1 21 := ⟨by decide +kernel, rfl⟩
theorem d_X4_setOddsOfStruck_21 : gD cX4_setOddsOfStruck 21 (.lstore_n 3) 1 22 := ⟨by decide +kernel, rfl⟩
theorem d_X4_setOddsOfStruck_22 : gD cX4_setOddsOfStruck 22 (.iinc 5 1) 3 25 := ⟨by decide +kernel, rfl⟩
theorem d_X4_setOddsOfStruck_25 : decode cX4_setOddsOfStruck 25 = .ok (.goto (-20), 3) ∧ ((25 : Nat) : Int) + (-20) = ((5 : Nat) : Int) := ⟨by decide +kernel, by decide⟩
theorem d_X4_setOddsOfStruck_28 : gD cX4_setOddsOfStruck 28 (.aload_n 0) 1 29 := ⟨by decide +kernel, rfl⟩
theorem d_X4_setOddsOfStruck_29 : gD cX4_setOddsOfStruck 29 (.lload_n 1) 1 30 := ⟨by decide +kernel, rfl⟩
theorem d_X4_setOddsOfStruck_30 : gD cX4_setOddsOfStruck 30 (.lload_n 3) 1 31 := ⟨by decide +kernel, rfl⟩
theorem d_X4_setOddsOfStruck_31 : gD cX4_setOddsOfStruck 31 (.lsub) 1 32 := ⟨by decide +kernel, rfl⟩
theorem d_X4_setOddsOfStruck_32 : gD cX4_setOddsOfStruck 32 (.lload_n 1) 1 33 := ⟨by decide +kernel, rfl⟩
theorem d_X4_setOddsOfStruck_33 : gD cX4_setOddsOfStruck 33 (.invokevirtual 67) 3 36 := ⟨by decide +kernel, rfl⟩
theorem d_X4_setOddsOfStruck_36 : gD cX4_setOddsOfStruck 36 (.return_) 1 37 := ⟨by decide +kernel, rfl⟩
abbrev rm_X4_setOddsOfStruck : Room := { frames := 2, cells := 0, slots := 0, locals := 56 }
set_option maxRecDepth 20000 in
theorem w_X4_setOddsOfStruck_5 {Γ : GC} {E : GE} (hO : gOk Γ E cX4_setOddsOfStruck RX4 6 rm_X4_setOddsOfStruck none "setOddsOfStruck") (o : Nat) : ∀ (n : Nat) (x1 : Int64) (x3 : Int64) (x5 : Int32) (S : GS), Go Γ E (gBsV Γ E) 6 (0, 0) 5 S [(0, vA (some o)), (1, vJ x1), (3, vJ x3), (5, vI x5)] [] (f_X4_setOddsOfStruck_5 o n x1 x3 x5 S) := by
  intro n
  induction n with
  | zero =>
    intro x1 x3 x5 S
    exact g_none
  | succ n ih =>
    intro x1 x3 x5 S
    rw [f_X4_setOddsOfStruck_5]
    refine g_iload hO d_X4_setOddsOfStruck_5 3 rfl ?_
    refine g_bipush hO 40 d_X4_setOddsOfStruck_7 (by decide) ?_
    refine g_ic_gt (tgt := 28) hO d_X4_setOddsOfStruck_9.1 d_X4_setOddsOfStruck_9.2 (fun _ => ?_) (fun _ => ?_)
    · skip
      refine g_aload_n hO d_X4_setOddsOfStruck_28 (by rfl) 0 rfl ?_
      refine g_lload_n hO d_X4_setOddsOfStruck_29 (by rfl) 1 rfl ?_
      refine g_lload_n hO d_X4_setOddsOfStruck_30 (by rfl) 2 rfl ?_
      refine g_lsub hO d_X4_setOddsOfStruck_31 ?_
      refine g_lload_n hO d_X4_setOddsOfStruck_32 (by rfl) 1 rfl ?_
      refine k_virtVs hO cl_X4 mm_X4_setOdds lkV_X4_67 ⟨⟨Nat.le_of_ble_eq_true rfl, Nat.le_of_ble_eq_true rfl⟩, Nat.le_of_ble_eq_true rfl, Nat.le_of_ble_eq_true rfl⟩ (kn' := (0, 0)) rfl (As := [vJ (x1 - x3), vJ x1]) rfl (Nat.le_of_ble_eq_true rfl) (fun o' _ => t_X4_setOdds Γ.2.1 E o' (x1 - x3) x1 S) d_X4_setOddsOfStruck_33 rfl (fun S2 => ?_)
      exact g_vret hO rfl ⟨Nat.le_of_ble_eq_true rfl, Nat.le_of_ble_eq_true rfl⟩ rfl rfl d_X4_setOddsOfStruck_36.1
    · skip
      refine g_lload_n hO d_X4_setOddsOfStruck_12 (by rfl) 2 rfl ?_
      refine g_aload_n hO d_X4_setOddsOfStruck_13 (by rfl) 0 rfl ?_
      refine h_getR hO cl_X4 0 rfl wf_X4_9 d_X4_setOddsOfStruck_14 (fun v3 => ?_)
      refine g_iload hO d_X4_setOddsOfStruck_17 3 rfl ?_
      refine h_lald hO d_X4_setOddsOfStruck_19 (fun v4 => ?_)
      refine g_ladd hO d_X4_setOddsOfStruck_20 ?_
      refine g_lstore_n (lv' := [(3, vJ (x3 + v4)), (0, vA (some o)), (1, vJ x1), (5, vI x5)]) hO d_X4_setOddsOfStruck_21 (by rfl) (by decide) rfl ?_
      refine g_iinc (lv' := [(5, vI (x5 + 1)), (3, vJ (x3 + v4)), (0, vA (some o)), (1, vJ x1)]) hO 1 d_X4_setOddsOfStruck_22 (by decide) 3 rfl (by decide) rfl ?_
      refine g_goto (tgt := 5) hO d_X4_setOddsOfStruck_25.1 d_X4_setOddsOfStruck_25.2 ?_
      exact g_sub [2, 3, 1, 0] rfl (ih _ _ _ _)
set_option maxRecDepth 20000 in
theorem w_X4_setOddsOfStruck {Γ : GC} {E : GE} (hO : gOk Γ E cX4_setOddsOfStruck RX4 6 rm_X4_setOddsOfStruck none "setOddsOfStruck") (o : Nat) (x1 : Int64) (S : GS) : Go Γ E (gBsV Γ E) 6 (0, 0) 0 S [(0, vA (some o)), (1, vJ x1)] [] (f_X4_setOddsOfStruck o x1 S) := by
  unfold f_X4_setOddsOfStruck
  refine g_lconst hO 0 d_X4_setOddsOfStruck_0 (by decide) ?_
  refine g_lstore_n (lv' := [(3, vJ 0), (0, vA (some o)), (1, vJ x1)]) hO d_X4_setOddsOfStruck_1 (by rfl) (by decide) rfl ?_
  refine g_iconst hO 0 d_X4_setOddsOfStruck_2 (by decide) ?_
  refine g_istore (lv' := [(5, vI 0), (3, vJ 0), (0, vA (some o)), (1, vJ x1)]) hO d_X4_setOddsOfStruck_3 (by decide) rfl ?_
  exact g_sub [2, 3, 1, 0] rfl (w_X4_setOddsOfStruck_5 hO o _ _ _ _ _)
theorem t_X4_setOddsOfStruck (l : Launch) (E : GE) (o : Nat) (x1 : Int64) (S : GS) : ∀ a, f_X4_setOddsOfStruck o x1 S = some a → Ct l E yX4_setOddsOfStruck cX4_setOddsOfStruck 6 none rm_X4_setOddsOfStruck [vA (some o), vJ x1] S none a :=
  Ct_of (val := fun _ => none) (nxt := fun b => b) (by decide) (Nat.le_of_ble_eq_true rfl) (fun Γ hl hO => w_X4_setOddsOfStruck hO o x1 S)
theorem d_X4_everAt_0 : gD cX4_everAt 0 (.aload_n 0) 1 1 := ⟨by decide +kernel, rfl⟩
theorem d_X4_everAt_1 : gD cX4_everAt 1 (.aload_n 1) 1 2 := ⟨by decide +kernel, rfl⟩
theorem d_X4_everAt_2 : gD cX4_everAt 2 (.invokevirtual 52) 3 5 := ⟨by decide +kernel, rfl⟩
theorem d_X4_everAt_5 : gD cX4_everAt 5 (.aload_n 0) 1 6 := ⟨by decide +kernel, rfl⟩
theorem d_X4_everAt_6 : gD cX4_everAt 6 (.iload_n 2) 1 7 := ⟨by decide +kernel, rfl⟩
theorem d_X4_everAt_7 : gD cX4_everAt 7 (.invokevirtual 71) 3 10 := ⟨by decide +kernel, rfl⟩
theorem d_X4_everAt_10 : gD cX4_everAt 10 (.iconst 0) 1 11 := ⟨by decide +kernel, rfl⟩
theorem d_X4_everAt_11 : gD cX4_everAt 11 (.istore 4) 2 13 := ⟨by decide +kernel, rfl⟩
theorem d_X4_everAt_13 : gD cX4_everAt 13 (.iload 4) 2 15 := ⟨by decide +kernel, rfl⟩
theorem d_X4_everAt_15 : gD cX4_everAt 15 (.iload_n 3) 1 16 := ⟨by decide +kernel, rfl⟩
theorem d_X4_everAt_16 : gD cX4_everAt 16 (.if_icmp .ge 19) 3 19 ∧ ((16 : Nat) : Int) + 19 = ((35 : Nat) : Int) := ⟨⟨by decide +kernel, rfl⟩, by decide⟩
theorem d_X4_everAt_19 : gD cX4_everAt 19 (.aload_n 0) 1 20 := ⟨by decide +kernel, rfl⟩
theorem d_X4_everAt_20 : gD cX4_everAt 20 (.aload_n 1) 1 21 := ⟨by decide +kernel, rfl⟩
theorem d_X4_everAt_21 : gD cX4_everAt 21 (.invokevirtual 56) 3 24 := ⟨by decide +kernel, rfl⟩
theorem d_X4_everAt_24 : gD cX4_everAt 24 (.aload_n 0) 1 25 := ⟨by decide +kernel, rfl⟩
theorem d_X4_everAt_25 : gD cX4_everAt 25 (.iload_n 2) 1 26 := ⟨by decide +kernel, rfl⟩
theorem d_X4_everAt_26 : gD cX4_everAt 26 (.invokevirtual 71) 3 29 := ⟨by decide +kernel, rfl⟩
theorem d_X4_everAt_29 : gD cX4_everAt 29 (.iinc 4 1) 3 32 := ⟨by decide +kernel, rfl⟩
theorem d_X4_everAt_32 : decode cX4_everAt 32 = .ok (.goto (-19), 3) ∧ ((32 : Nat) : Int) + (-19) = ((13 : Nat) : Int) := ⟨by decide +kernel, by decide⟩
theorem d_X4_everAt_35 : gD cX4_everAt 35 (.aload_n 0) 1 36 := ⟨by decide +kernel, rfl⟩
theorem d_X4_everAt_36 : gD cX4_everAt 36 (.aload_n 1) 1 37 := ⟨by decide +kernel, rfl⟩
theorem d_X4_everAt_37 : gD cX4_everAt 37 (.invokevirtual 59) 3 40 := ⟨by decide +kernel, rfl⟩
theorem d_X4_everAt_40 : gD cX4_everAt 40 (.i2l) 1 41 := ⟨by decide +kernel, rfl⟩
theorem d_X4_everAt_41 : gD cX4_everAt 41 (.iload_n 3) 1 42 := ⟨by decide +kernel, rfl⟩
theorem d_X4_everAt_42 : gD cX4_everAt 42 (.invokestatic 63) 3 45 := ⟨by decide +kernel, rfl⟩
theorem d_X4_everAt_45 : gD cX4_everAt 45 (.invokevirtual 75) 3 48 := ⟨by decide +kernel, rfl⟩
theorem d_X4_everAt_48 : gD cX4_everAt 48 (.return_) 1 49 := ⟨by decide +kernel, rfl⟩
abbrev rm_X4_everAt : Room := { frames := 3, cells := 0, slots := 0, locals := 81 }
set_option maxRecDepth 20000 in
theorem w_X4_everAt_13 {Γ : GC} {E : GE} (hO : gOk Γ E cX4_everAt RX4 5 rm_X4_everAt none "everAt") (o : Nat) : ∀ (n : Nat) (x1 : Option Nat) (x2 : Int32) (x3 : Int32) (x4 : Int32) (S : GS), Go Γ E (gBsV Γ E) 5 (0, 0) 13 S [(0, vA (some o)), (1, vA x1), (2, vI x2), (3, vI x3), (4, vI x4)] [] (f_X4_everAt_13 o n x1 x2 x3 x4 S) := by
  intro n
  induction n with
  | zero =>
    intro x1 x2 x3 x4 S
    exact g_none
  | succ n ih =>
    intro x1 x2 x3 x4 S
    rw [f_X4_everAt_13]
    refine g_iload hO d_X4_everAt_13 4 rfl ?_
    refine g_iload_n hO d_X4_everAt_15 (by rfl) 3 rfl ?_
    refine g_ic_ge (tgt := 35) hO d_X4_everAt_16.1 d_X4_everAt_16.2 (fun _ => ?_) (fun _ => ?_)
    · skip
      refine g_aload_n hO d_X4_everAt_35 (by rfl) 0 rfl ?_
      refine g_aload_n hO d_X4_everAt_36 (by rfl) 1 rfl ?_
      refine k_virtIp hO cl_X0 mm_X0_allWeights lkV_X4_59 ⟨⟨Nat.le_of_ble_eq_true rfl, Nat.le_of_ble_eq_true rfl⟩, Nat.le_of_ble_eq_true rfl, Nat.le_of_ble_eq_true rfl⟩ (kn' := (0, 0)) rfl (As := []) rfl (Nat.le_of_ble_eq_true rfl) (fun o' _ => t_X0_allWeights Γ.2.1 E o' S) d_X4_everAt_37 rfl (fun v1 => ?_)
      refine g_i2l hO d_X4_everAt_40 ?_
      refine g_iload_n hO d_X4_everAt_41 (by rfl) 3 rfl ?_
      refine k_statJp hO mm_X4_power lkS_X4_63 ⟨⟨Nat.le_of_ble_eq_true rfl, Nat.le_of_ble_eq_true rfl⟩, Nat.le_of_ble_eq_true rfl, Nat.le_of_ble_eq_true rfl⟩ (kn' := (0, 0)) rfl (As := [vJ (v1).toInt64, vI x3]) rfl (Nat.le_of_ble_eq_true rfl) (t_X4_power Γ.2.1 E (v1).toInt64 x3 S) d_X4_everAt_42 rfl (fun v3 => ?_)
      refine k_virtVs hO cl_X4 mm_X4_setOddsOfStruck lkV_X4_75 ⟨⟨Nat.le_of_ble_eq_true rfl, Nat.le_of_ble_eq_true rfl⟩, Nat.le_of_ble_eq_true rfl, Nat.le_of_ble_eq_true rfl⟩ (kn' := (0, 0)) rfl (As := [vJ v3]) rfl (Nat.le_of_ble_eq_true rfl) (fun o' _ => t_X4_setOddsOfStruck Γ.2.1 E o' v3 S) d_X4_everAt_45 rfl (fun S6 => ?_)
      exact g_vret hO rfl ⟨Nat.le_of_ble_eq_true rfl, Nat.le_of_ble_eq_true rfl⟩ rfl rfl d_X4_everAt_48.1
    · skip
      refine g_aload_n hO d_X4_everAt_19 (by rfl) 0 rfl ?_
      refine g_aload_n hO d_X4_everAt_20 (by rfl) 1 rfl ?_
      refine k_virtVs hO cl_X4 mm_X4_blow lkV_X4_56 ⟨⟨Nat.le_of_ble_eq_true rfl, Nat.le_of_ble_eq_true rfl⟩, Nat.le_of_ble_eq_true rfl, Nat.le_of_ble_eq_true rfl⟩ (kn' := (0, 0)) rfl (As := [vA x1]) rfl (Nat.le_of_ble_eq_true rfl) (fun o' _ => t_X4_blow Γ.2.1 E o' x1 S) d_X4_everAt_21 rfl (fun S8 => ?_)
      refine g_aload_n hO d_X4_everAt_24 (by rfl) 0 rfl ?_
      refine g_iload_n hO d_X4_everAt_25 (by rfl) 2 rfl ?_
      refine k_virtVs hO cl_X4 mm_X4_strike lkV_X4_71 ⟨⟨Nat.le_of_ble_eq_true rfl, Nat.le_of_ble_eq_true rfl⟩, Nat.le_of_ble_eq_true rfl, Nat.le_of_ble_eq_true rfl⟩ (kn' := (0, 0)) rfl (As := [vI x2]) rfl (Nat.le_of_ble_eq_true rfl) (fun o' _ => t_X4_strike Γ.2.1 E o' x2 S8) d_X4_everAt_26 rfl (fun S10 => ?_)
      refine g_iinc (lv' := [(4, vI (x4 + 1)), (0, vA (some o)), (1, vA x1), (2, vI x2), (3, vI x3)]) hO 1 d_X4_everAt_29 (by decide) 4 rfl (by decide) rfl ?_
      refine g_goto (tgt := 13) hO d_X4_everAt_32.1 d_X4_everAt_32.2 ?_
      exact g_sub [1, 2, 3, 4, 0] rfl (ih _ _ _ _ _)
set_option maxRecDepth 20000 in
theorem w_X4_everAt {Γ : GC} {E : GE} (hO : gOk Γ E cX4_everAt RX4 5 rm_X4_everAt none "everAt") (o : Nat) (x1 : Option Nat) (x2 : Int32) (x3 : Int32) (S : GS) : Go Γ E (gBsV Γ E) 5 (0, 0) 0 S [(0, vA (some o)), (1, vA x1), (2, vI x2), (3, vI x3)] [] (f_X4_everAt o x1 x2 x3 S) := by
  unfold f_X4_everAt
  refine g_aload_n hO d_X4_everAt_0 (by rfl) 0 rfl ?_
  refine g_aload_n hO d_X4_everAt_1 (by rfl) 1 rfl ?_
  refine k_virtVs hO cl_X4 mm_X4_begin lkV_X4_52 ⟨⟨Nat.le_of_ble_eq_true rfl, Nat.le_of_ble_eq_true rfl⟩, Nat.le_of_ble_eq_true rfl, Nat.le_of_ble_eq_true rfl⟩ (kn' := (0, 0)) rfl (As := [vA x1]) rfl (Nat.le_of_ble_eq_true rfl) (fun o' _ => t_X4_begin Γ.2.1 E o' x1 S) d_X4_everAt_2 rfl (fun S2 => ?_)
  refine g_aload_n hO d_X4_everAt_5 (by rfl) 0 rfl ?_
  refine g_iload_n hO d_X4_everAt_6 (by rfl) 2 rfl ?_
  refine k_virtVs hO cl_X4 mm_X4_strike lkV_X4_71 ⟨⟨Nat.le_of_ble_eq_true rfl, Nat.le_of_ble_eq_true rfl⟩, Nat.le_of_ble_eq_true rfl, Nat.le_of_ble_eq_true rfl⟩ (kn' := (0, 0)) rfl (As := [vI x2]) rfl (Nat.le_of_ble_eq_true rfl) (fun o' _ => t_X4_strike Γ.2.1 E o' x2 S2) d_X4_everAt_7 rfl (fun S4 => ?_)
  refine g_iconst hO 0 d_X4_everAt_10 (by decide) ?_
  refine g_istore (lv' := [(4, vI 0), (0, vA (some o)), (1, vA x1), (2, vI x2), (3, vI x3)]) hO d_X4_everAt_11 (by decide) rfl ?_
  exact g_sub [1, 2, 3, 4, 0] rfl (w_X4_everAt_13 hO o _ _ _ _ _ _)
theorem t_X4_everAt (l : Launch) (E : GE) (o : Nat) (x1 : Option Nat) (x2 : Int32) (x3 : Int32) (S : GS) : ∀ a, f_X4_everAt o x1 x2 x3 S = some a → Ct l E yX4_everAt cX4_everAt 5 none rm_X4_everAt [vA (some o), vA x1, vI x2, vI x3] S none a :=
  Ct_of (val := fun _ => none) (nxt := fun b => b) (by decide) (Nat.le_of_ble_eq_true rfl) (fun Γ hl hO => w_X4_everAt hO o x1 x2 x3 S)
theorem d_X4_everFallen_0 : gD cX4_everFallen 0 (.aload_n 0) 1 1 := ⟨by decide +kernel, rfl⟩
theorem d_X4_everFallen_1 : gD cX4_everFallen 1 (.aload_n 1) 1 2 := ⟨by decide +kernel, rfl⟩
theorem d_X4_everFallen_2 : gD cX4_everFallen 2 (.invokevirtual 52) 3 5 := ⟨by decide +kernel, rfl⟩
theorem d_X4_everFallen_5 : gD cX4_everFallen 5 (.aload_n 1) 1 6 := ⟨by decide +kernel, rfl⟩
theorem d_X4_everFallen_6 : gD cX4_everFallen 6 (.getfield 79) 3 9 := ⟨by decide +kernel, rfl⟩
theorem d_X4_everFallen_9 : gD cX4_everFallen 9 (.iload_n 2) 1 10 := ⟨by decide +kernel, rfl⟩
theorem d_X4_everFallen_10 : gD cX4_everFallen 10 (.iconst 1) 1 11 := ⟨by decide +kernel, rfl⟩
theorem d_X4_everFallen_11 : gD cX4_everFallen 11 (.invokevirtual 83) 3 14 := ⟨by decide +kernel, rfl⟩
theorem d_X4_everFallen_14 : gD cX4_everFallen 14 (.istore 4) 2 16 := ⟨by decide +kernel, rfl⟩
theorem d_X4_everFallen_16 : gD cX4_everFallen 16 (.iconst 0) 1 17 := ⟨by decide +kernel, rfl⟩
theorem d_X4_everFallen_17 : gD cX4_everFallen 17 (.istore 5) 2 19 := ⟨by decide +kernel, rfl⟩
theorem d_X4_everFallen_19 : gD cX4_everFallen 19 (.iload 5) 2 21 := ⟨by decide +kernel, rfl⟩
theorem d_X4_everFallen_21 : gD cX4_everFallen 21 (.iload_n 3) 1 22 := ⟨by decide +kernel, rfl⟩
theorem d_X4_everFallen_22 : gD cX4_everFallen 22 (.if_icmp .ge 48) 3 25 ∧ ((22 : Nat) : Int) + 48 = ((70 : Nat) : Int) := ⟨⟨by decide +kernel, rfl⟩, by decide⟩
theorem d_X4_everFallen_25 : gD cX4_everFallen 25 (.aload_n 0) 1 26 := ⟨by decide +kernel, rfl⟩
theorem d_X4_everFallen_26 : gD cX4_everFallen 26 (.aload_n 1) 1 27 := ⟨by decide +kernel, rfl⟩
theorem d_X4_everFallen_27 : gD cX4_everFallen 27 (.invokevirtual 56) 3 30 := ⟨by decide +kernel, rfl⟩
theorem d_X4_everFallen_30 : gD cX4_everFallen 30 (.iconst 0) 1 31 := ⟨by decide +kernel, rfl⟩
theorem d_X4_everFallen_31 : gD cX4_everFallen 31 (.istore 6) 2 33 := ⟨by decide +kernel, rfl⟩
theorem d_X4_everFallen_33 : gD cX4_everFallen 33 (.iload 6) 2 35 := ⟨by decide +kernel, rfl⟩
theorem d_X4_everFallen_35 : gD cX4_everFallen 35 (.bipush 40) 2 37 := ⟨by decide +kernel, rfl⟩
theorem d_X4_everFallen_37 : gD cX4_everFallen 37 (.if_icmp .gt 27) 3 40 ∧ ((37 : Nat) : Int) + 27 = ((64 : Nat) : Int) := ⟨⟨by decide +kernel, rfl⟩, by decide⟩
theorem d_X4_everFallen_40 : gD cX4_everFallen 40 (.aload_n 1) 1 41 := ⟨by decide +kernel, rfl⟩
theorem d_X4_everFallen_41 : gD cX4_everFallen 41 (.iload_n 2) 1 42 := ⟨by decide +kernel, rfl⟩
theorem d_X4_everFallen_42 : gD cX4_everFallen 42 (.iload 4) 2 44 := ⟨by decide +kernel, rfl⟩
theorem d_X4_everFallen_44 : gD cX4_everFallen 44 (.iload 6) 2 46 := ⟨by decide +kernel, rfl⟩
theorem d_X4_everFallen_46 : gD cX4_everFallen 46 (.invokevirtual 88) 3 49 := ⟨by decide +kernel, rfl⟩
theorem d_X4_everFallen_49 : gD cX4_everFallen 49 (.ifCond .ne 9) 3 52 ∧ ((49 : Nat) : Int) + 9 = ((58 : Nat) : Int) := ⟨⟨by decide +kernel, rfl⟩, by decide⟩
theorem d_X4_everFallen_52 : gD cX4_everFallen 52 (.aload_n 0) 1 53 := ⟨by decide +kernel, rfl⟩
theorem d_X4_everFallen_53 : gD cX4_everFallen 53 (.iload 6) 2 55 := ⟨by decide +kernel, rfl⟩
theorem d_X4_everFallen_55 : gD cX4_everFallen 55 (.invokevirtual 71) 3 58 := ⟨by decide +kernel, rfl⟩
theorem d_X4_everFallen_58 : gD cX4_everFallen 58 (.iinc 6 1) 3 61 := ⟨by decide +kernel, rfl⟩
theorem d_X4_everFallen_61 : decode cX4_everFallen 61 = .ok (.goto (-28), 3) ∧ ((61 : Nat) : Int) + (-28) = ((33 : Nat) : Int) := ⟨by decide +kernel, by decide⟩
theorem d_X4_everFallen_64 : gD cX4_everFallen 64 (.iinc 5 1) 3 67 := ⟨by decide +kernel, rfl⟩
theorem d_X4_everFallen_67 : decode cX4_everFallen 67 = .ok (.goto (-48), 3) ∧ ((67 : Nat) : Int) + (-48) = ((19 : Nat) : Int) := ⟨by decide +kernel, by decide⟩
theorem d_X4_everFallen_70 : gD cX4_everFallen 70 (.aload_n 0) 1 71 := ⟨by decide +kernel, rfl⟩
theorem d_X4_everFallen_71 : gD cX4_everFallen 71 (.aload_n 1) 1 72 := ⟨by decide +kernel, rfl⟩
theorem d_X4_everFallen_72 : gD cX4_everFallen 72 (.invokevirtual 59) 3 75 := ⟨by decide +kernel, rfl⟩
theorem d_X4_everFallen_75 : gD cX4_everFallen 75 (.i2l) 1 76 := ⟨by decide +kernel, rfl⟩
theorem d_X4_everFallen_76 : gD cX4_everFallen 76 (.iload_n 3) 1 77 := ⟨by decide +kernel, rfl⟩
theorem d_X4_everFallen_77 : gD cX4_everFallen 77 (.invokestatic 63) 3 80 := ⟨by decide +kernel, rfl⟩
theorem d_X4_everFallen_80 : gD cX4_everFallen 80 (.invokevirtual 75) 3 83 := ⟨by decide +kernel, rfl⟩
theorem d_X4_everFallen_83 : gD cX4_everFallen 83 (.return_) 1 84 := ⟨by decide +kernel, rfl⟩
abbrev rm_X4_everFallen : Room := { frames := 3, cells := 0, slots := 0, locals := 81 }
set_option maxRecDepth 20000 in
theorem w_X4_everFallen_58 {Γ : GC} {E : GE} (hO : gOk Γ E cX4_everFallen RX4 7 rm_X4_everFallen none "everFallen") (o : Nat) {k19 : (Option Nat → Int32 → Int32 → Int32 → Int32 → GS → Option GS)} {k33 : (Option Nat → Int32 → Int32 → Int32 → Int32 → Int32 → GS → Option GS)} (hk19 : ∀ (z1 : Option Nat) (z2 : Int32) (z3 : Int32) (z4 : Int32) (z5 : Int32) (S1 : GS), Go Γ E (gBsV Γ E) 7 (0, 0) 19 S1 [(0, vA (some o)), (1, vA z1), (2, vI z2), (3, vI z3), (4, vI z4), (5, vI z5)] [] (k19 z1 z2 z3 z4 z5 S1)) (hk33 : ∀ (z1 : Option Nat) (z2 : Int32) (z3 : Int32) (z4 : Int32) (z5 : Int32) (z6 : Int32) (S1 : GS), Go Γ E (gBsV Γ E) 7 (0, 0) 33 S1 [(0, vA (some o)), (1, vA z1), (2, vI z2), (3, vI z3), (4, vI z4), (5, vI z5), (6, vI z6)] [] (k33 z1 z2 z3 z4 z5 z6 S1)) (x1 : Option Nat) (x2 : Int32) (x3 : Int32) (x4 : Int32) (x5 : Int32) (x6 : Int32) (S : GS) : Go Γ E (gBsV Γ E) 7 (0, 0) 58 S [(0, vA (some o)), (1, vA x1), (2, vI x2), (3, vI x3), (4, vI x4), (5, vI x5), (6, vI x6)] [] (f_X4_everFallen_58 k19 k33 o x1 x2 x3 x4 x5 x6 S) := by
  unfold f_X4_everFallen_58
  refine g_iinc (lv' := [(6, vI (x6 + 1)), (0, vA (some o)), (1, vA x1), (2, vI x2), (3, vI x3), (4, vI x4), (5, vI x5)]) hO 1 d_X4_everFallen_58 (by decide) 6 rfl (by decide) rfl ?_
  refine g_goto (tgt := 33) hO d_X4_everFallen_61.1 d_X4_everFallen_61.2 ?_
  exact g_sub [1, 2, 3, 4, 5, 6, 0] rfl (hk33 _ _ _ _ _ _ _)
set_option maxRecDepth 20000 in
theorem w_X4_everFallen_33 {Γ : GC} {E : GE} (hO : gOk Γ E cX4_everFallen RX4 7 rm_X4_everFallen none "everFallen") (o : Nat) {k19 : (Option Nat → Int32 → Int32 → Int32 → Int32 → GS → Option GS)} (hk19 : ∀ (z1 : Option Nat) (z2 : Int32) (z3 : Int32) (z4 : Int32) (z5 : Int32) (S1 : GS), Go Γ E (gBsV Γ E) 7 (0, 0) 19 S1 [(0, vA (some o)), (1, vA z1), (2, vI z2), (3, vI z3), (4, vI z4), (5, vI z5)] [] (k19 z1 z2 z3 z4 z5 S1)) : ∀ (n : Nat) (x1 : Option Nat) (x2 : Int32) (x3 : Int32) (x4 : Int32) (x5 : Int32) (x6 : Int32) (S : GS), Go Γ E (gBsV Γ E) 7 (0, 0) 33 S [(0, vA (some o)), (1, vA x1), (2, vI x2), (3, vI x3), (4, vI x4), (5, vI x5), (6, vI x6)] [] (f_X4_everFallen_33 k19 o n x1 x2 x3 x4 x5 x6 S) := by
  intro n
  induction n with
  | zero =>
    intro x1 x2 x3 x4 x5 x6 S
    exact g_none
  | succ n ih =>
    intro x1 x2 x3 x4 x5 x6 S
    rw [f_X4_everFallen_33]
    refine g_iload hO d_X4_everFallen_33 6 rfl ?_
    refine g_bipush hO 40 d_X4_everFallen_35 (by decide) ?_
    refine g_ic_gt (tgt := 64) hO d_X4_everFallen_37.1 d_X4_everFallen_37.2 (fun _ => ?_) (fun _ => ?_)
    · skip
      refine g_iinc (lv' := [(5, vI (x5 + 1)), (0, vA (some o)), (1, vA x1), (2, vI x2), (3, vI x3), (4, vI x4), (6, vI x6)]) hO 1 d_X4_everFallen_64 (by decide) 5 rfl (by decide) rfl ?_
      refine g_goto (tgt := 19) hO d_X4_everFallen_67.1 d_X4_everFallen_67.2 ?_
      exact g_sub [1, 2, 3, 4, 5, 0] rfl (hk19 _ _ _ _ _ _)
    · skip
      refine g_aload_n hO d_X4_everFallen_40 (by rfl) 1 rfl ?_
      refine g_iload_n hO d_X4_everFallen_41 (by rfl) 2 rfl ?_
      refine g_iload hO d_X4_everFallen_42 4 rfl ?_
      refine g_iload hO d_X4_everFallen_44 6 rfl ?_
      refine k_virtIp hO cl_X0 mm_X0_standsAt lkV_X4_88 ⟨⟨Nat.le_of_ble_eq_true rfl, Nat.le_of_ble_eq_true rfl⟩, Nat.le_of_ble_eq_true rfl, Nat.le_of_ble_eq_true rfl⟩ (kn' := (0, 0)) rfl (As := [vI x2, vI x4, vI x6]) rfl (Nat.le_of_ble_eq_true rfl) (fun o' _ => t_X0_standsAt Γ.2.1 E o' x2 x4 x6 S) d_X4_everFallen_46 rfl (fun v1 => ?_)
      refine g_if_ne (tgt := 58) hO d_X4_everFallen_49.1 d_X4_everFallen_49.2 (fun _ => ?_) (fun _ => ?_)
      · skip
        refine g_aload_n hO d_X4_everFallen_52 (by rfl) 0 rfl ?_
        refine g_iload hO d_X4_everFallen_53 6 rfl ?_
        refine k_virtVs hO cl_X4 mm_X4_strike lkV_X4_71 ⟨⟨Nat.le_of_ble_eq_true rfl, Nat.le_of_ble_eq_true rfl⟩, Nat.le_of_ble_eq_true rfl, Nat.le_of_ble_eq_true rfl⟩ (kn' := (0, 0)) rfl (As := [vI x6]) rfl (Nat.le_of_ble_eq_true rfl) (fun o' _ => t_X4_strike Γ.2.1 E o' x6 S) d_X4_everFallen_55 rfl (fun S4 => ?_)
        exact g_sub [0, 1, 2, 3, 4, 5, 6] rfl (w_X4_everFallen_58 hO o hk19 ih _ _ _ _ _ _ _)
      · skip
        exact g_sub [0, 1, 2, 3, 4, 5, 6] rfl (w_X4_everFallen_58 hO o hk19 ih _ _ _ _ _ _ _)
set_option maxRecDepth 20000 in
theorem w_X4_everFallen_19 {Γ : GC} {E : GE} (hO : gOk Γ E cX4_everFallen RX4 7 rm_X4_everFallen none "everFallen") (o : Nat) : ∀ (n : Nat) (x1 : Option Nat) (x2 : Int32) (x3 : Int32) (x4 : Int32) (x5 : Int32) (S : GS), Go Γ E (gBsV Γ E) 7 (0, 0) 19 S [(0, vA (some o)), (1, vA x1), (2, vI x2), (3, vI x3), (4, vI x4), (5, vI x5)] [] (f_X4_everFallen_19 o n x1 x2 x3 x4 x5 S) := by
  intro n
  induction n with
  | zero =>
    intro x1 x2 x3 x4 x5 S
    exact g_none
  | succ n ih =>
    intro x1 x2 x3 x4 x5 S
    rw [f_X4_everFallen_19]
    refine g_iload hO d_X4_everFallen_19 5 rfl ?_
    refine g_iload_n hO d_X4_everFallen_21 (by rfl) 3 rfl ?_
    refine g_ic_ge (tgt := 70) hO d_X4_everFallen_22.1 d_X4_everFallen_22.2 (fun _ => ?_) (fun _ => ?_)
    · skip
      refine g_aload_n hO d_X4_everFallen_70 (by rfl) 0 rfl ?_
      refine g_aload_n hO d_X4_everFallen_71 (by rfl) 1 rfl ?_
      refine k_virtIp hO cl_X0 mm_X0_allWeights lkV_X4_59 ⟨⟨Nat.le_of_ble_eq_true rfl, Nat.le_of_ble_eq_true rfl⟩, Nat.le_of_ble_eq_true rfl, Nat.le_of_ble_eq_true rfl⟩ (kn' := (0, 0)) rfl (As := []) rfl (Nat.le_of_ble_eq_true rfl) (fun o' _ => t_X0_allWeights Γ.2.1 E o' S) d_X4_everFallen_72 rfl (fun v1 => ?_)
      refine g_i2l hO d_X4_everFallen_75 ?_
      refine g_iload_n hO d_X4_everFallen_76 (by rfl) 3 rfl ?_
      refine k_statJp hO mm_X4_power lkS_X4_63 ⟨⟨Nat.le_of_ble_eq_true rfl, Nat.le_of_ble_eq_true rfl⟩, Nat.le_of_ble_eq_true rfl, Nat.le_of_ble_eq_true rfl⟩ (kn' := (0, 0)) rfl (As := [vJ (v1).toInt64, vI x3]) rfl (Nat.le_of_ble_eq_true rfl) (t_X4_power Γ.2.1 E (v1).toInt64 x3 S) d_X4_everFallen_77 rfl (fun v3 => ?_)
      refine k_virtVs hO cl_X4 mm_X4_setOddsOfStruck lkV_X4_75 ⟨⟨Nat.le_of_ble_eq_true rfl, Nat.le_of_ble_eq_true rfl⟩, Nat.le_of_ble_eq_true rfl, Nat.le_of_ble_eq_true rfl⟩ (kn' := (0, 0)) rfl (As := [vJ v3]) rfl (Nat.le_of_ble_eq_true rfl) (fun o' _ => t_X4_setOddsOfStruck Γ.2.1 E o' v3 S) d_X4_everFallen_80 rfl (fun S6 => ?_)
      exact g_vret hO rfl ⟨Nat.le_of_ble_eq_true rfl, Nat.le_of_ble_eq_true rfl⟩ rfl rfl d_X4_everFallen_83.1
    · skip
      refine g_aload_n hO d_X4_everFallen_25 (by rfl) 0 rfl ?_
      refine g_aload_n hO d_X4_everFallen_26 (by rfl) 1 rfl ?_
      refine k_virtVs hO cl_X4 mm_X4_blow lkV_X4_56 ⟨⟨Nat.le_of_ble_eq_true rfl, Nat.le_of_ble_eq_true rfl⟩, Nat.le_of_ble_eq_true rfl, Nat.le_of_ble_eq_true rfl⟩ (kn' := (0, 0)) rfl (As := [vA x1]) rfl (Nat.le_of_ble_eq_true rfl) (fun o' _ => t_X4_blow Γ.2.1 E o' x1 S) d_X4_everFallen_27 rfl (fun S8 => ?_)
      refine g_iconst hO 0 d_X4_everFallen_30 (by decide) ?_
      refine g_istore (lv' := [(6, vI 0), (0, vA (some o)), (1, vA x1), (2, vI x2), (3, vI x3), (4, vI x4), (5, vI x5)]) hO d_X4_everFallen_31 (by decide) rfl ?_
      exact g_sub [1, 2, 3, 4, 5, 6, 0] rfl (w_X4_everFallen_33 hO o ih _ _ _ _ _ _ _ _)
set_option maxRecDepth 20000 in
theorem w_X4_everFallen {Γ : GC} {E : GE} (hO : gOk Γ E cX4_everFallen RX4 7 rm_X4_everFallen none "everFallen") (o : Nat) (x1 : Option Nat) (x2 : Int32) (x3 : Int32) (S : GS) : Go Γ E (gBsV Γ E) 7 (0, 0) 0 S [(0, vA (some o)), (1, vA x1), (2, vI x2), (3, vI x3)] [] (f_X4_everFallen o x1 x2 x3 S) := by
  unfold f_X4_everFallen
  refine g_aload_n hO d_X4_everFallen_0 (by rfl) 0 rfl ?_
  refine g_aload_n hO d_X4_everFallen_1 (by rfl) 1 rfl ?_
  refine k_virtVs hO cl_X4 mm_X4_begin lkV_X4_52 ⟨⟨Nat.le_of_ble_eq_true rfl, Nat.le_of_ble_eq_true rfl⟩, Nat.le_of_ble_eq_true rfl, Nat.le_of_ble_eq_true rfl⟩ (kn' := (0, 0)) rfl (As := [vA x1]) rfl (Nat.le_of_ble_eq_true rfl) (fun o' _ => t_X4_begin Γ.2.1 E o' x1 S) d_X4_everFallen_2 rfl (fun S2 => ?_)
  refine g_aload_n hO d_X4_everFallen_5 (by rfl) 1 rfl ?_
  refine h_getR hO cl_X0 1 rfl wf_X4_79 d_X4_everFallen_6 (fun v3 => ?_)
  refine g_iload_n hO d_X4_everFallen_9 (by rfl) 2 rfl ?_
  refine g_iconst hO 1 d_X4_everFallen_10 (by decide) ?_
  refine k_virtIp hO cl_X7 mm_X7_cell lkV_X4_83 ⟨⟨Nat.le_of_ble_eq_true rfl, Nat.le_of_ble_eq_true rfl⟩, Nat.le_of_ble_eq_true rfl, Nat.le_of_ble_eq_true rfl⟩ (kn' := (0, 0)) rfl (As := [vI x2, vI 1]) rfl (Nat.le_of_ble_eq_true rfl) (fun o' _ => t_X7_cell Γ.2.1 E o' x2 1 S2) d_X4_everFallen_11 rfl (fun v4 => ?_)
  refine g_istore (lv' := [(4, vI v4), (0, vA (some o)), (1, vA x1), (2, vI x2), (3, vI x3)]) hO d_X4_everFallen_14 (by decide) rfl ?_
  refine g_iconst hO 0 d_X4_everFallen_16 (by decide) ?_
  refine g_istore (lv' := [(5, vI 0), (4, vI v4), (0, vA (some o)), (1, vA x1), (2, vI x2), (3, vI x3)]) hO d_X4_everFallen_17 (by decide) rfl ?_
  exact g_sub [2, 3, 4, 5, 1, 0] rfl (w_X4_everFallen_19 hO o _ _ _ _ _ _ _)
theorem t_X4_everFallen (l : Launch) (E : GE) (o : Nat) (x1 : Option Nat) (x2 : Int32) (x3 : Int32) (S : GS) : ∀ a, f_X4_everFallen o x1 x2 x3 S = some a → Ct l E yX4_everFallen cX4_everFallen 7 none rm_X4_everFallen [vA (some o), vA x1, vI x2, vI x3] S none a :=
  Ct_of (val := fun _ => none) (nxt := fun b => b) (by decide) (Nat.le_of_ble_eq_true rfl) (fun Γ hl hO => w_X4_everFallen hO o x1 x2 x3 S)
theorem d_X4_costAfter_0 : gD cX4_costAfter 0 (.iload_n 3) 1 1 := ⟨by decide +kernel, rfl⟩
theorem d_X4_costAfter_1 : gD cX4_costAfter 1 (.aload_n 0) 1 2 := ⟨by decide +kernel, rfl⟩
theorem d_X4_costAfter_2 : gD cX4_costAfter 2 (.getfield 79) 3 5 := ⟨by decide +kernel, rfl⟩
theorem d_X4_costAfter_5 : gD cX4_costAfter 5 (.iload_n 1) 1 6 := ⟨by decide +kernel, rfl⟩
theorem d_X4_costAfter_6 : gD cX4_costAfter 6 (.iconst 1) 1 7 := ⟨by decide +kernel, rfl⟩
theorem d_X4_costAfter_7 : gD cX4_costAfter 7 (.invokevirtual 83) 3 10 := ⟨by decide +kernel, rfl⟩
theorem d_X4_costAfter_10 : gD cX4_costAfter 10 (.isub) 1 11 := ⟨by decide +kernel, rfl⟩
theorem d_X4_costAfter_11 : gD cX4_costAfter 11 (.invokestatic 108) 3 14 := ⟨by decide +kernel, rfl⟩
theorem d_X4_costAfter_14 : gD cX4_costAfter 14 (.istore 5) 2 16 := ⟨by decide +kernel, rfl⟩
theorem d_X4_costAfter_16 : gD cX4_costAfter 16 (.aload_n 0) 1 17 := ⟨by decide +kernel, rfl⟩
theorem d_X4_costAfter_17 : gD cX4_costAfter 17 (.aload_n 0) 1 18 := ⟨by decide +kernel, rfl⟩
theorem d_X4_costAfter_18 : gD cX4_costAfter 18 (.getfield 28) 3 21 := ⟨by decide +kernel, rfl⟩
theorem d_X4_costAfter_21 : gD cX4_costAfter 21 (.iload 4) 2 23 := ⟨by decide +kernel, rfl⟩
theorem d_X4_costAfter_23 : gD cX4_costAfter 23 (.invokevirtual 38) 3 26 := ⟨by decide +kernel, rfl⟩
theorem d_X4_costAfter_26 : gD cX4_costAfter 26 (.istore 6) 2 28 := ⟨by decide +kernel, rfl⟩
theorem d_X4_costAfter_28 : gD cX4_costAfter 28 (.aload_n 0) 1 29 := ⟨by decide +kernel, rfl⟩
theorem d_X4_costAfter_29 : gD cX4_costAfter 29 (.iload_n 1) 1 30 := ⟨by decide +kernel, rfl⟩
theorem d_X4_costAfter_30 : gD cX4_costAfter 30 (.iload_n 3) 1 31 := ⟨by decide +kernel, rfl⟩
theorem d_X4_costAfter_31 : gD cX4_costAfter 31 (.iload 6) 2 33 := ⟨by decide +kernel, rfl⟩
theorem d_X4_costAfter_33 : gD cX4_costAfter 33 (.invokevirtual 88) 3 36 := ⟨by decide +kernel, rfl⟩
theorem d_X4_costAfter_36 : gD cX4_costAfter 36 (.ifCond .eq 8) 3 39 ∧ ((36 : Nat) : Int) + 8 = ((44 : Nat) : Int) := ⟨⟨by decide +kernel, rfl⟩, by decide⟩
theorem d_X4_costAfter_39 : gD cX4_costAfter 39 (.iload 5) 2 41 := ⟨by decide +kernel, rfl⟩
theorem d_X4_costAfter_41 : decode cX4_costAfter 41 = .ok (.goto 7, 3) ∧ ((41 : Nat) : Int) + 7 = ((48 : Nat) : Int) := ⟨by decide +kernel, by decide⟩
theorem d_X4_costAfter_44 : gD cX4_costAfter 44 (.iload 5) 2 46 := ⟨by decide +kernel, rfl⟩
theorem d_X4_costAfter_46 : gD cX4_costAfter 46 (.iload_n 2) 1 47 := ⟨by decide +kernel, rfl⟩
theorem d_X4_costAfter_47 : gD cX4_costAfter 47 (.iadd) 1 48 := ⟨by decide +kernel, rfl⟩
theorem d_X4_costAfter_48 : gD cX4_costAfter 48 (.ireturn) 1 49 := ⟨by decide +kernel, rfl⟩
abbrev rm_X4_costAfter : Room := { frames := 3, cells := 0, slots := 0, locals := 68 }
set_option maxRecDepth 20000 in
theorem w_X4_costAfter {Γ : GC} {E : GE} (hO : gOk Γ E cX4_costAfter RX4 7 rm_X4_costAfter (some .int) "costAfter") (x0 : Option Nat) (x1 : Int32) (x2 : Int32) (x3 : Int32) (x4 : Int32) (S : GS) : Go Γ E (gBpI Γ E S) 7 (0, 0) 0 S [(0, vA x0), (1, vI x1), (2, vI x2), (3, vI x3), (4, vI x4)] [] (f_X4_costAfter x0 x1 x2 x3 x4 S) := by
  unfold f_X4_costAfter
  refine g_iload_n hO d_X4_costAfter_0 (by rfl) 3 rfl ?_
  refine g_aload_n hO d_X4_costAfter_1 (by rfl) 0 rfl ?_
  refine h_getR hO cl_X0 1 rfl wf_X4_79 d_X4_costAfter_2 (fun v1 => ?_)
  refine g_iload_n hO d_X4_costAfter_5 (by rfl) 1 rfl ?_
  refine g_iconst hO 1 d_X4_costAfter_6 (by decide) ?_
  refine k_virtIp hO cl_X7 mm_X7_cell lkV_X4_83 ⟨⟨Nat.le_of_ble_eq_true rfl, Nat.le_of_ble_eq_true rfl⟩, Nat.le_of_ble_eq_true rfl, Nat.le_of_ble_eq_true rfl⟩ (kn' := (0, 0)) rfl (As := [vI x1, vI 1]) rfl (Nat.le_of_ble_eq_true rfl) (fun o' _ => t_X7_cell Γ.2.1 E o' x1 1 S) d_X4_costAfter_7 rfl (fun v2 => ?_)
  refine g_isub hO d_X4_costAfter_10 ?_
  refine g_mabs hO wm_X4_108 wt_abs wi_Math wc_abs ⟨by decide, Nat.le_of_ble_eq_true rfl, Nat.zero_le _, Nat.zero_le _⟩ d_X4_costAfter_11 ?_
  refine g_istore (lv' := [(5, vI (jabs (x3 - v2))), (0, vA x0), (1, vI x1), (2, vI x2), (3, vI x3), (4, vI x4)]) hO d_X4_costAfter_14 (by decide) rfl ?_
  refine g_aload_n hO d_X4_costAfter_16 (by rfl) 1 rfl ?_
  refine g_aload_n hO d_X4_costAfter_17 (by rfl) 1 rfl ?_
  refine h_getI hO cl_X0 6 rfl wf_X4_28 d_X4_costAfter_18 (fun v4 => ?_)
  refine g_iload hO d_X4_costAfter_21 5 rfl ?_
  refine k_virtIp hO cl_X0 mm_X0_markAfter lkV_X4_38 ⟨⟨Nat.le_of_ble_eq_true rfl, Nat.le_of_ble_eq_true rfl⟩, Nat.le_of_ble_eq_true rfl, Nat.le_of_ble_eq_true rfl⟩ (kn' := (0, 0)) rfl (As := [vI v4, vI x4]) rfl (Nat.le_of_ble_eq_true rfl) (fun o' _ => t_X0_markAfter Γ.2.1 E o' v4 x4 S) d_X4_costAfter_23 rfl (fun v5 => ?_)
  refine g_istore (lv' := [(6, vI v5), (5, vI (jabs (x3 - v2))), (0, vA x0), (1, vI x1), (2, vI x2), (3, vI x3), (4, vI x4)]) hO d_X4_costAfter_26 (by decide) rfl ?_
  refine g_aload_n hO d_X4_costAfter_28 (by rfl) 2 rfl ?_
  refine g_iload_n hO d_X4_costAfter_29 (by rfl) 3 rfl ?_
  refine g_iload_n hO d_X4_costAfter_30 (by rfl) 5 rfl ?_
  refine g_iload hO d_X4_costAfter_31 0 rfl ?_
  refine k_virtIp hO cl_X0 mm_X0_standsAt lkV_X4_88 ⟨⟨Nat.le_of_ble_eq_true rfl, Nat.le_of_ble_eq_true rfl⟩, Nat.le_of_ble_eq_true rfl, Nat.le_of_ble_eq_true rfl⟩ (kn' := (0, 0)) rfl (As := [vI x1, vI x3, vI v5]) rfl (Nat.le_of_ble_eq_true rfl) (fun o' _ => t_X0_standsAt Γ.2.1 E o' x1 x3 v5 S) d_X4_costAfter_33 rfl (fun v7 => ?_)
  refine g_if_eq (tgt := 44) hO d_X4_costAfter_36.1 d_X4_costAfter_36.2 (fun _ => ?_) (fun _ => ?_)
  · skip
    refine g_iload hO d_X4_costAfter_44 1 rfl ?_
    refine g_iload_n hO d_X4_costAfter_46 (by rfl) 4 rfl ?_
    refine g_iadd hO d_X4_costAfter_47 ?_
    exact g_ret hO rfl rfl ⟨Nat.le_of_ble_eq_true rfl, Nat.le_of_ble_eq_true rfl⟩ rfl rfl d_X4_costAfter_48.1
  · skip
    refine g_iload hO d_X4_costAfter_39 1 rfl ?_
    refine g_goto (tgt := 48) hO d_X4_costAfter_41.1 d_X4_costAfter_41.2 ?_
    exact g_ret hO rfl rfl ⟨Nat.le_of_ble_eq_true rfl, Nat.le_of_ble_eq_true rfl⟩ rfl rfl d_X4_costAfter_48.1
theorem t_X4_costAfter (l : Launch) (E : GE) (x0 : Option Nat) (x1 : Int32) (x2 : Int32) (x3 : Int32) (x4 : Int32) (S : GS) : ∀ a, f_X4_costAfter x0 x1 x2 x3 x4 S = some a → Ct l E yX4_costAfter cX4_costAfter 7 (some .int) rm_X4_costAfter [vA x0, vI x1, vI x2, vI x3, vI x4] S (some (vI a)) S :=
  Ct_of (val := fun b => some (vI b)) (nxt := fun _ => S) (by decide) (Nat.le_of_ble_eq_true rfl) (fun Γ hl hO => w_X4_costAfter hO x0 x1 x2 x3 x4 S)
theorem d_X4_costUnknown_0 : gD cX4_costUnknown 0 (.iconst 0) 1 1 := ⟨by decide +kernel, rfl⟩
theorem d_X4_costUnknown_1 : gD cX4_costUnknown 1 (.istore 4) 2 3 := ⟨by decide +kernel, rfl⟩
theorem d_X4_costUnknown_3 : gD cX4_costUnknown 3 (.iconst 0) 1 4 := ⟨by decide +kernel, rfl⟩
theorem d_X4_costUnknown_4 : gD cX4_costUnknown 4 (.istore 5) 2 6 := ⟨by decide +kernel, rfl⟩
theorem d_X4_costUnknown_6 : gD cX4_costUnknown 6 (.iload 5) 2 8 := ⟨by decide +kernel, rfl⟩
theorem d_X4_costUnknown_8 : gD cX4_costUnknown 8 (.iconst 3) 1 9 := ⟨by decide +kernel, rfl⟩
theorem d_X4_costUnknown_9 : gD cX4_costUnknown 9 (.if_icmp .ge 31) 3 12 ∧ ((9 : Nat) : Int) + 31 = ((40 : Nat) : Int) := ⟨⟨by decide +kernel, rfl⟩, by decide⟩
theorem d_X4_costUnknown_12 : gD cX4_costUnknown 12 (.iload 4) 2 14 := ⟨by decide +kernel, rfl⟩
theorem d_X4_costUnknown_14 : gD cX4_costUnknown 14 (.aload_n 0) 1 15 := ⟨by decide +kernel, rfl⟩
theorem d_X4_costUnknown_15 : gD cX4_costUnknown 15 (.getfield 42) 3 18 := ⟨by decide +kernel, rfl⟩
theorem d_X4_costUnknown_18 : gD cX4_costUnknown 18 (.iload 5) 2 20 := ⟨by decide +kernel, rfl⟩
theorem d_X4_costUnknown_20 : gD cX4_costUnknown 20 (.iaload) 1 21 := ⟨by decide +kernel, rfl⟩
theorem d_X4_costUnknown_21 : gD cX4_costUnknown 21 (.aload_n 0) 1 22 := ⟨by decide +kernel, rfl⟩
theorem d_X4_costUnknown_22 : gD cX4_costUnknown 22 (.iload_n 1) 1 23 := ⟨by decide +kernel, rfl⟩
theorem d_X4_costUnknown_23 : gD cX4_costUnknown 23 (.iload_n 2) 1 24 := ⟨by decide +kernel, rfl⟩
theorem d_X4_costUnknown_24 : gD cX4_costUnknown 24 (.iload_n 3) 1 25 := ⟨by decide +kernel, rfl⟩
theorem d_X4_costUnknown_25 : gD cX4_costUnknown 25 (.iload 5) 2 27 := ⟨by decide +kernel, rfl⟩
theorem d_X4_costUnknown_27 : gD cX4_costUnknown 27 (.invokestatic 99) 3 30 := ⟨by decide +kernel, rfl⟩
theorem d_X4_costUnknown_30 : gD cX4_costUnknown 30 (.imul) 1 31 := ⟨by decide +kernel, rfl⟩
theorem d_X4_costUnknown_31 : gD cX4_costUnknown 31 (.iadd) 1 32 := ⟨by decide +kernel, rfl⟩
theorem d_X4_costUnknown_32 : gD cX4_costUnknown 32 (.istore 4) 2 34 := ⟨by decide +kernel, rfl⟩
theorem d_X4_costUnknown_34 : gD cX4_costUnknown 34 (.iinc 5 1) 3 37 := ⟨by decide +kernel, rfl⟩
theorem d_X4_costUnknown_37 : decode cX4_costUnknown 37 = .ok (.goto (-31), 3) ∧ ((37 : Nat) : Int) + (-31) = ((6 : Nat) : Int) := ⟨by decide +kernel, by decide⟩
theorem d_X4_costUnknown_40 : gD cX4_costUnknown 40 (.iload 4) 2 42 := ⟨by decide +kernel, rfl⟩
theorem d_X4_costUnknown_42 : gD cX4_costUnknown 42 (.ireturn) 1 43 := ⟨by decide +kernel, rfl⟩
abbrev rm_X4_costUnknown : Room := { frames := 4, cells := 0, slots := 0, locals := 94 }
set_option maxRecDepth 20000 in
theorem w_X4_costUnknown_6 {Γ : GC} {E : GE} (hO : gOk Γ E cX4_costUnknown RX4 6 rm_X4_costUnknown (some .int) "costUnknown") (S : GS) : ∀ (n : Nat) (x0 : Option Nat) (x1 : Int32) (x2 : Int32) (x3 : Int32) (x4 : Int32) (x5 : Int32), Go Γ E (gBpI Γ E S) 6 (0, 0) 6 S [(0, vA x0), (1, vI x1), (2, vI x2), (3, vI x3), (4, vI x4), (5, vI x5)] [] (f_X4_costUnknown_6 S n x0 x1 x2 x3 x4 x5) := by
  intro n
  induction n with
  | zero =>
    intro x0 x1 x2 x3 x4 x5
    exact g_none
  | succ n ih =>
    intro x0 x1 x2 x3 x4 x5
    rw [f_X4_costUnknown_6]
    refine g_iload hO d_X4_costUnknown_6 5 rfl ?_
    refine g_iconst hO 3 d_X4_costUnknown_8 (by decide) ?_
    refine g_ic_ge (tgt := 40) hO d_X4_costUnknown_9.1 d_X4_costUnknown_9.2 (fun _ => ?_) (fun _ => ?_)
    · skip
      refine g_iload hO d_X4_costUnknown_40 4 rfl ?_
      exact g_ret hO rfl rfl ⟨Nat.le_of_ble_eq_true rfl, Nat.le_of_ble_eq_true rfl⟩ rfl rfl d_X4_costUnknown_42.1
    · skip
      refine g_iload hO d_X4_costUnknown_12 4 rfl ?_
      refine g_aload_n hO d_X4_costUnknown_14 (by rfl) 0 rfl ?_
      refine h_getR hO cl_X0 3 rfl wf_X4_42 d_X4_costUnknown_15 (fun v1 => ?_)
      refine g_iload hO d_X4_costUnknown_18 5 rfl ?_
      refine h_iald hO d_X4_costUnknown_20 (fun v2 => ?_)
      refine g_aload_n hO d_X4_costUnknown_21 (by rfl) 0 rfl ?_
      refine g_iload_n hO d_X4_costUnknown_22 (by rfl) 1 rfl ?_
      refine g_iload_n hO d_X4_costUnknown_23 (by rfl) 2 rfl ?_
      refine g_iload_n hO d_X4_costUnknown_24 (by rfl) 3 rfl ?_
      refine g_iload hO d_X4_costUnknown_25 5 rfl ?_
      refine k_statIp hO mm_X4_costAfter lkS_X4_99 ⟨⟨Nat.le_of_ble_eq_true rfl, Nat.le_of_ble_eq_true rfl⟩, Nat.le_of_ble_eq_true rfl, Nat.le_of_ble_eq_true rfl⟩ (kn' := (0, 0)) rfl (As := [vA x0, vI x1, vI x2, vI x3, vI x5]) rfl (Nat.le_of_ble_eq_true rfl) (t_X4_costAfter Γ.2.1 E x0 x1 x2 x3 x5 S) d_X4_costUnknown_27 rfl (fun v3 => ?_)
      refine g_imul hO d_X4_costUnknown_30 ?_
      refine g_iadd hO d_X4_costUnknown_31 ?_
      refine g_istore (lv' := [(4, vI (x4 + (v2 * v3))), (0, vA x0), (1, vI x1), (2, vI x2), (3, vI x3), (5, vI x5)]) hO d_X4_costUnknown_32 (by decide) rfl ?_
      refine g_iinc (lv' := [(5, vI (x5 + 1)), (4, vI (x4 + (v2 * v3))), (0, vA x0), (1, vI x1), (2, vI x2), (3, vI x3)]) hO 1 d_X4_costUnknown_34 (by decide) 5 rfl (by decide) rfl ?_
      refine g_goto (tgt := 6) hO d_X4_costUnknown_37.1 d_X4_costUnknown_37.2 ?_
      exact g_sub [2, 3, 4, 5, 1, 0] rfl (ih _ _ _ _ _ _)
set_option maxRecDepth 20000 in
theorem w_X4_costUnknown {Γ : GC} {E : GE} (hO : gOk Γ E cX4_costUnknown RX4 6 rm_X4_costUnknown (some .int) "costUnknown") (x0 : Option Nat) (x1 : Int32) (x2 : Int32) (x3 : Int32) (S : GS) : Go Γ E (gBpI Γ E S) 6 (0, 0) 0 S [(0, vA x0), (1, vI x1), (2, vI x2), (3, vI x3)] [] (f_X4_costUnknown x0 x1 x2 x3 S) := by
  unfold f_X4_costUnknown
  refine g_iconst hO 0 d_X4_costUnknown_0 (by decide) ?_
  refine g_istore (lv' := [(4, vI 0), (0, vA x0), (1, vI x1), (2, vI x2), (3, vI x3)]) hO d_X4_costUnknown_1 (by decide) rfl ?_
  refine g_iconst hO 0 d_X4_costUnknown_3 (by decide) ?_
  refine g_istore (lv' := [(5, vI 0), (4, vI 0), (0, vA x0), (1, vI x1), (2, vI x2), (3, vI x3)]) hO d_X4_costUnknown_4 (by decide) rfl ?_
  exact g_sub [2, 3, 4, 5, 1, 0] rfl (w_X4_costUnknown_6 hO _ _ _ _ _ _ _ _)
theorem t_X4_costUnknown (l : Launch) (E : GE) (x0 : Option Nat) (x1 : Int32) (x2 : Int32) (x3 : Int32) (S : GS) : ∀ a, f_X4_costUnknown x0 x1 x2 x3 S = some a → Ct l E yX4_costUnknown cX4_costUnknown 6 (some .int) rm_X4_costUnknown [vA x0, vI x1, vI x2, vI x3] S (some (vI a)) S :=
  Ct_of (val := fun b => some (vI b)) (nxt := fun _ => S) (by decide) (Nat.le_of_ble_eq_true rfl) (fun Γ hl hO => w_X4_costUnknown hO x0 x1 x2 x3 S)
theorem d_X4_leastCostAfter_0 : gD cX4_leastCostAfter 0 (.aload_n 0) 1 1 := ⟨by decide +kernel, rfl⟩
theorem d_X4_leastCostAfter_1 : gD cX4_leastCostAfter 1 (.iload_n 1) 1 2 := ⟨by decide +kernel, rfl⟩
theorem d_X4_leastCostAfter_2 : gD cX4_leastCostAfter 2 (.iload_n 2) 1 3 := ⟨by decide +kernel, rfl⟩
theorem d_X4_leastCostAfter_3 : gD cX4_leastCostAfter 3 (.iconst 0) 1 4 := ⟨by decide +kernel, rfl⟩
theorem d_X4_leastCostAfter_4 : gD cX4_leastCostAfter 4 (.iload_n 3) 1 5 := ⟨by decide +kernel, rfl⟩
theorem d_X4_leastCostAfter_5 : gD cX4_leastCostAfter 5 (.invokestatic 99) 3 8 := ⟨by decide +kernel, rfl⟩
theorem d_X4_leastCostAfter_8 : gD cX4_leastCostAfter 8 (.istore 4) 2 10 := ⟨by decide +kernel, rfl⟩
theorem d_X4_leastCostAfter_10 : gD cX4_leastCostAfter 10 (.iconst 1) 1 11 := ⟨by decide +kernel, rfl⟩
theorem d_X4_leastCostAfter_11 : gD cX4_leastCostAfter 11 (.istore 5) 2 13 := ⟨by decide +kernel, rfl⟩
theorem d_X4_leastCostAfter_13 : gD cX4_leastCostAfter 13 (.iload 5) 2 15 := ⟨by decide +kernel, rfl⟩
theorem d_X4_leastCostAfter_15 : gD cX4_leastCostAfter 15 (.bipush 30) 2 17 := ⟨by decide +kernel, rfl⟩
theorem d_X4_leastCostAfter_17 : gD cX4_leastCostAfter 17 (.if_icmp .gt 25) 3 20 ∧ ((17 : Nat) : Int) + 25 = ((42 : Nat) : Int) := ⟨⟨by decide +kernel, rfl⟩, by decide⟩
theorem d_X4_leastCostAfter_20 : gD cX4_leastCostAfter 20 (.iload 4) 2 22 := ⟨by decide +kernel, rfl⟩
theorem d_X4_leastCostAfter_22 : gD cX4_leastCostAfter 22 (.aload_n 0) 1 23 := ⟨by decide +kernel, rfl⟩
theorem d_X4_leastCostAfter_23 : gD cX4_leastCostAfter 23 (.iload_n 1) 1 24 := ⟨by decide +kernel, rfl⟩
theorem d_X4_leastCostAfter_24 : gD cX4_leastCostAfter 24 (.iload_n 2) 1 25 := ⟨by decide +kernel, rfl⟩
theorem d_X4_leastCostAfter_25 : gD cX4_leastCostAfter 25 (.iload 5) 2 27 := ⟨by decide +kernel, rfl⟩
theorem d_X4_leastCostAfter_27 : gD cX4_leastCostAfter 27 (.iload_n 3) 1 28 := ⟨by decide +kernel, rfl⟩
theorem d_X4_leastCostAfter_28 : gD cX4_leastCostAfter 28 (.invokestatic 99) 3 31 := ⟨by decide +kernel, rfl⟩
theorem d_X4_leastCostAfter_31 : gD cX4_leastCostAfter 31 (.invokestatic 103) 3 34 := ⟨by decide +kernel, rfl⟩
theorem d_X4_leastCostAfter_34 : gD cX4_leastCostAfter 34 (.istore 4) 2 36 := ⟨by decide +kernel, rfl⟩
theorem d_X4_leastCostAfter_36 : gD cX4_leastCostAfter 36 (.iinc 5 1) 3 39 := ⟨by decide +kernel, rfl⟩
theorem d_X4_leastCostAfter_39 : decode cX4_leastCostAfter 39 = .ok (.goto (-26), 3) ∧ ((39 : Nat) : Int) + (-26) = ((13 : Nat) : Int) := ⟨by decide +kernel, by decide⟩
theorem d_X4_leastCostAfter_42 : gD cX4_leastCostAfter 42 (.iload 4) 2 44 := ⟨by decide +kernel, rfl⟩
theorem d_X4_leastCostAfter_44 : gD cX4_leastCostAfter 44 (.ireturn) 1 45 := ⟨by decide +kernel, rfl⟩
abbrev rm_X4_leastCostAfter : Room := { frames := 4, cells := 0, slots := 0, locals := 94 }
set_option maxRecDepth 20000 in
theorem w_X4_leastCostAfter_13 {Γ : GC} {E : GE} (hO : gOk Γ E cX4_leastCostAfter RX4 6 rm_X4_leastCostAfter (some .int) "leastCostAfter") (S : GS) : ∀ (n : Nat) (x0 : Option Nat) (x1 : Int32) (x2 : Int32) (x3 : Int32) (x4 : Int32) (x5 : Int32), Go Γ E (gBpI Γ E S) 6 (0, 0) 13 S [(0, vA x0), (1, vI x1), (2, vI x2), (3, vI x3), (4, vI x4), (5, vI x5)] [] (f_X4_leastCostAfter_13 S n x0 x1 x2 x3 x4 x5) := by
  intro n
  induction n with
  | zero =>
    intro x0 x1 x2 x3 x4 x5
    exact g_none
  | succ n ih =>
    intro x0 x1 x2 x3 x4 x5
    rw [f_X4_leastCostAfter_13]
    refine g_iload hO d_X4_leastCostAfter_13 5 rfl ?_
    refine g_bipush hO 30 d_X4_leastCostAfter_15 (by decide) ?_
    refine g_ic_gt (tgt := 42) hO d_X4_leastCostAfter_17.1 d_X4_leastCostAfter_17.2 (fun _ => ?_) (fun _ => ?_)
    · skip
      refine g_iload hO d_X4_leastCostAfter_42 4 rfl ?_
      exact g_ret hO rfl rfl ⟨Nat.le_of_ble_eq_true rfl, Nat.le_of_ble_eq_true rfl⟩ rfl rfl d_X4_leastCostAfter_44.1
    · skip
      refine g_iload hO d_X4_leastCostAfter_20 4 rfl ?_
      refine g_aload_n hO d_X4_leastCostAfter_22 (by rfl) 0 rfl ?_
      refine g_iload_n hO d_X4_leastCostAfter_23 (by rfl) 1 rfl ?_
      refine g_iload_n hO d_X4_leastCostAfter_24 (by rfl) 2 rfl ?_
      refine g_iload hO d_X4_leastCostAfter_25 5 rfl ?_
      refine g_iload_n hO d_X4_leastCostAfter_27 (by rfl) 3 rfl ?_
      refine k_statIp hO mm_X4_costAfter lkS_X4_99 ⟨⟨Nat.le_of_ble_eq_true rfl, Nat.le_of_ble_eq_true rfl⟩, Nat.le_of_ble_eq_true rfl, Nat.le_of_ble_eq_true rfl⟩ (kn' := (0, 0)) rfl (As := [vA x0, vI x1, vI x2, vI x5, vI x3]) rfl (Nat.le_of_ble_eq_true rfl) (t_X4_costAfter Γ.2.1 E x0 x1 x2 x5 x3 S) d_X4_leastCostAfter_28 rfl (fun v1 => ?_)
      refine g_mmin hO wm_X4_103 wt_min wi_Math wc_min ⟨by decide, Nat.le_of_ble_eq_true rfl, Nat.zero_le _, Nat.zero_le _⟩ d_X4_leastCostAfter_31 ?_
      refine g_istore (lv' := [(4, vI (jmin x4 v1)), (0, vA x0), (1, vI x1), (2, vI x2), (3, vI x3), (5, vI x5)]) hO d_X4_leastCostAfter_34 (by decide) rfl ?_
      refine g_iinc (lv' := [(5, vI (x5 + 1)), (4, vI (jmin x4 v1)), (0, vA x0), (1, vI x1), (2, vI x2), (3, vI x3)]) hO 1 d_X4_leastCostAfter_36 (by decide) 5 rfl (by decide) rfl ?_
      refine g_goto (tgt := 13) hO d_X4_leastCostAfter_39.1 d_X4_leastCostAfter_39.2 ?_
      exact g_sub [2, 3, 4, 5, 1, 0] rfl (ih _ _ _ _ _ _)
set_option maxRecDepth 20000 in
theorem w_X4_leastCostAfter {Γ : GC} {E : GE} (hO : gOk Γ E cX4_leastCostAfter RX4 6 rm_X4_leastCostAfter (some .int) "leastCostAfter") (x0 : Option Nat) (x1 : Int32) (x2 : Int32) (x3 : Int32) (S : GS) : Go Γ E (gBpI Γ E S) 6 (0, 0) 0 S [(0, vA x0), (1, vI x1), (2, vI x2), (3, vI x3)] [] (f_X4_leastCostAfter x0 x1 x2 x3 S) := by
  unfold f_X4_leastCostAfter
  refine g_aload_n hO d_X4_leastCostAfter_0 (by rfl) 0 rfl ?_
  refine g_iload_n hO d_X4_leastCostAfter_1 (by rfl) 1 rfl ?_
  refine g_iload_n hO d_X4_leastCostAfter_2 (by rfl) 2 rfl ?_
  refine g_iconst hO 0 d_X4_leastCostAfter_3 (by decide) ?_
  refine g_iload_n hO d_X4_leastCostAfter_4 (by rfl) 3 rfl ?_
  refine k_statIp hO mm_X4_costAfter lkS_X4_99 ⟨⟨Nat.le_of_ble_eq_true rfl, Nat.le_of_ble_eq_true rfl⟩, Nat.le_of_ble_eq_true rfl, Nat.le_of_ble_eq_true rfl⟩ (kn' := (0, 0)) rfl (As := [vA x0, vI x1, vI x2, vI 0, vI x3]) rfl (Nat.le_of_ble_eq_true rfl) (t_X4_costAfter Γ.2.1 E x0 x1 x2 0 x3 S) d_X4_leastCostAfter_5 rfl (fun v1 => ?_)
  refine g_istore (lv' := [(4, vI v1), (0, vA x0), (1, vI x1), (2, vI x2), (3, vI x3)]) hO d_X4_leastCostAfter_8 (by decide) rfl ?_
  refine g_iconst hO 1 d_X4_leastCostAfter_10 (by decide) ?_
  refine g_istore (lv' := [(5, vI 1), (4, vI v1), (0, vA x0), (1, vI x1), (2, vI x2), (3, vI x3)]) hO d_X4_leastCostAfter_11 (by decide) rfl ?_
  exact g_sub [2, 3, 4, 5, 1, 0] rfl (w_X4_leastCostAfter_13 hO _ _ _ _ _ _ _ _)
theorem t_X4_leastCostAfter (l : Launch) (E : GE) (x0 : Option Nat) (x1 : Int32) (x2 : Int32) (x3 : Int32) (S : GS) : ∀ a, f_X4_leastCostAfter x0 x1 x2 x3 S = some a → Ct l E yX4_leastCostAfter cX4_leastCostAfter 6 (some .int) rm_X4_leastCostAfter [vA x0, vI x1, vI x2, vI x3] S (some (vI a)) S :=
  Ct_of (val := fun b => some (vI b)) (nxt := fun _ => S) (by decide) (Nat.le_of_ble_eq_true rfl) (fun Γ hl hO => w_X4_leastCostAfter hO x0 x1 x2 x3 S)
theorem d_X4_worthOf_0 : gD cX4_worthOf 0 (.iconst 0) 1 1 := ⟨by decide +kernel, rfl⟩
theorem d_X4_worthOf_1 : gD cX4_worthOf 1 (.istore 4) 2 3 := ⟨by decide +kernel, rfl⟩
theorem d_X4_worthOf_3 : gD cX4_worthOf 3 (.aload_n 1) 1 4 := ⟨by decide +kernel, rfl⟩
theorem d_X4_worthOf_4 : gD cX4_worthOf 4 (.iload_n 2) 1 5 := ⟨by decide +kernel, rfl⟩
theorem d_X4_worthOf_5 : gD cX4_worthOf 5 (.iload_n 3) 1 6 := ⟨by decide +kernel, rfl⟩
theorem d_X4_worthOf_6 : gD cX4_worthOf 6 (.iconst 0) 1 7 := ⟨by decide +kernel, rfl⟩
theorem d_X4_worthOf_7 : gD cX4_worthOf 7 (.invokestatic 92) 3 10 := ⟨by decide +kernel, rfl⟩
theorem d_X4_worthOf_10 : gD cX4_worthOf 10 (.istore 5) 2 12 := ⟨by decide +kernel, rfl⟩
theorem d_X4_worthOf_12 : gD cX4_worthOf 12 (.iconst 1) 1 13 := ⟨by decide +kernel, rfl⟩
theorem d_X4_worthOf_13 : gD cX4_worthOf 13 (.istore 6) 2 15 := ⟨by decide +kernel, rfl⟩
theorem d_X4_worthOf_15 : gD cX4_worthOf 15 (.iload 6) 2 17 := ⟨by decide +kernel, rfl⟩
theorem d_X4_worthOf_17 : gD cX4_worthOf 17 (.bipush 30) 2 19 := ⟨by decide +kernel, rfl⟩
theorem d_X4_worthOf_19 : gD cX4_worthOf 19 (.if_icmp .gt 34) 3 22 ∧ ((19 : Nat) : Int) + 34 = ((53 : Nat) : Int) := ⟨⟨by decide +kernel, rfl⟩, by decide⟩
theorem d_X4_worthOf_22 : gD cX4_worthOf 22 (.aload_n 1) 1 23 := ⟨by decide +kernel, rfl⟩
theorem d_X4_worthOf_23 : gD cX4_worthOf 23 (.iload_n 2) 1 24 := ⟨by decide +kernel, rfl⟩
theorem d_X4_worthOf_24 : gD cX4_worthOf 24 (.iload_n 3) 1 25 := ⟨by decide +kernel, rfl⟩
theorem d_X4_worthOf_25 : gD cX4_worthOf 25 (.iload 6) 2 27 := ⟨by decide +kernel, rfl⟩
theorem d_X4_worthOf_27 : gD cX4_worthOf 27 (.invokestatic 92) 3 30 := ⟨by decide +kernel, rfl⟩
theorem d_X4_worthOf_30 : gD cX4_worthOf 30 (.istore 7) 2 32 := ⟨by decide +kernel, rfl⟩
theorem d_X4_worthOf_32 : gD cX4_worthOf 32 (.iload 7) 2 34 := ⟨by decide +kernel, rfl⟩
theorem d_X4_worthOf_34 : gD cX4_worthOf 34 (.iload 5) 2 36 := ⟨by decide +kernel, rfl⟩
theorem d_X4_worthOf_36 : gD cX4_worthOf 36 (.if_icmp .ge 11) 3 39 ∧ ((36 : Nat) : Int) + 11 = ((47 : Nat) : Int) := ⟨⟨by decide +kernel, rfl⟩, by decide⟩
theorem d_X4_worthOf_39 : gD cX4_worthOf 39 (.iload 7) 2 41 := ⟨by decide +kernel, rfl⟩
theorem d_X4_worthOf_41 : gD cX4_worthOf 41 (.istore 5) 2 43 := ⟨by decide +kernel, rfl⟩
theorem d_X4_worthOf_43 : gD cX4_worthOf 43 (.iload 6) 2 45 := ⟨by decide +kernel, rfl⟩
theorem d_X4_worthOf_45 : gD cX4_worthOf 45 (.istore 4) 2 47 := ⟨by decide +kernel, rfl⟩
theorem d_X4_worthOf_47 : gD cX4_worthOf 47 (.iinc 6 1) 3 50 := ⟨by decide +kernel, rfl⟩
theorem d_X4_worthOf_50 : decode cX4_worthOf 50 = .ok (.goto (-35), 3) ∧ ((50 : Nat) : Int) + (-35) = ((15 : Nat) : Int) := ⟨by decide +kernel, by decide⟩
theorem d_X4_worthOf_53 : gD cX4_worthOf 53 (.iconst 0) 1 54 := ⟨by decide +kernel, rfl⟩
theorem d_X4_worthOf_54 : gD cX4_worthOf 54 (.istore 6) 2 56 := ⟨by decide +kernel, rfl⟩
theorem d_X4_worthOf_56 : gD cX4_worthOf 56 (.iconst 0) 1 57 := ⟨by decide +kernel, rfl⟩
theorem d_X4_worthOf_57 : gD cX4_worthOf 57 (.istore 7) 2 59 := ⟨by decide +kernel, rfl⟩
theorem d_X4_worthOf_59 : gD cX4_worthOf 59 (.iload 7) 2 61 := ⟨by decide +kernel, rfl⟩
theorem d_X4_worthOf_61 : gD cX4_worthOf 61 (.iconst 3) 1 62 := ⟨by decide +kernel, rfl⟩
theorem d_X4_worthOf_62 : gD cX4_worthOf 62 (.if_icmp .ge 30) 3 65 ∧ ((62 : Nat) : Int) + 30 = ((92 : Nat) : Int) := ⟨⟨by decide +kernel, rfl⟩, by decide⟩
theorem d_X4_worthOf_65 : gD cX4_worthOf 65 (.iload 6) 2 67 := ⟨by decide +kernel, rfl⟩
theorem d_X4_worthOf_67 : gD cX4_worthOf 67 (.aload_n 1) 1 68 := ⟨by decide +kernel, rfl⟩
theorem d_X4_worthOf_68 : gD cX4_worthOf 68 (.getfield 42) 3 71 := ⟨by decide +kernel, rfl⟩
theorem d_X4_worthOf_71 : gD cX4_worthOf 71 (.iload 7) 2 73 := ⟨by decide +kernel, rfl⟩
theorem d_X4_worthOf_73 : gD cX4_worthOf 73 (.iaload) 1 74 := ⟨by decide +kernel, rfl⟩
theorem d_X4_worthOf_74 : gD cX4_worthOf 74 (.aload_n 1) 1 75 := ⟨by decide +kernel, rfl⟩
theorem d_X4_worthOf_75 : gD cX4_worthOf 75 (.iload_n 2) 1 76 := ⟨by decide +kernel, rfl⟩
theorem d_X4_worthOf_76 : gD cX4_worthOf 76 (.iload_n 3) 1 77 := ⟨by decide +kernel, rfl⟩
theorem d_X4_worthOf_77 : gD cX4_worthOf 77 (.iload 7) 2 79 := ⟨by decide +kernel, rfl⟩
theorem d_X4_worthOf_79 : gD cX4_worthOf 79 (.invokestatic 96) 3 82 := ⟨by decide +kernel, rfl⟩
theorem d_X4_worthOf_82 : gD cX4_worthOf 82 (.imul) 1 83 := ⟨by decide +kernel, rfl⟩
theorem d_X4_worthOf_83 : gD cX4_worthOf 83 (.iadd) 1 84 := ⟨by decide +kernel, rfl⟩
theorem d_X4_worthOf_84 : gD cX4_worthOf 84 (.istore 6) 2 86 := ⟨by decide +kernel, rfl⟩
theorem d_X4_worthOf_86 : gD cX4_worthOf 86 (.iinc 7 1) 3 89 := ⟨by decide +kernel, rfl⟩
theorem d_X4_worthOf_89 : decode cX4_worthOf 89 = .ok (.goto (-30), 3) ∧ ((89 : Nat) : Int) + (-30) = ((59 : Nat) : Int) := ⟨by decide +kernel, by decide⟩
theorem d_X4_worthOf_92 : gD cX4_worthOf 92 (.aload_n 0) 1 93 := ⟨by decide +kernel, rfl⟩
theorem d_X4_worthOf_93 : gD cX4_worthOf 93 (.iload 5) 2 95 := ⟨by decide +kernel, rfl⟩
theorem d_X4_worthOf_95 : gD cX4_worthOf 95 (.iload 6) 2 97 := ⟨by decide +kernel, rfl⟩
theorem d_X4_worthOf_97 : gD cX4_worthOf 97 (.isub) 1 98 := ⟨by decide +kernel, rfl⟩
theorem d_X4_worthOf_98 : gD cX4_worthOf 98 (.i2l) 1 99 := ⟨by decide +kernel, rfl⟩
theorem d_X4_worthOf_99 : gD cX4_worthOf 99 (.aload_n 1) 1 100 := ⟨by decide +kernel, rfl⟩
theorem d_X4_worthOf_100 : gD cX4_worthOf 100 (.invokevirtual 59) 3 103 := ⟨by decide +kernel, rfl⟩
theorem d_X4_worthOf_103 : gD cX4_worthOf 103 (.i2l) 1 104 := ⟨by decide +kernel, rfl⟩
theorem d_X4_worthOf_104 : gD cX4_worthOf 104 (.invokevirtual 67) 3 107 := ⟨by decide +kernel, rfl⟩
theorem d_X4_worthOf_107 : gD cX4_worthOf 107 (.iload 4) 2 109 := ⟨by decide +kernel, rfl⟩
theorem d_X4_worthOf_109 : gD cX4_worthOf 109 (.ireturn) 1 110 := ⟨by decide +kernel, rfl⟩
abbrev rm_X4_worthOf : Room := { frames := 5, cells := 0, slots := 0, locals := 119 }
set_option maxRecDepth 20000 in
theorem w_X4_worthOf_47 {Γ : GC} {E : GE} (hO : gOk Γ E cX4_worthOf RX4 8 rm_X4_worthOf (some .int) "worthOf") (o : Nat) {k15 : (Option Nat → Int32 → Int32 → Int32 → Int32 → Int32 → GS → Option (Int32 × GS))} (hk15 : ∀ (z1 : Option Nat) (z2 : Int32) (z3 : Int32) (z4 : Int32) (z5 : Int32) (z6 : Int32) (S1 : GS), Go Γ E (gBsI Γ E) 8 (0, 0) 15 S1 [(0, vA (some o)), (1, vA z1), (2, vI z2), (3, vI z3), (4, vI z4), (5, vI z5), (6, vI z6)] [] (k15 z1 z2 z3 z4 z5 z6 S1)) (x1 : Option Nat) (x2 : Int32) (x3 : Int32) (x4 : Int32) (x5 : Int32) (x6 : Int32) (S : GS) : Go Γ E (gBsI Γ E) 8 (0, 0) 47 S [(0, vA (some o)), (1, vA x1), (2, vI x2), (3, vI x3), (4, vI x4), (5, vI x5), (6, vI x6)] [] (f_X4_worthOf_47 k15 o x1 x2 x3 x4 x5 x6 S) := by
  unfold f_X4_worthOf_47
  refine g_iinc (lv' := [(6, vI (x6 + 1)), (0, vA (some o)), (1, vA x1), (2, vI x2), (3, vI x3), (4, vI x4), (5, vI x5)]) hO 1 d_X4_worthOf_47 (by decide) 6 rfl (by decide) rfl ?_
  refine g_goto (tgt := 15) hO d_X4_worthOf_50.1 d_X4_worthOf_50.2 ?_
  exact g_sub [1, 2, 3, 4, 5, 6, 0] rfl (hk15 _ _ _ _ _ _ _)
set_option maxRecDepth 20000 in
theorem w_X4_worthOf_59 {Γ : GC} {E : GE} (hO : gOk Γ E cX4_worthOf RX4 8 rm_X4_worthOf (some .int) "worthOf") (o : Nat) : ∀ (n : Nat) (x1 : Option Nat) (x2 : Int32) (x3 : Int32) (x4 : Int32) (x5 : Int32) (x6 : Int32) (x7 : Int32) (S : GS), Go Γ E (gBsI Γ E) 8 (0, 0) 59 S [(0, vA (some o)), (1, vA x1), (2, vI x2), (3, vI x3), (4, vI x4), (5, vI x5), (6, vI x6), (7, vI x7)] [] (f_X4_worthOf_59 o n x1 x2 x3 x4 x5 x6 x7 S) := by
  intro n
  induction n with
  | zero =>
    intro x1 x2 x3 x4 x5 x6 x7 S
    exact g_none
  | succ n ih =>
    intro x1 x2 x3 x4 x5 x6 x7 S
    rw [f_X4_worthOf_59]
    refine g_iload hO d_X4_worthOf_59 7 rfl ?_
    refine g_iconst hO 3 d_X4_worthOf_61 (by decide) ?_
    refine g_ic_ge (tgt := 92) hO d_X4_worthOf_62.1 d_X4_worthOf_62.2 (fun _ => ?_) (fun _ => ?_)
    · skip
      refine g_aload_n hO d_X4_worthOf_92 (by rfl) 0 rfl ?_
      refine g_iload hO d_X4_worthOf_93 5 rfl ?_
      refine g_iload hO d_X4_worthOf_95 6 rfl ?_
      refine g_isub hO d_X4_worthOf_97 ?_
      refine g_i2l hO d_X4_worthOf_98 ?_
      refine g_aload_n hO d_X4_worthOf_99 (by rfl) 1 rfl ?_
      refine k_virtIp hO cl_X0 mm_X0_allWeights lkV_X4_59 ⟨⟨Nat.le_of_ble_eq_true rfl, Nat.le_of_ble_eq_true rfl⟩, Nat.le_of_ble_eq_true rfl, Nat.le_of_ble_eq_true rfl⟩ (kn' := (0, 0)) rfl (As := []) rfl (Nat.le_of_ble_eq_true rfl) (fun o' _ => t_X0_allWeights Γ.2.1 E o' S) d_X4_worthOf_100 rfl (fun v1 => ?_)
      refine g_i2l hO d_X4_worthOf_103 ?_
      refine k_virtVs hO cl_X4 mm_X4_setOdds lkV_X4_67 ⟨⟨Nat.le_of_ble_eq_true rfl, Nat.le_of_ble_eq_true rfl⟩, Nat.le_of_ble_eq_true rfl, Nat.le_of_ble_eq_true rfl⟩ (kn' := (0, 0)) rfl (As := [vJ ((x5 - x6)).toInt64, vJ (v1).toInt64]) rfl (Nat.le_of_ble_eq_true rfl) (fun o' _ => t_X4_setOdds Γ.2.1 E o' ((x5 - x6)).toInt64 (v1).toInt64 S) d_X4_worthOf_104 rfl (fun S4 => ?_)
      refine g_iload hO d_X4_worthOf_107 4 rfl ?_
      exact g_ret hO rfl rfl ⟨Nat.le_of_ble_eq_true rfl, Nat.le_of_ble_eq_true rfl⟩ rfl rfl d_X4_worthOf_109.1
    · skip
      refine g_iload hO d_X4_worthOf_65 6 rfl ?_
      refine g_aload_n hO d_X4_worthOf_67 (by rfl) 1 rfl ?_
      refine h_getR hO cl_X0 3 rfl wf_X4_42 d_X4_worthOf_68 (fun v5 => ?_)
      refine g_iload hO d_X4_worthOf_71 7 rfl ?_
      refine h_iald hO d_X4_worthOf_73 (fun v6 => ?_)
      refine g_aload_n hO d_X4_worthOf_74 (by rfl) 1 rfl ?_
      refine g_iload_n hO d_X4_worthOf_75 (by rfl) 2 rfl ?_
      refine g_iload_n hO d_X4_worthOf_76 (by rfl) 3 rfl ?_
      refine g_iload hO d_X4_worthOf_77 7 rfl ?_
      refine k_statIp hO mm_X4_leastCostAfter lkS_X4_96 ⟨⟨Nat.le_of_ble_eq_true rfl, Nat.le_of_ble_eq_true rfl⟩, Nat.le_of_ble_eq_true rfl, Nat.le_of_ble_eq_true rfl⟩ (kn' := (0, 0)) rfl (As := [vA x1, vI x2, vI x3, vI x7]) rfl (Nat.le_of_ble_eq_true rfl) (t_X4_leastCostAfter Γ.2.1 E x1 x2 x3 x7 S) d_X4_worthOf_79 rfl (fun v7 => ?_)
      refine g_imul hO d_X4_worthOf_82 ?_
      refine g_iadd hO d_X4_worthOf_83 ?_
      refine g_istore (lv' := [(6, vI (x6 + (v6 * v7))), (0, vA (some o)), (1, vA x1), (2, vI x2), (3, vI x3), (4, vI x4), (5, vI x5), (7, vI x7)]) hO d_X4_worthOf_84 (by decide) rfl ?_
      refine g_iinc (lv' := [(7, vI (x7 + 1)), (6, vI (x6 + (v6 * v7))), (0, vA (some o)), (1, vA x1), (2, vI x2), (3, vI x3), (4, vI x4), (5, vI x5)]) hO 1 d_X4_worthOf_86 (by decide) 7 rfl (by decide) rfl ?_
      refine g_goto (tgt := 59) hO d_X4_worthOf_89.1 d_X4_worthOf_89.2 ?_
      exact g_sub [2, 3, 4, 5, 6, 7, 1, 0] rfl (ih _ _ _ _ _ _ _ _)
set_option maxRecDepth 20000 in
theorem w_X4_worthOf_15 {Γ : GC} {E : GE} (hO : gOk Γ E cX4_worthOf RX4 8 rm_X4_worthOf (some .int) "worthOf") (o : Nat) : ∀ (n : Nat) (x1 : Option Nat) (x2 : Int32) (x3 : Int32) (x4 : Int32) (x5 : Int32) (x6 : Int32) (S : GS), Go Γ E (gBsI Γ E) 8 (0, 0) 15 S [(0, vA (some o)), (1, vA x1), (2, vI x2), (3, vI x3), (4, vI x4), (5, vI x5), (6, vI x6)] [] (f_X4_worthOf_15 o n x1 x2 x3 x4 x5 x6 S) := by
  intro n
  induction n with
  | zero =>
    intro x1 x2 x3 x4 x5 x6 S
    exact g_none
  | succ n ih =>
    intro x1 x2 x3 x4 x5 x6 S
    rw [f_X4_worthOf_15]
    refine g_iload hO d_X4_worthOf_15 6 rfl ?_
    refine g_bipush hO 30 d_X4_worthOf_17 (by decide) ?_
    refine g_ic_gt (tgt := 53) hO d_X4_worthOf_19.1 d_X4_worthOf_19.2 (fun _ => ?_) (fun _ => ?_)
    · skip
      refine g_iconst hO 0 d_X4_worthOf_53 (by decide) ?_
      refine g_istore (lv' := [(6, vI 0), (0, vA (some o)), (1, vA x1), (2, vI x2), (3, vI x3), (4, vI x4), (5, vI x5)]) hO d_X4_worthOf_54 (by decide) rfl ?_
      refine g_iconst hO 0 d_X4_worthOf_56 (by decide) ?_
      refine g_istore (lv' := [(7, vI 0), (6, vI 0), (0, vA (some o)), (1, vA x1), (2, vI x2), (3, vI x3), (4, vI x4), (5, vI x5)]) hO d_X4_worthOf_57 (by decide) rfl ?_
      exact g_sub [2, 3, 4, 5, 6, 7, 1, 0] rfl (w_X4_worthOf_59 hO o _ _ _ _ _ _ _ _ _)
    · skip
      refine g_aload_n hO d_X4_worthOf_22 (by rfl) 1 rfl ?_
      refine g_iload_n hO d_X4_worthOf_23 (by rfl) 2 rfl ?_
      refine g_iload_n hO d_X4_worthOf_24 (by rfl) 3 rfl ?_
      refine g_iload hO d_X4_worthOf_25 6 rfl ?_
      refine k_statIp hO mm_X4_costUnknown lkS_X4_92 ⟨⟨Nat.le_of_ble_eq_true rfl, Nat.le_of_ble_eq_true rfl⟩, Nat.le_of_ble_eq_true rfl, Nat.le_of_ble_eq_true rfl⟩ (kn' := (0, 0)) rfl (As := [vA x1, vI x2, vI x3, vI x6]) rfl (Nat.le_of_ble_eq_true rfl) (t_X4_costUnknown Γ.2.1 E x1 x2 x3 x6 S) d_X4_worthOf_27 rfl (fun v1 => ?_)
      refine g_istore (lv' := [(7, vI v1), (0, vA (some o)), (1, vA x1), (2, vI x2), (3, vI x3), (4, vI x4), (5, vI x5), (6, vI x6)]) hO d_X4_worthOf_30 (by decide) rfl ?_
      refine g_iload hO d_X4_worthOf_32 0 rfl ?_
      refine g_iload hO d_X4_worthOf_34 6 rfl ?_
      refine g_ic_ge (tgt := 47) hO d_X4_worthOf_36.1 d_X4_worthOf_36.2 (fun _ => ?_) (fun _ => ?_)
      · skip
        exact g_sub [1, 2, 3, 4, 5, 6, 7] rfl (w_X4_worthOf_47 hO o ih _ _ _ _ _ _ _)
      · skip
        refine g_iload hO d_X4_worthOf_39 0 rfl ?_
        refine g_istore (lv' := [(5, vI v1), (7, vI v1), (0, vA (some o)), (1, vA x1), (2, vI x2), (3, vI x3), (4, vI x4), (6, vI x6)]) hO d_X4_worthOf_41 (by decide) rfl ?_
        refine g_iload hO d_X4_worthOf_43 7 rfl ?_
        refine g_istore (lv' := [(4, vI x6), (5, vI v1), (7, vI v1), (0, vA (some o)), (1, vA x1), (2, vI x2), (3, vI x3), (6, vI x6)]) hO d_X4_worthOf_45 (by decide) rfl ?_
        exact g_sub [3, 4, 5, 6, 0, 1, 7] rfl (w_X4_worthOf_47 hO o ih _ _ _ _ _ _ _)
set_option maxRecDepth 20000 in
theorem w_X4_worthOf {Γ : GC} {E : GE} (hO : gOk Γ E cX4_worthOf RX4 8 rm_X4_worthOf (some .int) "worthOf") (o : Nat) (x1 : Option Nat) (x2 : Int32) (x3 : Int32) (S : GS) : Go Γ E (gBsI Γ E) 8 (0, 0) 0 S [(0, vA (some o)), (1, vA x1), (2, vI x2), (3, vI x3)] [] (f_X4_worthOf o x1 x2 x3 S) := by
  unfold f_X4_worthOf
  refine g_iconst hO 0 d_X4_worthOf_0 (by decide) ?_
  refine g_istore (lv' := [(4, vI 0), (0, vA (some o)), (1, vA x1), (2, vI x2), (3, vI x3)]) hO d_X4_worthOf_1 (by decide) rfl ?_
  refine g_aload_n hO d_X4_worthOf_3 (by rfl) 2 rfl ?_
  refine g_iload_n hO d_X4_worthOf_4 (by rfl) 3 rfl ?_
  refine g_iload_n hO d_X4_worthOf_5 (by rfl) 4 rfl ?_
  refine g_iconst hO 0 d_X4_worthOf_6 (by decide) ?_
  refine k_statIp hO mm_X4_costUnknown lkS_X4_92 ⟨⟨Nat.le_of_ble_eq_true rfl, Nat.le_of_ble_eq_true rfl⟩, Nat.le_of_ble_eq_true rfl, Nat.le_of_ble_eq_true rfl⟩ (kn' := (0, 0)) rfl (As := [vA x1, vI x2, vI x3, vI 0]) rfl (Nat.le_of_ble_eq_true rfl) (t_X4_costUnknown Γ.2.1 E x1 x2 x3 0 S) d_X4_worthOf_7 rfl (fun v1 => ?_)
  refine g_istore (lv' := [(5, vI v1), (4, vI 0), (0, vA (some o)), (1, vA x1), (2, vI x2), (3, vI x3)]) hO d_X4_worthOf_10 (by decide) rfl ?_
  refine g_iconst hO 1 d_X4_worthOf_12 (by decide) ?_
  refine g_istore (lv' := [(6, vI 1), (5, vI v1), (4, vI 0), (0, vA (some o)), (1, vA x1), (2, vI x2), (3, vI x3)]) hO d_X4_worthOf_13 (by decide) rfl ?_
  exact g_sub [3, 4, 5, 6, 2, 1, 0] rfl (w_X4_worthOf_15 hO o _ _ _ _ _ _ _ _)
theorem t_X4_worthOf (l : Launch) (E : GE) (o : Nat) (x1 : Option Nat) (x2 : Int32) (x3 : Int32) (S : GS) : ∀ a, f_X4_worthOf o x1 x2 x3 S = some a → Ct l E yX4_worthOf cX4_worthOf 8 (some .int) rm_X4_worthOf [vA (some o), vA x1, vI x2, vI x3] S (some (vI a.1)) a.2 :=
  Ct_of (val := fun (b : Int32 × GS) => some (vI b.1)) (nxt := fun (b : Int32 × GS) => b.2) (by decide) (Nat.le_of_ble_eq_true rfl) (fun Γ hl hO => w_X4_worthOf hO o x1 x2 x3 S)
theorem d_X8_init_0 : gD cX8_init 0 (.aload_n 0) 1 1 := ⟨by decide +kernel, rfl⟩
theorem d_X8_init_1 : gD cX8_init 1 (.invokespecial 3) 3 4 := ⟨by decide +kernel, rfl⟩
theorem d_X8_init_4 : gD cX8_init 4 (.aload_n 0) 1 5 := ⟨by decide +kernel, rfl⟩
theorem d_X8_init_5 : gD cX8_init 5 (.new 9) 3 8 := ⟨by decide +kernel, rfl⟩
theorem d_X8_init_8 : gD cX8_init 8 (.dup) 1 9 := ⟨by decide +kernel, rfl⟩
theorem d_X8_init_9 : gD cX8_init 9 (.bipush 20) 2 11 := ⟨by decide +kernel, rfl⟩
theorem d_X8_init_11 : gD cX8_init 11 (.iconst 3) 1 12 := ⟨by decide +kernel, rfl⟩
theorem d_X8_init_12 : gD cX8_init 12 (.invokespecial 11) 3 15 := ⟨by decide +kernel, rfl⟩
theorem d_X8_init_15 : gD cX8_init 15 (.putfield 14) 3 18 := ⟨by decide +kernel, rfl⟩
theorem d_X8_init_18 : gD cX8_init 18 (.aload_n 0) 1 19 := ⟨by decide +kernel, rfl⟩
theorem d_X8_init_19 : gD cX8_init 19 (.new 9) 3 22 := ⟨by decide +kernel, rfl⟩
theorem d_X8_init_22 : gD cX8_init 22 (.dup) 1 23 := ⟨by decide +kernel, rfl⟩
theorem d_X8_init_23 : gD cX8_init 23 (.bipush 20) 2 25 := ⟨by decide +kernel, rfl⟩
theorem d_X8_init_25 : gD cX8_init 25 (.iconst 3) 1 26 := ⟨by decide +kernel, rfl⟩
theorem d_X8_init_26 : gD cX8_init 26 (.invokespecial 11) 3 29 := ⟨by decide +kernel, rfl⟩
theorem d_X8_init_29 : gD cX8_init 29 (.putfield 20) 3 32 := ⟨by decide +kernel, rfl⟩
theorem d_X8_init_32 : gD cX8_init 32 (.return_) 1 33 := ⟨by decide +kernel, rfl⟩
abbrev rm_X8_init : Room := { frames := 2, cells := 4, slots := 128, locals := 34 }
set_option maxRecDepth 20000 in
theorem w_X8_init {Γ : GC} {E : GE} (hO : gOk Γ E cX8_init RX8 1 rm_X8_init none "<init>") (o : Nat) (S : GS) : Go Γ E (gBsV Γ E) 1 (0, 0) 0 S [(0, vA (some o))] [] (f_X8_init o S) := by
  unfold f_X8_init
  refine g_aload_n hO d_X8_init_0 (by rfl) 0 rfl ?_
  refine g_oinit hO wm_X8_3 wn_obj wc_obj (Nat.le_of_ble_eq_true rfl) (Nat.le_of_ble_eq_true rfl) (fun h => nomatch h) d_X8_init_1 ?_
  refine g_aload_n hO d_X8_init_4 (by rfl) 0 rfl ?_
  refine h_new hO cl_X7 tyX7 tyX7_ok dv_X7 wcl_X8_9 wins_X7 wi_X7 (kn' := (1, 4)) rfl ⟨by decide, by decide⟩ d_X8_init_5 (fun v1 S2 => ?_)
  refine g_dup hO d_X8_init_8 rfl ?_
  refine g_bipush hO 20 d_X8_init_9 (by decide) ?_
  refine g_iconst hO 3 d_X8_init_11 (by decide) ?_
  refine k_init hO mm_X7_init lkI_X8_11 ⟨⟨by decide, by decide⟩, by decide +kernel, by decide +kernel⟩ (kn' := (2, 64)) (by decide +kernel) (As := [vI 20, vI 3]) rfl (Nat.le_of_ble_eq_true rfl) (fun o' _ => t_X7_init Γ.2.1 E o' 20 3 S2) d_X8_init_12 rfl (fun S3 => ?_)
  refine h_putR hO cl_X8 0 rfl (ty := .object "GlassLaces$Rows") (by decide +kernel) (Or.inl ⟨_, rfl⟩) wf_X8_14 (Or.inr ⟨rfl, rfl, rfl⟩) d_X8_init_15 (fun S4 => ?_)
  refine g_aload_n hO d_X8_init_18 (by rfl) 0 rfl ?_
  refine h_new hO cl_X7 tyX7 tyX7_ok dv_X7 wcl_X8_9 wins_X7 wi_X7 (kn' := (3, 68)) rfl ⟨by decide, by decide⟩ d_X8_init_19 (fun v5 S6 => ?_)
  refine g_dup hO d_X8_init_22 rfl ?_
  refine g_bipush hO 20 d_X8_init_23 (by decide) ?_
  refine g_iconst hO 3 d_X8_init_25 (by decide) ?_
  refine k_init hO mm_X7_init lkI_X8_11 ⟨⟨by decide, by decide⟩, by decide +kernel, by decide +kernel⟩ (kn' := (4, 128)) (by decide +kernel) (As := [vI 20, vI 3]) rfl (Nat.le_of_ble_eq_true rfl) (fun o' _ => t_X7_init Γ.2.1 E o' 20 3 S6) d_X8_init_26 rfl (fun S7 => ?_)
  refine h_putR hO cl_X8 1 rfl (ty := .object "GlassLaces$Rows") (by decide +kernel) (Or.inl ⟨_, rfl⟩) wf_X8_20 (Or.inr ⟨rfl, rfl, rfl⟩) d_X8_init_29 (fun S8 => ?_)
  exact g_vret hO rfl ⟨Nat.le_of_ble_eq_true rfl, Nat.le_of_ble_eq_true rfl⟩ rfl rfl d_X8_init_32.1
theorem t_X8_init (l : Launch) (E : GE) (o : Nat) (S : GS) : ∀ a, f_X8_init o S = some a → Ct l E yX8_init cX8_init 1 none rm_X8_init [vA (some o)] S none a :=
  Ct_of (val := fun _ => none) (nxt := fun b => b) (by decide) (Nat.le_of_ble_eq_true rfl) (fun Γ hl hO => w_X8_init hO o S)
theorem d_X5_init_0 : gD cX5_init 0 (.aload_n 0) 1 1 := ⟨by decide +kernel, rfl⟩
theorem d_X5_init_1 : gD cX5_init 1 (.invokespecial 3) 3 4 := ⟨by decide +kernel, rfl⟩
theorem d_X5_init_4 : gD cX5_init 4 (.aload_n 0) 1 5 := ⟨by decide +kernel, rfl⟩
theorem d_X5_init_5 : gD cX5_init 5 (.sipush 600) 3 8 := ⟨by decide +kernel, rfl⟩
theorem d_X5_init_8 : gD cX5_init 8 (.newarray .byte) 2 10 := ⟨by decide +kernel, rfl⟩
theorem d_X5_init_10 : gD cX5_init 10 (.putfield 9) 3 13 := ⟨by decide +kernel, rfl⟩
theorem d_X5_init_13 : gD cX5_init 13 (.aload_n 0) 1 14 := ⟨by decide +kernel, rfl⟩
theorem d_X5_init_14 : gD cX5_init 14 (.new 15) 3 17 := ⟨by decide +kernel, rfl⟩
theorem d_X5_init_17 : gD cX5_init 17 (.dup) 1 18 := ⟨by decide +kernel, rfl⟩
theorem d_X5_init_18 : gD cX5_init 18 (.invokespecial 17) 3 21 := ⟨by decide +kernel, rfl⟩
theorem d_X5_init_21 : gD cX5_init 21 (.putfield 18) 3 24 := ⟨by decide +kernel, rfl⟩
theorem d_X5_init_24 : gD cX5_init 24 (.aload_n 0) 1 25 := ⟨by decide +kernel, rfl⟩
theorem d_X5_init_25 : gD cX5_init 25 (.new 22) 3 28 := ⟨by decide +kernel, rfl⟩
theorem d_X5_init_28 : gD cX5_init 28 (.dup) 1 29 := ⟨by decide +kernel, rfl⟩
theorem d_X5_init_29 : gD cX5_init 29 (.invokespecial 24) 3 32 := ⟨by decide +kernel, rfl⟩
theorem d_X5_init_32 : gD cX5_init 32 (.putfield 25) 3 35 := ⟨by decide +kernel, rfl⟩
theorem d_X5_init_35 : gD cX5_init 35 (.aload_n 0) 1 36 := ⟨by decide +kernel, rfl⟩
theorem d_X5_init_36 : gD cX5_init 36 (.new 29) 3 39 := ⟨by decide +kernel, rfl⟩
theorem d_X5_init_39 : gD cX5_init 39 (.dup) 1 40 := ⟨by decide +kernel, rfl⟩
theorem d_X5_init_40 : gD cX5_init 40 (.bipush 40) 2 42 := ⟨by decide +kernel, rfl⟩
theorem d_X5_init_42 : gD cX5_init 42 (.iconst 3) 1 43 := ⟨by decide +kernel, rfl⟩
theorem d_X5_init_43 : gD cX5_init 43 (.invokespecial 31) 3 46 := ⟨by decide +kernel, rfl⟩
theorem d_X5_init_46 : gD cX5_init 46 (.putfield 34) 3 49 := ⟨by decide +kernel, rfl⟩
theorem d_X5_init_49 : gD cX5_init 49 (.aload_n 0) 1 50 := ⟨by decide +kernel, rfl⟩
theorem d_X5_init_50 : gD cX5_init 50 (.new 29) 3 53 := ⟨by decide +kernel, rfl⟩
theorem d_X5_init_53 : gD cX5_init 53 (.dup) 1 54 := ⟨by decide +kernel, rfl⟩
theorem d_X5_init_54 : gD cX5_init 54 (.bipush 16) 2 56 := ⟨by decide +kernel, rfl⟩
theorem d_X5_init_56 : gD cX5_init 56 (.iconst 1) 1 57 := ⟨by decide +kernel, rfl⟩
theorem d_X5_init_57 : gD cX5_init 57 (.invokespecial 31) 3 60 := ⟨by decide +kernel, rfl⟩
theorem d_X5_init_60 : gD cX5_init 60 (.putfield 38) 3 63 := ⟨by decide +kernel, rfl⟩
theorem d_X5_init_63 : gD cX5_init 63 (.aload_n 0) 1 64 := ⟨by decide +kernel, rfl⟩
theorem d_X5_init_64 : gD cX5_init 64 (.new 29) 3 67 := ⟨by decide +kernel, rfl⟩
theorem d_X5_init_67 : gD cX5_init 67 (.dup) 1 68 := ⟨by decide +kernel, rfl⟩
theorem d_X5_init_68 : gD cX5_init 68 (.bipush 30) 2 70 := ⟨by decide +kernel, rfl⟩
theorem d_X5_init_70 : gD cX5_init 70 (.iconst 3) 1 71 := ⟨by decide +kernel, rfl⟩
theorem d_X5_init_71 : gD cX5_init 71 (.invokespecial 31) 3 74 := ⟨by decide +kernel, rfl⟩
theorem d_X5_init_74 : gD cX5_init 74 (.putfield 41) 3 77 := ⟨by decide +kernel, rfl⟩
theorem d_X5_init_77 : gD cX5_init 77 (.aload_n 0) 1 78 := ⟨by decide +kernel, rfl⟩
theorem d_X5_init_78 : gD cX5_init 78 (.new 29) 3 81 := ⟨by decide +kernel, rfl⟩
theorem d_X5_init_81 : gD cX5_init 81 (.dup) 1 82 := ⟨by decide +kernel, rfl⟩
theorem d_X5_init_82 : gD cX5_init 82 (.bipush 10) 2 84 := ⟨by decide +kernel, rfl⟩
theorem d_X5_init_84 : gD cX5_init 84 (.iconst 2) 1 85 := ⟨by decide +kernel, rfl⟩
theorem d_X5_init_85 : gD cX5_init 85 (.invokespecial 31) 3 88 := ⟨by decide +kernel, rfl⟩
theorem d_X5_init_88 : gD cX5_init 88 (.putfield 44) 3 91 := ⟨by decide +kernel, rfl⟩
theorem d_X5_init_91 : gD cX5_init 91 (.return_) 1 92 := ⟨by decide +kernel, rfl⟩
abbrev rm_X5_init : Room := { frames := 3, cells := 22, slots := 1074, locals := 54 }
set_option maxRecDepth 20000 in
theorem w_X5_init {Γ : GC} {E : GE} (hO : gOk Γ E cX5_init RX5 1 rm_X5_init none "<init>") (o : Nat) (S : GS) : Go Γ E (gBsV Γ E) 1 (0, 0) 0 S [(0, vA (some o))] [] (f_X5_init o S) := by
  unfold f_X5_init
  refine g_aload_n hO d_X5_init_0 (by rfl) 0 rfl ?_
  refine g_oinit hO wm_X5_3 wn_obj wc_obj (Nat.le_of_ble_eq_true rfl) (Nat.le_of_ble_eq_true rfl) (fun h => nomatch h) d_X5_init_1 ?_
  refine g_aload_n hO d_X5_init_4 (by rfl) 0 rfl ?_
  refine g_sipush hO 600 d_X5_init_5 (by decide) ?_
  refine h_na hO 13 (by decide) rfl wac_13 (600) (by decide) (kn' := (1, 600)) rfl ⟨by decide, by decide⟩ d_X5_init_8 (fun v1 S2 => ?_)
  refine h_putR hO cl_X5 0 rfl (ty := .array .byte) (by decide +kernel) (Or.inr ⟨_, rfl⟩) wf_X5_9 (Or.inr ⟨rfl, rfl, rfl⟩) d_X5_init_10 (fun S3 => ?_)
  refine g_aload_n hO d_X5_init_13 (by rfl) 0 rfl ?_
  refine h_new hO cl_X0 tyX0 tyX0_ok dv_X0 wcl_X5_15 wins_X0 wi_X0 (kn' := (2, 607)) rfl ⟨by decide, by decide⟩ d_X5_init_14 (fun v4 S5 => ?_)
  refine g_dup hO d_X5_init_17 rfl ?_
  refine k_initN hO mm_X0_init lkIN_X5_17 ⟨⟨by decide, by decide⟩, by decide +kernel, by decide +kernel⟩ (kn' := (9, 682)) (by decide +kernel) (As := []) rfl (Nat.le_of_ble_eq_true rfl) (fun o' _ => t_X0_init Γ.2.1 E o' S5) d_X5_init_18 rfl (fun S6 => ?_)
  refine h_putR hO cl_X5 1 rfl (ty := .object "GlassLaces$Court") (by decide +kernel) (Or.inl ⟨_, rfl⟩) wf_X5_18 (Or.inr ⟨rfl, rfl, rfl⟩) d_X5_init_21 (fun S7 => ?_)
  refine g_aload_n hO d_X5_init_24 (by rfl) 0 rfl ?_
  refine h_new hO cl_X8 tyX8 tyX8_ok dv_X8 wcl_X5_22 wins_X8 wi_X8 (kn' := (10, 684)) rfl ⟨by decide, by decide⟩ d_X5_init_25 (fun v8 S9 => ?_)
  refine g_dup hO d_X5_init_28 rfl ?_
  refine k_initN hO mm_X8_init lkIN_X5_24 ⟨⟨by decide, by decide⟩, by decide +kernel, by decide +kernel⟩ (kn' := (14, 812)) (by decide +kernel) (As := []) rfl (Nat.le_of_ble_eq_true rfl) (fun o' _ => t_X8_init Γ.2.1 E o' S9) d_X5_init_29 rfl (fun S10 => ?_)
  refine h_putR hO cl_X5 2 rfl (ty := .object "GlassLaces$Sight") (by decide +kernel) (Or.inl ⟨_, rfl⟩) wf_X5_25 (Or.inr ⟨rfl, rfl, rfl⟩) d_X5_init_32 (fun S11 => ?_)
  refine g_aload_n hO d_X5_init_35 (by rfl) 0 rfl ?_
  refine h_new hO cl_X7 tyX7 tyX7_ok dv_X7 wcl_X5_29 wins_X7 wi_X7 (kn' := (15, 816)) rfl ⟨by decide, by decide⟩ d_X5_init_36 (fun v12 S13 => ?_)
  refine g_dup hO d_X5_init_39 rfl ?_
  refine g_bipush hO 40 d_X5_init_40 (by decide) ?_
  refine g_iconst hO 3 d_X5_init_42 (by decide) ?_
  refine k_init hO mm_X7_init lkI_X5_31 ⟨⟨by decide, by decide⟩, by decide +kernel, by decide +kernel⟩ (kn' := (16, 936)) (by decide +kernel) (As := [vI 40, vI 3]) rfl (Nat.le_of_ble_eq_true rfl) (fun o' _ => t_X7_init Γ.2.1 E o' 40 3 S13) d_X5_init_43 rfl (fun S14 => ?_)
  refine h_putR hO cl_X5 3 rfl (ty := .object "GlassLaces$Rows") (by decide +kernel) (Or.inl ⟨_, rfl⟩) wf_X5_34 (Or.inr ⟨rfl, rfl, rfl⟩) d_X5_init_46 (fun S15 => ?_)
  refine g_aload_n hO d_X5_init_49 (by rfl) 0 rfl ?_
  refine h_new hO cl_X7 tyX7 tyX7_ok dv_X7 wcl_X5_29 wins_X7 wi_X7 (kn' := (17, 940)) rfl ⟨by decide, by decide⟩ d_X5_init_50 (fun v16 S17 => ?_)
  refine g_dup hO d_X5_init_53 rfl ?_
  refine g_bipush hO 16 d_X5_init_54 (by decide) ?_
  refine g_iconst hO 1 d_X5_init_56 (by decide) ?_
  refine k_init hO mm_X7_init lkI_X5_31 ⟨⟨by decide, by decide⟩, by decide +kernel, by decide +kernel⟩ (kn' := (18, 956)) (by decide +kernel) (As := [vI 16, vI 1]) rfl (Nat.le_of_ble_eq_true rfl) (fun o' _ => t_X7_init Γ.2.1 E o' 16 1 S17) d_X5_init_57 rfl (fun S18 => ?_)
  refine h_putR hO cl_X5 4 rfl (ty := .object "GlassLaces$Rows") (by decide +kernel) (Or.inl ⟨_, rfl⟩) wf_X5_38 (Or.inr ⟨rfl, rfl, rfl⟩) d_X5_init_60 (fun S19 => ?_)
  refine g_aload_n hO d_X5_init_63 (by rfl) 0 rfl ?_
  refine h_new hO cl_X7 tyX7 tyX7_ok dv_X7 wcl_X5_29 wins_X7 wi_X7 (kn' := (19, 960)) rfl ⟨by decide, by decide⟩ d_X5_init_64 (fun v20 S21 => ?_)
  refine g_dup hO d_X5_init_67 rfl ?_
  refine g_bipush hO 30 d_X5_init_68 (by decide) ?_
  refine g_iconst hO 3 d_X5_init_70 (by decide) ?_
  refine k_init hO mm_X7_init lkI_X5_31 ⟨⟨by decide, by decide⟩, by decide +kernel, by decide +kernel⟩ (kn' := (20, 1050)) (by decide +kernel) (As := [vI 30, vI 3]) rfl (Nat.le_of_ble_eq_true rfl) (fun o' _ => t_X7_init Γ.2.1 E o' 30 3 S21) d_X5_init_71 rfl (fun S22 => ?_)
  refine h_putR hO cl_X5 5 rfl (ty := .object "GlassLaces$Rows") (by decide +kernel) (Or.inl ⟨_, rfl⟩) wf_X5_41 (Or.inr ⟨rfl, rfl, rfl⟩) d_X5_init_74 (fun S23 => ?_)
  refine g_aload_n hO d_X5_init_77 (by rfl) 0 rfl ?_
  refine h_new hO cl_X7 tyX7 tyX7_ok dv_X7 wcl_X5_29 wins_X7 wi_X7 (kn' := (21, 1054)) rfl ⟨by decide, by decide⟩ d_X5_init_78 (fun v24 S25 => ?_)
  refine g_dup hO d_X5_init_81 rfl ?_
  refine g_bipush hO 10 d_X5_init_82 (by decide) ?_
  refine g_iconst hO 2 d_X5_init_84 (by decide) ?_
  refine k_init hO mm_X7_init lkI_X5_31 ⟨⟨by decide, by decide⟩, by decide +kernel, by decide +kernel⟩ (kn' := (22, 1074)) (by decide +kernel) (As := [vI 10, vI 2]) rfl (Nat.le_of_ble_eq_true rfl) (fun o' _ => t_X7_init Γ.2.1 E o' 10 2 S25) d_X5_init_85 rfl (fun S26 => ?_)
  refine h_putR hO cl_X5 6 rfl (ty := .object "GlassLaces$Rows") (by decide +kernel) (Or.inl ⟨_, rfl⟩) wf_X5_44 (Or.inr ⟨rfl, rfl, rfl⟩) d_X5_init_88 (fun S27 => ?_)
  exact g_vret hO rfl ⟨Nat.le_of_ble_eq_true rfl, Nat.le_of_ble_eq_true rfl⟩ rfl rfl d_X5_init_91.1
theorem t_X5_init (l : Launch) (E : GE) (o : Nat) (S : GS) : ∀ a, f_X5_init o S = some a → Ct l E yX5_init cX5_init 1 none rm_X5_init [vA (some o)] S none a :=
  Ct_of (val := fun _ => none) (nxt := fun b => b) (by decide) (Nat.le_of_ble_eq_true rfl) (fun Γ hl hO => w_X5_init hO o S)
theorem d_X8_clear_0 : gD cX8_clear 0 (.aload_n 0) 1 1 := ⟨by decide +kernel, rfl⟩
theorem d_X8_clear_1 : gD cX8_clear 1 (.getfield 14) 3 4 := ⟨by decide +kernel, rfl⟩
theorem d_X8_clear_4 : gD cX8_clear 4 (.invokevirtual 23) 3 7 := ⟨by decide +kernel, rfl⟩
theorem d_X8_clear_7 : gD cX8_clear 7 (.aload_n 0) 1 8 := ⟨by decide +kernel, rfl⟩
theorem d_X8_clear_8 : gD cX8_clear 8 (.getfield 20) 3 11 := ⟨by decide +kernel, rfl⟩
theorem d_X8_clear_11 : gD cX8_clear 11 (.invokevirtual 23) 3 14 := ⟨by decide +kernel, rfl⟩
theorem d_X8_clear_14 : gD cX8_clear 14 (.return_) 1 15 := ⟨by decide +kernel, rfl⟩
abbrev rm_X8_clear : Room := { frames := 1, cells := 0, slots := 0, locals := 20 }
set_option maxRecDepth 20000 in
theorem w_X8_clear {Γ : GC} {E : GE} (hO : gOk Γ E cX8_clear RX8 1 rm_X8_clear none "clear") (o : Nat) (S : GS) : Go Γ E (gBsV Γ E) 1 (0, 0) 0 S [(0, vA (some o))] [] (f_X8_clear o S) := by
  unfold f_X8_clear
  refine g_aload_n hO d_X8_clear_0 (by rfl) 0 rfl ?_
  refine h_getR hO cl_X8 0 rfl wf_X8_14 d_X8_clear_1 (fun v1 => ?_)
  refine k_virtVs hO cl_X7 mm_X7_clear lkV_X8_23 ⟨⟨Nat.le_of_ble_eq_true rfl, Nat.le_of_ble_eq_true rfl⟩, Nat.le_of_ble_eq_true rfl, Nat.le_of_ble_eq_true rfl⟩ (kn' := (0, 0)) rfl (As := []) rfl (Nat.le_of_ble_eq_true rfl) (fun o' _ => t_X7_clear Γ.2.1 E o' S) d_X8_clear_4 rfl (fun S3 => ?_)
  refine g_aload_n hO d_X8_clear_7 (by rfl) 0 rfl ?_
  refine h_getR hO cl_X8 1 rfl wf_X8_20 d_X8_clear_8 (fun v4 => ?_)
  refine k_virtVs hO cl_X7 mm_X7_clear lkV_X8_23 ⟨⟨Nat.le_of_ble_eq_true rfl, Nat.le_of_ble_eq_true rfl⟩, Nat.le_of_ble_eq_true rfl, Nat.le_of_ble_eq_true rfl⟩ (kn' := (0, 0)) rfl (As := []) rfl (Nat.le_of_ble_eq_true rfl) (fun o' _ => t_X7_clear Γ.2.1 E o' S3) d_X8_clear_11 rfl (fun S6 => ?_)
  exact g_vret hO rfl ⟨Nat.le_of_ble_eq_true rfl, Nat.le_of_ble_eq_true rfl⟩ rfl rfl d_X8_clear_14.1
theorem t_X8_clear (l : Launch) (E : GE) (o : Nat) (S : GS) : ∀ a, f_X8_clear o S = some a → Ct l E yX8_clear cX8_clear 1 none rm_X8_clear [vA (some o)] S none a :=
  Ct_of (val := fun _ => none) (nxt := fun b => b) (by decide) (Nat.le_of_ble_eq_true rfl) (fun Γ hl hO => w_X8_clear hO o S)
theorem d_X5_byteAt_0 : gD cX5_byteAt 0 (.iload_n 1) 1 1 := ⟨by decide +kernel, rfl⟩
theorem d_X5_byteAt_1 : gD cX5_byteAt 1 (.ifCond .lt 24) 3 4 ∧ ((1 : Nat) : Int) + 24 = ((25 : Nat) : Int) := ⟨⟨by decide +kernel, rfl⟩, by decide⟩
theorem d_X5_byteAt_4 : gD cX5_byteAt 4 (.iload_n 1) 1 5 := ⟨by decide +kernel, rfl⟩
theorem d_X5_byteAt_5 : gD cX5_byteAt 5 (.aload_n 0) 1 6 := ⟨by decide +kernel, rfl⟩
theorem d_X5_byteAt_6 : gD cX5_byteAt 6 (.getfield 87) 3 9 := ⟨by decide +kernel, rfl⟩
theorem d_X5_byteAt_9 : gD cX5_byteAt 9 (.if_icmp .ge 16) 3 12 ∧ ((9 : Nat) : Int) + 16 = ((25 : Nat) : Int) := ⟨⟨by decide +kernel, rfl⟩, by decide⟩
theorem d_X5_byteAt_12 : gD cX5_byteAt 12 (.aload_n 0) 1 13 := ⟨by decide +kernel, rfl⟩
theorem d_X5_byteAt_13 : gD cX5_byteAt 13 (.getfield 9) 3 16 := ⟨by decide +kernel, rfl⟩
theorem d_X5_byteAt_16 : gD cX5_byteAt 16 (.iload_n 1) 1 17 := ⟨by decide +kernel, rfl⟩
theorem d_X5_byteAt_17 : gD cX5_byteAt 17 (.baload) 1 18 := ⟨by decide +kernel, rfl⟩
theorem d_X5_byteAt_18 : gD cX5_byteAt 18 (.sipush 255) 3 21 := ⟨by decide +kernel, rfl⟩
theorem d_X5_byteAt_21 : gD cX5_byteAt 21 (.iand) 1 22 := ⟨by decide +kernel, rfl⟩
theorem d_X5_byteAt_22 : decode cX5_byteAt 22 = .ok (.goto 4, 3) ∧ ((22 : Nat) : Int) + 4 = ((26 : Nat) : Int) := ⟨by decide +kernel, by decide⟩
theorem d_X5_byteAt_25 : gD cX5_byteAt 25 (.iconst 0) 1 26 := ⟨by decide +kernel, rfl⟩
theorem d_X5_byteAt_26 : gD cX5_byteAt 26 (.ireturn) 1 27 := ⟨by decide +kernel, rfl⟩
abbrev rm_X5_byteAt : Room := { frames := 0, cells := 0, slots := 0, locals := 0 }
set_option maxRecDepth 20000 in
theorem w_X5_byteAt {Γ : GC} {E : GE} (hO : gOk Γ E cX5_byteAt RX5 2 rm_X5_byteAt (some .int) "byteAt") (o : Nat) (x1 : Int32) (S : GS) : Go Γ E (gBpI Γ E S) 2 (0, 0) 0 S [(0, vA (some o)), (1, vI x1)] [] (f_X5_byteAt o x1 S) := by
  unfold f_X5_byteAt
  refine g_iload_n hO d_X5_byteAt_0 (by rfl) 1 rfl ?_
  refine g_if_lt (tgt := 25) hO d_X5_byteAt_1.1 d_X5_byteAt_1.2 (fun _ => ?_) (fun _ => ?_)
  · skip
    refine g_iconst hO 0 d_X5_byteAt_25 (by decide) ?_
    exact g_ret hO rfl rfl ⟨Nat.le_of_ble_eq_true rfl, Nat.le_of_ble_eq_true rfl⟩ rfl rfl d_X5_byteAt_26.1
  · skip
    refine g_iload_n hO d_X5_byteAt_4 (by rfl) 1 rfl ?_
    refine g_aload_n hO d_X5_byteAt_5 (by rfl) 0 rfl ?_
    refine h_getI hO cl_X5 7 rfl wf_X5_87 d_X5_byteAt_6 (fun v1 => ?_)
    refine g_ic_ge (tgt := 25) hO d_X5_byteAt_9.1 d_X5_byteAt_9.2 (fun _ => ?_) (fun _ => ?_)
    · skip
      refine g_iconst hO 0 d_X5_byteAt_25 (by decide) ?_
      exact g_ret hO rfl rfl ⟨Nat.le_of_ble_eq_true rfl, Nat.le_of_ble_eq_true rfl⟩ rfl rfl d_X5_byteAt_26.1
    · skip
      refine g_aload_n hO d_X5_byteAt_12 (by rfl) 0 rfl ?_
      refine h_getR hO cl_X5 0 rfl wf_X5_9 d_X5_byteAt_13 (fun v2 => ?_)
      refine g_iload_n hO d_X5_byteAt_16 (by rfl) 1 rfl ?_
      refine h_bald hO d_X5_byteAt_17 (fun v3 => ?_)
      refine g_sipush hO 255 d_X5_byteAt_18 (by decide) ?_
      refine g_iand hO d_X5_byteAt_21 ?_
      refine g_goto (tgt := 26) hO d_X5_byteAt_22.1 d_X5_byteAt_22.2 ?_
      exact g_ret hO rfl rfl ⟨Nat.le_of_ble_eq_true rfl, Nat.le_of_ble_eq_true rfl⟩ rfl rfl d_X5_byteAt_26.1
theorem t_X5_byteAt (l : Launch) (E : GE) (o : Nat) (x1 : Int32) (S : GS) : ∀ a, f_X5_byteAt o x1 S = some a → Ct l E yX5_byteAt cX5_byteAt 2 (some .int) rm_X5_byteAt [vA (some o), vI x1] S (some (vI a)) S :=
  Ct_of (val := fun b => some (vI b)) (nxt := fun _ => S) (by decide) (Nat.le_of_ble_eq_true rfl) (fun Γ hl hO => w_X5_byteAt hO o x1 S)
theorem d_X5_isBlank_0 : gD cX5_isBlank 0 (.iload_n 0) 1 1 := ⟨by decide +kernel, rfl⟩
theorem d_X5_isBlank_1 : gD cX5_isBlank 1 (.bipush 10) 2 3 := ⟨by decide +kernel, rfl⟩
theorem d_X5_isBlank_3 : gD cX5_isBlank 3 (.if_icmp .eq 9) 3 6 ∧ ((3 : Nat) : Int) + 9 = ((12 : Nat) : Int) := ⟨⟨by decide +kernel, rfl⟩, by decide⟩
theorem d_X5_isBlank_6 : gD cX5_isBlank 6 (.iload_n 0) 1 7 := ⟨by decide +kernel, rfl⟩
theorem d_X5_isBlank_7 : gD cX5_isBlank 7 (.bipush 32) 2 9 := ⟨by decide +kernel, rfl⟩
theorem d_X5_isBlank_9 : gD cX5_isBlank 9 (.if_icmp .ne 7) 3 12 ∧ ((9 : Nat) : Int) + 7 = ((16 : Nat) : Int) := ⟨⟨by decide +kernel, rfl⟩, by decide⟩
theorem d_X5_isBlank_12 : gD cX5_isBlank 12 (.iconst 1) 1 13 := ⟨by decide +kernel, rfl⟩
theorem d_X5_isBlank_13 : decode cX5_isBlank 13 = .ok (.goto 4, 3) ∧ ((13 : Nat) : Int) + 4 = ((17 : Nat) : Int) := ⟨by decide +kernel, by decide⟩
theorem d_X5_isBlank_16 : gD cX5_isBlank 16 (.iconst 0) 1 17 := ⟨by decide +kernel, rfl⟩
theorem d_X5_isBlank_17 : gD cX5_isBlank 17 (.ireturn) 1 18 := ⟨by decide +kernel, rfl⟩
abbrev rm_X5_isBlank : Room := { frames := 0, cells := 0, slots := 0, locals := 0 }
set_option maxRecDepth 20000 in
theorem w_X5_isBlank_12 {Γ : GC} {E : GE} (hO : gOk Γ E cX5_isBlank RX5 1 rm_X5_isBlank (some .boolean) "isBlank") (S : GS) : Go Γ E (gBpI Γ E S) 1 (0, 0) 12 S [] [] (f_X5_isBlank_12 S) := by
  unfold f_X5_isBlank_12
  refine g_iconst hO 1 d_X5_isBlank_12 (by decide) ?_
  refine g_goto (tgt := 17) hO d_X5_isBlank_13.1 d_X5_isBlank_13.2 ?_
  exact g_ret hO rfl rfl ⟨Nat.le_of_ble_eq_true rfl, Nat.le_of_ble_eq_true rfl⟩ rfl rfl d_X5_isBlank_17.1
set_option maxRecDepth 20000 in
theorem w_X5_isBlank {Γ : GC} {E : GE} (hO : gOk Γ E cX5_isBlank RX5 1 rm_X5_isBlank (some .boolean) "isBlank") (x0 : Int32) (S : GS) : Go Γ E (gBpI Γ E S) 1 (0, 0) 0 S [(0, vI x0)] [] (f_X5_isBlank x0 S) := by
  unfold f_X5_isBlank
  refine g_iload_n hO d_X5_isBlank_0 (by rfl) 0 rfl ?_
  refine g_bipush hO 10 d_X5_isBlank_1 (by decide) ?_
  refine g_ic_eq (tgt := 12) hO d_X5_isBlank_3.1 d_X5_isBlank_3.2 (fun _ => ?_) (fun _ => ?_)
  · skip
    exact g_sub [] rfl (w_X5_isBlank_12 hO _)
  · skip
    refine g_iload_n hO d_X5_isBlank_6 (by rfl) 0 rfl ?_
    refine g_bipush hO 32 d_X5_isBlank_7 (by decide) ?_
    refine g_ic_ne (tgt := 16) hO d_X5_isBlank_9.1 d_X5_isBlank_9.2 (fun _ => ?_) (fun _ => ?_)
    · skip
      exact g_sub [] rfl (w_X5_isBlank_12 hO _)
    · skip
      refine g_iconst hO 0 d_X5_isBlank_16 (by decide) ?_
      exact g_ret hO rfl rfl ⟨Nat.le_of_ble_eq_true rfl, Nat.le_of_ble_eq_true rfl⟩ rfl rfl d_X5_isBlank_17.1
theorem t_X5_isBlank (l : Launch) (E : GE) (x0 : Int32) (S : GS) : ∀ a, f_X5_isBlank x0 S = some a → Ct l E yX5_isBlank cX5_isBlank 1 (some .boolean) rm_X5_isBlank [vI x0] S (some (vI a)) S :=
  Ct_of (val := fun b => some (vI b)) (nxt := fun _ => S) (by decide) (Nat.le_of_ble_eq_true rfl) (fun Γ hl hO => w_X5_isBlank hO x0 S)
theorem d_X5_isLetter_0 : gD cX5_isLetter 0 (.iload_n 0) 1 1 := ⟨by decide +kernel, rfl⟩
theorem d_X5_isLetter_1 : gD cX5_isLetter 1 (.bipush 97) 2 3 := ⟨by decide +kernel, rfl⟩
theorem d_X5_isLetter_3 : gD cX5_isLetter 3 (.if_icmp .lt 13) 3 6 ∧ ((3 : Nat) : Int) + 13 = ((16 : Nat) : Int) := ⟨⟨by decide +kernel, rfl⟩, by decide⟩
theorem d_X5_isLetter_6 : gD cX5_isLetter 6 (.iload_n 0) 1 7 := ⟨by decide +kernel, rfl⟩
theorem d_X5_isLetter_7 : gD cX5_isLetter 7 (.bipush 122) 2 9 := ⟨by decide +kernel, rfl⟩
theorem d_X5_isLetter_9 : gD cX5_isLetter 9 (.if_icmp .gt 7) 3 12 ∧ ((9 : Nat) : Int) + 7 = ((16 : Nat) : Int) := ⟨⟨by decide +kernel, rfl⟩, by decide⟩
theorem d_X5_isLetter_12 : gD cX5_isLetter 12 (.iconst 1) 1 13 := ⟨by decide +kernel, rfl⟩
theorem d_X5_isLetter_13 : decode cX5_isLetter 13 = .ok (.goto 4, 3) ∧ ((13 : Nat) : Int) + 4 = ((17 : Nat) : Int) := ⟨by decide +kernel, by decide⟩
theorem d_X5_isLetter_16 : gD cX5_isLetter 16 (.iconst 0) 1 17 := ⟨by decide +kernel, rfl⟩
theorem d_X5_isLetter_17 : gD cX5_isLetter 17 (.ireturn) 1 18 := ⟨by decide +kernel, rfl⟩
abbrev rm_X5_isLetter : Room := { frames := 0, cells := 0, slots := 0, locals := 0 }
set_option maxRecDepth 20000 in
theorem w_X5_isLetter {Γ : GC} {E : GE} (hO : gOk Γ E cX5_isLetter RX5 1 rm_X5_isLetter (some .boolean) "isLetter") (x0 : Int32) (S : GS) : Go Γ E (gBpI Γ E S) 1 (0, 0) 0 S [(0, vI x0)] [] (f_X5_isLetter x0 S) := by
  unfold f_X5_isLetter
  refine g_iload_n hO d_X5_isLetter_0 (by rfl) 0 rfl ?_
  refine g_bipush hO 97 d_X5_isLetter_1 (by decide) ?_
  refine g_ic_lt (tgt := 16) hO d_X5_isLetter_3.1 d_X5_isLetter_3.2 (fun _ => ?_) (fun _ => ?_)
  · skip
    refine g_iconst hO 0 d_X5_isLetter_16 (by decide) ?_
    exact g_ret hO rfl rfl ⟨Nat.le_of_ble_eq_true rfl, Nat.le_of_ble_eq_true rfl⟩ rfl rfl d_X5_isLetter_17.1
  · skip
    refine g_iload_n hO d_X5_isLetter_6 (by rfl) 0 rfl ?_
    refine g_bipush hO 122 d_X5_isLetter_7 (by decide) ?_
    refine g_ic_gt (tgt := 16) hO d_X5_isLetter_9.1 d_X5_isLetter_9.2 (fun _ => ?_) (fun _ => ?_)
    · skip
      refine g_iconst hO 0 d_X5_isLetter_16 (by decide) ?_
      exact g_ret hO rfl rfl ⟨Nat.le_of_ble_eq_true rfl, Nat.le_of_ble_eq_true rfl⟩ rfl rfl d_X5_isLetter_17.1
    · skip
      refine g_iconst hO 1 d_X5_isLetter_12 (by decide) ?_
      refine g_goto (tgt := 17) hO d_X5_isLetter_13.1 d_X5_isLetter_13.2 ?_
      exact g_ret hO rfl rfl ⟨Nat.le_of_ble_eq_true rfl, Nat.le_of_ble_eq_true rfl⟩ rfl rfl d_X5_isLetter_17.1
theorem t_X5_isLetter (l : Launch) (E : GE) (x0 : Int32) (S : GS) : ∀ a, f_X5_isLetter x0 S = some a → Ct l E yX5_isLetter cX5_isLetter 1 (some .boolean) rm_X5_isLetter [vI x0] S (some (vI a)) S :=
  Ct_of (val := fun b => some (vI b)) (nxt := fun _ => S) (by decide) (Nat.le_of_ble_eq_true rfl) (fun Γ hl hO => w_X5_isLetter hO x0 S)
theorem d_X5_isDigit_0 : gD cX5_isDigit 0 (.iload_n 0) 1 1 := ⟨by decide +kernel, rfl⟩
theorem d_X5_isDigit_1 : gD cX5_isDigit 1 (.bipush 48) 2 3 := ⟨by decide +kernel, rfl⟩
theorem d_X5_isDigit_3 : gD cX5_isDigit 3 (.if_icmp .lt 13) 3 6 ∧ ((3 : Nat) : Int) + 13 = ((16 : Nat) : Int) := ⟨⟨by decide +kernel, rfl⟩, by decide⟩
theorem d_X5_isDigit_6 : gD cX5_isDigit 6 (.iload_n 0) 1 7 := ⟨by decide +kernel, rfl⟩
theorem d_X5_isDigit_7 : gD cX5_isDigit 7 (.bipush 57) 2 9 := ⟨by decide +kernel, rfl⟩
theorem d_X5_isDigit_9 : gD cX5_isDigit 9 (.if_icmp .gt 7) 3 12 ∧ ((9 : Nat) : Int) + 7 = ((16 : Nat) : Int) := ⟨⟨by decide +kernel, rfl⟩, by decide⟩
theorem d_X5_isDigit_12 : gD cX5_isDigit 12 (.iconst 1) 1 13 := ⟨by decide +kernel, rfl⟩
theorem d_X5_isDigit_13 : decode cX5_isDigit 13 = .ok (.goto 4, 3) ∧ ((13 : Nat) : Int) + 4 = ((17 : Nat) : Int) := ⟨by decide +kernel, by decide⟩
theorem d_X5_isDigit_16 : gD cX5_isDigit 16 (.iconst 0) 1 17 := ⟨by decide +kernel, rfl⟩
theorem d_X5_isDigit_17 : gD cX5_isDigit 17 (.ireturn) 1 18 := ⟨by decide +kernel, rfl⟩
abbrev rm_X5_isDigit : Room := { frames := 0, cells := 0, slots := 0, locals := 0 }
set_option maxRecDepth 20000 in
theorem w_X5_isDigit {Γ : GC} {E : GE} (hO : gOk Γ E cX5_isDigit RX5 1 rm_X5_isDigit (some .boolean) "isDigit") (x0 : Int32) (S : GS) : Go Γ E (gBpI Γ E S) 1 (0, 0) 0 S [(0, vI x0)] [] (f_X5_isDigit x0 S) := by
  unfold f_X5_isDigit
  refine g_iload_n hO d_X5_isDigit_0 (by rfl) 0 rfl ?_
  refine g_bipush hO 48 d_X5_isDigit_1 (by decide) ?_
  refine g_ic_lt (tgt := 16) hO d_X5_isDigit_3.1 d_X5_isDigit_3.2 (fun _ => ?_) (fun _ => ?_)
  · skip
    refine g_iconst hO 0 d_X5_isDigit_16 (by decide) ?_
    exact g_ret hO rfl rfl ⟨Nat.le_of_ble_eq_true rfl, Nat.le_of_ble_eq_true rfl⟩ rfl rfl d_X5_isDigit_17.1
  · skip
    refine g_iload_n hO d_X5_isDigit_6 (by rfl) 0 rfl ?_
    refine g_bipush hO 57 d_X5_isDigit_7 (by decide) ?_
    refine g_ic_gt (tgt := 16) hO d_X5_isDigit_9.1 d_X5_isDigit_9.2 (fun _ => ?_) (fun _ => ?_)
    · skip
      refine g_iconst hO 0 d_X5_isDigit_16 (by decide) ?_
      exact g_ret hO rfl rfl ⟨Nat.le_of_ble_eq_true rfl, Nat.le_of_ble_eq_true rfl⟩ rfl rfl d_X5_isDigit_17.1
    · skip
      refine g_iconst hO 1 d_X5_isDigit_12 (by decide) ?_
      refine g_goto (tgt := 17) hO d_X5_isDigit_13.1 d_X5_isDigit_13.2 ?_
      exact g_ret hO rfl rfl ⟨Nat.le_of_ble_eq_true rfl, Nat.le_of_ble_eq_true rfl⟩ rfl rfl d_X5_isDigit_17.1
theorem t_X5_isDigit (l : Launch) (E : GE) (x0 : Int32) (S : GS) : ∀ a, f_X5_isDigit x0 S = some a → Ct l E yX5_isDigit cX5_isDigit 1 (some .boolean) rm_X5_isDigit [vI x0] S (some (vI a)) S :=
  Ct_of (val := fun b => some (vI b)) (nxt := fun _ => S) (by decide) (Nat.le_of_ble_eq_true rfl) (fun Γ hl hO => w_X5_isDigit hO x0 S)
