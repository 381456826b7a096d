theorem d_X5_closeLine_0 : gD cX5_closeLine 0 (.aload_n 0) 1 1 := ⟨by decide +kernel, rfl⟩
theorem d_X5_closeLine_1 : gD cX5_closeLine 1 (.getfield 51) 3 4 := ⟨by decide +kernel, rfl⟩
theorem d_X5_closeLine_4 : gD cX5_closeLine 4 (.iconst 3) 1 5 := ⟨by decide +kernel, rfl⟩
theorem d_X5_closeLine_5 : gD cX5_closeLine 5 (.if_icmp .ne 10) 3 8 ∧ ((5 : Nat) : Int) + 10 = ((15 : Nat) : Int) := ⟨⟨by decide +kernel, rfl⟩, by decide⟩
theorem d_X5_closeLine_8 : gD cX5_closeLine 8 (.aload_n 0) 1 9 := ⟨by decide +kernel, rfl⟩
theorem d_X5_closeLine_9 : gD cX5_closeLine 9 (.invokevirtual 126) 3 12 := ⟨by decide +kernel, rfl⟩
theorem d_X5_closeLine_12 : decode cX5_closeLine 12 = .ok (.goto 7, 3) ∧ ((12 : Nat) : Int) + 7 = ((19 : Nat) : Int) := ⟨by decide +kernel, by decide⟩
theorem d_X5_closeLine_15 : gD cX5_closeLine 15 (.aload_n 0) 1 16 := ⟨by decide +kernel, rfl⟩
theorem d_X5_closeLine_16 : gD cX5_closeLine 16 (.invokevirtual 191) 3 19 := ⟨by decide +kernel, rfl⟩
theorem d_X5_closeLine_19 : gD cX5_closeLine 19 (.return_) 1 20 := ⟨by decide +kernel, rfl⟩
abbrev rm_X5_closeLine : Room := { frames := 2, cells := 0, slots := 0, locals := 42 }
set_option maxRecDepth 20000 in
theorem w_X5_closeLine {Γ : GC} {E : GE} (hO : gOk Γ E cX5_closeLine RX5 1 rm_X5_closeLine none "closeLine") (o : Nat) (S : GS) : Go Γ E (gBsV Γ E) 1 (0, 0) 0 S [(0, vA (some o))] [] (f_X5_closeLine o S) := by
  unfold f_X5_closeLine
  refine g_aload_n hO d_X5_closeLine_0 (by rfl) 0 rfl ?_
  refine h_getI hO cl_X5 8 rfl wf_X5_51 d_X5_closeLine_1 (fun v1 => ?_)
  refine g_iconst hO 3 d_X5_closeLine_4 (by decide) ?_
  refine g_ic_ne (tgt := 15) hO d_X5_closeLine_5.1 d_X5_closeLine_5.2 (fun _ => ?_) (fun _ => ?_)
  · skip
    refine g_aload_n hO d_X5_closeLine_8 (by rfl) 0 rfl ?_
    refine k_virtVs hO cl_X5 mm_X5_nextToken lkV_X5_126 ⟨⟨Nat.le_of_ble_eq_true rfl, Nat.le_of_ble_eq_true rfl⟩, Nat.le_of_ble_eq_true rfl, Nat.le_of_ble_eq_true rfl⟩ (kn' := (0, 0)) rfl (As := []) rfl (Nat.le_of_ble_eq_true rfl) (fun o' _ => t_X5_nextToken Γ.2.1 E o' S) d_X5_closeLine_9 rfl (fun S3 => ?_)
    refine g_goto (tgt := 19) hO d_X5_closeLine_12.1 d_X5_closeLine_12.2 ?_
    exact g_vret hO rfl ⟨Nat.le_of_ble_eq_true rfl, Nat.le_of_ble_eq_true rfl⟩ rfl rfl d_X5_closeLine_19.1
  · skip
    refine g_aload_n hO d_X5_closeLine_15 (by rfl) 0 rfl ?_
    refine k_virtVs hO cl_X5 mm_X5_breakHere lkV_X5_191 ⟨⟨Nat.le_of_ble_eq_true rfl, Nat.le_of_ble_eq_true rfl⟩, Nat.le_of_ble_eq_true rfl, Nat.le_of_ble_eq_true rfl⟩ (kn' := (0, 0)) rfl (As := []) rfl (Nat.le_of_ble_eq_true rfl) (fun o' _ => t_X5_breakHere Γ.2.1 E o' S) d_X5_closeLine_16 rfl (fun S5 => ?_)
    exact g_vret hO rfl ⟨Nat.le_of_ble_eq_true rfl, Nat.le_of_ble_eq_true rfl⟩ rfl rfl d_X5_closeLine_19.1
theorem t_X5_closeLine (l : Launch) (E : GE) (o : Nat) (S : GS) : ∀ a, f_X5_closeLine o S = some a → Ct l E yX5_closeLine cX5_closeLine 1 none rm_X5_closeLine [vA (some o)] S none a :=
  Ct_of (val := fun _ => none) (nxt := fun b => b) (by decide) (Nat.le_of_ble_eq_true rfl) (fun Γ hl hO => w_X5_closeLine hO o S)
theorem d_X5_readAll_0 : gD cX5_readAll 0 (.aload_n 0) 1 1 := ⟨by decide +kernel, rfl⟩
theorem d_X5_readAll_1 : gD cX5_readAll 1 (.aload_n 2) 1 2 := ⟨by decide +kernel, rfl⟩
theorem d_X5_readAll_2 : gD cX5_readAll 2 (.invokevirtual 47) 3 5 := ⟨by decide +kernel, rfl⟩
theorem d_X5_readAll_5 : gD cX5_readAll 5 (.iconst 0) 1 6 := ⟨by decide +kernel, rfl⟩
theorem d_X5_readAll_6 : gD cX5_readAll 6 (.istore_n 3) 1 7 := ⟨by decide +kernel, rfl⟩
theorem d_X5_readAll_7 : gD cX5_readAll 7 (.iload_n 3) 1 8 := ⟨by decide +kernel, rfl⟩
theorem d_X5_readAll_8 : gD cX5_readAll 8 (.sipush 600) 3 11 := ⟨by decide +kernel, rfl⟩
theorem d_X5_readAll_11 : gD cX5_readAll 11 (.if_icmp .ge 102) 3 14 ∧ ((11 : Nat) : Int) + 102 = ((113 : Nat) : Int) := ⟨⟨by decide +kernel, rfl⟩, by decide⟩
theorem d_X5_readAll_14 : gD cX5_readAll 14 (.aload_n 0) 1 15 := ⟨by decide +kernel, rfl⟩
theorem d_X5_readAll_15 : gD cX5_readAll 15 (.getfield 51) 3 18 := ⟨by decide +kernel, rfl⟩
theorem d_X5_readAll_18 : gD cX5_readAll 18 (.ifCond .eq 95) 3 21 ∧ ((18 : Nat) : Int) + 95 = ((113 : Nat) : Int) := ⟨⟨by decide +kernel, rfl⟩, by decide⟩
theorem d_X5_readAll_21 : gD cX5_readAll 21 (.aload_n 0) 1 22 := ⟨by decide +kernel, rfl⟩
theorem d_X5_readAll_22 : gD cX5_readAll 22 (.invokevirtual 55) 3 25 := ⟨by decide +kernel, rfl⟩
theorem d_X5_readAll_25 : gD cX5_readAll 25 (.ifCond .ne 88) 3 28 ∧ ((25 : Nat) : Int) + 88 = ((113 : Nat) : Int) := ⟨⟨by decide +kernel, rfl⟩, by decide⟩
theorem d_X5_readAll_28 : gD cX5_readAll 28 (.iload_n 1) 1 29 := ⟨by decide +kernel, rfl⟩
theorem d_X5_readAll_29 : decode cX5_readAll 29 = .ok (.tableswitch 70 0 4 #[35, 42, 49, 56, 63], 35) ∧ ((29 : Nat) : Int) + 70 = ((99 : Nat) : Int) := ⟨by decide +kernel, by decide⟩
theorem d_X5_readAll_64 : gD cX5_readAll 64 (.aload_n 0) 1 65 := ⟨by decide +kernel, rfl⟩
theorem d_X5_readAll_65 : gD cX5_readAll 65 (.invokevirtual 59) 3 68 := ⟨by decide +kernel, rfl⟩
theorem d_X5_readAll_68 : decode cX5_readAll 68 = .ok (.goto 35, 3) ∧ ((68 : Nat) : Int) + 35 = ((103 : Nat) : Int) := ⟨by decide +kernel, by decide⟩
theorem d_X5_readAll_71 : gD cX5_readAll 71 (.aload_n 0) 1 72 := ⟨by decide +kernel, rfl⟩
theorem d_X5_readAll_72 : gD cX5_readAll 72 (.invokevirtual 62) 3 75 := ⟨by decide +kernel, rfl⟩
theorem d_X5_readAll_75 : decode cX5_readAll 75 = .ok (.goto 28, 3) ∧ ((75 : Nat) : Int) + 28 = ((103 : Nat) : Int) := ⟨by decide +kernel, by decide⟩
theorem d_X5_readAll_78 : gD cX5_readAll 78 (.aload_n 0) 1 79 := ⟨by decide +kernel, rfl⟩
theorem d_X5_readAll_79 : gD cX5_readAll 79 (.invokevirtual 65) 3 82 := ⟨by decide +kernel, rfl⟩
theorem d_X5_readAll_82 : decode cX5_readAll 82 = .ok (.goto 21, 3) ∧ ((82 : Nat) : Int) + 21 = ((103 : Nat) : Int) := ⟨by decide +kernel, by decide⟩
theorem d_X5_readAll_85 : gD cX5_readAll 85 (.aload_n 0) 1 86 := ⟨by decide +kernel, rfl⟩
theorem d_X5_readAll_86 : gD cX5_readAll 86 (.invokevirtual 68) 3 89 := ⟨by decide +kernel, rfl⟩
theorem d_X5_readAll_89 : decode cX5_readAll 89 = .ok (.goto 14, 3) ∧ ((89 : Nat) : Int) + 14 = ((103 : Nat) : Int) := ⟨by decide +kernel, by decide⟩
theorem d_X5_readAll_92 : gD cX5_readAll 92 (.aload_n 0) 1 93 := ⟨by decide +kernel, rfl⟩
theorem d_X5_readAll_93 : gD cX5_readAll 93 (.invokevirtual 71) 3 96 := ⟨by decide +kernel, rfl⟩
theorem d_X5_readAll_96 : decode cX5_readAll 96 = .ok (.goto 7, 3) ∧ ((96 : Nat) : Int) + 7 = ((103 : Nat) : Int) := ⟨by decide +kernel, by decide⟩
theorem d_X5_readAll_99 : gD cX5_readAll 99 (.aload_n 0) 1 100 := ⟨by decide +kernel, rfl⟩
theorem d_X5_readAll_100 : gD cX5_readAll 100 (.invokevirtual 74) 3 103 := ⟨by decide +kernel, rfl⟩
theorem d_X5_readAll_103 : gD cX5_readAll 103 (.aload_n 0) 1 104 := ⟨by decide +kernel, rfl⟩
theorem d_X5_readAll_104 : gD cX5_readAll 104 (.invokevirtual 77) 3 107 := ⟨by decide +kernel, rfl⟩
theorem d_X5_readAll_107 : gD cX5_readAll 107 (.iinc 3 1) 3 110 := ⟨by decide +kernel, rfl⟩
theorem d_X5_readAll_110 : decode cX5_readAll 110 = .ok (.goto (-103), 3) ∧ ((110 : Nat) : Int) + (-103) = ((7 : Nat) : Int) := ⟨by decide +kernel, by decide⟩
theorem d_X5_readAll_113 : gD cX5_readAll 113 (.iload_n 1) 1 114 := ⟨by decide +kernel, rfl⟩
theorem d_X5_readAll_114 : gD cX5_readAll 114 (.ifCond .ne 32) 3 117 ∧ ((114 : Nat) : Int) + 32 = ((146 : Nat) : Int) := ⟨⟨by decide +kernel, rfl⟩, by decide⟩
theorem d_X5_readAll_117 : gD cX5_readAll 117 (.aload_n 0) 1 118 := ⟨by decide +kernel, rfl⟩
theorem d_X5_readAll_118 : gD cX5_readAll 118 (.getfield 18) 3 121 := ⟨by decide +kernel, rfl⟩
theorem d_X5_readAll_121 : gD cX5_readAll 121 (.invokevirtual 80) 3 124 := ⟨by decide +kernel, rfl⟩
theorem d_X5_readAll_124 : gD cX5_readAll 124 (.ifCond .eq 13) 3 127 ∧ ((124 : Nat) : Int) + 13 = ((137 : Nat) : Int) := ⟨⟨by decide +kernel, rfl⟩, by decide⟩
theorem d_X5_readAll_127 : gD cX5_readAll 127 (.aload_n 0) 1 128 := ⟨by decide +kernel, rfl⟩
theorem d_X5_readAll_128 : gD cX5_readAll 128 (.getfield 18) 3 131 := ⟨by decide +kernel, rfl⟩
theorem d_X5_readAll_131 : gD cX5_readAll 131 (.invokevirtual 83) 3 134 := ⟨by decide +kernel, rfl⟩
theorem d_X5_readAll_134 : gD cX5_readAll 134 (.ifCond .ne 12) 3 137 ∧ ((134 : Nat) : Int) + 12 = ((146 : Nat) : Int) := ⟨⟨by decide +kernel, rfl⟩, by decide⟩
theorem d_X5_readAll_137 : gD cX5_readAll 137 (.aload_n 0) 1 138 := ⟨by decide +kernel, rfl⟩
theorem d_X5_readAll_138 : gD cX5_readAll 138 (.iconst 4) 1 139 := ⟨by decide +kernel, rfl⟩
theorem d_X5_readAll_139 : gD cX5_readAll 139 (.aload_n 0) 1 140 := ⟨by decide +kernel, rfl⟩
theorem d_X5_readAll_140 : gD cX5_readAll 140 (.getfield 87) 3 143 := ⟨by decide +kernel, rfl⟩
theorem d_X5_readAll_143 : gD cX5_readAll 143 (.invokevirtual 90) 3 146 := ⟨by decide +kernel, rfl⟩
theorem d_X5_readAll_146 : gD cX5_readAll 146 (.return_) 1 147 := ⟨by decide +kernel, rfl⟩
abbrev rm_X5_readAll : Room := { frames := 7, cells := 0, slots := 0, locals := 148 }
set_option maxRecDepth 20000 in
theorem w_X5_readAll_103 {Γ : GC} {E : GE} (hO : gOk Γ E cX5_readAll RX5 4 rm_X5_readAll none "readAll") (o : Nat) {k7 : (Int32 → Int32 → GS → Option GS)} (hk7 : ∀ (z1 : Int32) (z3 : Int32) (S1 : GS), Go Γ E (gBsV Γ E) 4 (0, 0) 7 S1 [(0, vA (some o)), (1, vI z1), (3, vI z3)] [] (k7 z1 z3 S1)) (x1 : Int32) (x3 : Int32) (S : GS) : Go Γ E (gBsV Γ E) 4 (0, 0) 103 S [(0, vA (some o)), (1, vI x1), (3, vI x3)] [] (f_X5_readAll_103 k7 o x1 x3 S) := by
  unfold f_X5_readAll_103
  refine g_aload_n hO d_X5_readAll_103 (by rfl) 0 rfl ?_
  refine k_virtVs hO cl_X5 mm_X5_closeLine lkV_X5_77 ⟨⟨Nat.le_of_ble_eq_true rfl, Nat.le_of_ble_eq_true rfl⟩, Nat.le_of_ble_eq_true rfl, Nat.le_of_ble_eq_true rfl⟩ (kn' := (0, 0)) rfl (As := []) rfl (Nat.le_of_ble_eq_true rfl) (fun o' _ => t_X5_closeLine Γ.2.1 E o' S) d_X5_readAll_104 rfl (fun S2 => ?_)
  refine g_iinc (lv' := [(3, vI (x3 + 1)), (0, vA (some o)), (1, vI x1)]) hO 1 d_X5_readAll_107 (by decide) 2 rfl (by decide) rfl ?_
  refine g_goto (tgt := 7) hO d_X5_readAll_110.1 d_X5_readAll_110.2 ?_
  exact g_sub [1, 2, 0] rfl (hk7 _ _ _)
set_option maxRecDepth 20000 in
theorem w_X5_readAll_137 {Γ : GC} {E : GE} (hO : gOk Γ E cX5_readAll RX5 4 rm_X5_readAll none "readAll") (o : Nat) (S : GS) : Go Γ E (gBsV Γ E) 4 (0, 0) 137 S [(0, vA (some o))] [] (f_X5_readAll_137 o S) := by
  unfold f_X5_readAll_137
  refine g_aload_n hO d_X5_readAll_137 (by rfl) 0 rfl ?_
  refine g_iconst hO 4 d_X5_readAll_138 (by decide) ?_
  refine g_aload_n hO d_X5_readAll_139 (by rfl) 0 rfl ?_
  refine h_getI hO cl_X5 7 rfl wf_X5_87 d_X5_readAll_140 (fun v1 => ?_)
  refine k_virtVs hO cl_X5 mm_X5_noteFault lkV_X5_90 ⟨⟨Nat.le_of_ble_eq_true rfl, Nat.le_of_ble_eq_true rfl⟩, Nat.le_of_ble_eq_true rfl, Nat.le_of_ble_eq_true rfl⟩ (kn' := (0, 0)) rfl (As := [vI 4, vI v1]) rfl (Nat.le_of_ble_eq_true rfl) (fun o' _ => t_X5_noteFault Γ.2.1 E o' 4 v1 S) d_X5_readAll_143 rfl (fun S3 => ?_)
  exact g_vret hO rfl ⟨Nat.le_of_ble_eq_true rfl, Nat.le_of_ble_eq_true rfl⟩ rfl rfl d_X5_readAll_146.1
set_option maxRecDepth 20000 in
theorem w_X5_readAll_113 {Γ : GC} {E : GE} (hO : gOk Γ E cX5_readAll RX5 4 rm_X5_readAll none "readAll") (o : Nat) (x1 : Int32) (S : GS) : Go Γ E (gBsV Γ E) 4 (0, 0) 113 S [(0, vA (some o)), (1, vI x1)] [] (f_X5_readAll_113 o x1 S) := by
  unfold f_X5_readAll_113
  refine g_iload_n hO d_X5_readAll_113 (by rfl) 1 rfl ?_
  refine g_if_ne (tgt := 146) hO d_X5_readAll_114.1 d_X5_readAll_114.2 (fun _ => ?_) (fun _ => ?_)
  · skip
    refine g_aload_n hO d_X5_readAll_117 (by rfl) 0 rfl ?_
    refine h_getR hO cl_X5 1 rfl wf_X5_18 d_X5_readAll_118 (fun v1 => ?_)
    refine k_virtIp hO cl_X0 mm_X0_roomsOfAllAreThere lkV_X5_80 ⟨⟨Nat.le_of_ble_eq_true rfl, Nat.le_of_ble_eq_true rfl⟩, Nat.le_of_ble_eq_true rfl, Nat.le_of_ble_eq_true rfl⟩ (kn' := (0, 0)) rfl (As := []) rfl (Nat.le_of_ble_eq_true rfl) (fun o' _ => t_X0_roomsOfAllAreThere Γ.2.1 E o' S) d_X5_readAll_121 rfl (fun v2 => ?_)
    refine g_if_eq (tgt := 137) hO d_X5_readAll_124.1 d_X5_readAll_124.2 (fun _ => ?_) (fun _ => ?_)
    · skip
      exact g_sub [0] rfl (w_X5_readAll_137 hO o _)
    · skip
      refine g_aload_n hO d_X5_readAll_127 (by rfl) 0 rfl ?_
      refine h_getR hO cl_X5 1 rfl wf_X5_18 d_X5_readAll_128 (fun v4 => ?_)
      refine k_virtIp hO cl_X0 mm_X0_allWeights lkV_X5_83 ⟨⟨Nat.le_of_ble_eq_true rfl, Nat.le_of_ble_eq_true rfl⟩, Nat.le_of_ble_eq_true rfl, Nat.le_of_ble_eq_true rfl⟩ (kn' := (0, 0)) rfl (As := []) rfl (Nat.le_of_ble_eq_true rfl) (fun o' _ => t_X0_allWeights Γ.2.1 E o' S) d_X5_readAll_131 rfl (fun v5 => ?_)
      refine g_if_ne (tgt := 146) hO d_X5_readAll_134.1 d_X5_readAll_134.2 (fun _ => ?_) (fun _ => ?_)
      · skip
        exact g_sub [0] rfl (w_X5_readAll_137 hO o _)
      · skip
        exact g_vret hO rfl ⟨Nat.le_of_ble_eq_true rfl, Nat.le_of_ble_eq_true rfl⟩ rfl rfl d_X5_readAll_146.1
  · skip
    exact g_vret hO rfl ⟨Nat.le_of_ble_eq_true rfl, Nat.le_of_ble_eq_true rfl⟩ rfl rfl d_X5_readAll_146.1
set_option maxRecDepth 20000 in
theorem w_X5_readAll_7 {Γ : GC} {E : GE} (hO : gOk Γ E cX5_readAll RX5 4 rm_X5_readAll none "readAll") (o : Nat) : ∀ (n : Nat) (x1 : Int32) (x3 : Int32) (S : GS), Go Γ E (gBsV Γ E) 4 (0, 0) 7 S [(0, vA (some o)), (1, vI x1), (3, vI x3)] [] (f_X5_readAll_7 o n x1 x3 S) := by
  intro n
  induction n with
  | zero =>
    intro x1 x3 S
    exact g_none
  | succ n ih =>
    intro x1 x3 S
    rw [f_X5_readAll_7]
    refine g_iload_n hO d_X5_readAll_7 (by rfl) 2 rfl ?_
    refine g_sipush hO 600 d_X5_readAll_8 (by decide) ?_
    refine g_ic_ge (tgt := 113) hO d_X5_readAll_11.1 d_X5_readAll_11.2 (fun _ => ?_) (fun _ => ?_)
    · skip
      exact g_sub [0, 1] rfl (w_X5_readAll_113 hO o _ _)
    · skip
      refine g_aload_n hO d_X5_readAll_14 (by rfl) 0 rfl ?_
      refine h_getI hO cl_X5 8 rfl wf_X5_51 d_X5_readAll_15 (fun v1 => ?_)
      refine g_if_eq (tgt := 113) hO d_X5_readAll_18.1 d_X5_readAll_18.2 (fun _ => ?_) (fun _ => ?_)
      · skip
        exact g_sub [0, 1] rfl (w_X5_readAll_113 hO o _ _)
      · skip
        refine g_aload_n hO d_X5_readAll_21 (by rfl) 0 rfl ?_
        refine k_virtIp hO cl_X5 mm_X5_isBroken lkV_X5_55 ⟨⟨Nat.le_of_ble_eq_true rfl, Nat.le_of_ble_eq_true rfl⟩, Nat.le_of_ble_eq_true rfl, Nat.le_of_ble_eq_true rfl⟩ (kn' := (0, 0)) rfl (As := []) rfl (Nat.le_of_ble_eq_true rfl) (fun o' _ => t_X5_isBroken Γ.2.1 E o' S) d_X5_readAll_22 rfl (fun v2 => ?_)
        refine g_if_ne (tgt := 113) hO d_X5_readAll_25.1 d_X5_readAll_25.2 (fun _ => ?_) (fun _ => ?_)
        · skip
          refine g_iload_n hO d_X5_readAll_28 (by rfl) 1 rfl ?_
          refine h_tsw (c := 0) (dt := 99) hO d_X5_readAll_29.1 5 (by decide) (by rfl) rfl (by decide) (by decide) d_X5_readAll_29.2 ⟨⟨64, by decide, ?_⟩, ⟨71, by decide, ?_⟩, ⟨78, by decide, ?_⟩, ⟨85, by decide, ?_⟩, ⟨92, by decide, ?_⟩, trivial⟩ ?_
          · skip
            refine g_aload_n hO d_X5_readAll_64 (by rfl) 0 rfl ?_
            refine k_virtVs hO cl_X5 mm_X5_readCourtLine lkV_X5_59 ⟨⟨Nat.le_of_ble_eq_true rfl, Nat.le_of_ble_eq_true rfl⟩, Nat.le_of_ble_eq_true rfl, Nat.le_of_ble_eq_true rfl⟩ (kn' := (0, 0)) rfl (As := []) rfl (Nat.le_of_ble_eq_true rfl) (fun o' _ => t_X5_readCourtLine Γ.2.1 E o' S) d_X5_readAll_65 rfl (fun S5 => ?_)
            refine g_goto (tgt := 103) hO d_X5_readAll_68.1 d_X5_readAll_68.2 ?_
            exact g_sub [0, 1, 2] rfl (w_X5_readAll_103 hO o ih _ _ _)
          · skip
            refine g_aload_n hO d_X5_readAll_71 (by rfl) 0 rfl ?_
            refine k_virtVs hO cl_X5 mm_X5_readBallLine lkV_X5_62 ⟨⟨Nat.le_of_ble_eq_true rfl, Nat.le_of_ble_eq_true rfl⟩, Nat.le_of_ble_eq_true rfl, Nat.le_of_ble_eq_true rfl⟩ (kn' := (0, 0)) rfl (As := []) rfl (Nat.le_of_ble_eq_true rfl) (fun o' _ => t_X5_readBallLine Γ.2.1 E o' S) d_X5_readAll_72 rfl (fun S7 => ?_)
            refine g_goto (tgt := 103) hO d_X5_readAll_75.1 d_X5_readAll_75.2 ?_
            exact g_sub [0, 1, 2] rfl (w_X5_readAll_103 hO o ih _ _ _)
          · skip
            refine g_aload_n hO d_X5_readAll_78 (by rfl) 0 rfl ?_
            refine k_virtVs hO cl_X5 mm_X5_readForecastLine lkV_X5_65 ⟨⟨Nat.le_of_ble_eq_true rfl, Nat.le_of_ble_eq_true rfl⟩, Nat.le_of_ble_eq_true rfl, Nat.le_of_ble_eq_true rfl⟩ (kn' := (0, 0)) rfl (As := []) rfl (Nat.le_of_ble_eq_true rfl) (fun o' _ => t_X5_readForecastLine Γ.2.1 E o' S) d_X5_readAll_79 rfl (fun S9 => ?_)
            refine g_goto (tgt := 103) hO d_X5_readAll_82.1 d_X5_readAll_82.2 ?_
            exact g_sub [0, 1, 2] rfl (w_X5_readAll_103 hO o ih _ _ _)
          · skip
            refine g_aload_n hO d_X5_readAll_85 (by rfl) 0 rfl ?_
            refine k_virtVs hO cl_X5 mm_X5_readSightLine lkV_X5_68 ⟨⟨Nat.le_of_ble_eq_true rfl, Nat.le_of_ble_eq_true rfl⟩, Nat.le_of_ble_eq_true rfl, Nat.le_of_ble_eq_true rfl⟩ (kn' := (0, 0)) rfl (As := []) rfl (Nat.le_of_ble_eq_true rfl) (fun o' _ => t_X5_readSightLine Γ.2.1 E o' S) d_X5_readAll_86 rfl (fun S11 => ?_)
            refine g_goto (tgt := 103) hO d_X5_readAll_89.1 d_X5_readAll_89.2 ?_
            exact g_sub [0, 1, 2] rfl (w_X5_readAll_103 hO o ih _ _ _)
          · skip
            refine g_aload_n hO d_X5_readAll_92 (by rfl) 0 rfl ?_
            refine k_virtVs hO cl_X5 mm_X5_readLedgerLine lkV_X5_71 ⟨⟨Nat.le_of_ble_eq_true rfl, Nat.le_of_ble_eq_true rfl⟩, Nat.le_of_ble_eq_true rfl, Nat.le_of_ble_eq_true rfl⟩ (kn' := (0, 0)) rfl (As := []) rfl (Nat.le_of_ble_eq_true rfl) (fun o' _ => t_X5_readLedgerLine Γ.2.1 E o' S) d_X5_readAll_93 rfl (fun S13 => ?_)
            refine g_goto (tgt := 103) hO d_X5_readAll_96.1 d_X5_readAll_96.2 ?_
            exact g_sub [0, 1, 2] rfl (w_X5_readAll_103 hO o ih _ _ _)
          · skip
            refine g_aload_n hO d_X5_readAll_99 (by rfl) 0 rfl ?_
            refine k_virtVs hO cl_X5 mm_X5_readShiftsLine lkV_X5_74 ⟨⟨Nat.le_of_ble_eq_true rfl, Nat.le_of_ble_eq_true rfl⟩, Nat.le_of_ble_eq_true rfl, Nat.le_of_ble_eq_true rfl⟩ (kn' := (0, 0)) rfl (As := []) rfl (Nat.le_of_ble_eq_true rfl) (fun o' _ => t_X5_readShiftsLine Γ.2.1 E o' S) d_X5_readAll_100 rfl (fun S15 => ?_)
            exact g_sub [0, 1, 2] rfl (w_X5_readAll_103 hO o ih _ _ _)
        · skip
          exact g_sub [0, 1] rfl (w_X5_readAll_113 hO o _ _)
set_option maxRecDepth 20000 in
theorem w_X5_readAll {Γ : GC} {E : GE} (hO : gOk Γ E cX5_readAll RX5 4 rm_X5_readAll none "readAll") (o : Nat) (x1 : Int32) (x2 : Option Nat) (S : GS) : Go Γ E (gBsV Γ E) 4 (0, 0) 0 S [(0, vA (some o)), (1, vI x1), (2, vA x2)] [] (f_X5_readAll o x1 x2 S) := by
  unfold f_X5_readAll
  refine g_aload_n hO d_X5_readAll_0 (by rfl) 0 rfl ?_
  refine g_aload_n hO d_X5_readAll_1 (by rfl) 2 rfl ?_
  refine k_virtVs hO cl_X5 mm_X5_begin lkV_X5_47 ⟨⟨Nat.le_of_ble_eq_true rfl, Nat.le_of_ble_eq_true rfl⟩, Nat.le_of_ble_eq_true rfl, Nat.le_of_ble_eq_true rfl⟩ (kn' := (0, 0)) rfl (As := [vA x2]) rfl (Nat.le_of_ble_eq_true rfl) (fun o' _ => t_X5_begin Γ.2.1 E o' x2 S) d_X5_readAll_2 rfl (fun S2 => ?_)
  refine g_iconst hO 0 d_X5_readAll_5 (by decide) ?_
  refine g_istore_n (lv' := [(3, vI 0), (0, vA (some o)), (1, vI x1), (2, vA x2)]) hO d_X5_readAll_6 (by rfl) (by decide) rfl ?_
  exact g_sub [1, 2, 0] rfl (w_X5_readAll_7 hO o _ _ _ _)
theorem t_X5_readAll (l : Launch) (E : GE) (o : Nat) (x1 : Int32) (x2 : Option Nat) (S : GS) : ∀ a, f_X5_readAll o x1 x2 S = some a → Ct l E yX5_readAll cX5_readAll 4 none rm_X5_readAll [vA (some o), vI x1, vA x2] S none a :=
  Ct_of (val := fun _ => none) (nxt := fun b => b) (by decide) (Nat.le_of_ble_eq_true rfl) (fun Γ hl hO => w_X5_readAll hO o x1 x2 S)
theorem d_X5_rowsOf_0 : gD cX5_rowsOf 0 (.iload_n 1) 1 1 := ⟨by decide +kernel, rfl⟩
theorem d_X5_rowsOf_1 : decode cX5_rowsOf 1 = .ok (.tableswitch 46 1 4 #[31, 36, 46, 41], 31) ∧ ((1 : Nat) : Int) + 46 = ((47 : Nat) : Int) := ⟨by decide +kernel, by decide⟩
theorem d_X5_rowsOf_32 : gD cX5_rowsOf 32 (.aload_n 0) 1 33 := ⟨by decide +kernel, rfl⟩
theorem d_X5_rowsOf_33 : gD cX5_rowsOf 33 (.getfield 34) 3 36 := ⟨by decide +kernel, rfl⟩
theorem d_X5_rowsOf_36 : gD cX5_rowsOf 36 (.areturn) 1 37 := ⟨by decide +kernel, rfl⟩
theorem d_X5_rowsOf_37 : gD cX5_rowsOf 37 (.aload_n 0) 1 38 := ⟨by decide +kernel, rfl⟩
theorem d_X5_rowsOf_38 : gD cX5_rowsOf 38 (.getfield 38) 3 41 := ⟨by decide +kernel, rfl⟩
theorem d_X5_rowsOf_41 : gD cX5_rowsOf 41 (.areturn) 1 42 := ⟨by decide +kernel, rfl⟩
theorem d_X5_rowsOf_42 : gD cX5_rowsOf 42 (.aload_n 0) 1 43 := ⟨by decide +kernel, rfl⟩
theorem d_X5_rowsOf_43 : gD cX5_rowsOf 43 (.getfield 41) 3 46 := ⟨by decide +kernel, rfl⟩
theorem d_X5_rowsOf_46 : gD cX5_rowsOf 46 (.areturn) 1 47 := ⟨by decide +kernel, rfl⟩
theorem d_X5_rowsOf_47 : gD cX5_rowsOf 47 (.aload_n 0) 1 48 := ⟨by decide +kernel, rfl⟩
theorem d_X5_rowsOf_48 : gD cX5_rowsOf 48 (.getfield 44) 3 51 := ⟨by decide +kernel, rfl⟩
theorem d_X5_rowsOf_51 : gD cX5_rowsOf 51 (.areturn) 1 52 := ⟨by decide +kernel, rfl⟩
abbrev rm_X5_rowsOf : Room := { frames := 0, cells := 0, slots := 0, locals := 0 }
set_option maxRecDepth 20000 in
theorem w_X5_rowsOf {Γ : GC} {E : GE} (hO : gOk Γ E cX5_rowsOf RX5 2 rm_X5_rowsOf (some (.object "GlassLaces$Rows")) "rowsOf") (o : Nat) (x1 : Int32) (S : GS) : Go Γ E (gBpA Γ E S) 2 (0, 0) 0 S [(0, vA (some o)), (1, vI x1)] [] (f_X5_rowsOf o x1 S) := by
  unfold f_X5_rowsOf
  refine g_iload_n hO d_X5_rowsOf_0 (by rfl) 1 rfl ?_
  refine h_tsw (c := 1) (dt := 47) hO d_X5_rowsOf_1.1 4 (by decide) (by rfl) rfl (by decide) (by decide) d_X5_rowsOf_1.2 ⟨⟨32, by decide, ?_⟩, ⟨37, by decide, ?_⟩, ⟨47, by decide, ?_⟩, ⟨42, by decide, ?_⟩, trivial⟩ ?_
  · skip
    refine g_aload_n hO d_X5_rowsOf_32 (by rfl) 0 rfl ?_
    refine h_getR hO cl_X5 3 rfl wf_X5_34 d_X5_rowsOf_33 (fun v1 => ?_)
    exact g_aret hO rfl (Or.inl ⟨_, rfl⟩) ⟨Nat.le_of_ble_eq_true rfl, Nat.le_of_ble_eq_true rfl⟩ rfl rfl d_X5_rowsOf_36.1
  · skip
    refine g_aload_n hO d_X5_rowsOf_37 (by rfl) 0 rfl ?_
    refine h_getR hO cl_X5 4 rfl wf_X5_38 d_X5_rowsOf_38 (fun v2 => ?_)
    exact g_aret hO rfl (Or.inl ⟨_, rfl⟩) ⟨Nat.le_of_ble_eq_true rfl, Nat.le_of_ble_eq_true rfl⟩ rfl rfl d_X5_rowsOf_41.1
  · skip
    refine g_aload_n hO d_X5_rowsOf_47 (by rfl) 0 rfl ?_
    refine h_getR hO cl_X5 6 rfl wf_X5_44 d_X5_rowsOf_48 (fun v3 => ?_)
    exact g_aret hO rfl (Or.inl ⟨_, rfl⟩) ⟨Nat.le_of_ble_eq_true rfl, Nat.le_of_ble_eq_true rfl⟩ rfl rfl d_X5_rowsOf_51.1
  · skip
    refine g_aload_n hO d_X5_rowsOf_42 (by rfl) 0 rfl ?_
    refine h_getR hO cl_X5 5 rfl wf_X5_41 d_X5_rowsOf_43 (fun v4 => ?_)
    exact g_aret hO rfl (Or.inl ⟨_, rfl⟩) ⟨Nat.le_of_ble_eq_true rfl, Nat.le_of_ble_eq_true rfl⟩ rfl rfl d_X5_rowsOf_46.1
  · skip
    refine g_aload_n hO d_X5_rowsOf_47 (by rfl) 0 rfl ?_
    refine h_getR hO cl_X5 6 rfl wf_X5_44 d_X5_rowsOf_48 (fun v5 => ?_)
    exact g_aret hO rfl (Or.inl ⟨_, rfl⟩) ⟨Nat.le_of_ble_eq_true rfl, Nat.le_of_ble_eq_true rfl⟩ rfl rfl d_X5_rowsOf_51.1
theorem t_X5_rowsOf (l : Launch) (E : GE) (o : Nat) (x1 : Int32) (S : GS) : ∀ a, f_X5_rowsOf o x1 S = some a → Ct l E yX5_rowsOf cX5_rowsOf 2 (some (.object "GlassLaces$Rows")) rm_X5_rowsOf [vA (some o), vI x1] S (some (vA a)) S :=
  Ct_of (val := fun b => some (vA b)) (nxt := fun _ => S) (by decide) (Nat.le_of_ble_eq_true rfl) (fun Γ hl hO => w_X5_rowsOf hO o x1 S)
theorem d_X6_init_0 : gD cX6_init 0 (.aload_n 0) 1 1 := ⟨by decide +kernel, rfl⟩
theorem d_X6_init_1 : gD cX6_init 1 (.invokespecial 3) 3 4 := ⟨by decide +kernel, rfl⟩
theorem d_X6_init_4 : gD cX6_init 4 (.aload_n 0) 1 5 := ⟨by decide +kernel, rfl⟩
theorem d_X6_init_5 : gD cX6_init 5 (.bipush 31) 2 7 := ⟨by decide +kernel, rfl⟩
theorem d_X6_init_7 : gD cX6_init 7 (.newarray .int) 2 9 := ⟨by decide +kernel, rfl⟩
theorem d_X6_init_9 : gD cX6_init 9 (.putfield 9) 3 12 := ⟨by decide +kernel, rfl⟩
theorem d_X6_init_12 : gD cX6_init 12 (.return_) 1 13 := ⟨by decide +kernel, rfl⟩
abbrev rm_X6_init : Room := { frames := 1, cells := 1, slots := 31, locals := 12 }
set_option maxRecDepth 20000 in
theorem w_X6_init {Γ : GC} {E : GE} (hO : gOk Γ E cX6_init RX6 1 rm_X6_init none "<init>") (o : Nat) (S : GS) : Go Γ E (gBsV Γ E) 1 (0, 0) 0 S [(0, vA (some o))] [] (f_X6_init o S) := by
  unfold f_X6_init
  refine g_aload_n hO d_X6_init_0 (by rfl) 0 rfl ?_
  refine g_oinit hO wm_X6_3 wn_obj wc_obj (Nat.le_of_ble_eq_true rfl) (Nat.le_of_ble_eq_true rfl) (fun h => nomatch h) d_X6_init_1 ?_
  refine g_aload_n hO d_X6_init_4 (by rfl) 0 rfl ?_
  refine g_bipush hO 31 d_X6_init_5 (by decide) ?_
  refine h_na hO 14 (by decide) rfl wac_14 (31) (by decide) (kn' := (1, 31)) rfl ⟨by decide, by decide⟩ d_X6_init_7 (fun v1 S2 => ?_)
  refine h_putR hO cl_X6 0 rfl (ty := .array .int) (by decide +kernel) (Or.inr ⟨_, rfl⟩) wf_X6_9 (Or.inr ⟨rfl, rfl, rfl⟩) d_X6_init_9 (fun S3 => ?_)
  exact g_vret hO rfl ⟨Nat.le_of_ble_eq_true rfl, Nat.le_of_ble_eq_true rfl⟩ rfl rfl d_X6_init_12.1
theorem t_X6_init (l : Launch) (E : GE) (o : Nat) (S : GS) : ∀ a, f_X6_init o S = some a → Ct l E yX6_init cX6_init 1 none rm_X6_init [vA (some o)] S none a :=
  Ct_of (val := fun _ => none) (nxt := fun b => b) (by decide) (Nat.le_of_ble_eq_true rfl) (fun Γ hl hO => w_X6_init hO o S)
theorem d_X6_begin_0 : gD cX6_begin 0 (.aload_n 0) 1 1 := ⟨by decide +kernel, rfl⟩
theorem d_X6_begin_1 : gD cX6_begin 1 (.getfield 9) 3 4 := ⟨by decide +kernel, rfl⟩
theorem d_X6_begin_4 : gD cX6_begin 4 (.iconst 0) 1 5 := ⟨by decide +kernel, rfl⟩
theorem d_X6_begin_5 : gD cX6_begin 5 (.invokestatic 15) 3 8 := ⟨by decide +kernel, rfl⟩
theorem d_X6_begin_8 : gD cX6_begin 8 (.iconst 0) 1 9 := ⟨by decide +kernel, rfl⟩
theorem d_X6_begin_9 : gD cX6_begin 9 (.istore_n 2) 1 10 := ⟨by decide +kernel, rfl⟩
theorem d_X6_begin_10 : gD cX6_begin 10 (.iload_n 2) 1 11 := ⟨by decide +kernel, rfl⟩
theorem d_X6_begin_11 : gD cX6_begin 11 (.aload_n 1) 1 12 := ⟨by decide +kernel, rfl⟩
theorem d_X6_begin_12 : gD cX6_begin 12 (.getfield 21) 3 15 := ⟨by decide +kernel, rfl⟩
theorem d_X6_begin_15 : gD cX6_begin 15 (.if_icmp .ge 55) 3 18 ∧ ((15 : Nat) : Int) + 55 = ((70 : Nat) : Int) := ⟨⟨by decide +kernel, rfl⟩, by decide⟩
theorem d_X6_begin_18 : gD cX6_begin 18 (.iconst 0) 1 19 := ⟨by decide +kernel, rfl⟩
theorem d_X6_begin_19 : gD cX6_begin 19 (.istore_n 3) 1 20 := ⟨by decide +kernel, rfl⟩
theorem d_X6_begin_20 : gD cX6_begin 20 (.iload_n 3) 1 21 := ⟨by decide +kernel, rfl⟩
theorem d_X6_begin_21 : gD cX6_begin 21 (.bipush 30) 2 23 := ⟨by decide +kernel, rfl⟩
theorem d_X6_begin_23 : gD cX6_begin 23 (.if_icmp .gt 41) 3 26 ∧ ((23 : Nat) : Int) + 41 = ((64 : Nat) : Int) := ⟨⟨by decide +kernel, rfl⟩, by decide⟩
theorem d_X6_begin_26 : gD cX6_begin 26 (.aload_n 1) 1 27 := ⟨by decide +kernel, rfl⟩
theorem d_X6_begin_27 : gD cX6_begin 27 (.iload_n 2) 1 28 := ⟨by decide +kernel, rfl⟩
theorem d_X6_begin_28 : gD cX6_begin 28 (.iconst 0) 1 29 := ⟨by decide +kernel, rfl⟩
theorem d_X6_begin_29 : gD cX6_begin 29 (.invokevirtual 27) 3 32 := ⟨by decide +kernel, rfl⟩
theorem d_X6_begin_32 : gD cX6_begin 32 (.iload_n 3) 1 33 := ⟨by decide +kernel, rfl⟩
theorem d_X6_begin_33 : gD cX6_begin 33 (.if_icmp .gt 25) 3 36 ∧ ((33 : Nat) : Int) + 25 = ((58 : Nat) : Int) := ⟨⟨by decide +kernel, rfl⟩, by decide⟩
theorem d_X6_begin_36 : gD cX6_begin 36 (.iload_n 3) 1 37 := ⟨by decide +kernel, rfl⟩
theorem d_X6_begin_37 : gD cX6_begin 37 (.aload_n 1) 1 38 := ⟨by decide +kernel, rfl⟩
theorem d_X6_begin_38 : gD cX6_begin 38 (.iload_n 2) 1 39 := ⟨by decide +kernel, rfl⟩
theorem d_X6_begin_39 : gD cX6_begin 39 (.iconst 1) 1 40 := ⟨by decide +kernel, rfl⟩
theorem d_X6_begin_40 : gD cX6_begin 40 (.invokevirtual 27) 3 43 := ⟨by decide +kernel, rfl⟩
theorem d_X6_begin_43 : gD cX6_begin 43 (.if_icmp .gt 15) 3 46 ∧ ((43 : Nat) : Int) + 15 = ((58 : Nat) : Int) := ⟨⟨by decide +kernel, rfl⟩, by decide⟩
theorem d_X6_begin_46 : gD cX6_begin 46 (.aload_n 0) 1 47 := ⟨by decide +kernel, rfl⟩
theorem d_X6_begin_47 : gD cX6_begin 47 (.getfield 9) 3 50 := ⟨by decide +kernel, rfl⟩
theorem d_X6_begin_50 : gD cX6_begin 50 (.iload_n 3) 1 51 := ⟨by decide +kernel, rfl⟩
theorem d_X6_begin_51 : gD cX6_begin 51 (.dup2) 1 52 := ⟨by decide +kernel, rfl⟩
theorem d_X6_begin_52 : gD cX6_begin 52 (.iaload) 1 53 := ⟨by decide +kernel, rfl⟩
theorem d_X6_begin_53 : gD cX6_begin 53 (.iconst 1) 1 54 := ⟨by decide +kernel, rfl⟩
theorem d_X6_begin_54 : gD cX6_begin 54 (.iload_n 2) 1 55 := ⟨by decide +kernel, rfl⟩
theorem d_X6_begin_55 : gD cX6_begin 55 (.ishl) 1 56 := ⟨by decide +kernel, rfl⟩
theorem d_X6_begin_56 : gD cX6_begin 56 (.ior) 1 57 := ⟨by decide +kernel, rfl⟩
theorem d_X6_begin_57 : gD cX6_begin 57 (.iastore) 1 58 := ⟨by decide +kernel, rfl⟩
theorem d_X6_begin_58 : gD cX6_begin 58 (.iinc 3 1) 3 61 := ⟨by decide +kernel, rfl⟩
theorem d_X6_begin_61 : decode cX6_begin 61 = .ok (.goto (-41), 3) ∧ ((61 : Nat) : Int) + (-41) = ((20 : Nat) : Int) := ⟨by decide +kernel, by decide⟩
theorem d_X6_begin_64 : gD cX6_begin 64 (.iinc 2 1) 3 67 := ⟨by decide +kernel, rfl⟩
theorem d_X6_begin_67 : decode cX6_begin 67 = .ok (.goto (-57), 3) ∧ ((67 : Nat) : Int) + (-57) = ((10 : Nat) : Int) := ⟨by decide +kernel, by decide⟩
theorem d_X6_begin_70 : gD cX6_begin 70 (.return_) 1 71 := ⟨by decide +kernel, rfl⟩
abbrev rm_X6_begin : Room := { frames := 1, cells := 0, slots := 0, locals := 23 }
set_option maxRecDepth 20000 in
theorem w_X6_begin_58 {Γ : GC} {E : GE} (hO : gOk Γ E cX6_begin RX6 4 rm_X6_begin none "begin") (o : Nat) {k10 : (Option Nat → Int32 → GS → Option GS)} {k20 : (Option Nat → Int32 → Int32 → GS → Option GS)} (hk10 : ∀ (z1 : Option Nat) (z2 : Int32) (S1 : GS), Go Γ E (gBsV Γ E) 4 (0, 0) 10 S1 [(0, vA (some o)), (1, vA z1), (2, vI z2)] [] (k10 z1 z2 S1)) (hk20 : ∀ (z1 : Option Nat) (z2 : Int32) (z3 : Int32) (S1 : GS), Go Γ E (gBsV Γ E) 4 (0, 0) 20 S1 [(0, vA (some o)), (1, vA z1), (2, vI z2), (3, vI z3)] [] (k20 z1 z2 z3 S1)) (x1 : Option Nat) (x2 : Int32) (x3 : Int32) (S : GS) : Go Γ E (gBsV Γ E) 4 (0, 0) 58 S [(0, vA (some o)), (1, vA x1), (2, vI x2), (3, vI x3)] [] (f_X6_begin_58 k10 k20 o x1 x2 x3 S) := by
  unfold f_X6_begin_58
  refine g_iinc (lv' := [(3, vI (x3 + 1)), (0, vA (some o)), (1, vA x1), (2, vI x2)]) hO 1 d_X6_begin_58 (by decide) 3 rfl (by decide) rfl ?_
  refine g_goto (tgt := 20) hO d_X6_begin_61.1 d_X6_begin_61.2 ?_
  exact g_sub [1, 2, 3, 0] rfl (hk20 _ _ _ _)
set_option maxRecDepth 20000 in
theorem w_X6_begin_20 {Γ : GC} {E : GE} (hO : gOk Γ E cX6_begin RX6 4 rm_X6_begin none "begin") (o : Nat) {k10 : (Option Nat → Int32 → GS → Option GS)} (hk10 : ∀ (z1 : Option Nat) (z2 : Int32) (S1 : GS), Go Γ E (gBsV Γ E) 4 (0, 0) 10 S1 [(0, vA (some o)), (1, vA z1), (2, vI z2)] [] (k10 z1 z2 S1)) : ∀ (n : Nat) (x1 : Option Nat) (x2 : Int32) (x3 : Int32) (S : GS), Go Γ E (gBsV Γ E) 4 (0, 0) 20 S [(0, vA (some o)), (1, vA x1), (2, vI x2), (3, vI x3)] [] (f_X6_begin_20 k10 o n x1 x2 x3 S) := by
  intro n
  induction n with
  | zero =>
    intro x1 x2 x3 S
    exact g_none
  | succ n ih =>
    intro x1 x2 x3 S
    rw [f_X6_begin_20]
    refine g_iload_n hO d_X6_begin_20 (by rfl) 3 rfl ?_
    refine g_bipush hO 30 d_X6_begin_21 (by decide) ?_
    refine g_ic_gt (tgt := 64) hO d_X6_begin_23.1 d_X6_begin_23.2 (fun _ => ?_) (fun _ => ?_)
    · skip
      refine g_iinc (lv' := [(2, vI (x2 + 1)), (0, vA (some o)), (1, vA x1), (3, vI x3)]) hO 1 d_X6_begin_64 (by decide) 2 rfl (by decide) rfl ?_
      refine g_goto (tgt := 10) hO d_X6_begin_67.1 d_X6_begin_67.2 ?_
      exact g_sub [1, 2, 0] rfl (hk10 _ _ _)
    · skip
      refine g_aload_n hO d_X6_begin_26 (by rfl) 1 rfl ?_
      refine g_iload_n hO d_X6_begin_27 (by rfl) 2 rfl ?_
      refine g_iconst hO 0 d_X6_begin_28 (by decide) ?_
      refine k_virtIp hO cl_X7 mm_X7_cell lkV_X6_27 ⟨⟨Nat.le_of_ble_eq_true rfl, Nat.le_of_ble_eq_true rfl⟩, Nat.le_of_ble_eq_true rfl, Nat.le_of_ble_eq_true rfl⟩ (kn' := (0, 0)) rfl (As := [vI x2, vI 0]) rfl (Nat.le_of_ble_eq_true rfl) (fun o' _ => t_X7_cell Γ.2.1 E o' x2 0 S) d_X6_begin_29 rfl (fun v1 => ?_)
      refine g_iload_n hO d_X6_begin_32 (by rfl) 3 rfl ?_
      refine g_ic_gt (tgt := 58) hO d_X6_begin_33.1 d_X6_begin_33.2 (fun _ => ?_) (fun _ => ?_)
      · skip
        exact g_sub [0, 1, 2, 3] rfl (w_X6_begin_58 hO o hk10 ih _ _ _ _)
      · skip
        refine g_iload_n hO d_X6_begin_36 (by rfl) 3 rfl ?_
        refine g_aload_n hO d_X6_begin_37 (by rfl) 1 rfl ?_
        refine g_iload_n hO d_X6_begin_38 (by rfl) 2 rfl ?_
        refine g_iconst hO 1 d_X6_begin_39 (by decide) ?_
        refine k_virtIp hO cl_X7 mm_X7_cell lkV_X6_27 ⟨⟨Nat.le_of_ble_eq_true rfl, Nat.le_of_ble_eq_true rfl⟩, Nat.le_of_ble_eq_true rfl, Nat.le_of_ble_eq_true rfl⟩ (kn' := (0, 0)) rfl (As := [vI x2, vI 1]) rfl (Nat.le_of_ble_eq_true rfl) (fun o' _ => t_X7_cell Γ.2.1 E o' x2 1 S) d_X6_begin_40 rfl (fun v3 => ?_)
        refine g_ic_gt (tgt := 58) hO d_X6_begin_43.1 d_X6_begin_43.2 (fun _ => ?_) (fun _ => ?_)
        · skip
          exact g_sub [0, 1, 2, 3] rfl (w_X6_begin_58 hO o hk10 ih _ _ _ _)
        · skip
          refine g_aload_n hO d_X6_begin_46 (by rfl) 0 rfl ?_
          refine h_getR hO cl_X6 0 rfl wf_X6_9 d_X6_begin_47 (fun v5 => ?_)
          refine g_iload_n hO d_X6_begin_50 (by rfl) 3 rfl ?_
          refine g_dup2 hO d_X6_begin_51 rfl rfl ?_
          refine h_iald hO d_X6_begin_52 (fun v6 => ?_)
          refine g_iconst hO 1 d_X6_begin_53 (by decide) ?_
          refine g_iload_n hO d_X6_begin_54 (by rfl) 2 rfl ?_
          refine g_ishl hO d_X6_begin_55 ?_
          refine g_ior hO d_X6_begin_56 ?_
          refine h_iast hO d_X6_begin_57 (fun S7 => ?_)
          exact g_sub [0, 1, 2, 3] rfl (w_X6_begin_58 hO o hk10 ih _ _ _ _)
set_option maxRecDepth 20000 in
theorem w_X6_begin_10 {Γ : GC} {E : GE} (hO : gOk Γ E cX6_begin RX6 4 rm_X6_begin none "begin") (o : Nat) : ∀ (n : Nat) (x1 : Option Nat) (x2 : Int32) (S : GS), Go Γ E (gBsV Γ E) 4 (0, 0) 10 S [(0, vA (some o)), (1, vA x1), (2, vI x2)] [] (f_X6_begin_10 o n x1 x2 S) := by
  intro n
  induction n with
  | zero =>
    intro x1 x2 S
    exact g_none
  | succ n ih =>
    intro x1 x2 S
    rw [f_X6_begin_10]
    refine g_iload_n hO d_X6_begin_10 (by rfl) 2 rfl ?_
    refine g_aload_n hO d_X6_begin_11 (by rfl) 1 rfl ?_
    refine h_getI hO cl_X7 3 rfl wf_X6_21 d_X6_begin_12 (fun v1 => ?_)
    refine g_ic_ge (tgt := 70) hO d_X6_begin_15.1 d_X6_begin_15.2 (fun _ => ?_) (fun _ => ?_)
    · skip
      exact g_vret hO rfl ⟨Nat.le_of_ble_eq_true rfl, Nat.le_of_ble_eq_true rfl⟩ rfl rfl d_X6_begin_70.1
    · skip
      refine g_iconst hO 0 d_X6_begin_18 (by decide) ?_
      refine g_istore_n (lv' := [(3, vI 0), (0, vA (some o)), (1, vA x1), (2, vI x2)]) hO d_X6_begin_19 (by rfl) (by decide) rfl ?_
      exact g_sub [1, 2, 3, 0] rfl (w_X6_begin_20 hO o ih _ _ _ _ _)
set_option maxRecDepth 20000 in
theorem w_X6_begin {Γ : GC} {E : GE} (hO : gOk Γ E cX6_begin RX6 4 rm_X6_begin none "begin") (o : Nat) (x1 : Option Nat) (S : GS) : Go Γ E (gBsV Γ E) 4 (0, 0) 0 S [(0, vA (some o)), (1, vA x1)] [] (f_X6_begin o x1 S) := by
  unfold f_X6_begin
  refine g_aload_n hO d_X6_begin_0 (by rfl) 0 rfl ?_
  refine h_getR hO cl_X6 0 rfl wf_X6_9 d_X6_begin_1 (fun v1 => ?_)
  refine g_iconst hO 0 d_X6_begin_4 (by decide) ?_
  refine k_statVs hO mm_J7_fill_53178 lkS_X6_15 ⟨⟨Nat.le_of_ble_eq_true rfl, Nat.le_of_ble_eq_true rfl⟩, Nat.le_of_ble_eq_true rfl, Nat.le_of_ble_eq_true rfl⟩ (kn' := (0, 0)) rfl (As := [vA v1, vI 0]) rfl (Nat.le_of_ble_eq_true rfl) (t_J7_fill_53178 Γ.2.1 E v1 0 S) d_X6_begin_5 rfl (fun S3 => ?_)
  refine g_iconst hO 0 d_X6_begin_8 (by decide) ?_
  refine g_istore_n (lv' := [(2, vI 0), (0, vA (some o)), (1, vA x1)]) hO d_X6_begin_9 (by rfl) (by decide) rfl ?_
  exact g_sub [1, 2, 0] rfl (w_X6_begin_10 hO o _ _ _ _)
theorem t_X6_begin (l : Launch) (E : GE) (o : Nat) (x1 : Option Nat) (S : GS) : ∀ a, f_X6_begin o x1 S = some a → Ct l E yX6_begin cX6_begin 4 none rm_X6_begin [vA (some o), vA x1] S none a :=
  Ct_of (val := fun _ => none) (nxt := fun b => b) (by decide) (Nat.le_of_ble_eq_true rfl) (fun Γ hl hO => w_X6_begin hO o x1 S)
theorem d_X6_firstGapOf_0 : gD cX6_firstGapOf 0 (.iconst 0) 1 1 := ⟨by decide +kernel, rfl⟩
theorem d_X6_firstGapOf_1 : gD cX6_firstGapOf 1 (.iload_n 2) 1 2 := ⟨by decide +kernel, rfl⟩
theorem d_X6_firstGapOf_2 : gD cX6_firstGapOf 2 (.invokestatic 31) 3 5 := ⟨by decide +kernel, rfl⟩
theorem d_X6_firstGapOf_5 : gD cX6_firstGapOf 5 (.istore 5) 2 7 := ⟨by decide +kernel, rfl⟩
theorem d_X6_firstGapOf_7 : gD cX6_firstGapOf 7 (.iload 5) 2 9 := ⟨by decide +kernel, rfl⟩
theorem d_X6_firstGapOf_9 : gD cX6_firstGapOf 9 (.iload_n 3) 1 10 := ⟨by decide +kernel, rfl⟩
theorem d_X6_firstGapOf_10 : gD cX6_firstGapOf 10 (.if_icmp .gt 39) 3 13 ∧ ((10 : Nat) : Int) + 39 = ((49 : Nat) : Int) := ⟨⟨by decide +kernel, rfl⟩, by decide⟩
theorem d_X6_firstGapOf_13 : gD cX6_firstGapOf 13 (.iload 5) 2 15 := ⟨by decide +kernel, rfl⟩
theorem d_X6_firstGapOf_15 : gD cX6_firstGapOf 15 (.aload_n 0) 1 16 := ⟨by decide +kernel, rfl⟩
theorem d_X6_firstGapOf_16 : gD cX6_firstGapOf 16 (.getfield 9) 3 19 := ⟨by decide +kernel, rfl⟩
theorem d_X6_firstGapOf_19 : gD cX6_firstGapOf 19 (.arraylength) 1 20 := ⟨by decide +kernel, rfl⟩
theorem d_X6_firstGapOf_20 : gD cX6_firstGapOf 20 (.if_icmp .ge 29) 3 23 ∧ ((20 : Nat) : Int) + 29 = ((49 : Nat) : Int) := ⟨⟨by decide +kernel, rfl⟩, by decide⟩
theorem d_X6_firstGapOf_23 : gD cX6_firstGapOf 23 (.iload_n 1) 1 24 := ⟨by decide +kernel, rfl⟩
theorem d_X6_firstGapOf_24 : gD cX6_firstGapOf 24 (.aload_n 0) 1 25 := ⟨by decide +kernel, rfl⟩
theorem d_X6_firstGapOf_25 : gD cX6_firstGapOf 25 (.getfield 9) 3 28 := ⟨by decide +kernel, rfl⟩
theorem d_X6_firstGapOf_28 : gD cX6_firstGapOf 28 (.iload 5) 2 30 := ⟨by decide +kernel, rfl⟩
theorem d_X6_firstGapOf_30 : gD cX6_firstGapOf 30 (.iaload) 1 31 := ⟨by decide +kernel, rfl⟩
theorem d_X6_firstGapOf_31 : gD cX6_firstGapOf 31 (.iand) 1 32 := ⟨by decide +kernel, rfl⟩
theorem d_X6_firstGapOf_32 : gD cX6_firstGapOf 32 (.invokestatic 36) 3 35 := ⟨by decide +kernel, rfl⟩
theorem d_X6_firstGapOf_35 : gD cX6_firstGapOf 35 (.iload 4) 2 37 := ⟨by decide +kernel, rfl⟩
theorem d_X6_firstGapOf_37 : gD cX6_firstGapOf 37 (.if_icmp .ge 6) 3 40 ∧ ((37 : Nat) : Int) + 6 = ((43 : Nat) : Int) := ⟨⟨by decide +kernel, rfl⟩, by decide⟩
theorem d_X6_firstGapOf_40 : gD cX6_firstGapOf 40 (.iload 5) 2 42 := ⟨by decide +kernel, rfl⟩
theorem d_X6_firstGapOf_42 : gD cX6_firstGapOf 42 (.ireturn) 1 43 := ⟨by decide +kernel, rfl⟩
theorem d_X6_firstGapOf_43 : gD cX6_firstGapOf 43 (.iinc 5 1) 3 46 := ⟨by decide +kernel, rfl⟩
theorem d_X6_firstGapOf_46 : decode cX6_firstGapOf 46 = .ok (.goto (-39), 3) ∧ ((46 : Nat) : Int) + (-39) = ((7 : Nat) : Int) := ⟨by decide +kernel, by decide⟩
theorem d_X6_firstGapOf_49 : gD cX6_firstGapOf 49 (.iconst (-1)) 1 50 := ⟨by decide +kernel, rfl⟩
theorem d_X6_firstGapOf_50 : gD cX6_firstGapOf 50 (.ireturn) 1 51 := ⟨by decide +kernel, rfl⟩
abbrev rm_X6_firstGapOf : Room := { frames := 1, cells := 0, slots := 0, locals := 20 }
set_option maxRecDepth 20000 in
theorem w_X6_firstGapOf_7 {Γ : GC} {E : GE} (hO : gOk Γ E cX6_firstGapOf RX6 6 rm_X6_firstGapOf (some .int) "firstGapOf") (o : Nat) (S : GS) : ∀ (n : Nat) (x1 : Int32) (x3 : Int32) (x4 : Int32) (x5 : Int32), Go Γ E (gBpI Γ E S) 6 (0, 0) 7 S [(0, vA (some o)), (1, vI x1), (3, vI x3), (4, vI x4), (5, vI x5)] [] (f_X6_firstGapOf_7 o S n x1 x3 x4 x5) := by
  intro n
  induction n with
  | zero =>
    intro x1 x3 x4 x5
    exact g_none
  | succ n ih =>
    intro x1 x3 x4 x5
    rw [f_X6_firstGapOf_7]
    refine g_iload hO d_X6_firstGapOf_7 4 rfl ?_
    refine g_iload_n hO d_X6_firstGapOf_9 (by rfl) 2 rfl ?_
    refine g_ic_gt (tgt := 49) hO d_X6_firstGapOf_10.1 d_X6_firstGapOf_10.2 (fun _ => ?_) (fun _ => ?_)
    · skip
      refine g_iconst hO (-1) d_X6_firstGapOf_49 (by decide) ?_
      exact g_ret hO rfl rfl ⟨Nat.le_of_ble_eq_true rfl, Nat.le_of_ble_eq_true rfl⟩ rfl rfl d_X6_firstGapOf_50.1
    · skip
      refine g_iload hO d_X6_firstGapOf_13 4 rfl ?_
      refine g_aload_n hO d_X6_firstGapOf_15 (by rfl) 0 rfl ?_
      refine h_getR hO cl_X6 0 rfl wf_X6_9 d_X6_firstGapOf_16 (fun v1 => ?_)
      refine h_alen hO 14 (by omega) (by omega) d_X6_firstGapOf_19 (fun v2 => ?_)
      refine g_ic_ge (tgt := 49) hO d_X6_firstGapOf_20.1 d_X6_firstGapOf_20.2 (fun _ => ?_) (fun _ => ?_)
      · skip
        refine g_iconst hO (-1) d_X6_firstGapOf_49 (by decide) ?_
        exact g_ret hO rfl rfl ⟨Nat.le_of_ble_eq_true rfl, Nat.le_of_ble_eq_true rfl⟩ rfl rfl d_X6_firstGapOf_50.1
      · skip
        refine g_iload_n hO d_X6_firstGapOf_23 (by rfl) 1 rfl ?_
        refine g_aload_n hO d_X6_firstGapOf_24 (by rfl) 0 rfl ?_
        refine h_getR hO cl_X6 0 rfl wf_X6_9 d_X6_firstGapOf_25 (fun v3 => ?_)
        refine g_iload hO d_X6_firstGapOf_28 4 rfl ?_
        refine h_iald hO d_X6_firstGapOf_30 (fun v4 => ?_)
        refine g_iand hO d_X6_firstGapOf_31 ?_
        refine k_statIp hO mm_J6_bitCount_0f7a4 lkS_X6_36 ⟨⟨Nat.le_of_ble_eq_true rfl, Nat.le_of_ble_eq_true rfl⟩, Nat.le_of_ble_eq_true rfl, Nat.le_of_ble_eq_true rfl⟩ (kn' := (0, 0)) rfl (As := [vI (x1 &&& v4)]) rfl (Nat.le_of_ble_eq_true rfl) (t_J6_bitCount_0f7a4 Γ.2.1 E (x1 &&& v4) S) d_X6_firstGapOf_32 rfl (fun v5 => ?_)
        refine g_iload hO d_X6_firstGapOf_35 3 rfl ?_
        refine g_ic_ge (tgt := 43) hO d_X6_firstGapOf_37.1 d_X6_firstGapOf_37.2 (fun _ => ?_) (fun _ => ?_)
        · skip
          refine g_iinc (lv' := [(5, vI (x5 + 1)), (0, vA (some o)), (1, vI x1), (3, vI x3), (4, vI x4)]) hO 1 d_X6_firstGapOf_43 (by decide) 4 rfl (by decide) rfl ?_
          refine g_goto (tgt := 7) hO d_X6_firstGapOf_46.1 d_X6_firstGapOf_46.2 ?_
          exact g_sub [1, 2, 3, 4, 0] rfl (ih _ _ _ _)
        · skip
          refine g_iload hO d_X6_firstGapOf_40 4 rfl ?_
          exact g_ret hO rfl rfl ⟨Nat.le_of_ble_eq_true rfl, Nat.le_of_ble_eq_true rfl⟩ rfl rfl d_X6_firstGapOf_42.1
set_option maxRecDepth 20000 in
theorem w_X6_firstGapOf {Γ : GC} {E : GE} (hO : gOk Γ E cX6_firstGapOf RX6 6 rm_X6_firstGapOf (some .int) "firstGapOf") (o : Nat) (x1 : Int32) (x2 : Int32) (x3 : Int32) (x4 : Int32) (S : GS) : Go Γ E (gBpI Γ E S) 6 (0, 0) 0 S [(0, vA (some o)), (1, vI x1), (2, vI x2), (3, vI x3), (4, vI x4)] [] (f_X6_firstGapOf o x1 x2 x3 x4 S) := by
  unfold f_X6_firstGapOf
  refine g_iconst hO 0 d_X6_firstGapOf_0 (by decide) ?_
  refine g_iload_n hO d_X6_firstGapOf_1 (by rfl) 2 rfl ?_
  refine g_mmax hO wm_X6_31 wt_max wi_Math wc_max ⟨by decide, Nat.le_of_ble_eq_true rfl, Nat.zero_le _, Nat.zero_le _⟩ d_X6_firstGapOf_2 ?_
  refine g_istore (lv' := [(5, vI (jmax 0 x2)), (0, vA (some o)), (1, vI x1), (2, vI x2), (3, vI x3), (4, vI x4)]) hO d_X6_firstGapOf_5 (by decide) rfl ?_
  exact g_sub [1, 2, 4, 5, 0] rfl (w_X6_firstGapOf_7 hO o _ _ _ _ _ _)
theorem t_X6_firstGapOf (l : Launch) (E : GE) (o : Nat) (x1 : Int32) (x2 : Int32) (x3 : Int32) (x4 : Int32) (S : GS) : ∀ a, f_X6_firstGapOf o x1 x2 x3 x4 S = some a → Ct l E yX6_firstGapOf cX6_firstGapOf 6 (some .int) rm_X6_firstGapOf [vA (some o), vI x1, vI x2, vI x3, vI x4] S (some (vI a)) S :=
  Ct_of (val := fun b => some (vI b)) (nxt := fun _ => S) (by decide) (Nat.le_of_ble_eq_true rfl) (fun Γ hl hO => w_X6_firstGapOf hO o x1 x2 x3 x4 S)
theorem d_X6_firstGap_0 : gD cX6_firstGap 0 (.aload_n 0) 1 1 := ⟨by decide +kernel, rfl⟩
theorem d_X6_firstGap_1 : gD cX6_firstGap 1 (.iconst (-1)) 1 2 := ⟨by decide +kernel, rfl⟩
theorem d_X6_firstGap_2 : gD cX6_firstGap 2 (.iload_n 1) 1 3 := ⟨by decide +kernel, rfl⟩
theorem d_X6_firstGap_3 : gD cX6_firstGap 3 (.iload_n 2) 1 4 := ⟨by decide +kernel, rfl⟩
theorem d_X6_firstGap_4 : gD cX6_firstGap 4 (.iload_n 3) 1 5 := ⟨by decide +kernel, rfl⟩
theorem d_X6_firstGap_5 : gD cX6_firstGap 5 (.invokevirtual 42) 3 8 := ⟨by decide +kernel, rfl⟩
theorem d_X6_firstGap_8 : gD cX6_firstGap 8 (.ireturn) 1 9 := ⟨by decide +kernel, rfl⟩
abbrev rm_X6_firstGap : Room := { frames := 2, cells := 0, slots := 0, locals := 45 }
set_option maxRecDepth 20000 in
theorem w_X6_firstGap {Γ : GC} {E : GE} (hO : gOk Γ E cX6_firstGap RX6 4 rm_X6_firstGap (some .int) "firstGap") (o : Nat) (x1 : Int32) (x2 : Int32) (x3 : Int32) (S : GS) : Go Γ E (gBpI Γ E S) 4 (0, 0) 0 S [(0, vA (some o)), (1, vI x1), (2, vI x2), (3, vI x3)] [] (f_X6_firstGap o x1 x2 x3 S) := by
  unfold f_X6_firstGap
  refine g_aload_n hO d_X6_firstGap_0 (by rfl) 0 rfl ?_
  refine g_iconst hO (-1) d_X6_firstGap_1 (by decide) ?_
  refine g_iload_n hO d_X6_firstGap_2 (by rfl) 1 rfl ?_
  refine g_iload_n hO d_X6_firstGap_3 (by rfl) 2 rfl ?_
  refine g_iload_n hO d_X6_firstGap_4 (by rfl) 3 rfl ?_
  refine k_virtIp hO cl_X6 mm_X6_firstGapOf lkV_X6_42 ⟨⟨Nat.le_of_ble_eq_true rfl, Nat.le_of_ble_eq_true rfl⟩, Nat.le_of_ble_eq_true rfl, Nat.le_of_ble_eq_true rfl⟩ (kn' := (0, 0)) rfl (As := [vI (-1), vI x1, vI x2, vI x3]) rfl (Nat.le_of_ble_eq_true rfl) (fun o' _ => t_X6_firstGapOf Γ.2.1 E o' (-1) x1 x2 x3 S) d_X6_firstGap_5 rfl (fun v1 => ?_)
  exact g_ret hO rfl rfl ⟨Nat.le_of_ble_eq_true rfl, Nat.le_of_ble_eq_true rfl⟩ rfl rfl d_X6_firstGap_8.1
theorem t_X6_firstGap (l : Launch) (E : GE) (o : Nat) (x1 : Int32) (x2 : Int32) (x3 : Int32) (S : GS) : ∀ a, f_X6_firstGap o x1 x2 x3 S = some a → Ct l E yX6_firstGap cX6_firstGap 4 (some .int) rm_X6_firstGap [vA (some o), vI x1, vI x2, vI x3] S (some (vI a)) S :=
  Ct_of (val := fun b => some (vI b)) (nxt := fun _ => S) (by decide) (Nat.le_of_ble_eq_true rfl) (fun Γ hl hO => w_X6_firstGap hO o x1 x2 x3 S)
theorem d_X6_fewestMaids_0 : gD cX6_fewestMaids 0 (.iconst (-1)) 1 1 := ⟨by decide +kernel, rfl⟩
theorem d_X6_fewestMaids_1 : gD cX6_fewestMaids 1 (.istore 5) 2 3 := ⟨by decide +kernel, rfl⟩
theorem d_X6_fewestMaids_3 : gD cX6_fewestMaids 3 (.iload_n 1) 1 4 := ⟨by decide +kernel, rfl⟩
theorem d_X6_fewestMaids_4 : gD cX6_fewestMaids 4 (.iconst 1) 1 5 := ⟨by decide +kernel, rfl⟩
theorem d_X6_fewestMaids_5 : gD cX6_fewestMaids 5 (.iadd) 1 6 := ⟨by decide +kernel, rfl⟩
theorem d_X6_fewestMaids_6 : gD cX6_fewestMaids 6 (.istore 6) 2 8 := ⟨by decide +kernel, rfl⟩
theorem d_X6_fewestMaids_8 : gD cX6_fewestMaids 8 (.iconst 0) 1 9 := ⟨by decide +kernel, rfl⟩
theorem d_X6_fewestMaids_9 : gD cX6_fewestMaids 9 (.istore 7) 2 11 := ⟨by decide +kernel, rfl⟩
theorem d_X6_fewestMaids_11 : gD cX6_fewestMaids 11 (.iload 7) 2 13 := ⟨by decide +kernel, rfl⟩
theorem d_X6_fewestMaids_13 : gD cX6_fewestMaids 13 (.iconst 1) 1 14 := ⟨by decide +kernel, rfl⟩
theorem d_X6_fewestMaids_14 : gD cX6_fewestMaids 14 (.iload_n 1) 1 15 := ⟨by decide +kernel, rfl⟩
theorem d_X6_fewestMaids_15 : gD cX6_fewestMaids 15 (.ishl) 1 16 := ⟨by decide +kernel, rfl⟩
theorem d_X6_fewestMaids_16 : gD cX6_fewestMaids 16 (.if_icmp .ge 44) 3 19 ∧ ((16 : Nat) : Int) + 44 = ((60 : Nat) : Int) := ⟨⟨by decide +kernel, rfl⟩, by decide⟩
theorem d_X6_fewestMaids_19 : gD cX6_fewestMaids 19 (.iload 7) 2 21 := ⟨by decide +kernel, rfl⟩
theorem d_X6_fewestMaids_21 : gD cX6_fewestMaids 21 (.invokestatic 36) 3 24 := ⟨by decide +kernel, rfl⟩
theorem d_X6_fewestMaids_24 : gD cX6_fewestMaids 24 (.iload 6) 2 26 := ⟨by decide +kernel, rfl⟩
theorem d_X6_fewestMaids_26 : gD cX6_fewestMaids 26 (.if_icmp .ge 28) 3 29 ∧ ((26 : Nat) : Int) + 28 = ((54 : Nat) : Int) := ⟨⟨by decide +kernel, rfl⟩, by decide⟩
theorem d_X6_fewestMaids_29 : gD cX6_fewestMaids 29 (.aload_n 0) 1 30 := ⟨by decide +kernel, rfl⟩
theorem d_X6_fewestMaids_30 : gD cX6_fewestMaids 30 (.iload 7) 2 32 := ⟨by decide +kernel, rfl⟩
theorem d_X6_fewestMaids_32 : gD cX6_fewestMaids 32 (.iload_n 2) 1 33 := ⟨by decide +kernel, rfl⟩
theorem d_X6_fewestMaids_33 : gD cX6_fewestMaids 33 (.iload_n 3) 1 34 := ⟨by decide +kernel, rfl⟩
theorem d_X6_fewestMaids_34 : gD cX6_fewestMaids 34 (.iload 4) 2 36 := ⟨by decide +kernel, rfl⟩
theorem d_X6_fewestMaids_36 : gD cX6_fewestMaids 36 (.invokevirtual 42) 3 39 := ⟨by decide +kernel, rfl⟩
theorem d_X6_fewestMaids_39 : gD cX6_fewestMaids 39 (.iconst (-1)) 1 40 := ⟨by decide +kernel, rfl⟩
theorem d_X6_fewestMaids_40 : gD cX6_fewestMaids 40 (.if_icmp .ne 14) 3 43 ∧ ((40 : Nat) : Int) + 14 = ((54 : Nat) : Int) := ⟨⟨by decide +kernel, rfl⟩, by decide⟩
theorem d_X6_fewestMaids_43 : gD cX6_fewestMaids 43 (.iload 7) 2 45 := ⟨by decide +kernel, rfl⟩
theorem d_X6_fewestMaids_45 : gD cX6_fewestMaids 45 (.invokestatic 36) 3 48 := ⟨by decide +kernel, rfl⟩
theorem d_X6_fewestMaids_48 : gD cX6_fewestMaids 48 (.istore 6) 2 50 := ⟨by decide +kernel, rfl⟩
theorem d_X6_fewestMaids_50 : gD cX6_fewestMaids 50 (.iload 7) 2 52 := ⟨by decide +kernel, rfl⟩
theorem d_X6_fewestMaids_52 : gD cX6_fewestMaids 52 (.istore 5) 2 54 := ⟨by decide +kernel, rfl⟩
theorem d_X6_fewestMaids_54 : gD cX6_fewestMaids 54 (.iinc 7 1) 3 57 := ⟨by decide +kernel, rfl⟩
theorem d_X6_fewestMaids_57 : decode cX6_fewestMaids 57 = .ok (.goto (-46), 3) ∧ ((57 : Nat) : Int) + (-46) = ((11 : Nat) : Int) := ⟨by decide +kernel, by decide⟩
theorem d_X6_fewestMaids_60 : gD cX6_fewestMaids 60 (.iload 5) 2 62 := ⟨by decide +kernel, rfl⟩
theorem d_X6_fewestMaids_62 : gD cX6_fewestMaids 62 (.ireturn) 1 63 := ⟨by decide +kernel, rfl⟩
abbrev rm_X6_fewestMaids : Room := { frames := 2, cells := 0, slots := 0, locals := 45 }
set_option maxRecDepth 20000 in
theorem w_X6_fewestMaids_54 {Γ : GC} {E : GE} (hO : gOk Γ E cX6_fewestMaids RX6 8 rm_X6_fewestMaids (some .int) "fewestMaids") (o : Nat) (S : GS) {k11 : (Int32 → Int32 → Int32 → Int32 → Int32 → Int32 → Int32 → Option Int32)} (hk11 : ∀ (z1 : Int32) (z2 : Int32) (z3 : Int32) (z4 : Int32) (z5 : Int32) (z6 : Int32) (z7 : Int32), Go Γ E (gBpI Γ E S) 8 (0, 0) 11 S [(0, vA (some o)), (1, vI z1), (2, vI z2), (3, vI z3), (4, vI z4), (5, vI z5), (6, vI z6), (7, vI z7)] [] (k11 z1 z2 z3 z4 z5 z6 z7)) (x1 : Int32) (x2 : Int32) (x3 : Int32) (x4 : Int32) (x5 : Int32) (x6 : Int32) (x7 : Int32) : Go Γ E (gBpI Γ E S) 8 (0, 0) 54 S [(0, vA (some o)), (1, vI x1), (2, vI x2), (3, vI x3), (4, vI x4), (5, vI x5), (6, vI x6), (7, vI x7)] [] (f_X6_fewestMaids_54 k11 o S x1 x2 x3 x4 x5 x6 x7) := by
  unfold f_X6_fewestMaids_54
  refine g_iinc (lv' := [(7, vI (x7 + 1)), (0, vA (some o)), (1, vI x1), (2, vI x2), (3, vI x3), (4, vI x4), (5, vI x5), (6, vI x6)]) hO 1 d_X6_fewestMaids_54 (by decide) 7 rfl (by decide) rfl ?_
  refine g_goto (tgt := 11) hO d_X6_fewestMaids_57.1 d_X6_fewestMaids_57.2 ?_
  exact g_sub [1, 2, 3, 4, 5, 6, 7, 0] rfl (hk11 _ _ _ _ _ _ _)
set_option maxRecDepth 20000 in
theorem w_X6_fewestMaids_11 {Γ : GC} {E : GE} (hO : gOk Γ E cX6_fewestMaids RX6 8 rm_X6_fewestMaids (some .int) "fewestMaids") (o : Nat) (S : GS) : ∀ (n : Nat) (x1 : Int32) (x2 : Int32) (x3 : Int32) (x4 : Int32) (x5 : Int32) (x6 : Int32) (x7 : Int32), Go Γ E (gBpI Γ E S) 8 (0, 0) 11 S [(0, vA (some o)), (1, vI x1), (2, vI x2), (3, vI x3), (4, vI x4), (5, vI x5), (6, vI x6), (7, vI x7)] [] (f_X6_fewestMaids_11 o S n x1 x2 x3 x4 x5 x6 x7) := by
  intro n
  induction n with
  | zero =>
    intro x1 x2 x3 x4 x5 x6 x7
    exact g_none
  | succ n ih =>
    intro x1 x2 x3 x4 x5 x6 x7
    rw [f_X6_fewestMaids_11]
    refine g_iload hO d_X6_fewestMaids_11 7 rfl ?_
    refine g_iconst hO 1 d_X6_fewestMaids_13 (by decide) ?_
    refine g_iload_n hO d_X6_fewestMaids_14 (by rfl) 1 rfl ?_
    refine g_ishl hO d_X6_fewestMaids_15 ?_
    refine g_ic_ge (tgt := 60) hO d_X6_fewestMaids_16.1 d_X6_fewestMaids_16.2 (fun _ => ?_) (fun _ => ?_)
    · skip
      refine g_iload hO d_X6_fewestMaids_60 5 rfl ?_
      exact g_ret hO rfl rfl ⟨Nat.le_of_ble_eq_true rfl, Nat.le_of_ble_eq_true rfl⟩ rfl rfl d_X6_fewestMaids_62.1
    · skip
      refine g_iload hO d_X6_fewestMaids_19 7 rfl ?_
      refine k_statIp hO mm_J6_bitCount_0f7a4 lkS_X6_36 ⟨⟨Nat.le_of_ble_eq_true rfl, Nat.le_of_ble_eq_true rfl⟩, Nat.le_of_ble_eq_true rfl, Nat.le_of_ble_eq_true rfl⟩ (kn' := (0, 0)) rfl (As := [vI x7]) rfl (Nat.le_of_ble_eq_true rfl) (t_J6_bitCount_0f7a4 Γ.2.1 E x7 S) d_X6_fewestMaids_21 rfl (fun v1 => ?_)
      refine g_iload hO d_X6_fewestMaids_24 6 rfl ?_
      refine g_ic_ge (tgt := 54) hO d_X6_fewestMaids_26.1 d_X6_fewestMaids_26.2 (fun _ => ?_) (fun _ => ?_)
      · skip
        exact g_sub [0, 1, 2, 3, 4, 5, 6, 7] rfl (w_X6_fewestMaids_54 hO o _ ih _ _ _ _ _ _ _)
      · skip
        refine g_aload_n hO d_X6_fewestMaids_29 (by rfl) 0 rfl ?_
        refine g_iload hO d_X6_fewestMaids_30 7 rfl ?_
        refine g_iload_n hO d_X6_fewestMaids_32 (by rfl) 2 rfl ?_
        refine g_iload_n hO d_X6_fewestMaids_33 (by rfl) 3 rfl ?_
        refine g_iload hO d_X6_fewestMaids_34 4 rfl ?_
        refine k_virtIp hO cl_X6 mm_X6_firstGapOf lkV_X6_42 ⟨⟨Nat.le_of_ble_eq_true rfl, Nat.le_of_ble_eq_true rfl⟩, Nat.le_of_ble_eq_true rfl, Nat.le_of_ble_eq_true rfl⟩ (kn' := (0, 0)) rfl (As := [vI x7, vI x2, vI x3, vI x4]) rfl (Nat.le_of_ble_eq_true rfl) (fun o' _ => t_X6_firstGapOf Γ.2.1 E o' x7 x2 x3 x4 S) d_X6_fewestMaids_36 rfl (fun v3 => ?_)
        refine g_iconst hO (-1) d_X6_fewestMaids_39 (by decide) ?_
        refine g_ic_ne (tgt := 54) hO d_X6_fewestMaids_40.1 d_X6_fewestMaids_40.2 (fun _ => ?_) (fun _ => ?_)
        · skip
          refine g_iload hO d_X6_fewestMaids_43 7 rfl ?_
          refine k_statIp hO mm_J6_bitCount_0f7a4 lkS_X6_36 ⟨⟨Nat.le_of_ble_eq_true rfl, Nat.le_of_ble_eq_true rfl⟩, Nat.le_of_ble_eq_true rfl, Nat.le_of_ble_eq_true rfl⟩ (kn' := (0, 0)) rfl (As := [vI x7]) rfl (Nat.le_of_ble_eq_true rfl) (t_J6_bitCount_0f7a4 Γ.2.1 E x7 S) d_X6_fewestMaids_45 rfl (fun v5 => ?_)
          refine g_istore (lv' := [(6, vI v5), (0, vA (some o)), (1, vI x1), (2, vI x2), (3, vI x3), (4, vI x4), (5, vI x5), (7, vI x7)]) hO d_X6_fewestMaids_48 (by decide) rfl ?_
          refine g_iload hO d_X6_fewestMaids_50 7 rfl ?_
          refine g_istore (lv' := [(5, vI x7), (6, vI v5), (0, vA (some o)), (1, vI x1), (2, vI x2), (3, vI x3), (4, vI x4), (7, vI x7)]) hO d_X6_fewestMaids_52 (by decide) rfl ?_
          exact g_sub [2, 3, 4, 5, 6, 0, 1, 7] rfl (w_X6_fewestMaids_54 hO o _ ih _ _ _ _ _ _ _)
        · skip
          exact g_sub [0, 1, 2, 3, 4, 5, 6, 7] rfl (w_X6_fewestMaids_54 hO o _ ih _ _ _ _ _ _ _)
set_option maxRecDepth 20000 in
theorem w_X6_fewestMaids {Γ : GC} {E : GE} (hO : gOk Γ E cX6_fewestMaids RX6 8 rm_X6_fewestMaids (some .int) "fewestMaids") (o : Nat) (x1 : Int32) (x2 : Int32) (x3 : Int32) (x4 : Int32) (S : GS) : Go Γ E (gBpI Γ E S) 8 (0, 0) 0 S [(0, vA (some o)), (1, vI x1), (2, vI x2), (3, vI x3), (4, vI x4)] [] (f_X6_fewestMaids o x1 x2 x3 x4 S) := by
  unfold f_X6_fewestMaids
  refine g_iconst hO (-1) d_X6_fewestMaids_0 (by decide) ?_
  refine g_istore (lv' := [(5, vI (-1)), (0, vA (some o)), (1, vI x1), (2, vI x2), (3, vI x3), (4, vI x4)]) hO d_X6_fewestMaids_1 (by decide) rfl ?_
  refine g_iload_n hO d_X6_fewestMaids_3 (by rfl) 2 rfl ?_
  refine g_iconst hO 1 d_X6_fewestMaids_4 (by decide) ?_
  refine g_iadd hO d_X6_fewestMaids_5 ?_
  refine g_istore (lv' := [(6, vI (x1 + 1)), (5, vI (-1)), (0, vA (some o)), (1, vI x1), (2, vI x2), (3, vI x3), (4, vI x4)]) hO d_X6_fewestMaids_6 (by decide) rfl ?_
  refine g_iconst hO 0 d_X6_fewestMaids_8 (by decide) ?_
  refine g_istore (lv' := [(7, vI 0), (6, vI (x1 + 1)), (5, vI (-1)), (0, vA (some o)), (1, vI x1), (2, vI x2), (3, vI x3), (4, vI x4)]) hO d_X6_fewestMaids_9 (by decide) rfl ?_
  exact g_sub [3, 4, 5, 6, 7, 2, 1, 0] rfl (w_X6_fewestMaids_11 hO o _ _ _ _ _ _ _ _ _)
theorem t_X6_fewestMaids (l : Launch) (E : GE) (o : Nat) (x1 : Int32) (x2 : Int32) (x3 : Int32) (x4 : Int32) (S : GS) : ∀ a, f_X6_fewestMaids o x1 x2 x3 x4 S = some a → Ct l E yX6_fewestMaids cX6_fewestMaids 8 (some .int) rm_X6_fewestMaids [vA (some o), vI x1, vI x2, vI x3, vI x4] S (some (vI a)) S :=
  Ct_of (val := fun b => some (vI b)) (nxt := fun _ => S) (by decide) (Nat.le_of_ble_eq_true rfl) (fun Γ hl hO => w_X6_fewestMaids hO o x1 x2 x3 x4 S)
theorem d_X6_longestRow_0 : gD cX6_longestRow 0 (.iconst 0) 1 1 := ⟨by decide +kernel, rfl⟩
theorem d_X6_longestRow_1 : gD cX6_longestRow 1 (.istore_n 2) 1 2 := ⟨by decide +kernel, rfl⟩
theorem d_X6_longestRow_2 : gD cX6_longestRow 2 (.iconst 0) 1 3 := ⟨by decide +kernel, rfl⟩
theorem d_X6_longestRow_3 : gD cX6_longestRow 3 (.istore_n 3) 1 4 := ⟨by decide +kernel, rfl⟩
theorem d_X6_longestRow_4 : gD cX6_longestRow 4 (.iconst 0) 1 5 := ⟨by decide +kernel, rfl⟩
theorem d_X6_longestRow_5 : gD cX6_longestRow 5 (.istore 4) 2 7 := ⟨by decide +kernel, rfl⟩
theorem d_X6_longestRow_7 : gD cX6_longestRow 7 (.iload 4) 2 9 := ⟨by decide +kernel, rfl⟩
theorem d_X6_longestRow_9 : gD cX6_longestRow 9 (.bipush 30) 2 11 := ⟨by decide +kernel, rfl⟩
theorem d_X6_longestRow_11 : gD cX6_longestRow 11 (.if_icmp .gt 37) 3 14 ∧ ((11 : Nat) : Int) + 37 = ((48 : Nat) : Int) := ⟨⟨by decide +kernel, rfl⟩, by decide⟩
theorem d_X6_longestRow_14 : gD cX6_longestRow 14 (.aload_n 0) 1 15 := ⟨by decide +kernel, rfl⟩
theorem d_X6_longestRow_15 : gD cX6_longestRow 15 (.getfield 9) 3 18 := ⟨by decide +kernel, rfl⟩
theorem d_X6_longestRow_18 : gD cX6_longestRow 18 (.iload 4) 2 20 := ⟨by decide +kernel, rfl⟩
theorem d_X6_longestRow_20 : gD cX6_longestRow 20 (.iaload) 1 21 := ⟨by decide +kernel, rfl⟩
theorem d_X6_longestRow_21 : gD cX6_longestRow 21 (.invokestatic 36) 3 24 := ⟨by decide +kernel, rfl⟩
theorem d_X6_longestRow_24 : gD cX6_longestRow 24 (.iload_n 1) 1 25 := ⟨by decide +kernel, rfl⟩
theorem d_X6_longestRow_25 : gD cX6_longestRow 25 (.if_icmp .lt 9) 3 28 ∧ ((25 : Nat) : Int) + 9 = ((34 : Nat) : Int) := ⟨⟨by decide +kernel, rfl⟩, by decide⟩
theorem d_X6_longestRow_28 : gD cX6_longestRow 28 (.iload_n 3) 1 29 := ⟨by decide +kernel, rfl⟩
theorem d_X6_longestRow_29 : gD cX6_longestRow 29 (.iconst 1) 1 30 := ⟨by decide +kernel, rfl⟩
theorem d_X6_longestRow_30 : gD cX6_longestRow 30 (.iadd) 1 31 := ⟨by decide +kernel, rfl⟩
theorem d_X6_longestRow_31 : decode cX6_longestRow 31 = .ok (.goto 4, 3) ∧ ((31 : Nat) : Int) + 4 = ((35 : Nat) : Int) := ⟨by decide +kernel, by decide⟩
theorem d_X6_longestRow_34 : gD cX6_longestRow 34 (.iconst 0) 1 35 := ⟨by decide +kernel, rfl⟩
theorem d_X6_longestRow_35 : gD cX6_longestRow 35 (.istore_n 3) 1 36 := ⟨by decide +kernel, rfl⟩
theorem d_X6_longestRow_36 : gD cX6_longestRow 36 (.iload_n 2) 1 37 := ⟨by decide +kernel, rfl⟩
theorem d_X6_longestRow_37 : gD cX6_longestRow 37 (.iload_n 3) 1 38 := ⟨by decide +kernel, rfl⟩
theorem d_X6_longestRow_38 : gD cX6_longestRow 38 (.invokestatic 31) 3 41 := ⟨by decide +kernel, rfl⟩
theorem d_X6_longestRow_41 : gD cX6_longestRow 41 (.istore_n 2) 1 42 := ⟨by decide +kernel, rfl⟩
theorem d_X6_longestRow_42 : gD cX6_longestRow 42 (.iinc 4 1) 3 45 := ⟨by decide +kernel, rfl⟩
theorem d_X6_longestRow_45 : decode cX6_longestRow 45 = .ok (.goto (-38), 3) ∧ ((45 : Nat) : Int) + (-38) = ((7 : Nat) : Int) := ⟨by decide +kernel, by decide⟩
theorem d_X6_longestRow_48 : gD cX6_longestRow 48 (.iload_n 2) 1 49 := ⟨by decide +kernel, rfl⟩
theorem d_X6_longestRow_49 : gD cX6_longestRow 49 (.ireturn) 1 50 := ⟨by decide +kernel, rfl⟩
abbrev rm_X6_longestRow : Room := { frames := 1, cells := 0, slots := 0, locals := 20 }
set_option maxRecDepth 20000 in
theorem w_X6_longestRow_35 {Γ : GC} {E : GE} (hO : gOk Γ E cX6_longestRow RX6 5 rm_X6_longestRow (some .int) "longestRow") (o : Nat) (S : GS) {k7 : (Int32 → Int32 → Int32 → Int32 → Option Int32)} (hk7 : ∀ (z1 : Int32) (z2 : Int32) (z3 : Int32) (z4 : Int32), Go Γ E (gBpI Γ E S) 5 (0, 0) 7 S [(0, vA (some o)), (1, vI z1), (2, vI z2), (3, vI z3), (4, vI z4)] [] (k7 z1 z2 z3 z4)) (x1 : Int32) (x2 : Int32) (x4 : Int32) (y0 : Int32) : Go Γ E (gBpI Γ E S) 5 (0, 0) 35 S [(0, vA (some o)), (1, vI x1), (2, vI x2), (4, vI x4)] [vI y0] (f_X6_longestRow_35 k7 o S x1 x2 x4 y0) := by
  unfold f_X6_longestRow_35
  refine g_istore_n (lv' := [(3, vI y0), (0, vA (some o)), (1, vI x1), (2, vI x2), (4, vI x4)]) hO d_X6_longestRow_35 (by rfl) (by decide) rfl ?_
  refine g_iload_n hO d_X6_longestRow_36 (by rfl) 3 rfl ?_
  refine g_iload_n hO d_X6_longestRow_37 (by rfl) 0 rfl ?_
  refine g_mmax hO wm_X6_31 wt_max wi_Math wc_max ⟨by decide, Nat.le_of_ble_eq_true rfl, Nat.zero_le _, Nat.zero_le _⟩ d_X6_longestRow_38 ?_
  refine g_istore_n (lv' := [(2, vI (jmax x2 y0)), (3, vI y0), (0, vA (some o)), (1, vI x1), (4, vI x4)]) hO d_X6_longestRow_41 (by rfl) (by decide) rfl ?_
  refine g_iinc (lv' := [(4, vI (x4 + 1)), (2, vI (jmax x2 y0)), (3, vI y0), (0, vA (some o)), (1, vI x1)]) hO 1 d_X6_longestRow_42 (by decide) 4 rfl (by decide) rfl ?_
  refine g_goto (tgt := 7) hO d_X6_longestRow_45.1 d_X6_longestRow_45.2 ?_
  exact g_sub [3, 4, 1, 2, 0] rfl (hk7 _ _ _ _)
set_option maxRecDepth 20000 in
theorem w_X6_longestRow_7 {Γ : GC} {E : GE} (hO : gOk Γ E cX6_longestRow RX6 5 rm_X6_longestRow (some .int) "longestRow") (o : Nat) (S : GS) : ∀ (n : Nat) (x1 : Int32) (x2 : Int32) (x3 : Int32) (x4 : Int32), Go Γ E (gBpI Γ E S) 5 (0, 0) 7 S [(0, vA (some o)), (1, vI x1), (2, vI x2), (3, vI x3), (4, vI x4)] [] (f_X6_longestRow_7 o S n x1 x2 x3 x4) := by
  intro n
  induction n with
  | zero =>
    intro x1 x2 x3 x4
    exact g_none
  | succ n ih =>
    intro x1 x2 x3 x4
    rw [f_X6_longestRow_7]
    refine g_iload hO d_X6_longestRow_7 4 rfl ?_
    refine g_bipush hO 30 d_X6_longestRow_9 (by decide) ?_
    refine g_ic_gt (tgt := 48) hO d_X6_longestRow_11.1 d_X6_longestRow_11.2 (fun _ => ?_) (fun _ => ?_)
    · skip
      refine g_iload_n hO d_X6_longestRow_48 (by rfl) 2 rfl ?_
      exact g_ret hO rfl rfl ⟨Nat.le_of_ble_eq_true rfl, Nat.le_of_ble_eq_true rfl⟩ rfl rfl d_X6_longestRow_49.1
    · skip
      refine g_aload_n hO d_X6_longestRow_14 (by rfl) 0 rfl ?_
      refine h_getR hO cl_X6 0 rfl wf_X6_9 d_X6_longestRow_15 (fun v1 => ?_)
      refine g_iload hO d_X6_longestRow_18 4 rfl ?_
      refine h_iald hO d_X6_longestRow_20 (fun v2 => ?_)
      refine k_statIp hO mm_J6_bitCount_0f7a4 lkS_X6_36 ⟨⟨Nat.le_of_ble_eq_true rfl, Nat.le_of_ble_eq_true rfl⟩, Nat.le_of_ble_eq_true rfl, Nat.le_of_ble_eq_true rfl⟩ (kn' := (0, 0)) rfl (As := [vI v2]) rfl (Nat.le_of_ble_eq_true rfl) (t_J6_bitCount_0f7a4 Γ.2.1 E v2 S) d_X6_longestRow_21 rfl (fun v3 => ?_)
      refine g_iload_n hO d_X6_longestRow_24 (by rfl) 1 rfl ?_
      refine g_ic_lt (tgt := 34) hO d_X6_longestRow_25.1 d_X6_longestRow_25.2 (fun _ => ?_) (fun _ => ?_)
      · skip
        refine g_iconst hO 0 d_X6_longestRow_34 (by decide) ?_
        exact g_sub [0, 1, 2, 4] rfl (w_X6_longestRow_35 hO o _ ih _ _ _ _)
      · skip
        refine g_iload_n hO d_X6_longestRow_28 (by rfl) 3 rfl ?_
        refine g_iconst hO 1 d_X6_longestRow_29 (by decide) ?_
        refine g_iadd hO d_X6_longestRow_30 ?_
        refine g_goto (tgt := 35) hO d_X6_longestRow_31.1 d_X6_longestRow_31.2 ?_
        exact g_sub [0, 1, 2, 4] rfl (w_X6_longestRow_35 hO o _ ih _ _ _ _)
set_option maxRecDepth 20000 in
theorem w_X6_longestRow {Γ : GC} {E : GE} (hO : gOk Γ E cX6_longestRow RX6 5 rm_X6_longestRow (some .int) "longestRow") (o : Nat) (x1 : Int32) (S : GS) : Go Γ E (gBpI Γ E S) 5 (0, 0) 0 S [(0, vA (some o)), (1, vI x1)] [] (f_X6_longestRow o x1 S) := by
  unfold f_X6_longestRow
  refine g_iconst hO 0 d_X6_longestRow_0 (by decide) ?_
  refine g_istore_n (lv' := [(2, vI 0), (0, vA (some o)), (1, vI x1)]) hO d_X6_longestRow_1 (by rfl) (by decide) rfl ?_
  refine g_iconst hO 0 d_X6_longestRow_2 (by decide) ?_
  refine g_istore_n (lv' := [(3, vI 0), (2, vI 0), (0, vA (some o)), (1, vI x1)]) hO d_X6_longestRow_3 (by rfl) (by decide) rfl ?_
  refine g_iconst hO 0 d_X6_longestRow_4 (by decide) ?_
  refine g_istore (lv' := [(4, vI 0), (3, vI 0), (2, vI 0), (0, vA (some o)), (1, vI x1)]) hO d_X6_longestRow_5 (by decide) rfl ?_
  exact g_sub [3, 4, 2, 1, 0] rfl (w_X6_longestRow_7 hO o _ _ _ _ _ _)
theorem t_X6_longestRow (l : Launch) (E : GE) (o : Nat) (x1 : Int32) (S : GS) : ∀ a, f_X6_longestRow o x1 S = some a → Ct l E yX6_longestRow cX6_longestRow 5 (some .int) rm_X6_longestRow [vA (some o), vI x1] S (some (vI a)) S :=
  Ct_of (val := fun b => some (vI b)) (nxt := fun _ => S) (by decide) (Nat.le_of_ble_eq_true rfl) (fun Γ hl hO => w_X6_longestRow hO o x1 S)
theorem d_X8_copyFrom_0 : gD cX8_copyFrom 0 (.aload_n 0) 1 1 := ⟨by decide +kernel, rfl⟩
theorem d_X8_copyFrom_1 : gD cX8_copyFrom 1 (.getfield 14) 3 4 := ⟨by decide +kernel, rfl⟩
theorem d_X8_copyFrom_4 : gD cX8_copyFrom 4 (.aload_n 1) 1 5 := ⟨by decide +kernel, rfl⟩
theorem d_X8_copyFrom_5 : gD cX8_copyFrom 5 (.getfield 14) 3 8 := ⟨by decide +kernel, rfl⟩
theorem d_X8_copyFrom_8 : gD cX8_copyFrom 8 (.invokevirtual 26) 3 11 := ⟨by decide +kernel, rfl⟩
theorem d_X8_copyFrom_11 : gD cX8_copyFrom 11 (.aload_n 0) 1 12 := ⟨by decide +kernel, rfl⟩
theorem d_X8_copyFrom_12 : gD cX8_copyFrom 12 (.getfield 20) 3 15 := ⟨by decide +kernel, rfl⟩
theorem d_X8_copyFrom_15 : gD cX8_copyFrom 15 (.aload_n 1) 1 16 := ⟨by decide +kernel, rfl⟩
theorem d_X8_copyFrom_16 : gD cX8_copyFrom 16 (.getfield 20) 3 19 := ⟨by decide +kernel, rfl⟩
theorem d_X8_copyFrom_19 : gD cX8_copyFrom 19 (.invokevirtual 26) 3 22 := ⟨by decide +kernel, rfl⟩
theorem d_X8_copyFrom_22 : gD cX8_copyFrom 22 (.return_) 1 23 := ⟨by decide +kernel, rfl⟩
abbrev rm_X8_copyFrom : Room := { frames := 2, cells := 0, slots := 0, locals := 39 }
set_option maxRecDepth 20000 in
theorem w_X8_copyFrom {Γ : GC} {E : GE} (hO : gOk Γ E cX8_copyFrom RX8 2 rm_X8_copyFrom none "copyFrom") (o : Nat) (x1 : Option Nat) (S : GS) : Go Γ E (gBsV Γ E) 2 (0, 0) 0 S [(0, vA (some o)), (1, vA x1)] [] (f_X8_copyFrom o x1 S) := by
  unfold f_X8_copyFrom
  refine g_aload_n hO d_X8_copyFrom_0 (by rfl) 0 rfl ?_
  refine h_getR hO cl_X8 0 rfl wf_X8_14 d_X8_copyFrom_1 (fun v1 => ?_)
  refine g_aload_n hO d_X8_copyFrom_4 (by rfl) 1 rfl ?_
  refine h_getR hO cl_X8 0 rfl wf_X8_14 d_X8_copyFrom_5 (fun v2 => ?_)
  refine k_virtVs hO cl_X7 mm_X7_copyFrom lkV_X8_26 ⟨⟨Nat.le_of_ble_eq_true rfl, Nat.le_of_ble_eq_true rfl⟩, Nat.le_of_ble_eq_true rfl, Nat.le_of_ble_eq_true rfl⟩ (kn' := (0, 0)) rfl (As := [vA v2]) rfl (Nat.le_of_ble_eq_true rfl) (fun o' _ => t_X7_copyFrom Γ.2.1 E o' v2 S) d_X8_copyFrom_8 rfl (fun S4 => ?_)
  refine g_aload_n hO d_X8_copyFrom_11 (by rfl) 0 rfl ?_
  refine h_getR hO cl_X8 1 rfl wf_X8_20 d_X8_copyFrom_12 (fun v5 => ?_)
  refine g_aload_n hO d_X8_copyFrom_15 (by rfl) 1 rfl ?_
  refine h_getR hO cl_X8 1 rfl wf_X8_20 d_X8_copyFrom_16 (fun v6 => ?_)
  refine k_virtVs hO cl_X7 mm_X7_copyFrom lkV_X8_26 ⟨⟨Nat.le_of_ble_eq_true rfl, Nat.le_of_ble_eq_true rfl⟩, Nat.le_of_ble_eq_true rfl, Nat.le_of_ble_eq_true rfl⟩ (kn' := (0, 0)) rfl (As := [vA v6]) rfl (Nat.le_of_ble_eq_true rfl) (fun o' _ => t_X7_copyFrom Γ.2.1 E o' v6 S4) d_X8_copyFrom_19 rfl (fun S8 => ?_)
  exact g_vret hO rfl ⟨Nat.le_of_ble_eq_true rfl, Nat.le_of_ble_eq_true rfl⟩ rfl rfl d_X8_copyFrom_22.1
theorem t_X8_copyFrom (l : Launch) (E : GE) (o : Nat) (x1 : Option Nat) (S : GS) : ∀ a, f_X8_copyFrom o x1 S = some a → Ct l E yX8_copyFrom cX8_copyFrom 2 none rm_X8_copyFrom [vA (some o), vA x1] S none a :=
  Ct_of (val := fun _ => none) (nxt := fun b => b) (by decide) (Nat.le_of_ble_eq_true rfl) (fun Γ hl hO => w_X8_copyFrom hO o x1 S)
theorem d_X8_tell_0 : gD cX8_tell 0 (.iload_n 1) 1 1 := ⟨by decide +kernel, rfl⟩
theorem d_X8_tell_1 : gD cX8_tell 1 (.sipush 400) 3 4 := ⟨by decide +kernel, rfl⟩
theorem d_X8_tell_4 : gD cX8_tell 4 (.if_icmp .lt 27) 3 7 ∧ ((4 : Nat) : Int) + 27 = ((31 : Nat) : Int) := ⟨⟨by decide +kernel, rfl⟩, by decide⟩
theorem d_X8_tell_7 : gD cX8_tell 7 (.aload_n 0) 1 8 := ⟨by decide +kernel, rfl⟩
theorem d_X8_tell_8 : gD cX8_tell 8 (.getfield 20) 3 11 := ⟨by decide +kernel, rfl⟩
theorem d_X8_tell_11 : gD cX8_tell 11 (.iload_n 1) 1 12 := ⟨by decide +kernel, rfl⟩
theorem d_X8_tell_12 : gD cX8_tell 12 (.sipush 400) 3 15 := ⟨by decide +kernel, rfl⟩
theorem d_X8_tell_15 : gD cX8_tell 15 (.isub) 1 16 := ⟨by decide +kernel, rfl⟩
theorem d_X8_tell_16 : gD cX8_tell 16 (.bipush 10) 2 18 := ⟨by decide +kernel, rfl⟩
theorem d_X8_tell_18 : gD cX8_tell 18 (.idiv) 1 19 := ⟨by decide +kernel, rfl⟩
theorem d_X8_tell_19 : gD cX8_tell 19 (.iload_n 1) 1 20 := ⟨by decide +kernel, rfl⟩
theorem d_X8_tell_20 : gD cX8_tell 20 (.sipush 400) 3 23 := ⟨by decide +kernel, rfl⟩
theorem d_X8_tell_23 : gD cX8_tell 23 (.isub) 1 24 := ⟨by decide +kernel, rfl⟩
theorem d_X8_tell_24 : gD cX8_tell 24 (.bipush 10) 2 26 := ⟨by decide +kernel, rfl⟩
theorem d_X8_tell_26 : gD cX8_tell 26 (.irem) 1 27 := ⟨by decide +kernel, rfl⟩
theorem d_X8_tell_27 : gD cX8_tell 27 (.invokevirtual 30) 3 30 := ⟨by decide +kernel, rfl⟩
theorem d_X8_tell_30 : gD cX8_tell 30 (.ireturn) 1 31 := ⟨by decide +kernel, rfl⟩
theorem d_X8_tell_31 : gD cX8_tell 31 (.iload_n 1) 1 32 := ⟨by decide +kernel, rfl⟩
theorem d_X8_tell_32 : gD cX8_tell 32 (.bipush 100) 2 34 := ⟨by decide +kernel, rfl⟩
theorem d_X8_tell_34 : gD cX8_tell 34 (.if_icmp .lt 25) 3 37 ∧ ((34 : Nat) : Int) + 25 = ((59 : Nat) : Int) := ⟨⟨by decide +kernel, rfl⟩, by decide⟩
theorem d_X8_tell_37 : gD cX8_tell 37 (.aload_n 0) 1 38 := ⟨by decide +kernel, rfl⟩
theorem d_X8_tell_38 : gD cX8_tell 38 (.getfield 14) 3 41 := ⟨by decide +kernel, rfl⟩
theorem d_X8_tell_41 : gD cX8_tell 41 (.iload_n 1) 1 42 := ⟨by decide +kernel, rfl⟩
theorem d_X8_tell_42 : gD cX8_tell 42 (.bipush 100) 2 44 := ⟨by decide +kernel, rfl⟩
theorem d_X8_tell_44 : gD cX8_tell 44 (.isub) 1 45 := ⟨by decide +kernel, rfl⟩
theorem d_X8_tell_45 : gD cX8_tell 45 (.bipush 10) 2 47 := ⟨by decide +kernel, rfl⟩
theorem d_X8_tell_47 : gD cX8_tell 47 (.idiv) 1 48 := ⟨by decide +kernel, rfl⟩
theorem d_X8_tell_48 : gD cX8_tell 48 (.iload_n 1) 1 49 := ⟨by decide +kernel, rfl⟩
theorem d_X8_tell_49 : gD cX8_tell 49 (.bipush 100) 2 51 := ⟨by decide +kernel, rfl⟩
theorem d_X8_tell_51 : gD cX8_tell 51 (.isub) 1 52 := ⟨by decide +kernel, rfl⟩
theorem d_X8_tell_52 : gD cX8_tell 52 (.bipush 10) 2 54 := ⟨by decide +kernel, rfl⟩
theorem d_X8_tell_54 : gD cX8_tell 54 (.irem) 1 55 := ⟨by decide +kernel, rfl⟩
theorem d_X8_tell_55 : gD cX8_tell 55 (.invokevirtual 30) 3 58 := ⟨by decide +kernel, rfl⟩
theorem d_X8_tell_58 : gD cX8_tell 58 (.ireturn) 1 59 := ⟨by decide +kernel, rfl⟩
theorem d_X8_tell_59 : gD cX8_tell 59 (.iload_n 1) 1 60 := ⟨by decide +kernel, rfl⟩
theorem d_X8_tell_60 : gD cX8_tell 60 (.ifCond .ne 11) 3 63 ∧ ((60 : Nat) : Int) + 11 = ((71 : Nat) : Int) := ⟨⟨by decide +kernel, rfl⟩, by decide⟩
theorem d_X8_tell_63 : gD cX8_tell 63 (.aload_n 0) 1 64 := ⟨by decide +kernel, rfl⟩
theorem d_X8_tell_64 : gD cX8_tell 64 (.getfield 14) 3 67 := ⟨by decide +kernel, rfl⟩
theorem d_X8_tell_67 : gD cX8_tell 67 (.getfield 34) 3 70 := ⟨by decide +kernel, rfl⟩
theorem d_X8_tell_70 : gD cX8_tell 70 (.ireturn) 1 71 := ⟨by decide +kernel, rfl⟩
theorem d_X8_tell_71 : gD cX8_tell 71 (.iload_n 1) 1 72 := ⟨by decide +kernel, rfl⟩
theorem d_X8_tell_72 : gD cX8_tell 72 (.iconst 1) 1 73 := ⟨by decide +kernel, rfl⟩
theorem d_X8_tell_73 : gD cX8_tell 73 (.if_icmp .ne 13) 3 76 ∧ ((73 : Nat) : Int) + 13 = ((86 : Nat) : Int) := ⟨⟨by decide +kernel, rfl⟩, by decide⟩
theorem d_X8_tell_76 : gD cX8_tell 76 (.aload_n 0) 1 77 := ⟨by decide +kernel, rfl⟩
theorem d_X8_tell_77 : gD cX8_tell 77 (.getfield 20) 3 80 := ⟨by decide +kernel, rfl⟩
theorem d_X8_tell_80 : gD cX8_tell 80 (.getfield 34) 3 83 := ⟨by decide +kernel, rfl⟩
theorem d_X8_tell_83 : decode cX8_tell 83 = .ok (.goto 4, 3) ∧ ((83 : Nat) : Int) + 4 = ((87 : Nat) : Int) := ⟨by decide +kernel, by decide⟩
theorem d_X8_tell_86 : gD cX8_tell 86 (.iconst (-1)) 1 87 := ⟨by decide +kernel, rfl⟩
theorem d_X8_tell_87 : gD cX8_tell 87 (.ireturn) 1 88 := ⟨by decide +kernel, rfl⟩
abbrev rm_X8_tell : Room := { frames := 1, cells := 0, slots := 0, locals := 22 }
set_option maxRecDepth 20000 in
theorem w_X8_tell {Γ : GC} {E : GE} (hO : gOk Γ E cX8_tell RX8 2 rm_X8_tell (some .int) "tell") (o : Nat) (x1 : Int32) (S : GS) : Go Γ E (gBpI Γ E S) 2 (0, 0) 0 S [(0, vA (some o)), (1, vI x1)] [] (f_X8_tell o x1 S) := by
  unfold f_X8_tell
  refine g_iload_n hO d_X8_tell_0 (by rfl) 1 rfl ?_
  refine g_sipush hO 400 d_X8_tell_1 (by decide) ?_
  refine g_ic_lt (tgt := 31) hO d_X8_tell_4.1 d_X8_tell_4.2 (fun _ => ?_) (fun _ => ?_)
  · skip
    refine g_iload_n hO d_X8_tell_31 (by rfl) 1 rfl ?_
    refine g_bipush hO 100 d_X8_tell_32 (by decide) ?_
    refine g_ic_lt (tgt := 59) hO d_X8_tell_34.1 d_X8_tell_34.2 (fun _ => ?_) (fun _ => ?_)
    · skip
      refine g_iload_n hO d_X8_tell_59 (by rfl) 1 rfl ?_
      refine g_if_ne (tgt := 71) hO d_X8_tell_60.1 d_X8_tell_60.2 (fun _ => ?_) (fun _ => ?_)
      · skip
        refine g_aload_n hO d_X8_tell_63 (by rfl) 0 rfl ?_
        refine h_getR hO cl_X8 0 rfl wf_X8_14 d_X8_tell_64 (fun v1 => ?_)
        refine h_getI hO cl_X7 3 rfl wf_X8_34 d_X8_tell_67 (fun v2 => ?_)
        exact g_ret hO rfl rfl ⟨Nat.le_of_ble_eq_true rfl, Nat.le_of_ble_eq_true rfl⟩ rfl rfl d_X8_tell_70.1
      · skip
        refine g_iload_n hO d_X8_tell_71 (by rfl) 1 rfl ?_
        refine g_iconst hO 1 d_X8_tell_72 (by decide) ?_
        refine g_ic_ne (tgt := 86) hO d_X8_tell_73.1 d_X8_tell_73.2 (fun _ => ?_) (fun _ => ?_)
        · skip
          refine g_aload_n hO d_X8_tell_76 (by rfl) 0 rfl ?_
          refine h_getR hO cl_X8 1 rfl wf_X8_20 d_X8_tell_77 (fun v3 => ?_)
          refine h_getI hO cl_X7 3 rfl wf_X8_34 d_X8_tell_80 (fun v4 => ?_)
          refine g_goto (tgt := 87) hO d_X8_tell_83.1 d_X8_tell_83.2 ?_
          exact g_ret hO rfl rfl ⟨Nat.le_of_ble_eq_true rfl, Nat.le_of_ble_eq_true rfl⟩ rfl rfl d_X8_tell_87.1
        · skip
          refine g_iconst hO (-1) d_X8_tell_86 (by decide) ?_
          exact g_ret hO rfl rfl ⟨Nat.le_of_ble_eq_true rfl, Nat.le_of_ble_eq_true rfl⟩ rfl rfl d_X8_tell_87.1
    · skip
      refine g_aload_n hO d_X8_tell_37 (by rfl) 0 rfl ?_
      refine h_getR hO cl_X8 0 rfl wf_X8_14 d_X8_tell_38 (fun v5 => ?_)
      refine g_iload_n hO d_X8_tell_41 (by rfl) 1 rfl ?_
      refine g_bipush hO 100 d_X8_tell_42 (by decide) ?_
      refine g_isub hO d_X8_tell_44 ?_
      refine g_bipush hO 10 d_X8_tell_45 (by decide) ?_
      refine g_idiv hO d_X8_tell_47 ?_
      refine g_iload_n hO d_X8_tell_48 (by rfl) 1 rfl ?_
      refine g_bipush hO 100 d_X8_tell_49 (by decide) ?_
      refine g_isub hO d_X8_tell_51 ?_
      refine g_bipush hO 10 d_X8_tell_52 (by decide) ?_
      refine g_irem hO d_X8_tell_54 ?_
      refine k_virtIp hO cl_X7 mm_X7_cell lkV_X8_30 ⟨⟨Nat.le_of_ble_eq_true rfl, Nat.le_of_ble_eq_true rfl⟩, Nat.le_of_ble_eq_true rfl, Nat.le_of_ble_eq_true rfl⟩ (kn' := (0, 0)) rfl (As := [vI ((x1 - 100) / 10), vI (jrem (x1 - 100) 10)]) rfl (Nat.le_of_ble_eq_true rfl) (fun o' _ => t_X7_cell Γ.2.1 E o' ((x1 - 100) / 10) (jrem (x1 - 100) 10) S) d_X8_tell_55 rfl (fun v6 => ?_)
      exact g_ret hO rfl rfl ⟨Nat.le_of_ble_eq_true rfl, Nat.le_of_ble_eq_true rfl⟩ rfl rfl d_X8_tell_58.1
  · skip
    refine g_aload_n hO d_X8_tell_7 (by rfl) 0 rfl ?_
    refine h_getR hO cl_X8 1 rfl wf_X8_20 d_X8_tell_8 (fun v8 => ?_)
    refine g_iload_n hO d_X8_tell_11 (by rfl) 1 rfl ?_
    refine g_sipush hO 400 d_X8_tell_12 (by decide) ?_
    refine g_isub hO d_X8_tell_15 ?_
    refine g_bipush hO 10 d_X8_tell_16 (by decide) ?_
    refine g_idiv hO d_X8_tell_18 ?_
    refine g_iload_n hO d_X8_tell_19 (by rfl) 1 rfl ?_
    refine g_sipush hO 400 d_X8_tell_20 (by decide) ?_
    refine g_isub hO d_X8_tell_23 ?_
    refine g_bipush hO 10 d_X8_tell_24 (by decide) ?_
    refine g_irem hO d_X8_tell_26 ?_
    refine k_virtIp hO cl_X7 mm_X7_cell lkV_X8_30 ⟨⟨Nat.le_of_ble_eq_true rfl, Nat.le_of_ble_eq_true rfl⟩, Nat.le_of_ble_eq_true rfl, Nat.le_of_ble_eq_true rfl⟩ (kn' := (0, 0)) rfl (As := [vI ((x1 - 400) / 10), vI (jrem (x1 - 400) 10)]) rfl (Nat.le_of_ble_eq_true rfl) (fun o' _ => t_X7_cell Γ.2.1 E o' ((x1 - 400) / 10) (jrem (x1 - 400) 10) S) d_X8_tell_27 rfl (fun v9 => ?_)
    exact g_ret hO rfl rfl ⟨Nat.le_of_ble_eq_true rfl, Nat.le_of_ble_eq_true rfl⟩ rfl rfl d_X8_tell_30.1
theorem t_X8_tell (l : Launch) (E : GE) (o : Nat) (x1 : Int32) (S : GS) : ∀ a, f_X8_tell o x1 S = some a → Ct l E yX8_tell cX8_tell 2 (some .int) rm_X8_tell [vA (some o), vI x1] S (some (vI a)) S :=
  Ct_of (val := fun b => some (vI b)) (nxt := fun _ => S) (by decide) (Nat.le_of_ble_eq_true rfl) (fun Γ hl hO => w_X8_tell hO o x1 S)
theorem d_X8_lastMinute_0 : gD cX8_lastMinute 0 (.iconst 0) 1 1 := ⟨by decide +kernel, rfl⟩
theorem d_X8_lastMinute_1 : gD cX8_lastMinute 1 (.istore_n 1) 1 2 := ⟨by decide +kernel, rfl⟩
theorem d_X8_lastMinute_2 : gD cX8_lastMinute 2 (.iconst 0) 1 3 := ⟨by decide +kernel, rfl⟩
theorem d_X8_lastMinute_3 : gD cX8_lastMinute 3 (.istore_n 2) 1 4 := ⟨by decide +kernel, rfl⟩
theorem d_X8_lastMinute_4 : gD cX8_lastMinute 4 (.iload_n 2) 1 5 := ⟨by decide +kernel, rfl⟩
theorem d_X8_lastMinute_5 : gD cX8_lastMinute 5 (.aload_n 0) 1 6 := ⟨by decide +kernel, rfl⟩
theorem d_X8_lastMinute_6 : gD cX8_lastMinute 6 (.getfield 14) 3 9 := ⟨by decide +kernel, rfl⟩
theorem d_X8_lastMinute_9 : gD cX8_lastMinute 9 (.getfield 34) 3 12 := ⟨by decide +kernel, rfl⟩
theorem d_X8_lastMinute_12 : gD cX8_lastMinute 12 (.if_icmp .ge 23) 3 15 ∧ ((12 : Nat) : Int) + 23 = ((35 : Nat) : Int) := ⟨⟨by decide +kernel, rfl⟩, by decide⟩
theorem d_X8_lastMinute_15 : gD cX8_lastMinute 15 (.iload_n 1) 1 16 := ⟨by decide +kernel, rfl⟩
theorem d_X8_lastMinute_16 : gD cX8_lastMinute 16 (.aload_n 0) 1 17 := ⟨by decide +kernel, rfl⟩
theorem d_X8_lastMinute_17 : gD cX8_lastMinute 17 (.getfield 14) 3 20 := ⟨by decide +kernel, rfl⟩
theorem d_X8_lastMinute_20 : gD cX8_lastMinute 20 (.iload_n 2) 1 21 := ⟨by decide +kernel, rfl⟩
theorem d_X8_lastMinute_21 : gD cX8_lastMinute 21 (.iconst 1) 1 22 := ⟨by decide +kernel, rfl⟩
theorem d_X8_lastMinute_22 : gD cX8_lastMinute 22 (.invokevirtual 30) 3 25 := ⟨by decide +kernel, rfl⟩
theorem d_X8_lastMinute_25 : gD cX8_lastMinute 25 (.invokestatic 38) 3 28 := ⟨by decide +kernel, rfl⟩
theorem d_X8_lastMinute_28 : gD cX8_lastMinute 28 (.istore_n 1) 1 29 := ⟨by decide +kernel, rfl⟩
theorem d_X8_lastMinute_29 : gD cX8_lastMinute 29 (.iinc 2 1) 3 32 := ⟨by decide +kernel, rfl⟩
theorem d_X8_lastMinute_32 : decode cX8_lastMinute 32 = .ok (.goto (-28), 3) ∧ ((32 : Nat) : Int) + (-28) = ((4 : Nat) : Int) := ⟨by decide +kernel, by decide⟩
theorem d_X8_lastMinute_35 : gD cX8_lastMinute 35 (.iload_n 1) 1 36 := ⟨by decide +kernel, rfl⟩
theorem d_X8_lastMinute_36 : gD cX8_lastMinute 36 (.ireturn) 1 37 := ⟨by decide +kernel, rfl⟩
abbrev rm_X8_lastMinute : Room := { frames := 1, cells := 0, slots := 0, locals := 22 }
set_option maxRecDepth 20000 in
theorem w_X8_lastMinute_4 {Γ : GC} {E : GE} (hO : gOk Γ E cX8_lastMinute RX8 3 rm_X8_lastMinute (some .int) "lastMinute") (o : Nat) (S : GS) : ∀ (n : Nat) (x1 : Int32) (x2 : Int32), Go Γ E (gBpI Γ E S) 3 (0, 0) 4 S [(0, vA (some o)), (1, vI x1), (2, vI x2)] [] (f_X8_lastMinute_4 o S n x1 x2) := by
  intro n
  induction n with
  | zero =>
    intro x1 x2
    exact g_none
  | succ n ih =>
    intro x1 x2
    rw [f_X8_lastMinute_4]
    refine g_iload_n hO d_X8_lastMinute_4 (by rfl) 2 rfl ?_
    refine g_aload_n hO d_X8_lastMinute_5 (by rfl) 0 rfl ?_
    refine h_getR hO cl_X8 0 rfl wf_X8_14 d_X8_lastMinute_6 (fun v1 => ?_)
    refine h_getI hO cl_X7 3 rfl wf_X8_34 d_X8_lastMinute_9 (fun v2 => ?_)
    refine g_ic_ge (tgt := 35) hO d_X8_lastMinute_12.1 d_X8_lastMinute_12.2 (fun _ => ?_) (fun _ => ?_)
    · skip
      refine g_iload_n hO d_X8_lastMinute_35 (by rfl) 1 rfl ?_
      exact g_ret hO rfl rfl ⟨Nat.le_of_ble_eq_true rfl, Nat.le_of_ble_eq_true rfl⟩ rfl rfl d_X8_lastMinute_36.1
    · skip
      refine g_iload_n hO d_X8_lastMinute_15 (by rfl) 1 rfl ?_
      refine g_aload_n hO d_X8_lastMinute_16 (by rfl) 0 rfl ?_
      refine h_getR hO cl_X8 0 rfl wf_X8_14 d_X8_lastMinute_17 (fun v3 => ?_)
      refine g_iload_n hO d_X8_lastMinute_20 (by rfl) 2 rfl ?_
      refine g_iconst hO 1 d_X8_lastMinute_21 (by decide) ?_
      refine k_virtIp hO cl_X7 mm_X7_cell lkV_X8_30 ⟨⟨Nat.le_of_ble_eq_true rfl, Nat.le_of_ble_eq_true rfl⟩, Nat.le_of_ble_eq_true rfl, Nat.le_of_ble_eq_true rfl⟩ (kn' := (0, 0)) rfl (As := [vI x2, vI 1]) rfl (Nat.le_of_ble_eq_true rfl) (fun o' _ => t_X7_cell Γ.2.1 E o' x2 1 S) d_X8_lastMinute_22 rfl (fun v4 => ?_)
      refine g_mmax hO wm_X8_38 wt_max wi_Math wc_max ⟨by decide, Nat.le_of_ble_eq_true rfl, Nat.zero_le _, Nat.zero_le _⟩ d_X8_lastMinute_25 ?_
      refine g_istore_n (lv' := [(1, vI (jmax x1 v4)), (0, vA (some o)), (2, vI x2)]) hO d_X8_lastMinute_28 (by rfl) (by decide) rfl ?_
      refine g_iinc (lv' := [(2, vI (x2 + 1)), (1, vI (jmax x1 v4)), (0, vA (some o))]) hO 1 d_X8_lastMinute_29 (by decide) 2 rfl (by decide) rfl ?_
      refine g_goto (tgt := 4) hO d_X8_lastMinute_32.1 d_X8_lastMinute_32.2 ?_
      exact g_sub [2, 1, 0] rfl (ih _ _)
set_option maxRecDepth 20000 in
theorem w_X8_lastMinute {Γ : GC} {E : GE} (hO : gOk Γ E cX8_lastMinute RX8 3 rm_X8_lastMinute (some .int) "lastMinute") (o : Nat) (S : GS) : Go Γ E (gBpI Γ E S) 3 (0, 0) 0 S [(0, vA (some o))] [] (f_X8_lastMinute o S) := by
  unfold f_X8_lastMinute
  refine g_iconst hO 0 d_X8_lastMinute_0 (by decide) ?_
  refine g_istore_n (lv' := [(1, vI 0), (0, vA (some o))]) hO d_X8_lastMinute_1 (by rfl) (by decide) rfl ?_
  refine g_iconst hO 0 d_X8_lastMinute_2 (by decide) ?_
  refine g_istore_n (lv' := [(2, vI 0), (1, vI 0), (0, vA (some o))]) hO d_X8_lastMinute_3 (by rfl) (by decide) rfl ?_
  exact g_sub [2, 1, 0] rfl (w_X8_lastMinute_4 hO o _ _ _ _)
theorem t_X8_lastMinute (l : Launch) (E : GE) (o : Nat) (S : GS) : ∀ a, f_X8_lastMinute o S = some a → Ct l E yX8_lastMinute cX8_lastMinute 3 (some .int) rm_X8_lastMinute [vA (some o)] S (some (vI a)) S :=
  Ct_of (val := fun b => some (vI b)) (nxt := fun _ => S) (by decide) (Nat.le_of_ble_eq_true rfl) (fun Γ hl hO => w_X8_lastMinute hO o S)
theorem d_X8_seenAreIn_0 : gD cX8_seenAreIn 0 (.iconst 0) 1 1 := ⟨by decide +kernel, rfl⟩
theorem d_X8_seenAreIn_1 : gD cX8_seenAreIn 1 (.istore_n 2) 1 2 := ⟨by decide +kernel, rfl⟩
theorem d_X8_seenAreIn_2 : gD cX8_seenAreIn 2 (.iload_n 2) 1 3 := ⟨by decide +kernel, rfl⟩
theorem d_X8_seenAreIn_3 : gD cX8_seenAreIn 3 (.aload_n 0) 1 4 := ⟨by decide +kernel, rfl⟩
theorem d_X8_seenAreIn_4 : gD cX8_seenAreIn 4 (.getfield 14) 3 7 := ⟨by decide +kernel, rfl⟩
theorem d_X8_seenAreIn_7 : gD cX8_seenAreIn 7 (.getfield 34) 3 10 := ⟨by decide +kernel, rfl⟩
theorem d_X8_seenAreIn_10 : gD cX8_seenAreIn 10 (.if_icmp .ge 30) 3 13 ∧ ((10 : Nat) : Int) + 30 = ((40 : Nat) : Int) := ⟨⟨by decide +kernel, rfl⟩, by decide⟩
theorem d_X8_seenAreIn_13 : gD cX8_seenAreIn 13 (.aload_n 1) 1 14 := ⟨by decide +kernel, rfl⟩
theorem d_X8_seenAreIn_14 : gD cX8_seenAreIn 14 (.getfield 43) 3 17 := ⟨by decide +kernel, rfl⟩
theorem d_X8_seenAreIn_17 : gD cX8_seenAreIn 17 (.aload_n 0) 1 18 := ⟨by decide +kernel, rfl⟩
theorem d_X8_seenAreIn_18 : gD cX8_seenAreIn 18 (.getfield 14) 3 21 := ⟨by decide +kernel, rfl⟩
theorem d_X8_seenAreIn_21 : gD cX8_seenAreIn 21 (.iload_n 2) 1 22 := ⟨by decide +kernel, rfl⟩
theorem d_X8_seenAreIn_22 : gD cX8_seenAreIn 22 (.iconst 0) 1 23 := ⟨by decide +kernel, rfl⟩
theorem d_X8_seenAreIn_23 : gD cX8_seenAreIn 23 (.invokevirtual 30) 3 26 := ⟨by decide +kernel, rfl⟩
theorem d_X8_seenAreIn_26 : gD cX8_seenAreIn 26 (.invokevirtual 48) 3 29 := ⟨by decide +kernel, rfl⟩
theorem d_X8_seenAreIn_29 : gD cX8_seenAreIn 29 (.ifCond .ne 5) 3 32 ∧ ((29 : Nat) : Int) + 5 = ((34 : Nat) : Int) := ⟨⟨by decide +kernel, rfl⟩, by decide⟩
theorem d_X8_seenAreIn_32 : gD cX8_seenAreIn 32 (.iconst 0) 1 33 := ⟨by decide +kernel, rfl⟩
theorem d_X8_seenAreIn_33 : gD cX8_seenAreIn 33 (.ireturn) 1 34 := ⟨by decide +kernel, rfl⟩
theorem d_X8_seenAreIn_34 : gD cX8_seenAreIn 34 (.iinc 2 1) 3 37 := ⟨by decide +kernel, rfl⟩
theorem d_X8_seenAreIn_37 : decode cX8_seenAreIn 37 = .ok (.goto (-35), 3) ∧ ((37 : Nat) : Int) + (-35) = ((2 : Nat) : Int) := ⟨by decide +kernel, by decide⟩
theorem d_X8_seenAreIn_40 : gD cX8_seenAreIn 40 (.iconst 1) 1 41 := ⟨by decide +kernel, rfl⟩
theorem d_X8_seenAreIn_41 : gD cX8_seenAreIn 41 (.ireturn) 1 42 := ⟨by decide +kernel, rfl⟩
abbrev rm_X8_seenAreIn : Room := { frames := 1, cells := 0, slots := 0, locals := 22 }
set_option maxRecDepth 20000 in
theorem w_X8_seenAreIn_2 {Γ : GC} {E : GE} (hO : gOk Γ E cX8_seenAreIn RX8 3 rm_X8_seenAreIn (some .boolean) "seenAreIn") (o : Nat) (S : GS) : ∀ (n : Nat) (x1 : Option Nat) (x2 : Int32), Go Γ E (gBpI Γ E S) 3 (0, 0) 2 S [(0, vA (some o)), (1, vA x1), (2, vI x2)] [] (f_X8_seenAreIn_2 o S n x1 x2) := by
  intro n
  induction n with
  | zero =>
    intro x1 x2
    exact g_none
  | succ n ih =>
    intro x1 x2
    rw [f_X8_seenAreIn_2]
    refine g_iload_n hO d_X8_seenAreIn_2 (by rfl) 2 rfl ?_
    refine g_aload_n hO d_X8_seenAreIn_3 (by rfl) 0 rfl ?_
    refine h_getR hO cl_X8 0 rfl wf_X8_14 d_X8_seenAreIn_4 (fun v1 => ?_)
    refine h_getI hO cl_X7 3 rfl wf_X8_34 d_X8_seenAreIn_7 (fun v2 => ?_)
    refine g_ic_ge (tgt := 40) hO d_X8_seenAreIn_10.1 d_X8_seenAreIn_10.2 (fun _ => ?_) (fun _ => ?_)
    · skip
      refine g_iconst hO 1 d_X8_seenAreIn_40 (by decide) ?_
      exact g_ret hO rfl rfl ⟨Nat.le_of_ble_eq_true rfl, Nat.le_of_ble_eq_true rfl⟩ rfl rfl d_X8_seenAreIn_41.1
    · skip
      refine g_aload_n hO d_X8_seenAreIn_13 (by rfl) 1 rfl ?_
      refine h_getR hO cl_X0 1 rfl wf_X8_43 d_X8_seenAreIn_14 (fun v3 => ?_)
      refine g_aload_n hO d_X8_seenAreIn_17 (by rfl) 0 rfl ?_
      refine h_getR hO cl_X8 0 rfl wf_X8_14 d_X8_seenAreIn_18 (fun v4 => ?_)
      refine g_iload_n hO d_X8_seenAreIn_21 (by rfl) 2 rfl ?_
      refine g_iconst hO 0 d_X8_seenAreIn_22 (by decide) ?_
      refine k_virtIp hO cl_X7 mm_X7_cell lkV_X8_30 ⟨⟨Nat.le_of_ble_eq_true rfl, Nat.le_of_ble_eq_true rfl⟩, Nat.le_of_ble_eq_true rfl, Nat.le_of_ble_eq_true rfl⟩ (kn' := (0, 0)) rfl (As := [vI x2, vI 0]) rfl (Nat.le_of_ble_eq_true rfl) (fun o' _ => t_X7_cell Γ.2.1 E o' x2 0 S) d_X8_seenAreIn_23 rfl (fun v5 => ?_)
      refine k_virtIp hO cl_X7 mm_X7_has lkV_X8_48 ⟨⟨Nat.le_of_ble_eq_true rfl, Nat.le_of_ble_eq_true rfl⟩, Nat.le_of_ble_eq_true rfl, Nat.le_of_ble_eq_true rfl⟩ (kn' := (0, 0)) rfl (As := [vI v5]) rfl (Nat.le_of_ble_eq_true rfl) (fun o' _ => t_X7_has Γ.2.1 E o' v5 S) d_X8_seenAreIn_26 rfl (fun v7 => ?_)
      refine g_if_ne (tgt := 34) hO d_X8_seenAreIn_29.1 d_X8_seenAreIn_29.2 (fun _ => ?_) (fun _ => ?_)
      · skip
        refine g_iconst hO 0 d_X8_seenAreIn_32 (by decide) ?_
        exact g_ret hO rfl rfl ⟨Nat.le_of_ble_eq_true rfl, Nat.le_of_ble_eq_true rfl⟩ rfl rfl d_X8_seenAreIn_33.1
      · skip
        refine g_iinc (lv' := [(2, vI (x2 + 1)), (0, vA (some o)), (1, vA x1)]) hO 1 d_X8_seenAreIn_34 (by decide) 2 rfl (by decide) rfl ?_
        refine g_goto (tgt := 2) hO d_X8_seenAreIn_37.1 d_X8_seenAreIn_37.2 ?_
        exact g_sub [1, 2, 0] rfl (ih _ _)
set_option maxRecDepth 20000 in
theorem w_X8_seenAreIn {Γ : GC} {E : GE} (hO : gOk Γ E cX8_seenAreIn RX8 3 rm_X8_seenAreIn (some .boolean) "seenAreIn") (o : Nat) (x1 : Option Nat) (S : GS) : Go Γ E (gBpI Γ E S) 3 (0, 0) 0 S [(0, vA (some o)), (1, vA x1)] [] (f_X8_seenAreIn o x1 S) := by
  unfold f_X8_seenAreIn
  refine g_iconst hO 0 d_X8_seenAreIn_0 (by decide) ?_
  refine g_istore_n (lv' := [(2, vI 0), (0, vA (some o)), (1, vA x1)]) hO d_X8_seenAreIn_1 (by rfl) (by decide) rfl ?_
  exact g_sub [1, 2, 0] rfl (w_X8_seenAreIn_2 hO o _ _ _ _)
theorem t_X8_seenAreIn (l : Launch) (E : GE) (o : Nat) (x1 : Option Nat) (S : GS) : ∀ a, f_X8_seenAreIn o x1 S = some a → Ct l E yX8_seenAreIn cX8_seenAreIn 3 (some .boolean) rm_X8_seenAreIn [vA (some o), vA x1] S (some (vI a)) S :=
  Ct_of (val := fun b => some (vI b)) (nxt := fun _ => S) (by decide) (Nat.le_of_ble_eq_true rfl) (fun Γ hl hO => w_X8_seenAreIn hO o x1 S)
theorem d_X8_seenAgree_0 : gD cX8_seenAgree 0 (.iconst 0) 1 1 := ⟨by decide +kernel, rfl⟩
theorem d_X8_seenAgree_1 : gD cX8_seenAgree 1 (.istore 4) 2 3 := ⟨by decide +kernel, rfl⟩
theorem d_X8_seenAgree_3 : gD cX8_seenAgree 3 (.iload 4) 2 5 := ⟨by decide +kernel, rfl⟩
theorem d_X8_seenAgree_5 : gD cX8_seenAgree 5 (.aload_n 0) 1 6 := ⟨by decide +kernel, rfl⟩
theorem d_X8_seenAgree_6 : gD cX8_seenAgree 6 (.getfield 14) 3 9 := ⟨by decide +kernel, rfl⟩
theorem d_X8_seenAgree_9 : gD cX8_seenAgree 9 (.getfield 34) 3 12 := ⟨by decide +kernel, rfl⟩
theorem d_X8_seenAgree_12 : gD cX8_seenAgree 12 (.if_icmp .ge 80) 3 15 ∧ ((12 : Nat) : Int) + 80 = ((92 : Nat) : Int) := ⟨⟨by decide +kernel, rfl⟩, by decide⟩
theorem d_X8_seenAgree_15 : gD cX8_seenAgree 15 (.aload_n 0) 1 16 := ⟨by decide +kernel, rfl⟩
theorem d_X8_seenAgree_16 : gD cX8_seenAgree 16 (.getfield 14) 3 19 := ⟨by decide +kernel, rfl⟩
theorem d_X8_seenAgree_19 : gD cX8_seenAgree 19 (.iload 4) 2 21 := ⟨by decide +kernel, rfl⟩
theorem d_X8_seenAgree_21 : gD cX8_seenAgree 21 (.iconst 1) 1 22 := ⟨by decide +kernel, rfl⟩
theorem d_X8_seenAgree_22 : gD cX8_seenAgree 22 (.invokevirtual 30) 3 25 := ⟨by decide +kernel, rfl⟩
theorem d_X8_seenAgree_25 : gD cX8_seenAgree 25 (.iload_n 2) 1 26 := ⟨by decide +kernel, rfl⟩
theorem d_X8_seenAgree_26 : gD cX8_seenAgree 26 (.if_icmp .ne 60) 3 29 ∧ ((26 : Nat) : Int) + 60 = ((86 : Nat) : Int) := ⟨⟨by decide +kernel, rfl⟩, by decide⟩
theorem d_X8_seenAgree_29 : gD cX8_seenAgree 29 (.aload_n 0) 1 30 := ⟨by decide +kernel, rfl⟩
theorem d_X8_seenAgree_30 : gD cX8_seenAgree 30 (.getfield 14) 3 33 := ⟨by decide +kernel, rfl⟩
theorem d_X8_seenAgree_33 : gD cX8_seenAgree 33 (.iload 4) 2 35 := ⟨by decide +kernel, rfl⟩
theorem d_X8_seenAgree_35 : gD cX8_seenAgree 35 (.iconst 0) 1 36 := ⟨by decide +kernel, rfl⟩
theorem d_X8_seenAgree_36 : gD cX8_seenAgree 36 (.invokevirtual 30) 3 39 := ⟨by decide +kernel, rfl⟩
theorem d_X8_seenAgree_39 : gD cX8_seenAgree 39 (.istore 5) 2 41 := ⟨by decide +kernel, rfl⟩
theorem d_X8_seenAgree_41 : gD cX8_seenAgree 41 (.aload_n 1) 1 42 := ⟨by decide +kernel, rfl⟩
theorem d_X8_seenAgree_42 : gD cX8_seenAgree 42 (.getfield 43) 3 45 := ⟨by decide +kernel, rfl⟩
theorem d_X8_seenAgree_45 : gD cX8_seenAgree 45 (.iload 5) 2 47 := ⟨by decide +kernel, rfl⟩
theorem d_X8_seenAgree_47 : gD cX8_seenAgree 47 (.iconst 1) 1 48 := ⟨by decide +kernel, rfl⟩
theorem d_X8_seenAgree_48 : gD cX8_seenAgree 48 (.invokevirtual 30) 3 51 := ⟨by decide +kernel, rfl⟩
theorem d_X8_seenAgree_51 : gD cX8_seenAgree 51 (.istore 6) 2 53 := ⟨by decide +kernel, rfl⟩
theorem d_X8_seenAgree_53 : gD cX8_seenAgree 53 (.aload_n 1) 1 54 := ⟨by decide +kernel, rfl⟩
theorem d_X8_seenAgree_54 : gD cX8_seenAgree 54 (.iload 5) 2 56 := ⟨by decide +kernel, rfl⟩
theorem d_X8_seenAgree_56 : gD cX8_seenAgree 56 (.iload 6) 2 58 := ⟨by decide +kernel, rfl⟩
theorem d_X8_seenAgree_58 : gD cX8_seenAgree 58 (.iload_n 3) 1 59 := ⟨by decide +kernel, rfl⟩
theorem d_X8_seenAgree_59 : gD cX8_seenAgree 59 (.invokevirtual 52) 3 62 := ⟨by decide +kernel, rfl⟩
theorem d_X8_seenAgree_62 : gD cX8_seenAgree 62 (.aload_n 0) 1 63 := ⟨by decide +kernel, rfl⟩
theorem d_X8_seenAgree_63 : gD cX8_seenAgree 63 (.getfield 14) 3 66 := ⟨by decide +kernel, rfl⟩
theorem d_X8_seenAgree_66 : gD cX8_seenAgree 66 (.iload 4) 2 68 := ⟨by decide +kernel, rfl⟩
theorem d_X8_seenAgree_68 : gD cX8_seenAgree 68 (.iconst 2) 1 69 := ⟨by decide +kernel, rfl⟩
theorem d_X8_seenAgree_69 : gD cX8_seenAgree 69 (.invokevirtual 30) 3 72 := ⟨by decide +kernel, rfl⟩
theorem d_X8_seenAgree_72 : gD cX8_seenAgree 72 (.iconst 1) 1 73 := ⟨by decide +kernel, rfl⟩
theorem d_X8_seenAgree_73 : gD cX8_seenAgree 73 (.if_icmp .ne 7) 3 76 ∧ ((73 : Nat) : Int) + 7 = ((80 : Nat) : Int) := ⟨⟨by decide +kernel, rfl⟩, by decide⟩
theorem d_X8_seenAgree_76 : gD cX8_seenAgree 76 (.iconst 1) 1 77 := ⟨by decide +kernel, rfl⟩
theorem d_X8_seenAgree_77 : decode cX8_seenAgree 77 = .ok (.goto 4, 3) ∧ ((77 : Nat) : Int) + 4 = ((81 : Nat) : Int) := ⟨by decide +kernel, by decide⟩
theorem d_X8_seenAgree_80 : gD cX8_seenAgree 80 (.iconst 0) 1 81 := ⟨by decide +kernel, rfl⟩
theorem d_X8_seenAgree_81 : gD cX8_seenAgree 81 (.if_icmp .ne 5) 3 84 ∧ ((81 : Nat) : Int) + 5 = ((86 : Nat) : Int) := ⟨⟨by decide +kernel, rfl⟩, by decide⟩
theorem d_X8_seenAgree_84 : gD cX8_seenAgree 84 (.iconst 0) 1 85 := ⟨by decide +kernel, rfl⟩
theorem d_X8_seenAgree_85 : gD cX8_seenAgree 85 (.ireturn) 1 86 := ⟨by decide +kernel, rfl⟩
theorem d_X8_seenAgree_86 : gD cX8_seenAgree 86 (.iinc 4 1) 3 89 := ⟨by decide +kernel, rfl⟩
theorem d_X8_seenAgree_89 : decode cX8_seenAgree 89 = .ok (.goto (-86), 3) ∧ ((89 : Nat) : Int) + (-86) = ((3 : Nat) : Int) := ⟨by decide +kernel, by decide⟩
theorem d_X8_seenAgree_92 : gD cX8_seenAgree 92 (.iconst 1) 1 93 := ⟨by decide +kernel, rfl⟩
theorem d_X8_seenAgree_93 : gD cX8_seenAgree 93 (.ireturn) 1 94 := ⟨by decide +kernel, rfl⟩
abbrev rm_X8_seenAgree : Room := { frames := 3, cells := 0, slots := 0, locals := 68 }
set_option maxRecDepth 20000 in
theorem w_X8_seenAgree_86 {Γ : GC} {E : GE} (hO : gOk Γ E cX8_seenAgree RX8 7 rm_X8_seenAgree (some .boolean) "seenAgree") (o : Nat) (S : GS) {k3 : (Option Nat → Int32 → Int32 → Int32 → Option Int32)} (hk3 : ∀ (z1 : Option Nat) (z2 : Int32) (z3 : Int32) (z4 : Int32), Go Γ E (gBpI Γ E S) 7 (0, 0) 3 S [(0, vA (some o)), (1, vA z1), (2, vI z2), (3, vI z3), (4, vI z4)] [] (k3 z1 z2 z3 z4)) (x1 : Option Nat) (x2 : Int32) (x3 : Int32) (x4 : Int32) : Go Γ E (gBpI Γ E S) 7 (0, 0) 86 S [(0, vA (some o)), (1, vA x1), (2, vI x2), (3, vI x3), (4, vI x4)] [] (f_X8_seenAgree_86 k3 o S x1 x2 x3 x4) := by
  unfold f_X8_seenAgree_86
  refine g_iinc (lv' := [(4, vI (x4 + 1)), (0, vA (some o)), (1, vA x1), (2, vI x2), (3, vI x3)]) hO 1 d_X8_seenAgree_86 (by decide) 4 rfl (by decide) rfl ?_
  refine g_goto (tgt := 3) hO d_X8_seenAgree_89.1 d_X8_seenAgree_89.2 ?_
  exact g_sub [1, 2, 3, 4, 0] rfl (hk3 _ _ _ _)
set_option maxRecDepth 20000 in
theorem w_X8_seenAgree_81 {Γ : GC} {E : GE} (hO : gOk Γ E cX8_seenAgree RX8 7 rm_X8_seenAgree (some .boolean) "seenAgree") (o : Nat) (S : GS) {k3 : (Option Nat → Int32 → Int32 → Int32 → Option Int32)} (hk3 : ∀ (z1 : Option Nat) (z2 : Int32) (z3 : Int32) (z4 : Int32), Go Γ E (gBpI Γ E S) 7 (0, 0) 3 S [(0, vA (some o)), (1, vA z1), (2, vI z2), (3, vI z3), (4, vI z4)] [] (k3 z1 z2 z3 z4)) (x1 : Option Nat) (x2 : Int32) (x3 : Int32) (x4 : Int32) (y0 : Int32) (y1 : Int32) : Go Γ E (gBpI Γ E S) 7 (0, 0) 81 S [(0, vA (some o)), (1, vA x1), (2, vI x2), (3, vI x3), (4, vI x4)] [vI y1, vI y0] (f_X8_seenAgree_81 k3 o S x1 x2 x3 x4 y0 y1) := by
  unfold f_X8_seenAgree_81
  refine g_ic_ne (tgt := 86) hO d_X8_seenAgree_81.1 d_X8_seenAgree_81.2 (fun _ => ?_) (fun _ => ?_)
  · skip
    refine g_iconst hO 0 d_X8_seenAgree_84 (by decide) ?_
    exact g_ret hO rfl rfl ⟨Nat.le_of_ble_eq_true rfl, Nat.le_of_ble_eq_true rfl⟩ rfl rfl d_X8_seenAgree_85.1
  · skip
    exact g_sub [0, 1, 2, 3, 4] rfl (w_X8_seenAgree_86 hO o _ hk3 _ _ _ _)
set_option maxRecDepth 20000 in
theorem w_X8_seenAgree_3 {Γ : GC} {E : GE} (hO : gOk Γ E cX8_seenAgree RX8 7 rm_X8_seenAgree (some .boolean) "seenAgree") (o : Nat) (S : GS) : ∀ (n : Nat) (x1 : Option Nat) (x2 : Int32) (x3 : Int32) (x4 : Int32), Go Γ E (gBpI Γ E S) 7 (0, 0) 3 S [(0, vA (some o)), (1, vA x1), (2, vI x2), (3, vI x3), (4, vI x4)] [] (f_X8_seenAgree_3 o S n x1 x2 x3 x4) := by
  intro n
  induction n with
  | zero =>
    intro x1 x2 x3 x4
    exact g_none
  | succ n ih =>
    intro x1 x2 x3 x4
    rw [f_X8_seenAgree_3]
    refine g_iload hO d_X8_seenAgree_3 4 rfl ?_
    refine g_aload_n hO d_X8_seenAgree_5 (by rfl) 0 rfl ?_
    refine h_getR hO cl_X8 0 rfl wf_X8_14 d_X8_seenAgree_6 (fun v1 => ?_)
    refine h_getI hO cl_X7 3 rfl wf_X8_34 d_X8_seenAgree_9 (fun v2 => ?_)
    refine g_ic_ge (tgt := 92) hO d_X8_seenAgree_12.1 d_X8_seenAgree_12.2 (fun _ => ?_) (fun _ => ?_)
    · skip
      refine g_iconst hO 1 d_X8_seenAgree_92 (by decide) ?_
      exact g_ret hO rfl rfl ⟨Nat.le_of_ble_eq_true rfl, Nat.le_of_ble_eq_true rfl⟩ rfl rfl d_X8_seenAgree_93.1
    · skip
      refine g_aload_n hO d_X8_seenAgree_15 (by rfl) 0 rfl ?_
      refine h_getR hO cl_X8 0 rfl wf_X8_14 d_X8_seenAgree_16 (fun v3 => ?_)
      refine g_iload hO d_X8_seenAgree_19 4 rfl ?_
      refine g_iconst hO 1 d_X8_seenAgree_21 (by decide) ?_
      refine k_virtIp hO cl_X7 mm_X7_cell lkV_X8_30 ⟨⟨Nat.le_of_ble_eq_true rfl, Nat.le_of_ble_eq_true rfl⟩, Nat.le_of_ble_eq_true rfl, Nat.le_of_ble_eq_true rfl⟩ (kn' := (0, 0)) rfl (As := [vI x4, vI 1]) rfl (Nat.le_of_ble_eq_true rfl) (fun o' _ => t_X7_cell Γ.2.1 E o' x4 1 S) d_X8_seenAgree_22 rfl (fun v4 => ?_)
      refine g_iload_n hO d_X8_seenAgree_25 (by rfl) 2 rfl ?_
      refine g_ic_ne (tgt := 86) hO d_X8_seenAgree_26.1 d_X8_seenAgree_26.2 (fun _ => ?_) (fun _ => ?_)
      · skip
        refine g_aload_n hO d_X8_seenAgree_29 (by rfl) 0 rfl ?_
        refine h_getR hO cl_X8 0 rfl wf_X8_14 d_X8_seenAgree_30 (fun v6 => ?_)
        refine g_iload hO d_X8_seenAgree_33 4 rfl ?_
        refine g_iconst hO 0 d_X8_seenAgree_35 (by decide) ?_
        refine k_virtIp hO cl_X7 mm_X7_cell lkV_X8_30 ⟨⟨Nat.le_of_ble_eq_true rfl, Nat.le_of_ble_eq_true rfl⟩, Nat.le_of_ble_eq_true rfl, Nat.le_of_ble_eq_true rfl⟩ (kn' := (0, 0)) rfl (As := [vI x4, vI 0]) rfl (Nat.le_of_ble_eq_true rfl) (fun o' _ => t_X7_cell Γ.2.1 E o' x4 0 S) d_X8_seenAgree_36 rfl (fun v7 => ?_)
        refine g_istore (lv' := [(5, vI v7), (0, vA (some o)), (1, vA x1), (2, vI x2), (3, vI x3), (4, vI x4)]) hO d_X8_seenAgree_39 (by decide) rfl ?_
        refine g_aload_n hO d_X8_seenAgree_41 (by rfl) 2 rfl ?_
        refine h_getR hO cl_X0 1 rfl wf_X8_43 d_X8_seenAgree_42 (fun v9 => ?_)
        refine g_iload hO d_X8_seenAgree_45 0 rfl ?_
        refine g_iconst hO 1 d_X8_seenAgree_47 (by decide) ?_
        refine k_virtIp hO cl_X7 mm_X7_cell lkV_X8_30 ⟨⟨Nat.le_of_ble_eq_true rfl, Nat.le_of_ble_eq_true rfl⟩, Nat.le_of_ble_eq_true rfl, Nat.le_of_ble_eq_true rfl⟩ (kn' := (0, 0)) rfl (As := [vI v7, vI 1]) rfl (Nat.le_of_ble_eq_true rfl) (fun o' _ => t_X7_cell Γ.2.1 E o' v7 1 S) d_X8_seenAgree_48 rfl (fun v10 => ?_)
        refine g_istore (lv' := [(6, vI v10), (5, vI v7), (0, vA (some o)), (1, vA x1), (2, vI x2), (3, vI x3), (4, vI x4)]) hO d_X8_seenAgree_51 (by decide) rfl ?_
        refine g_aload_n hO d_X8_seenAgree_53 (by rfl) 3 rfl ?_
        refine g_iload hO d_X8_seenAgree_54 1 rfl ?_
        refine g_iload hO d_X8_seenAgree_56 0 rfl ?_
        refine g_iload_n hO d_X8_seenAgree_58 (by rfl) 5 rfl ?_
        refine k_virtIp hO cl_X0 mm_X0_standsAt lkV_X8_52 ⟨⟨Nat.le_of_ble_eq_true rfl, Nat.le_of_ble_eq_true rfl⟩, Nat.le_of_ble_eq_true rfl, Nat.le_of_ble_eq_true rfl⟩ (kn' := (0, 0)) rfl (As := [vI v7, vI v10, vI x3]) rfl (Nat.le_of_ble_eq_true rfl) (fun o' _ => t_X0_standsAt Γ.2.1 E o' v7 v10 x3 S) d_X8_seenAgree_59 rfl (fun v12 => ?_)
        refine g_aload_n hO d_X8_seenAgree_62 (by rfl) 2 rfl ?_
        refine h_getR hO cl_X8 0 rfl wf_X8_14 d_X8_seenAgree_63 (fun v14 => ?_)
        refine g_iload hO d_X8_seenAgree_66 6 rfl ?_
        refine g_iconst hO 2 d_X8_seenAgree_68 (by decide) ?_
        refine k_virtIp hO cl_X7 mm_X7_cell lkV_X8_30 ⟨⟨Nat.le_of_ble_eq_true rfl, Nat.le_of_ble_eq_true rfl⟩, Nat.le_of_ble_eq_true rfl, Nat.le_of_ble_eq_true rfl⟩ (kn' := (0, 0)) rfl (As := [vI x4, vI 2]) rfl (Nat.le_of_ble_eq_true rfl) (fun o' _ => t_X7_cell Γ.2.1 E o' x4 2 S) d_X8_seenAgree_69 rfl (fun v15 => ?_)
        refine g_iconst hO 1 d_X8_seenAgree_72 (by decide) ?_
        refine g_ic_ne (tgt := 80) hO d_X8_seenAgree_73.1 d_X8_seenAgree_73.2 (fun _ => ?_) (fun _ => ?_)
        · skip
          refine g_iconst hO 1 d_X8_seenAgree_76 (by decide) ?_
          refine g_goto (tgt := 81) hO d_X8_seenAgree_77.1 d_X8_seenAgree_77.2 ?_
          exact g_sub [2, 3, 4, 5, 6] rfl (w_X8_seenAgree_81 hO o _ ih _ _ _ _ _ _)
        · skip
          refine g_iconst hO 0 d_X8_seenAgree_80 (by decide) ?_
          exact g_sub [2, 3, 4, 5, 6] rfl (w_X8_seenAgree_81 hO o _ ih _ _ _ _ _ _)
      · skip
        exact g_sub [0, 1, 2, 3, 4] rfl (w_X8_seenAgree_86 hO o _ ih _ _ _ _)
set_option maxRecDepth 20000 in
theorem w_X8_seenAgree {Γ : GC} {E : GE} (hO : gOk Γ E cX8_seenAgree RX8 7 rm_X8_seenAgree (some .boolean) "seenAgree") (o : Nat) (x1 : Option Nat) (x2 : Int32) (x3 : Int32) (S : GS) : Go Γ E (gBpI Γ E S) 7 (0, 0) 0 S [(0, vA (some o)), (1, vA x1), (2, vI x2), (3, vI x3)] [] (f_X8_seenAgree o x1 x2 x3 S) := by
  unfold f_X8_seenAgree
  refine g_iconst hO 0 d_X8_seenAgree_0 (by decide) ?_
  refine g_istore (lv' := [(4, vI 0), (0, vA (some o)), (1, vA x1), (2, vI x2), (3, vI x3)]) hO d_X8_seenAgree_1 (by decide) rfl ?_
  exact g_sub [1, 2, 3, 4, 0] rfl (w_X8_seenAgree_3 hO o _ _ _ _ _ _)
theorem t_X8_seenAgree (l : Launch) (E : GE) (o : Nat) (x1 : Option Nat) (x2 : Int32) (x3 : Int32) (S : GS) : ∀ a, f_X8_seenAgree o x1 x2 x3 S = some a → Ct l E yX8_seenAgree cX8_seenAgree 7 (some .boolean) rm_X8_seenAgree [vA (some o), vA x1, vI x2, vI x3] S (some (vI a)) S :=
  Ct_of (val := fun b => some (vI b)) (nxt := fun _ => S) (by decide) (Nat.le_of_ble_eq_true rfl) (fun Γ hl hO => w_X8_seenAgree hO o x1 x2 x3 S)
theorem d_X8_shotsAgree_0 : gD cX8_shotsAgree 0 (.iconst 0) 1 1 := ⟨by decide +kernel, rfl⟩
theorem d_X8_shotsAgree_1 : gD cX8_shotsAgree 1 (.istore 4) 2 3 := ⟨by decide +kernel, rfl⟩
theorem d_X8_shotsAgree_3 : gD cX8_shotsAgree 3 (.iload 4) 2 5 := ⟨by decide +kernel, rfl⟩
theorem d_X8_shotsAgree_5 : gD cX8_shotsAgree 5 (.aload_n 0) 1 6 := ⟨by decide +kernel, rfl⟩
theorem d_X8_shotsAgree_6 : gD cX8_shotsAgree 6 (.getfield 20) 3 9 := ⟨by decide +kernel, rfl⟩
theorem d_X8_shotsAgree_9 : gD cX8_shotsAgree 9 (.getfield 34) 3 12 := ⟨by decide +kernel, rfl⟩
theorem d_X8_shotsAgree_12 : gD cX8_shotsAgree 12 (.if_icmp .ge 63) 3 15 ∧ ((12 : Nat) : Int) + 63 = ((75 : Nat) : Int) := ⟨⟨by decide +kernel, rfl⟩, by decide⟩
theorem d_X8_shotsAgree_15 : gD cX8_shotsAgree 15 (.aload_n 0) 1 16 := ⟨by decide +kernel, rfl⟩
theorem d_X8_shotsAgree_16 : gD cX8_shotsAgree 16 (.getfield 20) 3 19 := ⟨by decide +kernel, rfl⟩
theorem d_X8_shotsAgree_19 : gD cX8_shotsAgree 19 (.iload 4) 2 21 := ⟨by decide +kernel, rfl⟩
theorem d_X8_shotsAgree_21 : gD cX8_shotsAgree 21 (.iconst 0) 1 22 := ⟨by decide +kernel, rfl⟩
theorem d_X8_shotsAgree_22 : gD cX8_shotsAgree 22 (.invokevirtual 30) 3 25 := ⟨by decide +kernel, rfl⟩
theorem d_X8_shotsAgree_25 : gD cX8_shotsAgree 25 (.iload_n 2) 1 26 := ⟨by decide +kernel, rfl⟩
theorem d_X8_shotsAgree_26 : gD cX8_shotsAgree 26 (.if_icmp .ne 43) 3 29 ∧ ((26 : Nat) : Int) + 43 = ((69 : Nat) : Int) := ⟨⟨by decide +kernel, rfl⟩, by decide⟩
theorem d_X8_shotsAgree_29 : gD cX8_shotsAgree 29 (.aload_n 1) 1 30 := ⟨by decide +kernel, rfl⟩
theorem d_X8_shotsAgree_30 : gD cX8_shotsAgree 30 (.iload_n 2) 1 31 := ⟨by decide +kernel, rfl⟩
theorem d_X8_shotsAgree_31 : gD cX8_shotsAgree 31 (.iload_n 3) 1 32 := ⟨by decide +kernel, rfl⟩
theorem d_X8_shotsAgree_32 : gD cX8_shotsAgree 32 (.aload_n 0) 1 33 := ⟨by decide +kernel, rfl⟩
theorem d_X8_shotsAgree_33 : gD cX8_shotsAgree 33 (.getfield 20) 3 36 := ⟨by decide +kernel, rfl⟩
theorem d_X8_shotsAgree_36 : gD cX8_shotsAgree 36 (.iload 4) 2 38 := ⟨by decide +kernel, rfl⟩
theorem d_X8_shotsAgree_38 : gD cX8_shotsAgree 38 (.iconst 1) 1 39 := ⟨by decide +kernel, rfl⟩
theorem d_X8_shotsAgree_39 : gD cX8_shotsAgree 39 (.invokevirtual 30) 3 42 := ⟨by decide +kernel, rfl⟩
theorem d_X8_shotsAgree_42 : gD cX8_shotsAgree 42 (.invokevirtual 56) 3 45 := ⟨by decide +kernel, rfl⟩
theorem d_X8_shotsAgree_45 : gD cX8_shotsAgree 45 (.aload_n 0) 1 46 := ⟨by decide +kernel, rfl⟩
theorem d_X8_shotsAgree_46 : gD cX8_shotsAgree 46 (.getfield 20) 3 49 := ⟨by decide +kernel, rfl⟩
theorem d_X8_shotsAgree_49 : gD cX8_shotsAgree 49 (.iload 4) 2 51 := ⟨by decide +kernel, rfl⟩
theorem d_X8_shotsAgree_51 : gD cX8_shotsAgree 51 (.iconst 2) 1 52 := ⟨by decide +kernel, rfl⟩
theorem d_X8_shotsAgree_52 : gD cX8_shotsAgree 52 (.invokevirtual 30) 3 55 := ⟨by decide +kernel, rfl⟩
theorem d_X8_shotsAgree_55 : gD cX8_shotsAgree 55 (.iconst 1) 1 56 := ⟨by decide +kernel, rfl⟩
theorem d_X8_shotsAgree_56 : gD cX8_shotsAgree 56 (.if_icmp .ne 7) 3 59 ∧ ((56 : Nat) : Int) + 7 = ((63 : Nat) : Int) := ⟨⟨by decide +kernel, rfl⟩, by decide⟩
theorem d_X8_shotsAgree_59 : gD cX8_shotsAgree 59 (.iconst 1) 1 60 := ⟨by decide +kernel, rfl⟩
theorem d_X8_shotsAgree_60 : decode cX8_shotsAgree 60 = .ok (.goto 4, 3) ∧ ((60 : Nat) : Int) + 4 = ((64 : Nat) : Int) := ⟨by decide +kernel, by decide⟩
theorem d_X8_shotsAgree_63 : gD cX8_shotsAgree 63 (.iconst 0) 1 64 := ⟨by decide +kernel, rfl⟩
theorem d_X8_shotsAgree_64 : gD cX8_shotsAgree 64 (.if_icmp .ne 5) 3 67 ∧ ((64 : Nat) : Int) + 5 = ((69 : Nat) : Int) := ⟨⟨by decide +kernel, rfl⟩, by decide⟩
theorem d_X8_shotsAgree_67 : gD cX8_shotsAgree 67 (.iconst 0) 1 68 := ⟨by decide +kernel, rfl⟩
theorem d_X8_shotsAgree_68 : gD cX8_shotsAgree 68 (.ireturn) 1 69 := ⟨by decide +kernel, rfl⟩
theorem d_X8_shotsAgree_69 : gD cX8_shotsAgree 69 (.iinc 4 1) 3 72 := ⟨by decide +kernel, rfl⟩
theorem d_X8_shotsAgree_72 : decode cX8_shotsAgree 72 = .ok (.goto (-69), 3) ∧ ((72 : Nat) : Int) + (-69) = ((3 : Nat) : Int) := ⟨by decide +kernel, by decide⟩
theorem d_X8_shotsAgree_75 : gD cX8_shotsAgree 75 (.iconst 1) 1 76 := ⟨by decide +kernel, rfl⟩
theorem d_X8_shotsAgree_76 : gD cX8_shotsAgree 76 (.ireturn) 1 77 := ⟨by decide +kernel, rfl⟩
abbrev rm_X8_shotsAgree : Room := { frames := 3, cells := 0, slots := 0, locals := 68 }
set_option maxRecDepth 20000 in
theorem w_X8_shotsAgree_69 {Γ : GC} {E : GE} (hO : gOk Γ E cX8_shotsAgree RX8 5 rm_X8_shotsAgree (some .boolean) "shotsAgree") (o : Nat) (S : GS) {k3 : (Option Nat → Int32 → Int32 → Int32 → Option Int32)} (hk3 : ∀ (z1 : Option Nat) (z2 : Int32) (z3 : Int32) (z4 : Int32), Go Γ E (gBpI Γ E S) 5 (0, 0) 3 S [(0, vA (some o)), (1, vA z1), (2, vI z2), (3, vI z3), (4, vI z4)] [] (k3 z1 z2 z3 z4)) (x1 : Option Nat) (x2 : Int32) (x3 : Int32) (x4 : Int32) : Go Γ E (gBpI Γ E S) 5 (0, 0) 69 S [(0, vA (some o)), (1, vA x1), (2, vI x2), (3, vI x3), (4, vI x4)] [] (f_X8_shotsAgree_69 k3 o S x1 x2 x3 x4) := by
  unfold f_X8_shotsAgree_69
  refine g_iinc (lv' := [(4, vI (x4 + 1)), (0, vA (some o)), (1, vA x1), (2, vI x2), (3, vI x3)]) hO 1 d_X8_shotsAgree_69 (by decide) 4 rfl (by decide) rfl ?_
  refine g_goto (tgt := 3) hO d_X8_shotsAgree_72.1 d_X8_shotsAgree_72.2 ?_
  exact g_sub [1, 2, 3, 4, 0] rfl (hk3 _ _ _ _)
set_option maxRecDepth 20000 in
theorem w_X8_shotsAgree_64 {Γ : GC} {E : GE} (hO : gOk Γ E cX8_shotsAgree RX8 5 rm_X8_shotsAgree (some .boolean) "shotsAgree") (o : Nat) (S : GS) {k3 : (Option Nat → Int32 → Int32 → Int32 → Option Int32)} (hk3 : ∀ (z1 : Option Nat) (z2 : Int32) (z3 : Int32) (z4 : Int32), Go Γ E (gBpI Γ E S) 5 (0, 0) 3 S [(0, vA (some o)), (1, vA z1), (2, vI z2), (3, vI z3), (4, vI z4)] [] (k3 z1 z2 z3 z4)) (x1 : Option Nat) (x2 : Int32) (x3 : Int32) (x4 : Int32) (y0 : Int32) (y1 : Int32) : Go Γ E (gBpI Γ E S) 5 (0, 0) 64 S [(0, vA (some o)), (1, vA x1), (2, vI x2), (3, vI x3), (4, vI x4)] [vI y1, vI y0] (f_X8_shotsAgree_64 k3 o S x1 x2 x3 x4 y0 y1) := by
  unfold f_X8_shotsAgree_64
  refine g_ic_ne (tgt := 69) hO d_X8_shotsAgree_64.1 d_X8_shotsAgree_64.2 (fun _ => ?_) (fun _ => ?_)
  · skip
    refine g_iconst hO 0 d_X8_shotsAgree_67 (by decide) ?_
    exact g_ret hO rfl rfl ⟨Nat.le_of_ble_eq_true rfl, Nat.le_of_ble_eq_true rfl⟩ rfl rfl d_X8_shotsAgree_68.1
  · skip
    exact g_sub [0, 1, 2, 3, 4] rfl (w_X8_shotsAgree_69 hO o _ hk3 _ _ _ _)
set_option maxRecDepth 20000 in
theorem w_X8_shotsAgree_3 {Γ : GC} {E : GE} (hO : gOk Γ E cX8_shotsAgree RX8 5 rm_X8_shotsAgree (some .boolean) "shotsAgree") (o : Nat) (S : GS) : ∀ (n : Nat) (x1 : Option Nat) (x2 : Int32) (x3 : Int32) (x4 : Int32), Go Γ E (gBpI Γ E S) 5 (0, 0) 3 S [(0, vA (some o)), (1, vA x1), (2, vI x2), (3, vI x3), (4, vI x4)] [] (f_X8_shotsAgree_3 o S n x1 x2 x3 x4) := by
  intro n
  induction n with
  | zero =>
    intro x1 x2 x3 x4
    exact g_none
  | succ n ih =>
    intro x1 x2 x3 x4
    rw [f_X8_shotsAgree_3]
    refine g_iload hO d_X8_shotsAgree_3 4 rfl ?_
    refine g_aload_n hO d_X8_shotsAgree_5 (by rfl) 0 rfl ?_
    refine h_getR hO cl_X8 1 rfl wf_X8_20 d_X8_shotsAgree_6 (fun v1 => ?_)
    refine h_getI hO cl_X7 3 rfl wf_X8_34 d_X8_shotsAgree_9 (fun v2 => ?_)
    refine g_ic_ge (tgt := 75) hO d_X8_shotsAgree_12.1 d_X8_shotsAgree_12.2 (fun _ => ?_) (fun _ => ?_)
    · skip
      refine g_iconst hO 1 d_X8_shotsAgree_75 (by decide) ?_
      exact g_ret hO rfl rfl ⟨Nat.le_of_ble_eq_true rfl, Nat.le_of_ble_eq_true rfl⟩ rfl rfl d_X8_shotsAgree_76.1
    · skip
      refine g_aload_n hO d_X8_shotsAgree_15 (by rfl) 0 rfl ?_
      refine h_getR hO cl_X8 1 rfl wf_X8_20 d_X8_shotsAgree_16 (fun v3 => ?_)
      refine g_iload hO d_X8_shotsAgree_19 4 rfl ?_
      refine g_iconst hO 0 d_X8_shotsAgree_21 (by decide) ?_
      refine k_virtIp hO cl_X7 mm_X7_cell lkV_X8_30 ⟨⟨Nat.le_of_ble_eq_true rfl, Nat.le_of_ble_eq_true rfl⟩, Nat.le_of_ble_eq_true rfl, Nat.le_of_ble_eq_true rfl⟩ (kn' := (0, 0)) rfl (As := [vI x4, vI 0]) rfl (Nat.le_of_ble_eq_true rfl) (fun o' _ => t_X7_cell Γ.2.1 E o' x4 0 S) d_X8_shotsAgree_22 rfl (fun v4 => ?_)
      refine g_iload_n hO d_X8_shotsAgree_25 (by rfl) 2 rfl ?_
      refine g_ic_ne (tgt := 69) hO d_X8_shotsAgree_26.1 d_X8_shotsAgree_26.2 (fun _ => ?_) (fun _ => ?_)
      · skip
        refine g_aload_n hO d_X8_shotsAgree_29 (by rfl) 1 rfl ?_
        refine g_iload_n hO d_X8_shotsAgree_30 (by rfl) 2 rfl ?_
        refine g_iload_n hO d_X8_shotsAgree_31 (by rfl) 3 rfl ?_
        refine g_aload_n hO d_X8_shotsAgree_32 (by rfl) 0 rfl ?_
        refine h_getR hO cl_X8 1 rfl wf_X8_20 d_X8_shotsAgree_33 (fun v6 => ?_)
        refine g_iload hO d_X8_shotsAgree_36 4 rfl ?_
        refine g_iconst hO 1 d_X8_shotsAgree_38 (by decide) ?_
        refine k_virtIp hO cl_X7 mm_X7_cell lkV_X8_30 ⟨⟨Nat.le_of_ble_eq_true rfl, Nat.le_of_ble_eq_true rfl⟩, Nat.le_of_ble_eq_true rfl, Nat.le_of_ble_eq_true rfl⟩ (kn' := (0, 0)) rfl (As := [vI x4, vI 1]) rfl (Nat.le_of_ble_eq_true rfl) (fun o' _ => t_X7_cell Γ.2.1 E o' x4 1 S) d_X8_shotsAgree_39 rfl (fun v7 => ?_)
        refine k_virtIp hO cl_X0 mm_X0_stands lkV_X8_56 ⟨⟨Nat.le_of_ble_eq_true rfl, Nat.le_of_ble_eq_true rfl⟩, Nat.le_of_ble_eq_true rfl, Nat.le_of_ble_eq_true rfl⟩ (kn' := (0, 0)) rfl (As := [vI x2, vI x3, vI v7]) rfl (Nat.le_of_ble_eq_true rfl) (fun o' _ => t_X0_stands Γ.2.1 E o' x2 x3 v7 S) d_X8_shotsAgree_42 rfl (fun v9 => ?_)
        refine g_aload_n hO d_X8_shotsAgree_45 (by rfl) 0 rfl ?_
        refine h_getR hO cl_X8 1 rfl wf_X8_20 d_X8_shotsAgree_46 (fun v11 => ?_)
        refine g_iload hO d_X8_shotsAgree_49 4 rfl ?_
        refine g_iconst hO 2 d_X8_shotsAgree_51 (by decide) ?_
        refine k_virtIp hO cl_X7 mm_X7_cell lkV_X8_30 ⟨⟨Nat.le_of_ble_eq_true rfl, Nat.le_of_ble_eq_true rfl⟩, Nat.le_of_ble_eq_true rfl, Nat.le_of_ble_eq_true rfl⟩ (kn' := (0, 0)) rfl (As := [vI x4, vI 2]) rfl (Nat.le_of_ble_eq_true rfl) (fun o' _ => t_X7_cell Γ.2.1 E o' x4 2 S) d_X8_shotsAgree_52 rfl (fun v12 => ?_)
        refine g_iconst hO 1 d_X8_shotsAgree_55 (by decide) ?_
        refine g_ic_ne (tgt := 63) hO d_X8_shotsAgree_56.1 d_X8_shotsAgree_56.2 (fun _ => ?_) (fun _ => ?_)
        · skip
          refine g_iconst hO 1 d_X8_shotsAgree_59 (by decide) ?_
          refine g_goto (tgt := 64) hO d_X8_shotsAgree_60.1 d_X8_shotsAgree_60.2 ?_
          exact g_sub [0, 1, 2, 3, 4] rfl (w_X8_shotsAgree_64 hO o _ ih _ _ _ _ _ _)
        · skip
          refine g_iconst hO 0 d_X8_shotsAgree_63 (by decide) ?_
          exact g_sub [0, 1, 2, 3, 4] rfl (w_X8_shotsAgree_64 hO o _ ih _ _ _ _ _ _)
      · skip
        exact g_sub [0, 1, 2, 3, 4] rfl (w_X8_shotsAgree_69 hO o _ ih _ _ _ _)
set_option maxRecDepth 20000 in
theorem w_X8_shotsAgree {Γ : GC} {E : GE} (hO : gOk Γ E cX8_shotsAgree RX8 5 rm_X8_shotsAgree (some .boolean) "shotsAgree") (o : Nat) (x1 : Option Nat) (x2 : Int32) (x3 : Int32) (S : GS) : Go Γ E (gBpI Γ E S) 5 (0, 0) 0 S [(0, vA (some o)), (1, vA x1), (2, vI x2), (3, vI x3)] [] (f_X8_shotsAgree o x1 x2 x3 S) := by
  unfold f_X8_shotsAgree
  refine g_iconst hO 0 d_X8_shotsAgree_0 (by decide) ?_
  refine g_istore (lv' := [(4, vI 0), (0, vA (some o)), (1, vA x1), (2, vI x2), (3, vI x3)]) hO d_X8_shotsAgree_1 (by decide) rfl ?_
  exact g_sub [1, 2, 3, 4, 0] rfl (w_X8_shotsAgree_3 hO o _ _ _ _ _ _)
theorem t_X8_shotsAgree (l : Launch) (E : GE) (o : Nat) (x1 : Option Nat) (x2 : Int32) (x3 : Int32) (S : GS) : ∀ a, f_X8_shotsAgree o x1 x2 x3 S = some a → Ct l E yX8_shotsAgree cX8_shotsAgree 5 (some .boolean) rm_X8_shotsAgree [vA (some o), vA x1, vI x2, vI x3] S (some (vI a)) S :=
  Ct_of (val := fun b => some (vI b)) (nxt := fun _ => S) (by decide) (Nat.le_of_ble_eq_true rfl) (fun Γ hl hO => w_X8_shotsAgree hO o x1 x2 x3 S)
theorem d_X9_init_0 : gD cX9_init 0 (.aload_n 0) 1 1 := ⟨by decide +kernel, rfl⟩
theorem d_X9_init_1 : gD cX9_init 1 (.invokespecial 3) 3 4 := ⟨by decide +kernel, rfl⟩
theorem d_X9_init_4 : gD cX9_init 4 (.aload_n 0) 1 5 := ⟨by decide +kernel, rfl⟩
theorem d_X9_init_5 : gD cX9_init 5 (.sipush 600) 3 8 := ⟨by decide +kernel, rfl⟩
theorem d_X9_init_8 : gD cX9_init 8 (.newarray .byte) 2 10 := ⟨by decide +kernel, rfl⟩
theorem d_X9_init_10 : gD cX9_init 10 (.putfield 9) 3 13 := ⟨by decide +kernel, rfl⟩
theorem d_X9_init_13 : gD cX9_init 13 (.aload_n 0) 1 14 := ⟨by decide +kernel, rfl⟩
theorem d_X9_init_14 : gD cX9_init 14 (.bipush 6) 2 16 := ⟨by decide +kernel, rfl⟩
theorem d_X9_init_16 : gD cX9_init 16 (.newarray .int) 2 18 := ⟨by decide +kernel, rfl⟩
theorem d_X9_init_18 : gD cX9_init 18 (.putfield 15) 3 21 := ⟨by decide +kernel, rfl⟩
theorem d_X9_init_21 : gD cX9_init 21 (.aload_n 0) 1 22 := ⟨by decide +kernel, rfl⟩
theorem d_X9_init_22 : gD cX9_init 22 (.iconst 2) 1 23 := ⟨by decide +kernel, rfl⟩
theorem d_X9_init_23 : gD cX9_init 23 (.anewarray 19) 3 26 := ⟨by decide +kernel, rfl⟩
theorem d_X9_init_26 : gD cX9_init 26 (.putfield 21) 3 29 := ⟨by decide +kernel, rfl⟩
theorem d_X9_init_29 : gD cX9_init 29 (.aload_n 0) 1 30 := ⟨by decide +kernel, rfl⟩
theorem d_X9_init_30 : gD cX9_init 30 (.iconst 2) 1 31 := ⟨by decide +kernel, rfl⟩
theorem d_X9_init_31 : gD cX9_init 31 (.anewarray 25) 3 34 := ⟨by decide +kernel, rfl⟩
theorem d_X9_init_34 : gD cX9_init 34 (.putfield 27) 3 37 := ⟨by decide +kernel, rfl⟩
theorem d_X9_init_37 : gD cX9_init 37 (.aload_n 0) 1 38 := ⟨by decide +kernel, rfl⟩
theorem d_X9_init_38 : gD cX9_init 38 (.iconst 2) 1 39 := ⟨by decide +kernel, rfl⟩
theorem d_X9_init_39 : gD cX9_init 39 (.anewarray 31) 3 42 := ⟨by decide +kernel, rfl⟩
theorem d_X9_init_42 : gD cX9_init 42 (.putfield 33) 3 45 := ⟨by decide +kernel, rfl⟩
theorem d_X9_init_45 : gD cX9_init 45 (.aload_n 0) 1 46 := ⟨by decide +kernel, rfl⟩
theorem d_X9_init_46 : gD cX9_init 46 (.iconst 2) 1 47 := ⟨by decide +kernel, rfl⟩
theorem d_X9_init_47 : gD cX9_init 47 (.anewarray 31) 3 50 := ⟨by decide +kernel, rfl⟩
theorem d_X9_init_50 : gD cX9_init 50 (.putfield 37) 3 53 := ⟨by decide +kernel, rfl⟩
theorem d_X9_init_53 : gD cX9_init 53 (.aload_n 0) 1 54 := ⟨by decide +kernel, rfl⟩
theorem d_X9_init_54 : gD cX9_init 54 (.iconst 2) 1 55 := ⟨by decide +kernel, rfl⟩
theorem d_X9_init_55 : gD cX9_init 55 (.anewarray 31) 3 58 := ⟨by decide +kernel, rfl⟩
theorem d_X9_init_58 : gD cX9_init 58 (.putfield 40) 3 61 := ⟨by decide +kernel, rfl⟩
theorem d_X9_init_61 : gD cX9_init 61 (.aload_n 0) 1 62 := ⟨by decide +kernel, rfl⟩
theorem d_X9_init_62 : gD cX9_init 62 (.iconst 2) 1 63 := ⟨by decide +kernel, rfl⟩
theorem d_X9_init_63 : gD cX9_init 63 (.anewarray 31) 3 66 := ⟨by decide +kernel, rfl⟩
theorem d_X9_init_66 : gD cX9_init 66 (.putfield 43) 3 69 := ⟨by decide +kernel, rfl⟩
theorem d_X9_init_69 : gD cX9_init 69 (.aload_n 0) 1 70 := ⟨by decide +kernel, rfl⟩
theorem d_X9_init_70 : gD cX9_init 70 (.iconst (-1)) 1 71 := ⟨by decide +kernel, rfl⟩
theorem d_X9_init_71 : gD cX9_init 71 (.putfield 46) 3 74 := ⟨by decide +kernel, rfl⟩
theorem d_X9_init_74 : gD cX9_init 74 (.iconst 0) 1 75 := ⟨by decide +kernel, rfl⟩
theorem d_X9_init_75 : gD cX9_init 75 (.istore_n 1) 1 76 := ⟨by decide +kernel, rfl⟩
theorem d_X9_init_76 : gD cX9_init 76 (.iload_n 1) 1 77 := ⟨by decide +kernel, rfl⟩
theorem d_X9_init_77 : gD cX9_init 77 (.iconst 2) 1 78 := ⟨by decide +kernel, rfl⟩
theorem d_X9_init_78 : gD cX9_init 78 (.if_icmp .ge 99) 3 81 ∧ ((78 : Nat) : Int) + 99 = ((177 : Nat) : Int) := ⟨⟨by decide +kernel, rfl⟩, by decide⟩
theorem d_X9_init_81 : gD cX9_init 81 (.aload_n 0) 1 82 := ⟨by decide +kernel, rfl⟩
theorem d_X9_init_82 : gD cX9_init 82 (.getfield 21) 3 85 := ⟨by decide +kernel, rfl⟩
theorem d_X9_init_85 : gD cX9_init 85 (.iload_n 1) 1 86 := ⟨by decide +kernel, rfl⟩
theorem d_X9_init_86 : gD cX9_init 86 (.new 19) 3 89 := ⟨by decide +kernel, rfl⟩
theorem d_X9_init_89 : gD cX9_init 89 (.dup) 1 90 := ⟨by decide +kernel, rfl⟩
theorem d_X9_init_90 : gD cX9_init 90 (.invokespecial 50) 3 93 := ⟨by decide +kernel, rfl⟩
theorem d_X9_init_93 : gD cX9_init 93 (.aastore) 1 94 := ⟨by decide +kernel, rfl⟩
theorem d_X9_init_94 : gD cX9_init 94 (.aload_n 0) 1 95 := ⟨by decide +kernel, rfl⟩
theorem d_X9_init_95 : gD cX9_init 95 (.getfield 27) 3 98 := ⟨by decide +kernel, rfl⟩
theorem d_X9_init_98 : gD cX9_init 98 (.iload_n 1) 1 99 := ⟨by decide +kernel, rfl⟩
theorem d_X9_init_99 : gD cX9_init 99 (.new 25) 3 102 := ⟨by decide +kernel, rfl⟩
theorem d_X9_init_102 : gD cX9_init 102 (.dup) 1 103 := ⟨by decide +kernel, rfl⟩
theorem d_X9_init_103 : gD cX9_init 103 (.invokespecial 51) 3 106 := ⟨by decide +kernel, rfl⟩
theorem d_X9_init_106 : gD cX9_init 106 (.aastore) 1 107 := ⟨by decide +kernel, rfl⟩
theorem d_X9_init_107 : gD cX9_init 107 (.aload_n 0) 1 108 := ⟨by decide +kernel, rfl⟩
theorem d_X9_init_108 : gD cX9_init 108 (.getfield 33) 3 111 := ⟨by decide +kernel, rfl⟩
theorem d_X9_init_111 : gD cX9_init 111 (.iload_n 1) 1 112 := ⟨by decide +kernel, rfl⟩
theorem d_X9_init_112 : gD cX9_init 112 (.new 31) 3 115 := ⟨by decide +kernel, rfl⟩
theorem d_X9_init_115 : gD cX9_init 115 (.dup) 1 116 := ⟨by decide +kernel, rfl⟩
theorem d_X9_init_116 : gD cX9_init 116 (.bipush 40) 2 118 := ⟨by decide +kernel, rfl⟩
theorem d_X9_init_118 : gD cX9_init 118 (.iconst 3) 1 119 := ⟨by decide +kernel, rfl⟩
theorem d_X9_init_119 : gD cX9_init 119 (.invokespecial 52) 3 122 := ⟨by decide +kernel, rfl⟩
theorem d_X9_init_122 : gD cX9_init 122 (.aastore) 1 123 := ⟨by decide +kernel, rfl⟩
theorem d_X9_init_123 : gD cX9_init 123 (.aload_n 0) 1 124 := ⟨by decide +kernel, rfl⟩
theorem d_X9_init_124 : gD cX9_init 124 (.getfield 37) 3 127 := ⟨by decide +kernel, rfl⟩
theorem d_X9_init_127 : gD cX9_init 127 (.iload_n 1) 1 128 := ⟨by decide +kernel, rfl⟩
theorem d_X9_init_128 : gD cX9_init 128 (.new 31) 3 131 := ⟨by decide +kernel, rfl⟩
theorem d_X9_init_131 : gD cX9_init 131 (.dup) 1 132 := ⟨by decide +kernel, rfl⟩
theorem d_X9_init_132 : gD cX9_init 132 (.bipush 16) 2 134 := ⟨by decide +kernel, rfl⟩
theorem d_X9_init_134 : gD cX9_init 134 (.iconst 1) 1 135 := ⟨by decide +kernel, rfl⟩
theorem d_X9_init_135 : gD cX9_init 135 (.invokespecial 52) 3 138 := ⟨by decide +kernel, rfl⟩
theorem d_X9_init_138 : gD cX9_init 138 (.aastore) 1 139 := ⟨by decide +kernel, rfl⟩
theorem d_X9_init_139 : gD cX9_init 139 (.aload_n 0) 1 140 := ⟨by decide +kernel, rfl⟩
theorem d_X9_init_140 : gD cX9_init 140 (.getfield 40) 3 143 := ⟨by decide +kernel, rfl⟩
theorem d_X9_init_143 : gD cX9_init 143 (.iload_n 1) 1 144 := ⟨by decide +kernel, rfl⟩
theorem d_X9_init_144 : gD cX9_init 144 (.new 31) 3 147 := ⟨by decide +kernel, rfl⟩
theorem d_X9_init_147 : gD cX9_init 147 (.dup) 1 148 := ⟨by decide +kernel, rfl⟩
theorem d_X9_init_148 : gD cX9_init 148 (.bipush 30) 2 150 := ⟨by decide +kernel, rfl⟩
theorem d_X9_init_150 : gD cX9_init 150 (.iconst 3) 1 151 := ⟨by decide +kernel, rfl⟩
theorem d_X9_init_151 : gD cX9_init 151 (.invokespecial 52) 3 154 := ⟨by decide +kernel, rfl⟩
theorem d_X9_init_154 : gD cX9_init 154 (.aastore) 1 155 := ⟨by decide +kernel, rfl⟩
theorem d_X9_init_155 : gD cX9_init 155 (.aload_n 0) 1 156 := ⟨by decide +kernel, rfl⟩
theorem d_X9_init_156 : gD cX9_init 156 (.getfield 43) 3 159 := ⟨by decide +kernel, rfl⟩
theorem d_X9_init_159 : gD cX9_init 159 (.iload_n 1) 1 160 := ⟨by decide +kernel, rfl⟩
theorem d_X9_init_160 : gD cX9_init 160 (.new 31) 3 163 := ⟨by decide +kernel, rfl⟩
theorem d_X9_init_163 : gD cX9_init 163 (.dup) 1 164 := ⟨by decide +kernel, rfl⟩
theorem d_X9_init_164 : gD cX9_init 164 (.bipush 10) 2 166 := ⟨by decide +kernel, rfl⟩
theorem d_X9_init_166 : gD cX9_init 166 (.iconst 2) 1 167 := ⟨by decide +kernel, rfl⟩
theorem d_X9_init_167 : gD cX9_init 167 (.invokespecial 52) 3 170 := ⟨by decide +kernel, rfl⟩
theorem d_X9_init_170 : gD cX9_init 170 (.aastore) 1 171 := ⟨by decide +kernel, rfl⟩
theorem d_X9_init_171 : gD cX9_init 171 (.iinc 1 1) 3 174 := ⟨by decide +kernel, rfl⟩
theorem d_X9_init_174 : decode cX9_init 174 = .ok (.goto (-98), 3) ∧ ((174 : Nat) : Int) + (-98) = ((76 : Nat) : Int) := ⟨by decide +kernel, by decide⟩
theorem d_X9_init_177 : gD cX9_init 177 (.return_) 1 178 := ⟨by decide +kernel, rfl⟩
abbrev rm_X9_init : Room := { frames := 3, cells := 50, slots := 1566, locals := 54 }
set_option maxRecDepth 20000 in
theorem w_X9_init {Γ : GC} {E : GE} (hO : gOk Γ E cX9_init RX9 2 rm_X9_init none "<init>") (o : Nat) (S : GS) : Go Γ E (gBsV Γ E) 2 (0, 0) 0 S [(0, vA (some o))] [] (f_X9_init o S) := by
  unfold f_X9_init
  refine g_aload_n hO d_X9_init_0 (by rfl) 0 rfl ?_
  refine g_oinit hO wm_X9_3 wn_obj wc_obj (Nat.le_of_ble_eq_true rfl) (Nat.le_of_ble_eq_true rfl) (fun h => nomatch h) d_X9_init_1 ?_
  refine g_aload_n hO d_X9_init_4 (by rfl) 0 rfl ?_
  refine g_sipush hO 600 d_X9_init_5 (by decide) ?_
  refine h_na hO 13 (by decide) rfl wac_13 (600) (by decide) (kn' := (1, 600)) rfl ⟨by decide, by decide⟩ d_X9_init_8 (fun v1 S2 => ?_)
  refine h_putR hO cl_X9 0 rfl (ty := .array .byte) (by decide +kernel) (Or.inr ⟨_, rfl⟩) wf_X9_9 (Or.inr ⟨rfl, rfl, rfl⟩) d_X9_init_10 (fun S3 => ?_)
  refine g_aload_n hO d_X9_init_13 (by rfl) 0 rfl ?_
  refine g_bipush hO 6 d_X9_init_14 (by decide) ?_
  refine h_na hO 14 (by decide) rfl wac_14 (6) (by decide) (kn' := (2, 606)) rfl ⟨by decide, by decide⟩ d_X9_init_16 (fun v4 S5 => ?_)
  refine h_putR hO cl_X9 1 rfl (ty := .array .int) (by decide +kernel) (Or.inr ⟨_, rfl⟩) wf_X9_15 (Or.inr ⟨rfl, rfl, rfl⟩) d_X9_init_18 (fun S6 => ?_)
  refine g_aload_n hO d_X9_init_21 (by rfl) 0 rfl ?_
  refine g_iconst hO 2 d_X9_init_22 (by decide) ?_
  refine h_nar hO 17 ⟨by decide, by decide⟩ rfl wcl_X9_19 wao_17 2 (by decide) (kn' := (3, 608)) rfl ⟨by decide, by decide⟩ d_X9_init_23 (fun v7 S8 => ?_)
  refine h_putR hO cl_X9 2 rfl (ty := .array (.object "GlassLaces$Court")) (by decide +kernel) (Or.inr ⟨_, rfl⟩) wf_X9_21 (Or.inr ⟨rfl, rfl, rfl⟩) d_X9_init_26 (fun S9 => ?_)
  refine g_aload_n hO d_X9_init_29 (by rfl) 0 rfl ?_
  refine g_iconst hO 2 d_X9_init_30 (by decide) ?_
  refine h_nar hO 19 ⟨by decide, by decide⟩ rfl wcl_X9_25 wao_19 2 (by decide) (kn' := (4, 610)) rfl ⟨by decide, by decide⟩ d_X9_init_31 (fun v10 S11 => ?_)
  refine h_putR hO cl_X9 3 rfl (ty := .array (.object "GlassLaces$Sight")) (by decide +kernel) (Or.inr ⟨_, rfl⟩) wf_X9_27 (Or.inr ⟨rfl, rfl, rfl⟩) d_X9_init_34 (fun S12 => ?_)
  refine g_aload_n hO d_X9_init_37 (by rfl) 0 rfl ?_
  refine g_iconst hO 2 d_X9_init_38 (by decide) ?_
  refine h_nar hO 18 ⟨by decide, by decide⟩ rfl wcl_X9_31 wao_18 2 (by decide) (kn' := (5, 612)) rfl ⟨by decide, by decide⟩ d_X9_init_39 (fun v13 S14 => ?_)
  refine h_putR hO cl_X9 4 rfl (ty := .array (.object "GlassLaces$Rows")) (by decide +kernel) (Or.inr ⟨_, rfl⟩) wf_X9_33 (Or.inr ⟨rfl, rfl, rfl⟩) d_X9_init_42 (fun S15 => ?_)
  refine g_aload_n hO d_X9_init_45 (by rfl) 0 rfl ?_
  refine g_iconst hO 2 d_X9_init_46 (by decide) ?_
  refine h_nar hO 18 ⟨by decide, by decide⟩ rfl wcl_X9_31 wao_18 2 (by decide) (kn' := (6, 614)) rfl ⟨by decide, by decide⟩ d_X9_init_47 (fun v16 S17 => ?_)
  refine h_putR hO cl_X9 5 rfl (ty := .array (.object "GlassLaces$Rows")) (by decide +kernel) (Or.inr ⟨_, rfl⟩) wf_X9_37 (Or.inr ⟨rfl, rfl, rfl⟩) d_X9_init_50 (fun S18 => ?_)
  refine g_aload_n hO d_X9_init_53 (by rfl) 0 rfl ?_
  refine g_iconst hO 2 d_X9_init_54 (by decide) ?_
  refine h_nar hO 18 ⟨by decide, by decide⟩ rfl wcl_X9_31 wao_18 2 (by decide) (kn' := (7, 616)) rfl ⟨by decide, by decide⟩ d_X9_init_55 (fun v19 S20 => ?_)
  refine h_putR hO cl_X9 6 rfl (ty := .array (.object "GlassLaces$Rows")) (by decide +kernel) (Or.inr ⟨_, rfl⟩) wf_X9_40 (Or.inr ⟨rfl, rfl, rfl⟩) d_X9_init_58 (fun S21 => ?_)
  refine g_aload_n hO d_X9_init_61 (by rfl) 0 rfl ?_
  refine g_iconst hO 2 d_X9_init_62 (by decide) ?_
  refine h_nar hO 18 ⟨by decide, by decide⟩ rfl wcl_X9_31 wao_18 2 (by decide) (kn' := (8, 618)) rfl ⟨by decide, by decide⟩ d_X9_init_63 (fun v22 S23 => ?_)
  refine h_putR hO cl_X9 7 rfl (ty := .array (.object "GlassLaces$Rows")) (by decide +kernel) (Or.inr ⟨_, rfl⟩) wf_X9_43 (Or.inr ⟨rfl, rfl, rfl⟩) d_X9_init_66 (fun S24 => ?_)
  refine g_aload_n hO d_X9_init_69 (by rfl) 0 rfl ?_
  refine g_iconst hO (-1) d_X9_init_70 (by decide) ?_
  refine h_putI hO cl_X9 10 rfl rfl wf_X9_46 (Or.inl rfl) d_X9_init_71 (fun S25 => ?_)
  refine g_iconst hO 0 d_X9_init_74 (by decide) ?_
  refine g_istore_n (lv' := [(1, vI 0), (0, vA (some o))]) hO d_X9_init_75 (by rfl) (by decide) rfl ?_
  refine g_iload_n hO d_X9_init_76 (by rfl) 0 rfl ?_
  refine g_iconst hO 2 d_X9_init_77 (by decide) ?_
  refine g_ic_geF (tgt := 177) hO d_X9_init_78.1 d_X9_init_78.2 (by decide) ?_
  refine g_aload_n hO d_X9_init_81 (by rfl) 1 rfl ?_
  refine h_getR hO cl_X9 2 rfl wf_X9_21 d_X9_init_82 (fun v26 => ?_)
  refine g_iload_n hO d_X9_init_85 (by rfl) 0 rfl ?_
  refine h_new hO cl_X0 tyX0 tyX0_ok dv_X0 wcl_X9_19 wins_X0 wi_X0 (kn' := (9, 625)) rfl ⟨by decide, by decide⟩ d_X9_init_86 (fun v27 S28 => ?_)
  refine g_dup hO d_X9_init_89 rfl ?_
  refine k_initN hO mm_X0_init lkIN_X9_50 ⟨⟨by decide, by decide⟩, by decide +kernel, by decide +kernel⟩ (kn' := (16, 700)) (by decide +kernel) (As := []) rfl (Nat.le_of_ble_eq_true rfl) (fun o' _ => t_X0_init Γ.2.1 E o' S28) d_X9_init_90 rfl (fun S29 => ?_)
  refine h_aast hO 17 0 ⟨by decide, by decide⟩ rfl cl_X0 d_X9_init_93 (fun S30 => ?_)
  refine g_aload_n hO d_X9_init_94 (by rfl) 1 rfl ?_
  refine h_getR hO cl_X9 3 rfl wf_X9_27 d_X9_init_95 (fun v31 => ?_)
  refine g_iload_n hO d_X9_init_98 (by rfl) 0 rfl ?_
  refine h_new hO cl_X8 tyX8 tyX8_ok dv_X8 wcl_X9_25 wins_X8 wi_X8 (kn' := (17, 702)) rfl ⟨by decide, by decide⟩ d_X9_init_99 (fun v32 S33 => ?_)
  refine g_dup hO d_X9_init_102 rfl ?_
  refine k_initN hO mm_X8_init lkIN_X9_51 ⟨⟨by decide, by decide⟩, by decide +kernel, by decide +kernel⟩ (kn' := (21, 830)) (by decide +kernel) (As := []) rfl (Nat.le_of_ble_eq_true rfl) (fun o' _ => t_X8_init Γ.2.1 E o' S33) d_X9_init_103 rfl (fun S34 => ?_)
  refine h_aast hO 19 8 ⟨by decide, by decide⟩ rfl cl_X8 d_X9_init_106 (fun S35 => ?_)
  refine g_aload_n hO d_X9_init_107 (by rfl) 1 rfl ?_
  refine h_getR hO cl_X9 4 rfl wf_X9_33 d_X9_init_108 (fun v36 => ?_)
  refine g_iload_n hO d_X9_init_111 (by rfl) 0 rfl ?_
  refine h_new hO cl_X7 tyX7 tyX7_ok dv_X7 wcl_X9_31 wins_X7 wi_X7 (kn' := (22, 834)) rfl ⟨by decide, by decide⟩ d_X9_init_112 (fun v37 S38 => ?_)
  refine g_dup hO d_X9_init_115 rfl ?_
  refine g_bipush hO 40 d_X9_init_116 (by decide) ?_
  refine g_iconst hO 3 d_X9_init_118 (by decide) ?_
  refine k_init hO mm_X7_init lkI_X9_52 ⟨⟨by decide, by decide⟩, by decide +kernel, by decide +kernel⟩ (kn' := (23, 954)) (by decide +kernel) (As := [vI 40, vI 3]) rfl (Nat.le_of_ble_eq_true rfl) (fun o' _ => t_X7_init Γ.2.1 E o' 40 3 S38) d_X9_init_119 rfl (fun S39 => ?_)
  refine h_aast hO 18 7 ⟨by decide, by decide⟩ rfl cl_X7 d_X9_init_122 (fun S40 => ?_)
  refine g_aload_n hO d_X9_init_123 (by rfl) 1 rfl ?_
  refine h_getR hO cl_X9 5 rfl wf_X9_37 d_X9_init_124 (fun v41 => ?_)
  refine g_iload_n hO d_X9_init_127 (by rfl) 0 rfl ?_
  refine h_new hO cl_X7 tyX7 tyX7_ok dv_X7 wcl_X9_31 wins_X7 wi_X7 (kn' := (24, 958)) rfl ⟨by decide, by decide⟩ d_X9_init_128 (fun v42 S43 => ?_)
  refine g_dup hO d_X9_init_131 rfl ?_
  refine g_bipush hO 16 d_X9_init_132 (by decide) ?_
  refine g_iconst hO 1 d_X9_init_134 (by decide) ?_
  refine k_init hO mm_X7_init lkI_X9_52 ⟨⟨by decide, by decide⟩, by decide +kernel, by decide +kernel⟩ (kn' := (25, 974)) (by decide +kernel) (As := [vI 16, vI 1]) rfl (Nat.le_of_ble_eq_true rfl) (fun o' _ => t_X7_init Γ.2.1 E o' 16 1 S43) d_X9_init_135 rfl (fun S44 => ?_)
  refine h_aast hO 18 7 ⟨by decide, by decide⟩ rfl cl_X7 d_X9_init_138 (fun S45 => ?_)
  refine g_aload_n hO d_X9_init_139 (by rfl) 1 rfl ?_
  refine h_getR hO cl_X9 6 rfl wf_X9_40 d_X9_init_140 (fun v46 => ?_)
  refine g_iload_n hO d_X9_init_143 (by rfl) 0 rfl ?_
  refine h_new hO cl_X7 tyX7 tyX7_ok dv_X7 wcl_X9_31 wins_X7 wi_X7 (kn' := (26, 978)) rfl ⟨by decide, by decide⟩ d_X9_init_144 (fun v47 S48 => ?_)
  refine g_dup hO d_X9_init_147 rfl ?_
  refine g_bipush hO 30 d_X9_init_148 (by decide) ?_
  refine g_iconst hO 3 d_X9_init_150 (by decide) ?_
  refine k_init hO mm_X7_init lkI_X9_52 ⟨⟨by decide, by decide⟩, by decide +kernel, by decide +kernel⟩ (kn' := (27, 1068)) (by decide +kernel) (As := [vI 30, vI 3]) rfl (Nat.le_of_ble_eq_true rfl) (fun o' _ => t_X7_init Γ.2.1 E o' 30 3 S48) d_X9_init_151 rfl (fun S49 => ?_)
  refine h_aast hO 18 7 ⟨by decide, by decide⟩ rfl cl_X7 d_X9_init_154 (fun S50 => ?_)
  refine g_aload_n hO d_X9_init_155 (by rfl) 1 rfl ?_
  refine h_getR hO cl_X9 7 rfl wf_X9_43 d_X9_init_156 (fun v51 => ?_)
  refine g_iload_n hO d_X9_init_159 (by rfl) 0 rfl ?_
  refine h_new hO cl_X7 tyX7 tyX7_ok dv_X7 wcl_X9_31 wins_X7 wi_X7 (kn' := (28, 1072)) rfl ⟨by decide, by decide⟩ d_X9_init_160 (fun v52 S53 => ?_)
  refine g_dup hO d_X9_init_163 rfl ?_
  refine g_bipush hO 10 d_X9_init_164 (by decide) ?_
  refine g_iconst hO 2 d_X9_init_166 (by decide) ?_
  refine k_init hO mm_X7_init lkI_X9_52 ⟨⟨by decide, by decide⟩, by decide +kernel, by decide +kernel⟩ (kn' := (29, 1092)) (by decide +kernel) (As := [vI 10, vI 2]) rfl (Nat.le_of_ble_eq_true rfl) (fun o' _ => t_X7_init Γ.2.1 E o' 10 2 S53) d_X9_init_167 rfl (fun S54 => ?_)
  refine h_aast hO 18 7 ⟨by decide, by decide⟩ rfl cl_X7 d_X9_init_170 (fun S55 => ?_)
  refine g_iinc (lv' := [(1, vI (0 + 1)), (0, vA (some o))]) hO 1 d_X9_init_171 (by decide) 0 rfl (by decide) rfl ?_
  refine g_goto (tgt := 76) hO d_X9_init_174.1 d_X9_init_174.2 ?_
  refine g_iload_n hO d_X9_init_76 (by rfl) 0 rfl ?_
  refine g_iconst hO 2 d_X9_init_77 (by decide) ?_
  refine g_ic_geF (tgt := 177) hO d_X9_init_78.1 d_X9_init_78.2 (by decide) ?_
  refine g_aload_n hO d_X9_init_81 (by rfl) 1 rfl ?_
  refine h_getR hO cl_X9 2 rfl wf_X9_21 d_X9_init_82 (fun v56 => ?_)
  refine g_iload_n hO d_X9_init_85 (by rfl) 0 rfl ?_
  refine h_new hO cl_X0 tyX0 tyX0_ok dv_X0 wcl_X9_19 wins_X0 wi_X0 (kn' := (30, 1099)) rfl ⟨by decide, by decide⟩ d_X9_init_86 (fun v57 S58 => ?_)
  refine g_dup hO d_X9_init_89 rfl ?_
  refine k_initN hO mm_X0_init lkIN_X9_50 ⟨⟨by decide, by decide⟩, by decide +kernel, by decide +kernel⟩ (kn' := (37, 1174)) (by decide +kernel) (As := []) rfl (Nat.le_of_ble_eq_true rfl) (fun o' _ => t_X0_init Γ.2.1 E o' S58) d_X9_init_90 rfl (fun S59 => ?_)
  refine h_aast hO 17 0 ⟨by decide, by decide⟩ rfl cl_X0 d_X9_init_93 (fun S60 => ?_)
  refine g_aload_n hO d_X9_init_94 (by rfl) 1 rfl ?_
  refine h_getR hO cl_X9 3 rfl wf_X9_27 d_X9_init_95 (fun v61 => ?_)
  refine g_iload_n hO d_X9_init_98 (by rfl) 0 rfl ?_
  refine h_new hO cl_X8 tyX8 tyX8_ok dv_X8 wcl_X9_25 wins_X8 wi_X8 (kn' := (38, 1176)) rfl ⟨by decide, by decide⟩ d_X9_init_99 (fun v62 S63 => ?_)
  refine g_dup hO d_X9_init_102 rfl ?_
  refine k_initN hO mm_X8_init lkIN_X9_51 ⟨⟨by decide, by decide⟩, by decide +kernel, by decide +kernel⟩ (kn' := (42, 1304)) (by decide +kernel) (As := []) rfl (Nat.le_of_ble_eq_true rfl) (fun o' _ => t_X8_init Γ.2.1 E o' S63) d_X9_init_103 rfl (fun S64 => ?_)
  refine h_aast hO 19 8 ⟨by decide, by decide⟩ rfl cl_X8 d_X9_init_106 (fun S65 => ?_)
  refine g_aload_n hO d_X9_init_107 (by rfl) 1 rfl ?_
  refine h_getR hO cl_X9 4 rfl wf_X9_33 d_X9_init_108 (fun v66 => ?_)
  refine g_iload_n hO d_X9_init_111 (by rfl) 0 rfl ?_
  refine h_new hO cl_X7 tyX7 tyX7_ok dv_X7 wcl_X9_31 wins_X7 wi_X7 (kn' := (43, 1308)) rfl ⟨by decide, by decide⟩ d_X9_init_112 (fun v67 S68 => ?_)
  refine g_dup hO d_X9_init_115 rfl ?_
  refine g_bipush hO 40 d_X9_init_116 (by decide) ?_
  refine g_iconst hO 3 d_X9_init_118 (by decide) ?_
  refine k_init hO mm_X7_init lkI_X9_52 ⟨⟨by decide, by decide⟩, by decide +kernel, by decide +kernel⟩ (kn' := (44, 1428)) (by decide +kernel) (As := [vI 40, vI 3]) rfl (Nat.le_of_ble_eq_true rfl) (fun o' _ => t_X7_init Γ.2.1 E o' 40 3 S68) d_X9_init_119 rfl (fun S69 => ?_)
  refine h_aast hO 18 7 ⟨by decide, by decide⟩ rfl cl_X7 d_X9_init_122 (fun S70 => ?_)
  refine g_aload_n hO d_X9_init_123 (by rfl) 1 rfl ?_
  refine h_getR hO cl_X9 5 rfl wf_X9_37 d_X9_init_124 (fun v71 => ?_)
  refine g_iload_n hO d_X9_init_127 (by rfl) 0 rfl ?_
  refine h_new hO cl_X7 tyX7 tyX7_ok dv_X7 wcl_X9_31 wins_X7 wi_X7 (kn' := (45, 1432)) rfl ⟨by decide, by decide⟩ d_X9_init_128 (fun v72 S73 => ?_)
  refine g_dup hO d_X9_init_131 rfl ?_
  refine g_bipush hO 16 d_X9_init_132 (by decide) ?_
  refine g_iconst hO 1 d_X9_init_134 (by decide) ?_
  refine k_init hO mm_X7_init lkI_X9_52 ⟨⟨by decide, by decide⟩, by decide +kernel, by decide +kernel⟩ (kn' := (46, 1448)) (by decide +kernel) (As := [vI 16, vI 1]) rfl (Nat.le_of_ble_eq_true rfl) (fun o' _ => t_X7_init Γ.2.1 E o' 16 1 S73) d_X9_init_135 rfl (fun S74 => ?_)
  refine h_aast hO 18 7 ⟨by decide, by decide⟩ rfl cl_X7 d_X9_init_138 (fun S75 => ?_)
  refine g_aload_n hO d_X9_init_139 (by rfl) 1 rfl ?_
  refine h_getR hO cl_X9 6 rfl wf_X9_40 d_X9_init_140 (fun v76 => ?_)
  refine g_iload_n hO d_X9_init_143 (by rfl) 0 rfl ?_
  refine h_new hO cl_X7 tyX7 tyX7_ok dv_X7 wcl_X9_31 wins_X7 wi_X7 (kn' := (47, 1452)) rfl ⟨by decide, by decide⟩ d_X9_init_144 (fun v77 S78 => ?_)
  refine g_dup hO d_X9_init_147 rfl ?_
  refine g_bipush hO 30 d_X9_init_148 (by decide) ?_
  refine g_iconst hO 3 d_X9_init_150 (by decide) ?_
  refine k_init hO mm_X7_init lkI_X9_52 ⟨⟨by decide, by decide⟩, by decide +kernel, by decide +kernel⟩ (kn' := (48, 1542)) (by decide +kernel) (As := [vI 30, vI 3]) rfl (Nat.le_of_ble_eq_true rfl) (fun o' _ => t_X7_init Γ.2.1 E o' 30 3 S78) d_X9_init_151 rfl (fun S79 => ?_)
  refine h_aast hO 18 7 ⟨by decide, by decide⟩ rfl cl_X7 d_X9_init_154 (fun S80 => ?_)
  refine g_aload_n hO d_X9_init_155 (by rfl) 1 rfl ?_
  refine h_getR hO cl_X9 7 rfl wf_X9_43 d_X9_init_156 (fun v81 => ?_)
  refine g_iload_n hO d_X9_init_159 (by rfl) 0 rfl ?_
  refine h_new hO cl_X7 tyX7 tyX7_ok dv_X7 wcl_X9_31 wins_X7 wi_X7 (kn' := (49, 1546)) rfl ⟨by decide, by decide⟩ d_X9_init_160 (fun v82 S83 => ?_)
  refine g_dup hO d_X9_init_163 rfl ?_
  refine g_bipush hO 10 d_X9_init_164 (by decide) ?_
  refine g_iconst hO 2 d_X9_init_166 (by decide) ?_
  refine k_init hO mm_X7_init lkI_X9_52 ⟨⟨by decide, by decide⟩, by decide +kernel, by decide +kernel⟩ (kn' := (50, 1566)) (by decide +kernel) (As := [vI 10, vI 2]) rfl (Nat.le_of_ble_eq_true rfl) (fun o' _ => t_X7_init Γ.2.1 E o' 10 2 S83) d_X9_init_167 rfl (fun S84 => ?_)
  refine h_aast hO 18 7 ⟨by decide, by decide⟩ rfl cl_X7 d_X9_init_170 (fun S85 => ?_)
  refine g_iinc (lv' := [(1, vI ((0 + 1) + 1)), (0, vA (some o))]) hO 1 d_X9_init_171 (by decide) 0 rfl (by decide) rfl ?_
  refine g_goto (tgt := 76) hO d_X9_init_174.1 d_X9_init_174.2 ?_
  refine g_iload_n hO d_X9_init_76 (by rfl) 0 rfl ?_
  refine g_iconst hO 2 d_X9_init_77 (by decide) ?_
  refine g_ic_geT (tgt := 177) hO d_X9_init_78.1 d_X9_init_78.2 (by decide) ?_
  exact g_vret hO rfl ⟨Nat.le_of_ble_eq_true rfl, Nat.le_of_ble_eq_true rfl⟩ rfl rfl d_X9_init_177.1
theorem t_X9_init (l : Launch) (E : GE) (o : Nat) (S : GS) : ∀ a, f_X9_init o S = some a → Ct l E yX9_init cX9_init 2 none rm_X9_init [vA (some o)] S none a :=
  Ct_of (val := fun _ => none) (nxt := fun b => b) (by decide) (Nat.le_of_ble_eq_true rfl) (fun Γ hl hO => w_X9_init hO o S)
theorem d_X9_addNumber_0 : gD cX9_addNumber 0 (.bipush 24) 2 2 := ⟨by decide +kernel, rfl⟩
theorem d_X9_addNumber_2 : gD cX9_addNumber 2 (.istore_n 2) 1 3 := ⟨by decide +kernel, rfl⟩
theorem d_X9_addNumber_3 : gD cX9_addNumber 3 (.iload_n 2) 1 4 := ⟨by decide +kernel, rfl⟩
theorem d_X9_addNumber_4 : gD cX9_addNumber 4 (.ifCond .lt 49) 3 7 ∧ ((4 : Nat) : Int) + 49 = ((53 : Nat) : Int) := ⟨⟨by decide +kernel, rfl⟩, by decide⟩
theorem d_X9_addNumber_7 : gD cX9_addNumber 7 (.aload_n 0) 1 8 := ⟨by decide +kernel, rfl⟩
theorem d_X9_addNumber_8 : gD cX9_addNumber 8 (.getfield 55) 3 11 := ⟨by decide +kernel, rfl⟩
theorem d_X9_addNumber_11 : gD cX9_addNumber 11 (.ifCond .lt 36) 3 14 ∧ ((11 : Nat) : Int) + 36 = ((47 : Nat) : Int) := ⟨⟨by decide +kernel, rfl⟩, by decide⟩
theorem d_X9_addNumber_14 : gD cX9_addNumber 14 (.aload_n 0) 1 15 := ⟨by decide +kernel, rfl⟩
theorem d_X9_addNumber_15 : gD cX9_addNumber 15 (.getfield 55) 3 18 := ⟨by decide +kernel, rfl⟩
theorem d_X9_addNumber_18 : gD cX9_addNumber 18 (.sipush 600) 3 21 := ⟨by decide +kernel, rfl⟩
theorem d_X9_addNumber_21 : gD cX9_addNumber 21 (.if_icmp .ge 26) 3 24 ∧ ((21 : Nat) : Int) + 26 = ((47 : Nat) : Int) := ⟨⟨by decide +kernel, rfl⟩, by decide⟩
theorem d_X9_addNumber_24 : gD cX9_addNumber 24 (.aload_n 0) 1 25 := ⟨by decide +kernel, rfl⟩
theorem d_X9_addNumber_25 : gD cX9_addNumber 25 (.getfield 9) 3 28 := ⟨by decide +kernel, rfl⟩
theorem d_X9_addNumber_28 : gD cX9_addNumber 28 (.aload_n 0) 1 29 := ⟨by decide +kernel, rfl⟩
theorem d_X9_addNumber_29 : gD cX9_addNumber 29 (.getfield 55) 3 32 := ⟨by decide +kernel, rfl⟩
theorem d_X9_addNumber_32 : gD cX9_addNumber 32 (.iload_n 1) 1 33 := ⟨by decide +kernel, rfl⟩
theorem d_X9_addNumber_33 : gD cX9_addNumber 33 (.iload_n 2) 1 34 := ⟨by decide +kernel, rfl⟩
theorem d_X9_addNumber_34 : gD cX9_addNumber 34 (.iushr) 1 35 := ⟨by decide +kernel, rfl⟩
theorem d_X9_addNumber_35 : gD cX9_addNumber 35 (.i2b) 1 36 := ⟨by decide +kernel, rfl⟩
theorem d_X9_addNumber_36 : gD cX9_addNumber 36 (.bastore) 1 37 := ⟨by decide +kernel, rfl⟩
theorem d_X9_addNumber_37 : gD cX9_addNumber 37 (.aload_n 0) 1 38 := ⟨by decide +kernel, rfl⟩
theorem d_X9_addNumber_38 : gD cX9_addNumber 38 (.dup) 1 39 := ⟨by decide +kernel, rfl⟩
theorem d_X9_addNumber_39 : gD cX9_addNumber 39 (.getfield 55) 3 42 := ⟨by decide +kernel, rfl⟩
theorem d_X9_addNumber_42 : gD cX9_addNumber 42 (.iconst 1) 1 43 := ⟨by decide +kernel, rfl⟩
theorem d_X9_addNumber_43 : gD cX9_addNumber 43 (.iadd) 1 44 := ⟨by decide +kernel, rfl⟩
theorem d_X9_addNumber_44 : gD cX9_addNumber 44 (.putfield 55) 3 47 := ⟨by decide +kernel, rfl⟩
theorem d_X9_addNumber_47 : gD cX9_addNumber 47 (.iinc 2 (-8)) 3 50 := ⟨by decide +kernel, rfl⟩
theorem d_X9_addNumber_50 : decode cX9_addNumber 50 = .ok (.goto (-47), 3) ∧ ((50 : Nat) : Int) + (-47) = ((3 : Nat) : Int) := ⟨by decide +kernel, by decide⟩
theorem d_X9_addNumber_53 : gD cX9_addNumber 53 (.return_) 1 54 := ⟨by decide +kernel, rfl⟩
abbrev rm_X9_addNumber : Room := { frames := 0, cells := 0, slots := 0, locals := 0 }
set_option maxRecDepth 20000 in
theorem w_X9_addNumber_47 {Γ : GC} {E : GE} (hO : gOk Γ E cX9_addNumber RX9 3 rm_X9_addNumber none "addNumber") (o : Nat) {k3 : (Int32 → Int32 → GS → Option GS)} (hk3 : ∀ (z1 : Int32) (z2 : Int32) (S1 : GS), Go Γ E (gBsV Γ E) 3 (0, 0) 3 S1 [(0, vA (some o)), (1, vI z1), (2, vI z2)] [] (k3 z1 z2 S1)) (x1 : Int32) (x2 : Int32) (S : GS) : Go Γ E (gBsV Γ E) 3 (0, 0) 47 S [(0, vA (some o)), (1, vI x1), (2, vI x2)] [] (f_X9_addNumber_47 k3 o x1 x2 S) := by
  unfold f_X9_addNumber_47
  refine g_iinc (lv' := [(2, vI (x2 + (-8))), (0, vA (some o)), (1, vI x1)]) hO (-8) d_X9_addNumber_47 (by decide) 2 rfl (by decide) rfl ?_
  refine g_goto (tgt := 3) hO d_X9_addNumber_50.1 d_X9_addNumber_50.2 ?_
  exact g_sub [1, 2, 0] rfl (hk3 _ _ _)
set_option maxRecDepth 20000 in
theorem w_X9_addNumber_3 {Γ : GC} {E : GE} (hO : gOk Γ E cX9_addNumber RX9 3 rm_X9_addNumber none "addNumber") (o : Nat) : ∀ (n : Nat) (x1 : Int32) (x2 : Int32) (S : GS), Go Γ E (gBsV Γ E) 3 (0, 0) 3 S [(0, vA (some o)), (1, vI x1), (2, vI x2)] [] (f_X9_addNumber_3 o n x1 x2 S) := by
  intro n
  induction n with
  | zero =>
    intro x1 x2 S
    exact g_none
  | succ n ih =>
    intro x1 x2 S
    rw [f_X9_addNumber_3]
    refine g_iload_n hO d_X9_addNumber_3 (by rfl) 2 rfl ?_
    refine g_if_lt (tgt := 53) hO d_X9_addNumber_4.1 d_X9_addNumber_4.2 (fun _ => ?_) (fun _ => ?_)
    · skip
      exact g_vret hO rfl ⟨Nat.le_of_ble_eq_true rfl, Nat.le_of_ble_eq_true rfl⟩ rfl rfl d_X9_addNumber_53.1
    · skip
      refine g_aload_n hO d_X9_addNumber_7 (by rfl) 0 rfl ?_
      refine h_getI hO cl_X9 8 rfl wf_X9_55 d_X9_addNumber_8 (fun v1 => ?_)
      refine g_if_lt (tgt := 47) hO d_X9_addNumber_11.1 d_X9_addNumber_11.2 (fun _ => ?_) (fun _ => ?_)
      · skip
        exact g_sub [0, 1, 2] rfl (w_X9_addNumber_47 hO o ih _ _ _)
      · skip
        refine g_aload_n hO d_X9_addNumber_14 (by rfl) 0 rfl ?_
        refine h_getI hO cl_X9 8 rfl wf_X9_55 d_X9_addNumber_15 (fun v2 => ?_)
        refine g_sipush hO 600 d_X9_addNumber_18 (by decide) ?_
        refine g_ic_ge (tgt := 47) hO d_X9_addNumber_21.1 d_X9_addNumber_21.2 (fun _ => ?_) (fun _ => ?_)
        · skip
          exact g_sub [0, 1, 2] rfl (w_X9_addNumber_47 hO o ih _ _ _)
        · skip
          refine g_aload_n hO d_X9_addNumber_24 (by rfl) 0 rfl ?_
          refine h_getR hO cl_X9 0 rfl wf_X9_9 d_X9_addNumber_25 (fun v3 => ?_)
          refine g_aload_n hO d_X9_addNumber_28 (by rfl) 0 rfl ?_
          refine h_getI hO cl_X9 8 rfl wf_X9_55 d_X9_addNumber_29 (fun v4 => ?_)
          refine g_iload_n hO d_X9_addNumber_32 (by rfl) 1 rfl ?_
          refine g_iload_n hO d_X9_addNumber_33 (by rfl) 2 rfl ?_
          refine g_iushr hO d_X9_addNumber_34 ?_
          refine g_i2b hO d_X9_addNumber_35 ?_
          refine h_bast hO d_X9_addNumber_36 (fun S5 => ?_)
          refine g_aload_n hO d_X9_addNumber_37 (by rfl) 0 rfl ?_
          refine g_dup hO d_X9_addNumber_38 rfl ?_
          refine h_getI hO cl_X9 8 rfl wf_X9_55 d_X9_addNumber_39 (fun v6 => ?_)
          refine g_iconst hO 1 d_X9_addNumber_42 (by decide) ?_
          refine g_iadd hO d_X9_addNumber_43 ?_
          refine h_putI hO cl_X9 8 rfl rfl wf_X9_55 (Or.inl rfl) d_X9_addNumber_44 (fun S7 => ?_)
          exact g_sub [0, 1, 2] rfl (w_X9_addNumber_47 hO o ih _ _ _)
set_option maxRecDepth 20000 in
theorem w_X9_addNumber {Γ : GC} {E : GE} (hO : gOk Γ E cX9_addNumber RX9 3 rm_X9_addNumber none "addNumber") (o : Nat) (x1 : Int32) (S : GS) : Go Γ E (gBsV Γ E) 3 (0, 0) 0 S [(0, vA (some o)), (1, vI x1)] [] (f_X9_addNumber o x1 S) := by
  unfold f_X9_addNumber
  refine g_bipush hO 24 d_X9_addNumber_0 (by decide) ?_
  refine g_istore_n (lv' := [(2, vI 24), (0, vA (some o)), (1, vI x1)]) hO d_X9_addNumber_2 (by rfl) (by decide) rfl ?_
  exact g_sub [1, 2, 0] rfl (w_X9_addNumber_3 hO o _ _ _ _)
theorem t_X9_addNumber (l : Launch) (E : GE) (o : Nat) (x1 : Int32) (S : GS) : ∀ a, f_X9_addNumber o x1 S = some a → Ct l E yX9_addNumber cX9_addNumber 3 none rm_X9_addNumber [vA (some o), vI x1] S none a :=
  Ct_of (val := fun _ => none) (nxt := fun b => b) (by decide) (Nat.le_of_ble_eq_true rfl) (fun Γ hl hO => w_X9_addNumber hO o x1 S)
theorem d_X9_closeTape_0 : gD cX9_closeTape 0 (.aload_n 0) 1 1 := ⟨by decide +kernel, rfl⟩
theorem d_X9_closeTape_1 : gD cX9_closeTape 1 (.iconst 0) 1 2 := ⟨by decide +kernel, rfl⟩
theorem d_X9_closeTape_2 : gD cX9_closeTape 2 (.putfield 55) 3 5 := ⟨by decide +kernel, rfl⟩
theorem d_X9_closeTape_5 : gD cX9_closeTape 5 (.aload_n 0) 1 6 := ⟨by decide +kernel, rfl⟩
theorem d_X9_closeTape_6 : gD cX9_closeTape 6 (.iload_n 1) 1 7 := ⟨by decide +kernel, rfl⟩
theorem d_X9_closeTape_7 : gD cX9_closeTape 7 (.putfield 58) 3 10 := ⟨by decide +kernel, rfl⟩
theorem d_X9_closeTape_10 : gD cX9_closeTape 10 (.aload_n 0) 1 11 := ⟨by decide +kernel, rfl⟩
theorem d_X9_closeTape_11 : gD cX9_closeTape 11 (.iload_n 2) 1 12 := ⟨by decide +kernel, rfl⟩
theorem d_X9_closeTape_12 : gD cX9_closeTape 12 (.putfield 46) 3 15 := ⟨by decide +kernel, rfl⟩
theorem d_X9_closeTape_15 : gD cX9_closeTape 15 (.return_) 1 16 := ⟨by decide +kernel, rfl⟩
abbrev rm_X9_closeTape : Room := { frames := 0, cells := 0, slots := 0, locals := 0 }
set_option maxRecDepth 20000 in
theorem w_X9_closeTape {Γ : GC} {E : GE} (hO : gOk Γ E cX9_closeTape RX9 3 rm_X9_closeTape none "closeTape") (o : Nat) (x1 : Int32) (x2 : Int32) (S : GS) : Go Γ E (gBsV Γ E) 3 (0, 0) 0 S [(0, vA (some o)), (1, vI x1), (2, vI x2)] [] (f_X9_closeTape o x1 x2 S) := by
  unfold f_X9_closeTape
  refine g_aload_n hO d_X9_closeTape_0 (by rfl) 0 rfl ?_
  refine g_iconst hO 0 d_X9_closeTape_1 (by decide) ?_
  refine h_putI hO cl_X9 8 rfl rfl wf_X9_55 (Or.inl rfl) d_X9_closeTape_2 (fun S1 => ?_)
  refine g_aload_n hO d_X9_closeTape_5 (by rfl) 0 rfl ?_
  refine g_iload_n hO d_X9_closeTape_6 (by rfl) 1 rfl ?_
  refine h_putI hO cl_X9 9 rfl rfl wf_X9_58 (Or.inl rfl) d_X9_closeTape_7 (fun S2 => ?_)
  refine g_aload_n hO d_X9_closeTape_10 (by rfl) 0 rfl ?_
  refine g_iload_n hO d_X9_closeTape_11 (by rfl) 2 rfl ?_
  refine h_putI hO cl_X9 10 rfl rfl wf_X9_46 (Or.inl rfl) d_X9_closeTape_12 (fun S3 => ?_)
  exact g_vret hO rfl ⟨Nat.le_of_ble_eq_true rfl, Nat.le_of_ble_eq_true rfl⟩ rfl rfl d_X9_closeTape_15.1
theorem t_X9_closeTape (l : Launch) (E : GE) (o : Nat) (x1 : Int32) (x2 : Int32) (S : GS) : ∀ a, f_X9_closeTape o x1 x2 S = some a → Ct l E yX9_closeTape cX9_closeTape 3 none rm_X9_closeTape [vA (some o), vI x1, vI x2] S none a :=
  Ct_of (val := fun _ => none) (nxt := fun b => b) (by decide) (Nat.le_of_ble_eq_true rfl) (fun Γ hl hO => w_X9_closeTape hO o x1 x2 S)
theorem d_X9_numberFor_0 : gD cX9_numberFor 0 (.iload_n 1) 1 1 := ⟨by decide +kernel, rfl⟩
theorem d_X9_numberFor_1 : gD cX9_numberFor 1 (.ifCond .lt 9) 3 4 ∧ ((1 : Nat) : Int) + 9 = ((10 : Nat) : Int) := ⟨⟨by decide +kernel, rfl⟩, by decide⟩
theorem d_X9_numberFor_4 : gD cX9_numberFor 4 (.iload_n 1) 1 5 := ⟨by decide +kernel, rfl⟩
theorem d_X9_numberFor_5 : gD cX9_numberFor 5 (.bipush 6) 2 7 := ⟨by decide +kernel, rfl⟩
theorem d_X9_numberFor_7 : gD cX9_numberFor 7 (.if_icmp .lt 6) 3 10 ∧ ((7 : Nat) : Int) + 6 = ((13 : Nat) : Int) := ⟨⟨by decide +kernel, rfl⟩, by decide⟩
theorem d_X9_numberFor_10 : gD cX9_numberFor 10 (.bipush (-2)) 2 12 := ⟨by decide +kernel, rfl⟩
theorem d_X9_numberFor_12 : gD cX9_numberFor 12 (.ireturn) 1 13 := ⟨by decide +kernel, rfl⟩
theorem d_X9_numberFor_13 : gD cX9_numberFor 13 (.iload_n 2) 1 14 := ⟨by decide +kernel, rfl⟩
theorem d_X9_numberFor_14 : gD cX9_numberFor 14 (.iconst (-1)) 1 15 := ⟨by decide +kernel, rfl⟩
theorem d_X9_numberFor_15 : gD cX9_numberFor 15 (.if_icmp .ne 25) 3 18 ∧ ((15 : Nat) : Int) + 25 = ((40 : Nat) : Int) := ⟨⟨by decide +kernel, rfl⟩, by decide⟩
theorem d_X9_numberFor_18 : gD cX9_numberFor 18 (.aload_n 0) 1 19 := ⟨by decide +kernel, rfl⟩
theorem d_X9_numberFor_19 : gD cX9_numberFor 19 (.getfield 15) 3 22 := ⟨by decide +kernel, rfl⟩
theorem d_X9_numberFor_22 : gD cX9_numberFor 22 (.iload_n 1) 1 23 := ⟨by decide +kernel, rfl⟩
theorem d_X9_numberFor_23 : gD cX9_numberFor 23 (.iaload) 1 24 := ⟨by decide +kernel, rfl⟩
theorem d_X9_numberFor_24 : gD cX9_numberFor 24 (.iconst 2) 1 25 := ⟨by decide +kernel, rfl⟩
theorem d_X9_numberFor_25 : gD cX9_numberFor 25 (.if_icmp .ge 12) 3 28 ∧ ((25 : Nat) : Int) + 12 = ((37 : Nat) : Int) := ⟨⟨by decide +kernel, rfl⟩, by decide⟩
theorem d_X9_numberFor_28 : gD cX9_numberFor 28 (.aload_n 0) 1 29 := ⟨by decide +kernel, rfl⟩
theorem d_X9_numberFor_29 : gD cX9_numberFor 29 (.getfield 15) 3 32 := ⟨by decide +kernel, rfl⟩
theorem d_X9_numberFor_32 : gD cX9_numberFor 32 (.iload_n 1) 1 33 := ⟨by decide +kernel, rfl⟩
theorem d_X9_numberFor_33 : gD cX9_numberFor 33 (.iaload) 1 34 := ⟨by decide +kernel, rfl⟩
theorem d_X9_numberFor_34 : decode cX9_numberFor 34 = .ok (.goto 5, 3) ∧ ((34 : Nat) : Int) + 5 = ((39 : Nat) : Int) := ⟨by decide +kernel, by decide⟩
theorem d_X9_numberFor_37 : gD cX9_numberFor 37 (.bipush (-2)) 2 39 := ⟨by decide +kernel, rfl⟩
theorem d_X9_numberFor_39 : gD cX9_numberFor 39 (.ireturn) 1 40 := ⟨by decide +kernel, rfl⟩
theorem d_X9_numberFor_40 : gD cX9_numberFor 40 (.iload_n 2) 1 41 := ⟨by decide +kernel, rfl⟩
theorem d_X9_numberFor_41 : gD cX9_numberFor 41 (.ifCond .lt 17) 3 44 ∧ ((41 : Nat) : Int) + 17 = ((58 : Nat) : Int) := ⟨⟨by decide +kernel, rfl⟩, by decide⟩
theorem d_X9_numberFor_44 : gD cX9_numberFor 44 (.iload_n 2) 1 45 := ⟨by decide +kernel, rfl⟩
theorem d_X9_numberFor_45 : gD cX9_numberFor 45 (.aload_n 0) 1 46 := ⟨by decide +kernel, rfl⟩
theorem d_X9_numberFor_46 : gD cX9_numberFor 46 (.getfield 15) 3 49 := ⟨by decide +kernel, rfl⟩
theorem d_X9_numberFor_49 : gD cX9_numberFor 49 (.iload_n 1) 1 50 := ⟨by decide +kernel, rfl⟩
theorem d_X9_numberFor_50 : gD cX9_numberFor 50 (.iaload) 1 51 := ⟨by decide +kernel, rfl⟩
theorem d_X9_numberFor_51 : gD cX9_numberFor 51 (.if_icmp .ge 7) 3 54 ∧ ((51 : Nat) : Int) + 7 = ((58 : Nat) : Int) := ⟨⟨by decide +kernel, rfl⟩, by decide⟩
theorem d_X9_numberFor_54 : gD cX9_numberFor 54 (.iload_n 2) 1 55 := ⟨by decide +kernel, rfl⟩
theorem d_X9_numberFor_55 : decode cX9_numberFor 55 = .ok (.goto 5, 3) ∧ ((55 : Nat) : Int) + 5 = ((60 : Nat) : Int) := ⟨by decide +kernel, by decide⟩
theorem d_X9_numberFor_58 : gD cX9_numberFor 58 (.bipush (-2)) 2 60 := ⟨by decide +kernel, rfl⟩
theorem d_X9_numberFor_60 : gD cX9_numberFor 60 (.ireturn) 1 61 := ⟨by decide +kernel, rfl⟩
abbrev rm_X9_numberFor : Room := { frames := 0, cells := 0, slots := 0, locals := 0 }
set_option maxRecDepth 20000 in
theorem w_X9_numberFor {Γ : GC} {E : GE} (hO : gOk Γ E cX9_numberFor RX9 3 rm_X9_numberFor (some .int) "numberFor") (o : Nat) (x1 : Int32) (x2 : Int32) (S : GS) : Go Γ E (gBpI Γ E S) 3 (0, 0) 0 S [(0, vA (some o)), (1, vI x1), (2, vI x2)] [] (f_X9_numberFor o x1 x2 S) := by
  unfold f_X9_numberFor
  refine g_iload_n hO d_X9_numberFor_0 (by rfl) 1 rfl ?_
  refine g_if_lt (tgt := 10) hO d_X9_numberFor_1.1 d_X9_numberFor_1.2 (fun _ => ?_) (fun _ => ?_)
  · skip
    refine g_bipush hO (-2) d_X9_numberFor_10 (by decide) ?_
    exact g_ret hO rfl rfl ⟨Nat.le_of_ble_eq_true rfl, Nat.le_of_ble_eq_true rfl⟩ rfl rfl d_X9_numberFor_12.1
  · skip
    refine g_iload_n hO d_X9_numberFor_4 (by rfl) 1 rfl ?_
    refine g_bipush hO 6 d_X9_numberFor_5 (by decide) ?_
    refine g_ic_lt (tgt := 13) hO d_X9_numberFor_7.1 d_X9_numberFor_7.2 (fun _ => ?_) (fun _ => ?_)
    · skip
      refine g_iload_n hO d_X9_numberFor_13 (by rfl) 2 rfl ?_
      refine g_iconst hO (-1) d_X9_numberFor_14 (by decide) ?_
      refine g_ic_ne (tgt := 40) hO d_X9_numberFor_15.1 d_X9_numberFor_15.2 (fun _ => ?_) (fun _ => ?_)
      · skip
        refine g_aload_n hO d_X9_numberFor_18 (by rfl) 0 rfl ?_
        refine h_getR hO cl_X9 1 rfl wf_X9_15 d_X9_numberFor_19 (fun v1 => ?_)
        refine g_iload_n hO d_X9_numberFor_22 (by rfl) 1 rfl ?_
        refine h_iald hO d_X9_numberFor_23 (fun v2 => ?_)
        refine g_iconst hO 2 d_X9_numberFor_24 (by decide) ?_
        refine g_ic_ge (tgt := 37) hO d_X9_numberFor_25.1 d_X9_numberFor_25.2 (fun _ => ?_) (fun _ => ?_)
        · skip
          refine g_bipush hO (-2) d_X9_numberFor_37 (by decide) ?_
          exact g_ret hO rfl rfl ⟨Nat.le_of_ble_eq_true rfl, Nat.le_of_ble_eq_true rfl⟩ rfl rfl d_X9_numberFor_39.1
        · skip
          refine g_aload_n hO d_X9_numberFor_28 (by rfl) 0 rfl ?_
          refine h_getR hO cl_X9 1 rfl wf_X9_15 d_X9_numberFor_29 (fun v3 => ?_)
          refine g_iload_n hO d_X9_numberFor_32 (by rfl) 1 rfl ?_
          refine h_iald hO d_X9_numberFor_33 (fun v4 => ?_)
          refine g_goto (tgt := 39) hO d_X9_numberFor_34.1 d_X9_numberFor_34.2 ?_
          exact g_ret hO rfl rfl ⟨Nat.le_of_ble_eq_true rfl, Nat.le_of_ble_eq_true rfl⟩ rfl rfl d_X9_numberFor_39.1
      · skip
        refine g_iload_n hO d_X9_numberFor_40 (by rfl) 2 rfl ?_
        refine g_if_lt (tgt := 58) hO d_X9_numberFor_41.1 d_X9_numberFor_41.2 (fun _ => ?_) (fun _ => ?_)
        · skip
          refine g_bipush hO (-2) d_X9_numberFor_58 (by decide) ?_
          exact g_ret hO rfl rfl ⟨Nat.le_of_ble_eq_true rfl, Nat.le_of_ble_eq_true rfl⟩ rfl rfl d_X9_numberFor_60.1
        · skip
          refine g_iload_n hO d_X9_numberFor_44 (by rfl) 2 rfl ?_
          refine g_aload_n hO d_X9_numberFor_45 (by rfl) 0 rfl ?_
          refine h_getR hO cl_X9 1 rfl wf_X9_15 d_X9_numberFor_46 (fun v5 => ?_)
          refine g_iload_n hO d_X9_numberFor_49 (by rfl) 1 rfl ?_
          refine h_iald hO d_X9_numberFor_50 (fun v6 => ?_)
          refine g_ic_ge (tgt := 58) hO d_X9_numberFor_51.1 d_X9_numberFor_51.2 (fun _ => ?_) (fun _ => ?_)
          · skip
            refine g_bipush hO (-2) d_X9_numberFor_58 (by decide) ?_
            exact g_ret hO rfl rfl ⟨Nat.le_of_ble_eq_true rfl, Nat.le_of_ble_eq_true rfl⟩ rfl rfl d_X9_numberFor_60.1
          · skip
            refine g_iload_n hO d_X9_numberFor_54 (by rfl) 2 rfl ?_
            refine g_goto (tgt := 60) hO d_X9_numberFor_55.1 d_X9_numberFor_55.2 ?_
            exact g_ret hO rfl rfl ⟨Nat.le_of_ble_eq_true rfl, Nat.le_of_ble_eq_true rfl⟩ rfl rfl d_X9_numberFor_60.1
    · skip
      refine g_bipush hO (-2) d_X9_numberFor_10 (by decide) ?_
      exact g_ret hO rfl rfl ⟨Nat.le_of_ble_eq_true rfl, Nat.le_of_ble_eq_true rfl⟩ rfl rfl d_X9_numberFor_12.1
theorem t_X9_numberFor (l : Launch) (E : GE) (o : Nat) (x1 : Int32) (x2 : Int32) (S : GS) : ∀ a, f_X9_numberFor o x1 x2 S = some a → Ct l E yX9_numberFor cX9_numberFor 3 (some .int) rm_X9_numberFor [vA (some o), vI x1, vI x2] S (some (vI a)) S :=
  Ct_of (val := fun b => some (vI b)) (nxt := fun _ => S) (by decide) (Nat.le_of_ble_eq_true rfl) (fun Γ hl hO => w_X9_numberFor hO o x1 x2 S)
theorem d_X9_isThere_0 : gD cX9_isThere 0 (.iload_n 1) 1 1 := ⟨by decide +kernel, rfl⟩
theorem d_X9_isThere_1 : gD cX9_isThere 1 (.ifCond .lt 32) 3 4 ∧ ((1 : Nat) : Int) + 32 = ((33 : Nat) : Int) := ⟨⟨by decide +kernel, rfl⟩, by decide⟩
theorem d_X9_isThere_4 : gD cX9_isThere 4 (.iload_n 1) 1 5 := ⟨by decide +kernel, rfl⟩
theorem d_X9_isThere_5 : gD cX9_isThere 5 (.bipush 6) 2 7 := ⟨by decide +kernel, rfl⟩
theorem d_X9_isThere_7 : gD cX9_isThere 7 (.if_icmp .ge 26) 3 10 ∧ ((7 : Nat) : Int) + 26 = ((33 : Nat) : Int) := ⟨⟨by decide +kernel, rfl⟩, by decide⟩
theorem d_X9_isThere_10 : gD cX9_isThere 10 (.iload_n 2) 1 11 := ⟨by decide +kernel, rfl⟩
theorem d_X9_isThere_11 : gD cX9_isThere 11 (.ifCond .lt 22) 3 14 ∧ ((11 : Nat) : Int) + 22 = ((33 : Nat) : Int) := ⟨⟨by decide +kernel, rfl⟩, by decide⟩
theorem d_X9_isThere_14 : gD cX9_isThere 14 (.iload_n 2) 1 15 := ⟨by decide +kernel, rfl⟩
theorem d_X9_isThere_15 : gD cX9_isThere 15 (.iconst 2) 1 16 := ⟨by decide +kernel, rfl⟩
theorem d_X9_isThere_16 : gD cX9_isThere 16 (.if_icmp .ge 17) 3 19 ∧ ((16 : Nat) : Int) + 17 = ((33 : Nat) : Int) := ⟨⟨by decide +kernel, rfl⟩, by decide⟩
theorem d_X9_isThere_19 : gD cX9_isThere 19 (.iload_n 2) 1 20 := ⟨by decide +kernel, rfl⟩
theorem d_X9_isThere_20 : gD cX9_isThere 20 (.aload_n 0) 1 21 := ⟨by decide +kernel, rfl⟩
theorem d_X9_isThere_21 : gD cX9_isThere 21 (.getfield 15) 3 24 := ⟨by decide +kernel, rfl⟩
theorem d_X9_isThere_24 : gD cX9_isThere 24 (.iload_n 1) 1 25 := ⟨by decide +kernel, rfl⟩
theorem d_X9_isThere_25 : gD cX9_isThere 25 (.iaload) 1 26 := ⟨by decide +kernel, rfl⟩
theorem d_X9_isThere_26 : gD cX9_isThere 26 (.if_icmp .ge 7) 3 29 ∧ ((26 : Nat) : Int) + 7 = ((33 : Nat) : Int) := ⟨⟨by decide +kernel, rfl⟩, by decide⟩
theorem d_X9_isThere_29 : gD cX9_isThere 29 (.iconst 1) 1 30 := ⟨by decide +kernel, rfl⟩
theorem d_X9_isThere_30 : decode cX9_isThere 30 = .ok (.goto 4, 3) ∧ ((30 : Nat) : Int) + 4 = ((34 : Nat) : Int) := ⟨by decide +kernel, by decide⟩
theorem d_X9_isThere_33 : gD cX9_isThere 33 (.iconst 0) 1 34 := ⟨by decide +kernel, rfl⟩
theorem d_X9_isThere_34 : gD cX9_isThere 34 (.ireturn) 1 35 := ⟨by decide +kernel, rfl⟩
abbrev rm_X9_isThere : Room := { frames := 0, cells := 0, slots := 0, locals := 0 }
set_option maxRecDepth 20000 in
theorem w_X9_isThere {Γ : GC} {E : GE} (hO : gOk Γ E cX9_isThere RX9 3 rm_X9_isThere (some .boolean) "isThere") (o : Nat) (x1 : Int32) (x2 : Int32) (S : GS) : Go Γ E (gBpI Γ E S) 3 (0, 0) 0 S [(0, vA (some o)), (1, vI x1), (2, vI x2)] [] (f_X9_isThere o x1 x2 S) := by
  unfold f_X9_isThere
  refine g_iload_n hO d_X9_isThere_0 (by rfl) 1 rfl ?_
  refine g_if_lt (tgt := 33) hO d_X9_isThere_1.1 d_X9_isThere_1.2 (fun _ => ?_) (fun _ => ?_)
  · skip
    refine g_iconst hO 0 d_X9_isThere_33 (by decide) ?_
    exact g_ret hO rfl rfl ⟨Nat.le_of_ble_eq_true rfl, Nat.le_of_ble_eq_true rfl⟩ rfl rfl d_X9_isThere_34.1
  · skip
    refine g_iload_n hO d_X9_isThere_4 (by rfl) 1 rfl ?_
    refine g_bipush hO 6 d_X9_isThere_5 (by decide) ?_
    refine g_ic_ge (tgt := 33) hO d_X9_isThere_7.1 d_X9_isThere_7.2 (fun _ => ?_) (fun _ => ?_)
    · skip
      refine g_iconst hO 0 d_X9_isThere_33 (by decide) ?_
      exact g_ret hO rfl rfl ⟨Nat.le_of_ble_eq_true rfl, Nat.le_of_ble_eq_true rfl⟩ rfl rfl d_X9_isThere_34.1
    · skip
      refine g_iload_n hO d_X9_isThere_10 (by rfl) 2 rfl ?_
      refine g_if_lt (tgt := 33) hO d_X9_isThere_11.1 d_X9_isThere_11.2 (fun _ => ?_) (fun _ => ?_)
      · skip
        refine g_iconst hO 0 d_X9_isThere_33 (by decide) ?_
        exact g_ret hO rfl rfl ⟨Nat.le_of_ble_eq_true rfl, Nat.le_of_ble_eq_true rfl⟩ rfl rfl d_X9_isThere_34.1
      · skip
        refine g_iload_n hO d_X9_isThere_14 (by rfl) 2 rfl ?_
        refine g_iconst hO 2 d_X9_isThere_15 (by decide) ?_
        refine g_ic_ge (tgt := 33) hO d_X9_isThere_16.1 d_X9_isThere_16.2 (fun _ => ?_) (fun _ => ?_)
        · skip
          refine g_iconst hO 0 d_X9_isThere_33 (by decide) ?_
          exact g_ret hO rfl rfl ⟨Nat.le_of_ble_eq_true rfl, Nat.le_of_ble_eq_true rfl⟩ rfl rfl d_X9_isThere_34.1
        · skip
          refine g_iload_n hO d_X9_isThere_19 (by rfl) 2 rfl ?_
          refine g_aload_n hO d_X9_isThere_20 (by rfl) 0 rfl ?_
          refine h_getR hO cl_X9 1 rfl wf_X9_15 d_X9_isThere_21 (fun v1 => ?_)
          refine g_iload_n hO d_X9_isThere_24 (by rfl) 1 rfl ?_
          refine h_iald hO d_X9_isThere_25 (fun v2 => ?_)
          refine g_ic_ge (tgt := 33) hO d_X9_isThere_26.1 d_X9_isThere_26.2 (fun _ => ?_) (fun _ => ?_)
          · skip
            refine g_iconst hO 0 d_X9_isThere_33 (by decide) ?_
            exact g_ret hO rfl rfl ⟨Nat.le_of_ble_eq_true rfl, Nat.le_of_ble_eq_true rfl⟩ rfl rfl d_X9_isThere_34.1
          · skip
            refine g_iconst hO 1 d_X9_isThere_29 (by decide) ?_
            refine g_goto (tgt := 34) hO d_X9_isThere_30.1 d_X9_isThere_30.2 ?_
            exact g_ret hO rfl rfl ⟨Nat.le_of_ble_eq_true rfl, Nat.le_of_ble_eq_true rfl⟩ rfl rfl d_X9_isThere_34.1
theorem t_X9_isThere (l : Launch) (E : GE) (o : Nat) (x1 : Int32) (x2 : Int32) (S : GS) : ∀ a, f_X9_isThere o x1 x2 S = some a → Ct l E yX9_isThere cX9_isThere 3 (some .boolean) rm_X9_isThere [vA (some o), vI x1, vI x2] S (some (vI a)) S :=
  Ct_of (val := fun b => some (vI b)) (nxt := fun _ => S) (by decide) (Nat.le_of_ble_eq_true rfl) (fun Γ hl hO => w_X9_isThere hO o x1 x2 S)
theorem d_X9_courtAt_0 : gD cX9_courtAt 0 (.aload_n 0) 1 1 := ⟨by decide +kernel, rfl⟩
theorem d_X9_courtAt_1 : gD cX9_courtAt 1 (.iconst 0) 1 2 := ⟨by decide +kernel, rfl⟩
theorem d_X9_courtAt_2 : gD cX9_courtAt 2 (.iload_n 1) 1 3 := ⟨by decide +kernel, rfl⟩
theorem d_X9_courtAt_3 : gD cX9_courtAt 3 (.invokevirtual 61) 3 6 := ⟨by decide +kernel, rfl⟩
theorem d_X9_courtAt_6 : gD cX9_courtAt 6 (.ifCond .eq 12) 3 9 ∧ ((6 : Nat) : Int) + 12 = ((18 : Nat) : Int) := ⟨⟨by decide +kernel, rfl⟩, by decide⟩
theorem d_X9_courtAt_9 : gD cX9_courtAt 9 (.aload_n 0) 1 10 := ⟨by decide +kernel, rfl⟩
theorem d_X9_courtAt_10 : gD cX9_courtAt 10 (.getfield 21) 3 13 := ⟨by decide +kernel, rfl⟩
theorem d_X9_courtAt_13 : gD cX9_courtAt 13 (.iload_n 1) 1 14 := ⟨by decide +kernel, rfl⟩
theorem d_X9_courtAt_14 : gD cX9_courtAt 14 (.aaload) 1 15 := ⟨by decide +kernel, rfl⟩
theorem d_X9_courtAt_15 : decode cX9_courtAt 15 = .ok (.goto 4, 3) ∧ ((15 : Nat) : Int) + 4 = ((19 : Nat) : Int) := ⟨by decide +kernel, by decide⟩
theorem d_X9_courtAt_18 : gD cX9_courtAt 18 (.aconst_null) 1 19 := ⟨by decide +kernel, rfl⟩
theorem d_X9_courtAt_19 : gD cX9_courtAt 19 (.areturn) 1 20 := ⟨by decide +kernel, rfl⟩
abbrev rm_X9_courtAt : Room := { frames := 1, cells := 0, slots := 0, locals := 22 }
set_option maxRecDepth 20000 in
theorem w_X9_courtAt {Γ : GC} {E : GE} (hO : gOk Γ E cX9_courtAt RX9 2 rm_X9_courtAt (some (.object "GlassLaces$Court")) "courtAt") (o : Nat) (x1 : Int32) (S : GS) : Go Γ E (gBpA Γ E S) 2 (0, 0) 0 S [(0, vA (some o)), (1, vI x1)] [] (f_X9_courtAt o x1 S) := by
  unfold f_X9_courtAt
  refine g_aload_n hO d_X9_courtAt_0 (by rfl) 0 rfl ?_
  refine g_iconst hO 0 d_X9_courtAt_1 (by decide) ?_
  refine g_iload_n hO d_X9_courtAt_2 (by rfl) 1 rfl ?_
  refine k_virtIp hO cl_X9 mm_X9_isThere lkV_X9_61 ⟨⟨Nat.le_of_ble_eq_true rfl, Nat.le_of_ble_eq_true rfl⟩, Nat.le_of_ble_eq_true rfl, Nat.le_of_ble_eq_true rfl⟩ (kn' := (0, 0)) rfl (As := [vI 0, vI x1]) rfl (Nat.le_of_ble_eq_true rfl) (fun o' _ => t_X9_isThere Γ.2.1 E o' 0 x1 S) d_X9_courtAt_3 rfl (fun v1 => ?_)
  refine g_if_eq (tgt := 18) hO d_X9_courtAt_6.1 d_X9_courtAt_6.2 (fun _ => ?_) (fun _ => ?_)
  · skip
    refine g_null hO d_X9_courtAt_18 ?_
    exact g_aret hO rfl (Or.inl ⟨_, rfl⟩) ⟨Nat.le_of_ble_eq_true rfl, Nat.le_of_ble_eq_true rfl⟩ rfl rfl d_X9_courtAt_19.1
  · skip
    refine g_aload_n hO d_X9_courtAt_9 (by rfl) 0 rfl ?_
    refine h_getR hO cl_X9 2 rfl wf_X9_21 d_X9_courtAt_10 (fun v3 => ?_)
    refine g_iload_n hO d_X9_courtAt_13 (by rfl) 1 rfl ?_
    refine h_aald hO 17 (by omega) (by omega) d_X9_courtAt_14 (fun v4 => ?_)
    refine g_goto (tgt := 19) hO d_X9_courtAt_15.1 d_X9_courtAt_15.2 ?_
    exact g_aret hO rfl (Or.inl ⟨_, rfl⟩) ⟨Nat.le_of_ble_eq_true rfl, Nat.le_of_ble_eq_true rfl⟩ rfl rfl d_X9_courtAt_19.1
theorem t_X9_courtAt (l : Launch) (E : GE) (o : Nat) (x1 : Int32) (S : GS) : ∀ a, f_X9_courtAt o x1 S = some a → Ct l E yX9_courtAt cX9_courtAt 2 (some (.object "GlassLaces$Court")) rm_X9_courtAt [vA (some o), vI x1] S (some (vA a)) S :=
  Ct_of (val := fun b => some (vA b)) (nxt := fun _ => S) (by decide) (Nat.le_of_ble_eq_true rfl) (fun Γ hl hO => w_X9_courtAt hO o x1 S)
theorem d_X9_sightAt_0 : gD cX9_sightAt 0 (.aload_n 0) 1 1 := ⟨by decide +kernel, rfl⟩
theorem d_X9_sightAt_1 : gD cX9_sightAt 1 (.iconst 3) 1 2 := ⟨by decide +kernel, rfl⟩
theorem d_X9_sightAt_2 : gD cX9_sightAt 2 (.iload_n 1) 1 3 := ⟨by decide +kernel, rfl⟩
theorem d_X9_sightAt_3 : gD cX9_sightAt 3 (.invokevirtual 61) 3 6 := ⟨by decide +kernel, rfl⟩
theorem d_X9_sightAt_6 : gD cX9_sightAt 6 (.ifCond .eq 12) 3 9 ∧ ((6 : Nat) : Int) + 12 = ((18 : Nat) : Int) := ⟨⟨by decide +kernel, rfl⟩, by decide⟩
theorem d_X9_sightAt_9 : gD cX9_sightAt 9 (.aload_n 0) 1 10 := ⟨by decide +kernel, rfl⟩
theorem d_X9_sightAt_10 : gD cX9_sightAt 10 (.getfield 27) 3 13 := ⟨by decide +kernel, rfl⟩
theorem d_X9_sightAt_13 : gD cX9_sightAt 13 (.iload_n 1) 1 14 := ⟨by decide +kernel, rfl⟩
theorem d_X9_sightAt_14 : gD cX9_sightAt 14 (.aaload) 1 15 := ⟨by decide +kernel, rfl⟩
theorem d_X9_sightAt_15 : decode cX9_sightAt 15 = .ok (.goto 4, 3) ∧ ((15 : Nat) : Int) + 4 = ((19 : Nat) : Int) := ⟨by decide +kernel, by decide⟩
theorem d_X9_sightAt_18 : gD cX9_sightAt 18 (.aconst_null) 1 19 := ⟨by decide +kernel, rfl⟩
theorem d_X9_sightAt_19 : gD cX9_sightAt 19 (.areturn) 1 20 := ⟨by decide +kernel, rfl⟩
abbrev rm_X9_sightAt : Room := { frames := 1, cells := 0, slots := 0, locals := 22 }
set_option maxRecDepth 20000 in
theorem w_X9_sightAt {Γ : GC} {E : GE} (hO : gOk Γ E cX9_sightAt RX9 2 rm_X9_sightAt (some (.object "GlassLaces$Sight")) "sightAt") (o : Nat) (x1 : Int32) (S : GS) : Go Γ E (gBpA Γ E S) 2 (0, 0) 0 S [(0, vA (some o)), (1, vI x1)] [] (f_X9_sightAt o x1 S) := by
  unfold f_X9_sightAt
  refine g_aload_n hO d_X9_sightAt_0 (by rfl) 0 rfl ?_
  refine g_iconst hO 3 d_X9_sightAt_1 (by decide) ?_
  refine g_iload_n hO d_X9_sightAt_2 (by rfl) 1 rfl ?_
  refine k_virtIp hO cl_X9 mm_X9_isThere lkV_X9_61 ⟨⟨Nat.le_of_ble_eq_true rfl, Nat.le_of_ble_eq_true rfl⟩, Nat.le_of_ble_eq_true rfl, Nat.le_of_ble_eq_true rfl⟩ (kn' := (0, 0)) rfl (As := [vI 3, vI x1]) rfl (Nat.le_of_ble_eq_true rfl) (fun o' _ => t_X9_isThere Γ.2.1 E o' 3 x1 S) d_X9_sightAt_3 rfl (fun v1 => ?_)
  refine g_if_eq (tgt := 18) hO d_X9_sightAt_6.1 d_X9_sightAt_6.2 (fun _ => ?_) (fun _ => ?_)
  · skip
    refine g_null hO d_X9_sightAt_18 ?_
    exact g_aret hO rfl (Or.inl ⟨_, rfl⟩) ⟨Nat.le_of_ble_eq_true rfl, Nat.le_of_ble_eq_true rfl⟩ rfl rfl d_X9_sightAt_19.1
  · skip
    refine g_aload_n hO d_X9_sightAt_9 (by rfl) 0 rfl ?_
    refine h_getR hO cl_X9 3 rfl wf_X9_27 d_X9_sightAt_10 (fun v3 => ?_)
    refine g_iload_n hO d_X9_sightAt_13 (by rfl) 1 rfl ?_
    refine h_aald hO 19 (by omega) (by omega) d_X9_sightAt_14 (fun v4 => ?_)
    refine g_goto (tgt := 19) hO d_X9_sightAt_15.1 d_X9_sightAt_15.2 ?_
    exact g_aret hO rfl (Or.inl ⟨_, rfl⟩) ⟨Nat.le_of_ble_eq_true rfl, Nat.le_of_ble_eq_true rfl⟩ rfl rfl d_X9_sightAt_19.1
theorem t_X9_sightAt (l : Launch) (E : GE) (o : Nat) (x1 : Int32) (S : GS) : ∀ a, f_X9_sightAt o x1 S = some a → Ct l E yX9_sightAt cX9_sightAt 2 (some (.object "GlassLaces$Sight")) rm_X9_sightAt [vA (some o), vI x1] S (some (vA a)) S :=
  Ct_of (val := fun b => some (vA b)) (nxt := fun _ => S) (by decide) (Nat.le_of_ble_eq_true rfl) (fun Γ hl hO => w_X9_sightAt hO o x1 S)
theorem d_X9_rowsIn_0 : gD cX9_rowsIn 0 (.iload_n 2) 1 1 := ⟨by decide +kernel, rfl⟩
theorem d_X9_rowsIn_1 : gD cX9_rowsIn 1 (.ifCond .lt 8) 3 4 ∧ ((1 : Nat) : Int) + 8 = ((9 : Nat) : Int) := ⟨⟨by decide +kernel, rfl⟩, by decide⟩
theorem d_X9_rowsIn_4 : gD cX9_rowsIn 4 (.iload_n 2) 1 5 := ⟨by decide +kernel, rfl⟩
theorem d_X9_rowsIn_5 : gD cX9_rowsIn 5 (.iconst 2) 1 6 := ⟨by decide +kernel, rfl⟩
theorem d_X9_rowsIn_6 : gD cX9_rowsIn 6 (.if_icmp .lt 5) 3 9 ∧ ((6 : Nat) : Int) + 5 = ((11 : Nat) : Int) := ⟨⟨by decide +kernel, rfl⟩, by decide⟩
theorem d_X9_rowsIn_9 : gD cX9_rowsIn 9 (.aconst_null) 1 10 := ⟨by decide +kernel, rfl⟩
theorem d_X9_rowsIn_10 : gD cX9_rowsIn 10 (.areturn) 1 11 := ⟨by decide +kernel, rfl⟩
theorem d_X9_rowsIn_11 : gD cX9_rowsIn 11 (.iload_n 1) 1 12 := ⟨by decide +kernel, rfl⟩
theorem d_X9_rowsIn_12 : decode cX9_rowsIn 12 = .ok (.tableswitch 64 1 5 #[36, 43, 64, 50, 57], 36) ∧ ((12 : Nat) : Int) + 64 = ((76 : Nat) : Int) := ⟨by decide +kernel, by decide⟩
theorem d_X9_rowsIn_48 : gD cX9_rowsIn 48 (.aload_n 0) 1 49 := ⟨by decide +kernel, rfl⟩
theorem d_X9_rowsIn_49 : gD cX9_rowsIn 49 (.getfield 33) 3 52 := ⟨by decide +kernel, rfl⟩
theorem d_X9_rowsIn_52 : gD cX9_rowsIn 52 (.iload_n 2) 1 53 := ⟨by decide +kernel, rfl⟩
theorem d_X9_rowsIn_53 : gD cX9_rowsIn 53 (.aaload) 1 54 := ⟨by decide +kernel, rfl⟩
theorem d_X9_rowsIn_54 : gD cX9_rowsIn 54 (.areturn) 1 55 := ⟨by decide +kernel, rfl⟩
theorem d_X9_rowsIn_55 : gD cX9_rowsIn 55 (.aload_n 0) 1 56 := ⟨by decide +kernel, rfl⟩
theorem d_X9_rowsIn_56 : gD cX9_rowsIn 56 (.getfield 37) 3 59 := ⟨by decide +kernel, rfl⟩
theorem d_X9_rowsIn_59 : gD cX9_rowsIn 59 (.iload_n 2) 1 60 := ⟨by decide +kernel, rfl⟩
theorem d_X9_rowsIn_60 : gD cX9_rowsIn 60 (.aaload) 1 61 := ⟨by decide +kernel, rfl⟩
theorem d_X9_rowsIn_61 : gD cX9_rowsIn 61 (.areturn) 1 62 := ⟨by decide +kernel, rfl⟩
theorem d_X9_rowsIn_62 : gD cX9_rowsIn 62 (.aload_n 0) 1 63 := ⟨by decide +kernel, rfl⟩
theorem d_X9_rowsIn_63 : gD cX9_rowsIn 63 (.getfield 40) 3 66 := ⟨by decide +kernel, rfl⟩
theorem d_X9_rowsIn_66 : gD cX9_rowsIn 66 (.iload_n 2) 1 67 := ⟨by decide +kernel, rfl⟩
theorem d_X9_rowsIn_67 : gD cX9_rowsIn 67 (.aaload) 1 68 := ⟨by decide +kernel, rfl⟩
theorem d_X9_rowsIn_68 : gD cX9_rowsIn 68 (.areturn) 1 69 := ⟨by decide +kernel, rfl⟩
theorem d_X9_rowsIn_69 : gD cX9_rowsIn 69 (.aload_n 0) 1 70 := ⟨by decide +kernel, rfl⟩
theorem d_X9_rowsIn_70 : gD cX9_rowsIn 70 (.getfield 43) 3 73 := ⟨by decide +kernel, rfl⟩
theorem d_X9_rowsIn_73 : gD cX9_rowsIn 73 (.iload_n 2) 1 74 := ⟨by decide +kernel, rfl⟩
theorem d_X9_rowsIn_74 : gD cX9_rowsIn 74 (.aaload) 1 75 := ⟨by decide +kernel, rfl⟩
theorem d_X9_rowsIn_75 : gD cX9_rowsIn 75 (.areturn) 1 76 := ⟨by decide +kernel, rfl⟩
theorem d_X9_rowsIn_76 : gD cX9_rowsIn 76 (.aconst_null) 1 77 := ⟨by decide +kernel, rfl⟩
theorem d_X9_rowsIn_77 : gD cX9_rowsIn 77 (.areturn) 1 78 := ⟨by decide +kernel, rfl⟩
abbrev rm_X9_rowsIn : Room := { frames := 0, cells := 0, slots := 0, locals := 0 }
set_option maxRecDepth 20000 in
theorem w_X9_rowsIn {Γ : GC} {E : GE} (hO : gOk Γ E cX9_rowsIn RX9 3 rm_X9_rowsIn (some (.object "GlassLaces$Rows")) "rowsIn") (o : Nat) (x1 : Int32) (x2 : Int32) (S : GS) : Go Γ E (gBpA Γ E S) 3 (0, 0) 0 S [(0, vA (some o)), (1, vI x1), (2, vI x2)] [] (f_X9_rowsIn o x1 x2 S) := by
  unfold f_X9_rowsIn
  refine g_iload_n hO d_X9_rowsIn_0 (by rfl) 2 rfl ?_
  refine g_if_lt (tgt := 9) hO d_X9_rowsIn_1.1 d_X9_rowsIn_1.2 (fun _ => ?_) (fun _ => ?_)
  · skip
    refine g_null hO d_X9_rowsIn_9 ?_
    exact g_aret hO rfl (Or.inl ⟨_, rfl⟩) ⟨Nat.le_of_ble_eq_true rfl, Nat.le_of_ble_eq_true rfl⟩ rfl rfl d_X9_rowsIn_10.1
  · skip
    refine g_iload_n hO d_X9_rowsIn_4 (by rfl) 2 rfl ?_
    refine g_iconst hO 2 d_X9_rowsIn_5 (by decide) ?_
    refine g_ic_lt (tgt := 11) hO d_X9_rowsIn_6.1 d_X9_rowsIn_6.2 (fun _ => ?_) (fun _ => ?_)
    · skip
      refine g_iload_n hO d_X9_rowsIn_11 (by rfl) 1 rfl ?_
      refine h_tsw (c := 1) (dt := 76) hO d_X9_rowsIn_12.1 5 (by decide) (by rfl) rfl (by decide) (by decide) d_X9_rowsIn_12.2 ⟨⟨48, by decide, ?_⟩, ⟨55, by decide, ?_⟩, ⟨76, by decide, ?_⟩, ⟨62, by decide, ?_⟩, ⟨69, by decide, ?_⟩, trivial⟩ ?_
      · skip
        refine g_aload_n hO d_X9_rowsIn_48 (by rfl) 0 rfl ?_
        refine h_getR hO cl_X9 4 rfl wf_X9_33 d_X9_rowsIn_49 (fun v1 => ?_)
        refine g_iload_n hO d_X9_rowsIn_52 (by rfl) 2 rfl ?_
        refine h_aald hO 18 (by omega) (by omega) d_X9_rowsIn_53 (fun v2 => ?_)
        exact g_aret hO rfl (Or.inl ⟨_, rfl⟩) ⟨Nat.le_of_ble_eq_true rfl, Nat.le_of_ble_eq_true rfl⟩ rfl rfl d_X9_rowsIn_54.1
      · skip
        refine g_aload_n hO d_X9_rowsIn_55 (by rfl) 0 rfl ?_
        refine h_getR hO cl_X9 5 rfl wf_X9_37 d_X9_rowsIn_56 (fun v3 => ?_)
        refine g_iload_n hO d_X9_rowsIn_59 (by rfl) 2 rfl ?_
        refine h_aald hO 18 (by omega) (by omega) d_X9_rowsIn_60 (fun v4 => ?_)
        exact g_aret hO rfl (Or.inl ⟨_, rfl⟩) ⟨Nat.le_of_ble_eq_true rfl, Nat.le_of_ble_eq_true rfl⟩ rfl rfl d_X9_rowsIn_61.1
      · skip
        refine g_null hO d_X9_rowsIn_76 ?_
        exact g_aret hO rfl (Or.inl ⟨_, rfl⟩) ⟨Nat.le_of_ble_eq_true rfl, Nat.le_of_ble_eq_true rfl⟩ rfl rfl d_X9_rowsIn_77.1
      · skip
        refine g_aload_n hO d_X9_rowsIn_62 (by rfl) 0 rfl ?_
        refine h_getR hO cl_X9 6 rfl wf_X9_40 d_X9_rowsIn_63 (fun v5 => ?_)
        refine g_iload_n hO d_X9_rowsIn_66 (by rfl) 2 rfl ?_
        refine h_aald hO 18 (by omega) (by omega) d_X9_rowsIn_67 (fun v6 => ?_)
        exact g_aret hO rfl (Or.inl ⟨_, rfl⟩) ⟨Nat.le_of_ble_eq_true rfl, Nat.le_of_ble_eq_true rfl⟩ rfl rfl d_X9_rowsIn_68.1
      · skip
        refine g_aload_n hO d_X9_rowsIn_69 (by rfl) 0 rfl ?_
        refine h_getR hO cl_X9 7 rfl wf_X9_43 d_X9_rowsIn_70 (fun v7 => ?_)
        refine g_iload_n hO d_X9_rowsIn_73 (by rfl) 2 rfl ?_
        refine h_aald hO 18 (by omega) (by omega) d_X9_rowsIn_74 (fun v8 => ?_)
        exact g_aret hO rfl (Or.inl ⟨_, rfl⟩) ⟨Nat.le_of_ble_eq_true rfl, Nat.le_of_ble_eq_true rfl⟩ rfl rfl d_X9_rowsIn_75.1
      · skip
        refine g_null hO d_X9_rowsIn_76 ?_
        exact g_aret hO rfl (Or.inl ⟨_, rfl⟩) ⟨Nat.le_of_ble_eq_true rfl, Nat.le_of_ble_eq_true rfl⟩ rfl rfl d_X9_rowsIn_77.1
    · skip
      refine g_null hO d_X9_rowsIn_9 ?_
      exact g_aret hO rfl (Or.inl ⟨_, rfl⟩) ⟨Nat.le_of_ble_eq_true rfl, Nat.le_of_ble_eq_true rfl⟩ rfl rfl d_X9_rowsIn_10.1
theorem t_X9_rowsIn (l : Launch) (E : GE) (o : Nat) (x1 : Int32) (x2 : Int32) (S : GS) : ∀ a, f_X9_rowsIn o x1 x2 S = some a → Ct l E yX9_rowsIn cX9_rowsIn 3 (some (.object "GlassLaces$Rows")) rm_X9_rowsIn [vA (some o), vI x1, vI x2] S (some (vA a)) S :=
  Ct_of (val := fun b => some (vA b)) (nxt := fun _ => S) (by decide) (Nat.le_of_ble_eq_true rfl) (fun Γ hl hO => w_X9_rowsIn hO o x1 x2 S)
theorem d_X9_rowsAt_0 : gD cX9_rowsAt 0 (.aload_n 0) 1 1 := ⟨by decide +kernel, rfl⟩
theorem d_X9_rowsAt_1 : gD cX9_rowsAt 1 (.iload_n 1) 1 2 := ⟨by decide +kernel, rfl⟩
theorem d_X9_rowsAt_2 : gD cX9_rowsAt 2 (.iload_n 2) 1 3 := ⟨by decide +kernel, rfl⟩
theorem d_X9_rowsAt_3 : gD cX9_rowsAt 3 (.invokevirtual 61) 3 6 := ⟨by decide +kernel, rfl⟩
theorem d_X9_rowsAt_6 : gD cX9_rowsAt 6 (.ifCond .eq 12) 3 9 ∧ ((6 : Nat) : Int) + 12 = ((18 : Nat) : Int) := ⟨⟨by decide +kernel, rfl⟩, by decide⟩
theorem d_X9_rowsAt_9 : gD cX9_rowsAt 9 (.aload_n 0) 1 10 := ⟨by decide +kernel, rfl⟩
theorem d_X9_rowsAt_10 : gD cX9_rowsAt 10 (.iload_n 1) 1 11 := ⟨by decide +kernel, rfl⟩
theorem d_X9_rowsAt_11 : gD cX9_rowsAt 11 (.iload_n 2) 1 12 := ⟨by decide +kernel, rfl⟩
theorem d_X9_rowsAt_12 : gD cX9_rowsAt 12 (.invokevirtual 65) 3 15 := ⟨by decide +kernel, rfl⟩
theorem d_X9_rowsAt_15 : decode cX9_rowsAt 15 = .ok (.goto 4, 3) ∧ ((15 : Nat) : Int) + 4 = ((19 : Nat) : Int) := ⟨by decide +kernel, by decide⟩
theorem d_X9_rowsAt_18 : gD cX9_rowsAt 18 (.aconst_null) 1 19 := ⟨by decide +kernel, rfl⟩
theorem d_X9_rowsAt_19 : gD cX9_rowsAt 19 (.areturn) 1 20 := ⟨by decide +kernel, rfl⟩
abbrev rm_X9_rowsAt : Room := { frames := 1, cells := 0, slots := 0, locals := 22 }
set_option maxRecDepth 20000 in
theorem w_X9_rowsAt {Γ : GC} {E : GE} (hO : gOk Γ E cX9_rowsAt RX9 3 rm_X9_rowsAt (some (.object "GlassLaces$Rows")) "rowsAt") (o : Nat) (x1 : Int32) (x2 : Int32) (S : GS) : Go Γ E (gBpA Γ E S) 3 (0, 0) 0 S [(0, vA (some o)), (1, vI x1), (2, vI x2)] [] (f_X9_rowsAt o x1 x2 S) := by
  unfold f_X9_rowsAt
  refine g_aload_n hO d_X9_rowsAt_0 (by rfl) 0 rfl ?_
  refine g_iload_n hO d_X9_rowsAt_1 (by rfl) 1 rfl ?_
  refine g_iload_n hO d_X9_rowsAt_2 (by rfl) 2 rfl ?_
  refine k_virtIp hO cl_X9 mm_X9_isThere lkV_X9_61 ⟨⟨Nat.le_of_ble_eq_true rfl, Nat.le_of_ble_eq_true rfl⟩, Nat.le_of_ble_eq_true rfl, Nat.le_of_ble_eq_true rfl⟩ (kn' := (0, 0)) rfl (As := [vI x1, vI x2]) rfl (Nat.le_of_ble_eq_true rfl) (fun o' _ => t_X9_isThere Γ.2.1 E o' x1 x2 S) d_X9_rowsAt_3 rfl (fun v1 => ?_)
  refine g_if_eq (tgt := 18) hO d_X9_rowsAt_6.1 d_X9_rowsAt_6.2 (fun _ => ?_) (fun _ => ?_)
  · skip
    refine g_null hO d_X9_rowsAt_18 ?_
    exact g_aret hO rfl (Or.inl ⟨_, rfl⟩) ⟨Nat.le_of_ble_eq_true rfl, Nat.le_of_ble_eq_true rfl⟩ rfl rfl d_X9_rowsAt_19.1
  · skip
    refine g_aload_n hO d_X9_rowsAt_9 (by rfl) 0 rfl ?_
    refine g_iload_n hO d_X9_rowsAt_10 (by rfl) 1 rfl ?_
    refine g_iload_n hO d_X9_rowsAt_11 (by rfl) 2 rfl ?_
    refine k_virtAp hO cl_X9 mm_X9_rowsIn lkV_X9_65 ⟨⟨Nat.le_of_ble_eq_true rfl, Nat.le_of_ble_eq_true rfl⟩, Nat.le_of_ble_eq_true rfl, Nat.le_of_ble_eq_true rfl⟩ (kn' := (0, 0)) rfl (As := [vI x1, vI x2]) rfl (Nat.le_of_ble_eq_true rfl) (fun o' _ => t_X9_rowsIn Γ.2.1 E o' x1 x2 S) d_X9_rowsAt_12 rfl (fun v3 => ?_)
    refine g_goto (tgt := 19) hO d_X9_rowsAt_15.1 d_X9_rowsAt_15.2 ?_
    exact g_aret hO rfl (Or.inl ⟨_, rfl⟩) ⟨Nat.le_of_ble_eq_true rfl, Nat.le_of_ble_eq_true rfl⟩ rfl rfl d_X9_rowsAt_19.1
theorem t_X9_rowsAt (l : Launch) (E : GE) (o : Nat) (x1 : Int32) (x2 : Int32) (S : GS) : ∀ a, f_X9_rowsAt o x1 x2 S = some a → Ct l E yX9_rowsAt cX9_rowsAt 3 (some (.object "GlassLaces$Rows")) rm_X9_rowsAt [vA (some o), vI x1, vI x2] S (some (vA a)) S :=
  Ct_of (val := fun b => some (vA b)) (nxt := fun _ => S) (by decide) (Nat.le_of_ble_eq_true rfl) (fun Γ hl hO => w_X9_rowsAt hO o x1 x2 S)
theorem d_X9_keep_0 : gD cX9_keep 0 (.iload_n 1) 1 1 := ⟨by decide +kernel, rfl⟩
theorem d_X9_keep_1 : gD cX9_keep 1 (.ifCond .lt 18) 3 4 ∧ ((1 : Nat) : Int) + 18 = ((19 : Nat) : Int) := ⟨⟨by decide +kernel, rfl⟩, by decide⟩
theorem d_X9_keep_4 : gD cX9_keep 4 (.iload_n 1) 1 5 := ⟨by decide +kernel, rfl⟩
theorem d_X9_keep_5 : gD cX9_keep 5 (.bipush 6) 2 7 := ⟨by decide +kernel, rfl⟩
theorem d_X9_keep_7 : gD cX9_keep 7 (.if_icmp .ge 12) 3 10 ∧ ((7 : Nat) : Int) + 12 = ((19 : Nat) : Int) := ⟨⟨by decide +kernel, rfl⟩, by decide⟩
theorem d_X9_keep_10 : gD cX9_keep 10 (.iload_n 2) 1 11 := ⟨by decide +kernel, rfl⟩
theorem d_X9_keep_11 : gD cX9_keep 11 (.ifCond .lt 8) 3 14 ∧ ((11 : Nat) : Int) + 8 = ((19 : Nat) : Int) := ⟨⟨by decide +kernel, rfl⟩, by decide⟩
theorem d_X9_keep_14 : gD cX9_keep 14 (.iload_n 2) 1 15 := ⟨by decide +kernel, rfl⟩
theorem d_X9_keep_15 : gD cX9_keep 15 (.iconst 2) 1 16 := ⟨by decide +kernel, rfl⟩
theorem d_X9_keep_16 : gD cX9_keep 16 (.if_icmp .lt 4) 3 19 ∧ ((16 : Nat) : Int) + 4 = ((20 : Nat) : Int) := ⟨⟨by decide +kernel, rfl⟩, by decide⟩
theorem d_X9_keep_19 : gD cX9_keep 19 (.return_) 1 20 := ⟨by decide +kernel, rfl⟩
theorem d_X9_keep_20 : gD cX9_keep 20 (.iload_n 2) 1 21 := ⟨by decide +kernel, rfl⟩
theorem d_X9_keep_21 : gD cX9_keep 21 (.aload_n 0) 1 22 := ⟨by decide +kernel, rfl⟩
theorem d_X9_keep_22 : gD cX9_keep 22 (.getfield 15) 3 25 := ⟨by decide +kernel, rfl⟩
theorem d_X9_keep_25 : gD cX9_keep 25 (.iload_n 1) 1 26 := ⟨by decide +kernel, rfl⟩
theorem d_X9_keep_26 : gD cX9_keep 26 (.iaload) 1 27 := ⟨by decide +kernel, rfl⟩
theorem d_X9_keep_27 : gD cX9_keep 27 (.if_icmp .lt 12) 3 30 ∧ ((27 : Nat) : Int) + 12 = ((39 : Nat) : Int) := ⟨⟨by decide +kernel, rfl⟩, by decide⟩
theorem d_X9_keep_30 : gD cX9_keep 30 (.aload_n 0) 1 31 := ⟨by decide +kernel, rfl⟩
theorem d_X9_keep_31 : gD cX9_keep 31 (.getfield 15) 3 34 := ⟨by decide +kernel, rfl⟩
theorem d_X9_keep_34 : gD cX9_keep 34 (.iload_n 1) 1 35 := ⟨by decide +kernel, rfl⟩
theorem d_X9_keep_35 : gD cX9_keep 35 (.iload_n 2) 1 36 := ⟨by decide +kernel, rfl⟩
theorem d_X9_keep_36 : gD cX9_keep 36 (.iconst 1) 1 37 := ⟨by decide +kernel, rfl⟩
theorem d_X9_keep_37 : gD cX9_keep 37 (.iadd) 1 38 := ⟨by decide +kernel, rfl⟩
theorem d_X9_keep_38 : gD cX9_keep 38 (.iastore) 1 39 := ⟨by decide +kernel, rfl⟩
theorem d_X9_keep_39 : gD cX9_keep 39 (.aload_n 0) 1 40 := ⟨by decide +kernel, rfl⟩
theorem d_X9_keep_40 : gD cX9_keep 40 (.iload_n 1) 1 41 := ⟨by decide +kernel, rfl⟩
theorem d_X9_keep_41 : gD cX9_keep 41 (.iload_n 2) 1 42 := ⟨by decide +kernel, rfl⟩
theorem d_X9_keep_42 : gD cX9_keep 42 (.invokevirtual 65) 3 45 := ⟨by decide +kernel, rfl⟩
theorem d_X9_keep_45 : gD cX9_keep 45 (.astore 4) 2 47 := ⟨by decide +kernel, rfl⟩
theorem d_X9_keep_47 : gD cX9_keep 47 (.iload_n 1) 1 48 := ⟨by decide +kernel, rfl⟩
theorem d_X9_keep_48 : gD cX9_keep 48 (.ifCond .ne 19) 3 51 ∧ ((48 : Nat) : Int) + 19 = ((67 : Nat) : Int) := ⟨⟨by decide +kernel, rfl⟩, by decide⟩
theorem d_X9_keep_51 : gD cX9_keep 51 (.aload_n 0) 1 52 := ⟨by decide +kernel, rfl⟩
theorem d_X9_keep_52 : gD cX9_keep 52 (.getfield 21) 3 55 := ⟨by decide +kernel, rfl⟩
theorem d_X9_keep_55 : gD cX9_keep 55 (.iload_n 2) 1 56 := ⟨by decide +kernel, rfl⟩
theorem d_X9_keep_56 : gD cX9_keep 56 (.aaload) 1 57 := ⟨by decide +kernel, rfl⟩
theorem d_X9_keep_57 : gD cX9_keep 57 (.aload_n 3) 1 58 := ⟨by decide +kernel, rfl⟩
theorem d_X9_keep_58 : gD cX9_keep 58 (.getfield 69) 3 61 := ⟨by decide +kernel, rfl⟩
theorem d_X9_keep_61 : gD cX9_keep 61 (.invokevirtual 75) 3 64 := ⟨by decide +kernel, rfl⟩
theorem d_X9_keep_64 : decode cX9_keep 64 = .ok (.goto 39, 3) ∧ ((64 : Nat) : Int) + 39 = ((103 : Nat) : Int) := ⟨by decide +kernel, by decide⟩
theorem d_X9_keep_67 : gD cX9_keep 67 (.iload_n 1) 1 68 := ⟨by decide +kernel, rfl⟩
theorem d_X9_keep_68 : gD cX9_keep 68 (.iconst 3) 1 69 := ⟨by decide +kernel, rfl⟩
theorem d_X9_keep_69 : gD cX9_keep 69 (.if_icmp .ne 19) 3 72 ∧ ((69 : Nat) : Int) + 19 = ((88 : Nat) : Int) := ⟨⟨by decide +kernel, rfl⟩, by decide⟩
theorem d_X9_keep_72 : gD cX9_keep 72 (.aload_n 0) 1 73 := ⟨by decide +kernel, rfl⟩
theorem d_X9_keep_73 : gD cX9_keep 73 (.getfield 27) 3 76 := ⟨by decide +kernel, rfl⟩
theorem d_X9_keep_76 : gD cX9_keep 76 (.iload_n 2) 1 77 := ⟨by decide +kernel, rfl⟩
theorem d_X9_keep_77 : gD cX9_keep 77 (.aaload) 1 78 := ⟨by decide +kernel, rfl⟩
theorem d_X9_keep_78 : gD cX9_keep 78 (.aload_n 3) 1 79 := ⟨by decide +kernel, rfl⟩
theorem d_X9_keep_79 : gD cX9_keep 79 (.getfield 79) 3 82 := ⟨by decide +kernel, rfl⟩
theorem d_X9_keep_82 : gD cX9_keep 82 (.invokevirtual 83) 3 85 := ⟨by decide +kernel, rfl⟩
theorem d_X9_keep_85 : decode cX9_keep 85 = .ok (.goto 18, 3) ∧ ((85 : Nat) : Int) + 18 = ((103 : Nat) : Int) := ⟨by decide +kernel, by decide⟩
theorem d_X9_keep_88 : gD cX9_keep 88 (.aload 4) 2 90 := ⟨by decide +kernel, rfl⟩
theorem d_X9_keep_90 : gD cX9_keep 90 (.ifnull 13) 3 93 ∧ ((90 : Nat) : Int) + 13 = ((103 : Nat) : Int) := ⟨⟨by decide +kernel, rfl⟩, by decide⟩
theorem d_X9_keep_93 : gD cX9_keep 93 (.aload 4) 2 95 := ⟨by decide +kernel, rfl⟩
theorem d_X9_keep_95 : gD cX9_keep 95 (.aload_n 3) 1 96 := ⟨by decide +kernel, rfl⟩
theorem d_X9_keep_96 : gD cX9_keep 96 (.iload_n 1) 1 97 := ⟨by decide +kernel, rfl⟩
theorem d_X9_keep_97 : gD cX9_keep 97 (.invokevirtual 86) 3 100 := ⟨by decide +kernel, rfl⟩
theorem d_X9_keep_100 : gD cX9_keep 100 (.invokevirtual 90) 3 103 := ⟨by decide +kernel, rfl⟩
theorem d_X9_keep_103 : gD cX9_keep 103 (.return_) 1 104 := ⟨by decide +kernel, rfl⟩
abbrev rm_X9_keep : Room := { frames := 3, cells := 0, slots := 0, locals := 60 }
set_option maxRecDepth 20000 in
theorem w_X9_keep_39 {Γ : GC} {E : GE} (hO : gOk Γ E cX9_keep RX9 5 rm_X9_keep none "keep") (o : Nat) (x1 : Int32) (x2 : Int32) (x3 : Option Nat) (S : GS) : Go Γ E (gBsV Γ E) 5 (0, 0) 39 S [(0, vA (some o)), (1, vI x1), (2, vI x2), (3, vA x3)] [] (f_X9_keep_39 o x1 x2 x3 S) := by
  unfold f_X9_keep_39
  refine g_aload_n hO d_X9_keep_39 (by rfl) 0 rfl ?_
  refine g_iload_n hO d_X9_keep_40 (by rfl) 1 rfl ?_
  refine g_iload_n hO d_X9_keep_41 (by rfl) 2 rfl ?_
  refine k_virtAp hO cl_X9 mm_X9_rowsIn lkV_X9_65 ⟨⟨Nat.le_of_ble_eq_true rfl, Nat.le_of_ble_eq_true rfl⟩, Nat.le_of_ble_eq_true rfl, Nat.le_of_ble_eq_true rfl⟩ (kn' := (0, 0)) rfl (As := [vI x1, vI x2]) rfl (Nat.le_of_ble_eq_true rfl) (fun o' _ => t_X9_rowsIn Γ.2.1 E o' x1 x2 S) d_X9_keep_42 rfl (fun v1 => ?_)
  refine g_astore (lv' := [(4, vA v1), (0, vA (some o)), (1, vI x1), (2, vI x2), (3, vA x3)]) hO d_X9_keep_45 (by decide) rfl ?_
  refine g_iload_n hO d_X9_keep_47 (by rfl) 2 rfl ?_
  refine g_if_ne (tgt := 67) hO d_X9_keep_48.1 d_X9_keep_48.2 (fun _ => ?_) (fun _ => ?_)
  · skip
    refine g_aload_n hO d_X9_keep_51 (by rfl) 1 rfl ?_
    refine h_getR hO cl_X9 2 rfl wf_X9_21 d_X9_keep_52 (fun v3 => ?_)
    refine g_iload_n hO d_X9_keep_55 (by rfl) 3 rfl ?_
    refine h_aald hO 17 (by omega) (by omega) d_X9_keep_56 (fun v4 => ?_)
    refine g_aload_n hO d_X9_keep_57 (by rfl) 4 rfl ?_
    refine h_getR hO cl_X5 1 rfl wf_X9_69 d_X9_keep_58 (fun v5 => ?_)
    refine k_virtVs hO cl_X0 mm_X0_copyFrom lkV_X9_75 ⟨⟨Nat.le_of_ble_eq_true rfl, Nat.le_of_ble_eq_true rfl⟩, Nat.le_of_ble_eq_true rfl, Nat.le_of_ble_eq_true rfl⟩ (kn' := (0, 0)) rfl (As := [vA v5]) rfl (Nat.le_of_ble_eq_true rfl) (fun o' _ => t_X0_copyFrom Γ.2.1 E o' v5 S) d_X9_keep_61 rfl (fun S7 => ?_)
    refine g_goto (tgt := 103) hO d_X9_keep_64.1 d_X9_keep_64.2 ?_
    exact g_vret hO rfl ⟨Nat.le_of_ble_eq_true rfl, Nat.le_of_ble_eq_true rfl⟩ rfl rfl d_X9_keep_103.1
  · skip
    refine g_iload_n hO d_X9_keep_67 (by rfl) 2 rfl ?_
    refine g_iconst hO 3 d_X9_keep_68 (by decide) ?_
    refine g_ic_ne (tgt := 88) hO d_X9_keep_69.1 d_X9_keep_69.2 (fun _ => ?_) (fun _ => ?_)
    · skip
      refine g_aload_n hO d_X9_keep_72 (by rfl) 1 rfl ?_
      refine h_getR hO cl_X9 3 rfl wf_X9_27 d_X9_keep_73 (fun v8 => ?_)
      refine g_iload_n hO d_X9_keep_76 (by rfl) 3 rfl ?_
      refine h_aald hO 19 (by omega) (by omega) d_X9_keep_77 (fun v9 => ?_)
      refine g_aload_n hO d_X9_keep_78 (by rfl) 4 rfl ?_
      refine h_getR hO cl_X5 2 rfl wf_X9_79 d_X9_keep_79 (fun v10 => ?_)
      refine k_virtVs hO cl_X8 mm_X8_copyFrom lkV_X9_83 ⟨⟨Nat.le_of_ble_eq_true rfl, Nat.le_of_ble_eq_true rfl⟩, Nat.le_of_ble_eq_true rfl, Nat.le_of_ble_eq_true rfl⟩ (kn' := (0, 0)) rfl (As := [vA v10]) rfl (Nat.le_of_ble_eq_true rfl) (fun o' _ => t_X8_copyFrom Γ.2.1 E o' v10 S) d_X9_keep_82 rfl (fun S12 => ?_)
      refine g_goto (tgt := 103) hO d_X9_keep_85.1 d_X9_keep_85.2 ?_
      exact g_vret hO rfl ⟨Nat.le_of_ble_eq_true rfl, Nat.le_of_ble_eq_true rfl⟩ rfl rfl d_X9_keep_103.1
    · skip
      refine g_aload hO d_X9_keep_88 0 rfl ?_
      refine g_ifnull (tgt := 103) hO d_X9_keep_90.1 d_X9_keep_90.2 ?_ ?_
      · skip
        exact g_vret hO rfl ⟨Nat.le_of_ble_eq_true rfl, Nat.le_of_ble_eq_true rfl⟩ rfl rfl d_X9_keep_103.1
      · skip
        refine g_aload hO d_X9_keep_93 0 rfl ?_
        refine g_aload_n hO d_X9_keep_95 (by rfl) 4 rfl ?_
        refine g_iload_n hO d_X9_keep_96 (by rfl) 2 rfl ?_
        refine k_virtAp hO cl_X5 mm_X5_rowsOf lkV_X9_86 ⟨⟨Nat.le_of_ble_eq_true rfl, Nat.le_of_ble_eq_true rfl⟩, Nat.le_of_ble_eq_true rfl, Nat.le_of_ble_eq_true rfl⟩ (kn' := (0, 0)) rfl (As := [vI x1]) rfl (Nat.le_of_ble_eq_true rfl) (fun o' _ => t_X5_rowsOf Γ.2.1 E o' x1 S) d_X9_keep_97 rfl (fun v13 => ?_)
        refine k_virtVs hO cl_X7 mm_X7_copyFrom lkV_X9_90 ⟨⟨Nat.le_of_ble_eq_true rfl, Nat.le_of_ble_eq_true rfl⟩, Nat.le_of_ble_eq_true rfl, Nat.le_of_ble_eq_true rfl⟩ (kn' := (0, 0)) rfl (As := [vA v13]) rfl (Nat.le_of_ble_eq_true rfl) (fun o' _ => t_X7_copyFrom Γ.2.1 E o' v13 S) d_X9_keep_100 rfl (fun S16 => ?_)
        exact g_vret hO rfl ⟨Nat.le_of_ble_eq_true rfl, Nat.le_of_ble_eq_true rfl⟩ rfl rfl d_X9_keep_103.1
set_option maxRecDepth 20000 in
theorem w_X9_keep {Γ : GC} {E : GE} (hO : gOk Γ E cX9_keep RX9 5 rm_X9_keep none "keep") (o : Nat) (x1 : Int32) (x2 : Int32) (x3 : Option Nat) (S : GS) : Go Γ E (gBsV Γ E) 5 (0, 0) 0 S [(0, vA (some o)), (1, vI x1), (2, vI x2), (3, vA x3)] [] (f_X9_keep o x1 x2 x3 S) := by
  unfold f_X9_keep
  refine g_iload_n hO d_X9_keep_0 (by rfl) 1 rfl ?_
  refine g_if_lt (tgt := 19) hO d_X9_keep_1.1 d_X9_keep_1.2 (fun _ => ?_) (fun _ => ?_)
  · skip
    exact g_vret hO rfl ⟨Nat.le_of_ble_eq_true rfl, Nat.le_of_ble_eq_true rfl⟩ rfl rfl d_X9_keep_19.1
  · skip
    refine g_iload_n hO d_X9_keep_4 (by rfl) 1 rfl ?_
    refine g_bipush hO 6 d_X9_keep_5 (by decide) ?_
    refine g_ic_ge (tgt := 19) hO d_X9_keep_7.1 d_X9_keep_7.2 (fun _ => ?_) (fun _ => ?_)
    · skip
      exact g_vret hO rfl ⟨Nat.le_of_ble_eq_true rfl, Nat.le_of_ble_eq_true rfl⟩ rfl rfl d_X9_keep_19.1
    · skip
      refine g_iload_n hO d_X9_keep_10 (by rfl) 2 rfl ?_
      refine g_if_lt (tgt := 19) hO d_X9_keep_11.1 d_X9_keep_11.2 (fun _ => ?_) (fun _ => ?_)
      · skip
        exact g_vret hO rfl ⟨Nat.le_of_ble_eq_true rfl, Nat.le_of_ble_eq_true rfl⟩ rfl rfl d_X9_keep_19.1
      · skip
        refine g_iload_n hO d_X9_keep_14 (by rfl) 2 rfl ?_
        refine g_iconst hO 2 d_X9_keep_15 (by decide) ?_
        refine g_ic_lt (tgt := 20) hO d_X9_keep_16.1 d_X9_keep_16.2 (fun _ => ?_) (fun _ => ?_)
        · skip
          refine g_iload_n hO d_X9_keep_20 (by rfl) 2 rfl ?_
          refine g_aload_n hO d_X9_keep_21 (by rfl) 0 rfl ?_
          refine h_getR hO cl_X9 1 rfl wf_X9_15 d_X9_keep_22 (fun v1 => ?_)
          refine g_iload_n hO d_X9_keep_25 (by rfl) 1 rfl ?_
          refine h_iald hO d_X9_keep_26 (fun v2 => ?_)
          refine g_ic_lt (tgt := 39) hO d_X9_keep_27.1 d_X9_keep_27.2 (fun _ => ?_) (fun _ => ?_)
          · skip
            exact g_sub [0, 1, 2, 3] rfl (w_X9_keep_39 hO o _ _ _ _)
          · skip
            refine g_aload_n hO d_X9_keep_30 (by rfl) 0 rfl ?_
            refine h_getR hO cl_X9 1 rfl wf_X9_15 d_X9_keep_31 (fun v3 => ?_)
            refine g_iload_n hO d_X9_keep_34 (by rfl) 1 rfl ?_
            refine g_iload_n hO d_X9_keep_35 (by rfl) 2 rfl ?_
            refine g_iconst hO 1 d_X9_keep_36 (by decide) ?_
            refine g_iadd hO d_X9_keep_37 ?_
            refine h_iast hO d_X9_keep_38 (fun S4 => ?_)
            exact g_sub [0, 1, 2, 3] rfl (w_X9_keep_39 hO o _ _ _ _)
        · skip
          exact g_vret hO rfl ⟨Nat.le_of_ble_eq_true rfl, Nat.le_of_ble_eq_true rfl⟩ rfl rfl d_X9_keep_19.1
theorem t_X9_keep (l : Launch) (E : GE) (o : Nat) (x1 : Int32) (x2 : Int32) (x3 : Option Nat) (S : GS) : ∀ a, f_X9_keep o x1 x2 x3 S = some a → Ct l E yX9_keep cX9_keep 5 none rm_X9_keep [vA (some o), vI x1, vI x2, vA x3] S none a :=
  Ct_of (val := fun _ => none) (nxt := fun b => b) (by decide) (Nat.le_of_ble_eq_true rfl) (fun Γ hl hO => w_X9_keep hO o x1 x2 x3 S)
theorem d_X9_copyFrom_0 : gD cX9_copyFrom 0 (.aload_n 1) 1 1 := ⟨by decide +kernel, rfl⟩
theorem d_X9_copyFrom_1 : gD cX9_copyFrom 1 (.getfield 9) 3 4 := ⟨by decide +kernel, rfl⟩
theorem d_X9_copyFrom_4 : gD cX9_copyFrom 4 (.iconst 0) 1 5 := ⟨by decide +kernel, rfl⟩
theorem d_X9_copyFrom_5 : gD cX9_copyFrom 5 (.aload_n 0) 1 6 := ⟨by decide +kernel, rfl⟩
theorem d_X9_copyFrom_6 : gD cX9_copyFrom 6 (.getfield 9) 3 9 := ⟨by decide +kernel, rfl⟩
theorem d_X9_copyFrom_9 : gD cX9_copyFrom 9 (.iconst 0) 1 10 := ⟨by decide +kernel, rfl⟩
theorem d_X9_copyFrom_10 : gD cX9_copyFrom 10 (.sipush 600) 3 13 := ⟨by decide +kernel, rfl⟩
theorem d_X9_copyFrom_13 : gD cX9_copyFrom 13 (.invokestatic 93) 3 16 := ⟨by decide +kernel, rfl⟩
theorem d_X9_copyFrom_16 : gD cX9_copyFrom 16 (.aload_n 1) 1 17 := ⟨by decide +kernel, rfl⟩
theorem d_X9_copyFrom_17 : gD cX9_copyFrom 17 (.getfield 15) 3 20 := ⟨by decide +kernel, rfl⟩
theorem d_X9_copyFrom_20 : gD cX9_copyFrom 20 (.iconst 0) 1 21 := ⟨by decide +kernel, rfl⟩
theorem d_X9_copyFrom_21 : gD cX9_copyFrom 21 (.aload_n 0) 1 22 := ⟨by decide +kernel, rfl⟩
theorem d_X9_copyFrom_22 : gD cX9_copyFrom 22 (.getfield 15) 3 25 := ⟨by decide +kernel, rfl⟩
theorem d_X9_copyFrom_25 : gD cX9_copyFrom 25 (.iconst 0) 1 26 := ⟨by decide +kernel, rfl⟩
theorem d_X9_copyFrom_26 : gD cX9_copyFrom 26 (.bipush 6) 2 28 := ⟨by decide +kernel, rfl⟩
theorem d_X9_copyFrom_28 : gD cX9_copyFrom 28 (.invokestatic 93) 3 31 := ⟨by decide +kernel, rfl⟩
theorem d_X9_copyFrom_31 : gD cX9_copyFrom 31 (.iconst 0) 1 32 := ⟨by decide +kernel, rfl⟩
theorem d_X9_copyFrom_32 : gD cX9_copyFrom 32 (.istore_n 2) 1 33 := ⟨by decide +kernel, rfl⟩
theorem d_X9_copyFrom_33 : gD cX9_copyFrom 33 (.iload_n 2) 1 34 := ⟨by decide +kernel, rfl⟩
theorem d_X9_copyFrom_34 : gD cX9_copyFrom 34 (.iconst 2) 1 35 := ⟨by decide +kernel, rfl⟩
theorem d_X9_copyFrom_35 : gD cX9_copyFrom 35 (.if_icmp .ge 99) 3 38 ∧ ((35 : Nat) : Int) + 99 = ((134 : Nat) : Int) := ⟨⟨by decide +kernel, rfl⟩, by decide⟩
theorem d_X9_copyFrom_38 : gD cX9_copyFrom 38 (.aload_n 0) 1 39 := ⟨by decide +kernel, rfl⟩
theorem d_X9_copyFrom_39 : gD cX9_copyFrom 39 (.getfield 21) 3 42 := ⟨by decide +kernel, rfl⟩
theorem d_X9_copyFrom_42 : gD cX9_copyFrom 42 (.iload_n 2) 1 43 := ⟨by decide +kernel, rfl⟩
theorem d_X9_copyFrom_43 : gD cX9_copyFrom 43 (.aaload) 1 44 := ⟨by decide +kernel, rfl⟩
theorem d_X9_copyFrom_44 : gD cX9_copyFrom 44 (.aload_n 1) 1 45 := ⟨by decide +kernel, rfl⟩
theorem d_X9_copyFrom_45 : gD cX9_copyFrom 45 (.getfield 21) 3 48 := ⟨by decide +kernel, rfl⟩
theorem d_X9_copyFrom_48 : gD cX9_copyFrom 48 (.iload_n 2) 1 49 := ⟨by decide +kernel, rfl⟩
theorem d_X9_copyFrom_49 : gD cX9_copyFrom 49 (.aaload) 1 50 := ⟨by decide +kernel, rfl⟩
theorem d_X9_copyFrom_50 : gD cX9_copyFrom 50 (.invokevirtual 75) 3 53 := ⟨by decide +kernel, rfl⟩
theorem d_X9_copyFrom_53 : gD cX9_copyFrom 53 (.aload_n 0) 1 54 := ⟨by decide +kernel, rfl⟩
theorem d_X9_copyFrom_54 : gD cX9_copyFrom 54 (.getfield 27) 3 57 := ⟨by decide +kernel, rfl⟩
theorem d_X9_copyFrom_57 : gD cX9_copyFrom 57 (.iload_n 2) 1 58 := ⟨by decide +kernel, rfl⟩
theorem d_X9_copyFrom_58 : gD cX9_copyFrom 58 (.aaload) 1 59 := ⟨by decide +kernel, rfl⟩
theorem d_X9_copyFrom_59 : gD cX9_copyFrom 59 (.aload_n 1) 1 60 := ⟨by decide +kernel, rfl⟩
theorem d_X9_copyFrom_60 : gD cX9_copyFrom 60 (.getfield 27) 3 63 := ⟨by decide +kernel, rfl⟩
theorem d_X9_copyFrom_63 : gD cX9_copyFrom 63 (.iload_n 2) 1 64 := ⟨by decide +kernel, rfl⟩
theorem d_X9_copyFrom_64 : gD cX9_copyFrom 64 (.aaload) 1 65 := ⟨by decide +kernel, rfl⟩
theorem d_X9_copyFrom_65 : gD cX9_copyFrom 65 (.invokevirtual 83) 3 68 := ⟨by decide +kernel, rfl⟩
theorem d_X9_copyFrom_68 : gD cX9_copyFrom 68 (.aload_n 0) 1 69 := ⟨by decide +kernel, rfl⟩
theorem d_X9_copyFrom_69 : gD cX9_copyFrom 69 (.getfield 33) 3 72 := ⟨by decide +kernel, rfl⟩
theorem d_X9_copyFrom_72 : gD cX9_copyFrom 72 (.iload_n 2) 1 73 := ⟨by decide +kernel, rfl⟩
theorem d_X9_copyFrom_73 : gD cX9_copyFrom 73 (.aaload) 1 74 := ⟨by decide +kernel, rfl⟩
theorem d_X9_copyFrom_74 : gD cX9_copyFrom 74 (.aload_n 1) 1 75 := ⟨by decide +kernel, rfl⟩
theorem d_X9_copyFrom_75 : gD cX9_copyFrom 75 (.getfield 33) 3 78 := ⟨by decide +kernel, rfl⟩
theorem d_X9_copyFrom_78 : gD cX9_copyFrom 78 (.iload_n 2) 1 79 := ⟨by decide +kernel, rfl⟩
theorem d_X9_copyFrom_79 : gD cX9_copyFrom 79 (.aaload) 1 80 := ⟨by decide +kernel, rfl⟩
theorem d_X9_copyFrom_80 : gD cX9_copyFrom 80 (.invokevirtual 90) 3 83 := ⟨by decide +kernel, rfl⟩
theorem d_X9_copyFrom_83 : gD cX9_copyFrom 83 (.aload_n 0) 1 84 := ⟨by decide +kernel, rfl⟩
theorem d_X9_copyFrom_84 : gD cX9_copyFrom 84 (.getfield 37) 3 87 := ⟨by decide +kernel, rfl⟩
theorem d_X9_copyFrom_87 : gD cX9_copyFrom 87 (.iload_n 2) 1 88 := ⟨by decide +kernel, rfl⟩
theorem d_X9_copyFrom_88 : gD cX9_copyFrom 88 (.aaload) 1 89 := ⟨by decide +kernel, rfl⟩
theorem d_X9_copyFrom_89 : gD cX9_copyFrom 89 (.aload_n 1) 1 90 := ⟨by decide +kernel, rfl⟩
theorem d_X9_copyFrom_90 : gD cX9_copyFrom 90 (.getfield 37) 3 93 := ⟨by decide +kernel, rfl⟩
theorem d_X9_copyFrom_93 : gD cX9_copyFrom 93 (.iload_n 2) 1 94 := ⟨by decide +kernel, rfl⟩
theorem d_X9_copyFrom_94 : gD cX9_copyFrom 94 (.aaload) 1 95 := ⟨by decide +kernel, rfl⟩
theorem d_X9_copyFrom_95 : gD cX9_copyFrom 95 (.invokevirtual 90) 3 98 := ⟨by decide +kernel, rfl⟩
theorem d_X9_copyFrom_98 : gD cX9_copyFrom 98 (.aload_n 0) 1 99 := ⟨by decide +kernel, rfl⟩
theorem d_X9_copyFrom_99 : gD cX9_copyFrom 99 (.getfield 40) 3 102 := ⟨by decide +kernel, rfl⟩
theorem d_X9_copyFrom_102 : gD cX9_copyFrom 102 (.iload_n 2) 1 103 := ⟨by decide +kernel, rfl⟩
theorem d_X9_copyFrom_103 : gD cX9_copyFrom 103 (.aaload) 1 104 := ⟨by decide +kernel, rfl⟩
theorem d_X9_copyFrom_104 : gD cX9_copyFrom 104 (.aload_n 1) 1 105 := ⟨by decide +kernel, rfl⟩
theorem d_X9_copyFrom_105 : gD cX9_copyFrom 105 (.getfield 40) 3 108 := ⟨by decide +kernel, rfl⟩
theorem d_X9_copyFrom_108 : gD cX9_copyFrom 108 (.iload_n 2) 1 109 := ⟨by decide +kernel, rfl⟩
theorem d_X9_copyFrom_109 : gD cX9_copyFrom 109 (.aaload) 1 110 := ⟨by decide +kernel, rfl⟩
theorem d_X9_copyFrom_110 : gD cX9_copyFrom 110 (.invokevirtual 90) 3 113 := ⟨by decide +kernel, rfl⟩
theorem d_X9_copyFrom_113 : gD cX9_copyFrom 113 (.aload_n 0) 1 114 := ⟨by decide +kernel, rfl⟩
theorem d_X9_copyFrom_114 : gD cX9_copyFrom 114 (.getfield 43) 3 117 := ⟨by decide +kernel, rfl⟩
theorem d_X9_copyFrom_117 : gD cX9_copyFrom 117 (.iload_n 2) 1 118 := ⟨by decide +kernel, rfl⟩
theorem d_X9_copyFrom_118 : gD cX9_copyFrom 118 (.aaload) 1 119 := ⟨by decide +kernel, rfl⟩
theorem d_X9_copyFrom_119 : gD cX9_copyFrom 119 (.aload_n 1) 1 120 := ⟨by decide +kernel, rfl⟩
theorem d_X9_copyFrom_120 : gD cX9_copyFrom 120 (.getfield 43) 3 123 := ⟨by decide +kernel, rfl⟩
theorem d_X9_copyFrom_123 : gD cX9_copyFrom 123 (.iload_n 2) 1 124 := ⟨by decide +kernel, rfl⟩
theorem d_X9_copyFrom_124 : gD cX9_copyFrom 124 (.aaload) 1 125 := ⟨by decide +kernel, rfl⟩
theorem d_X9_copyFrom_125 : gD cX9_copyFrom 125 (.invokevirtual 90) 3 128 := ⟨by decide +kernel, rfl⟩
theorem d_X9_copyFrom_128 : gD cX9_copyFrom 128 (.iinc 2 1) 3 131 := ⟨by decide +kernel, rfl⟩
theorem d_X9_copyFrom_131 : decode cX9_copyFrom 131 = .ok (.goto (-98), 3) ∧ ((131 : Nat) : Int) + (-98) = ((33 : Nat) : Int) := ⟨by decide +kernel, by decide⟩
theorem d_X9_copyFrom_134 : gD cX9_copyFrom 134 (.aload_n 0) 1 135 := ⟨by decide +kernel, rfl⟩
theorem d_X9_copyFrom_135 : gD cX9_copyFrom 135 (.aload_n 1) 1 136 := ⟨by decide +kernel, rfl⟩
theorem d_X9_copyFrom_136 : gD cX9_copyFrom 136 (.getfield 55) 3 139 := ⟨by decide +kernel, rfl⟩
theorem d_X9_copyFrom_139 : gD cX9_copyFrom 139 (.putfield 55) 3 142 := ⟨by decide +kernel, rfl⟩
theorem d_X9_copyFrom_142 : gD cX9_copyFrom 142 (.aload_n 0) 1 143 := ⟨by decide +kernel, rfl⟩
theorem d_X9_copyFrom_143 : gD cX9_copyFrom 143 (.aload_n 1) 1 144 := ⟨by decide +kernel, rfl⟩
theorem d_X9_copyFrom_144 : gD cX9_copyFrom 144 (.getfield 58) 3 147 := ⟨by decide +kernel, rfl⟩
theorem d_X9_copyFrom_147 : gD cX9_copyFrom 147 (.putfield 58) 3 150 := ⟨by decide +kernel, rfl⟩
theorem d_X9_copyFrom_150 : gD cX9_copyFrom 150 (.aload_n 0) 1 151 := ⟨by decide +kernel, rfl⟩
theorem d_X9_copyFrom_151 : gD cX9_copyFrom 151 (.aload_n 1) 1 152 := ⟨by decide +kernel, rfl⟩
theorem d_X9_copyFrom_152 : gD cX9_copyFrom 152 (.getfield 46) 3 155 := ⟨by decide +kernel, rfl⟩
theorem d_X9_copyFrom_155 : gD cX9_copyFrom 155 (.putfield 46) 3 158 := ⟨by decide +kernel, rfl⟩
theorem d_X9_copyFrom_158 : gD cX9_copyFrom 158 (.return_) 1 159 := ⟨by decide +kernel, rfl⟩
abbrev rm_X9_copyFrom : Room := { frames := 3, cells := 0, slots := 0, locals := 60 }
set_option maxRecDepth 20000 in
theorem w_X9_copyFrom_33 {Γ : GC} {E : GE} (hO : gOk Γ E cX9_copyFrom RX9 3 rm_X9_copyFrom none "copyFrom") (o : Nat) : ∀ (n : Nat) (x1 : Option Nat) (x2 : Int32) (S : GS), Go Γ E (gBsV Γ E) 3 (0, 0) 33 S [(0, vA (some o)), (1, vA x1), (2, vI x2)] [] (f_X9_copyFrom_33 o n x1 x2 S) := by
  intro n
  induction n with
  | zero =>
    intro x1 x2 S
    exact g_none
  | succ n ih =>
    intro x1 x2 S
    rw [f_X9_copyFrom_33]
    refine g_iload_n hO d_X9_copyFrom_33 (by rfl) 2 rfl ?_
    refine g_iconst hO 2 d_X9_copyFrom_34 (by decide) ?_
    refine g_ic_ge (tgt := 134) hO d_X9_copyFrom_35.1 d_X9_copyFrom_35.2 (fun _ => ?_) (fun _ => ?_)
    · skip
      refine g_aload_n hO d_X9_copyFrom_134 (by rfl) 0 rfl ?_
      refine g_aload_n hO d_X9_copyFrom_135 (by rfl) 1 rfl ?_
      refine h_getI hO cl_X9 8 rfl wf_X9_55 d_X9_copyFrom_136 (fun v1 => ?_)
      refine h_putI hO cl_X9 8 rfl rfl wf_X9_55 (Or.inl rfl) d_X9_copyFrom_139 (fun S2 => ?_)
      refine g_aload_n hO d_X9_copyFrom_142 (by rfl) 0 rfl ?_
      refine g_aload_n hO d_X9_copyFrom_143 (by rfl) 1 rfl ?_
      refine h_getI hO cl_X9 9 rfl wf_X9_58 d_X9_copyFrom_144 (fun v3 => ?_)
      refine h_putI hO cl_X9 9 rfl rfl wf_X9_58 (Or.inl rfl) d_X9_copyFrom_147 (fun S4 => ?_)
      refine g_aload_n hO d_X9_copyFrom_150 (by rfl) 0 rfl ?_
      refine g_aload_n hO d_X9_copyFrom_151 (by rfl) 1 rfl ?_
      refine h_getI hO cl_X9 10 rfl wf_X9_46 d_X9_copyFrom_152 (fun v5 => ?_)
      refine h_putI hO cl_X9 10 rfl rfl wf_X9_46 (Or.inl rfl) d_X9_copyFrom_155 (fun S6 => ?_)
      exact g_vret hO rfl ⟨Nat.le_of_ble_eq_true rfl, Nat.le_of_ble_eq_true rfl⟩ rfl rfl d_X9_copyFrom_158.1
    · skip
      refine g_aload_n hO d_X9_copyFrom_38 (by rfl) 0 rfl ?_
      refine h_getR hO cl_X9 2 rfl wf_X9_21 d_X9_copyFrom_39 (fun v7 => ?_)
      refine g_iload_n hO d_X9_copyFrom_42 (by rfl) 2 rfl ?_
      refine h_aald hO 17 (by omega) (by omega) d_X9_copyFrom_43 (fun v8 => ?_)
      refine g_aload_n hO d_X9_copyFrom_44 (by rfl) 1 rfl ?_
      refine h_getR hO cl_X9 2 rfl wf_X9_21 d_X9_copyFrom_45 (fun v9 => ?_)
      refine g_iload_n hO d_X9_copyFrom_48 (by rfl) 2 rfl ?_
      refine h_aald hO 17 (by omega) (by omega) d_X9_copyFrom_49 (fun v10 => ?_)
      refine k_virtVs hO cl_X0 mm_X0_copyFrom lkV_X9_75 ⟨⟨Nat.le_of_ble_eq_true rfl, Nat.le_of_ble_eq_true rfl⟩, Nat.le_of_ble_eq_true rfl, Nat.le_of_ble_eq_true rfl⟩ (kn' := (0, 0)) rfl (As := [vA v10]) rfl (Nat.le_of_ble_eq_true rfl) (fun o' _ => t_X0_copyFrom Γ.2.1 E o' v10 S) d_X9_copyFrom_50 rfl (fun S12 => ?_)
      refine g_aload_n hO d_X9_copyFrom_53 (by rfl) 0 rfl ?_
      refine h_getR hO cl_X9 3 rfl wf_X9_27 d_X9_copyFrom_54 (fun v13 => ?_)
      refine g_iload_n hO d_X9_copyFrom_57 (by rfl) 2 rfl ?_
      refine h_aald hO 19 (by omega) (by omega) d_X9_copyFrom_58 (fun v14 => ?_)
      refine g_aload_n hO d_X9_copyFrom_59 (by rfl) 1 rfl ?_
      refine h_getR hO cl_X9 3 rfl wf_X9_27 d_X9_copyFrom_60 (fun v15 => ?_)
      refine g_iload_n hO d_X9_copyFrom_63 (by rfl) 2 rfl ?_
      refine h_aald hO 19 (by omega) (by omega) d_X9_copyFrom_64 (fun v16 => ?_)
      refine k_virtVs hO cl_X8 mm_X8_copyFrom lkV_X9_83 ⟨⟨Nat.le_of_ble_eq_true rfl, Nat.le_of_ble_eq_true rfl⟩, Nat.le_of_ble_eq_true rfl, Nat.le_of_ble_eq_true rfl⟩ (kn' := (0, 0)) rfl (As := [vA v16]) rfl (Nat.le_of_ble_eq_true rfl) (fun o' _ => t_X8_copyFrom Γ.2.1 E o' v16 S12) d_X9_copyFrom_65 rfl (fun S18 => ?_)
      refine g_aload_n hO d_X9_copyFrom_68 (by rfl) 0 rfl ?_
      refine h_getR hO cl_X9 4 rfl wf_X9_33 d_X9_copyFrom_69 (fun v19 => ?_)
      refine g_iload_n hO d_X9_copyFrom_72 (by rfl) 2 rfl ?_
      refine h_aald hO 18 (by omega) (by omega) d_X9_copyFrom_73 (fun v20 => ?_)
      refine g_aload_n hO d_X9_copyFrom_74 (by rfl) 1 rfl ?_
      refine h_getR hO cl_X9 4 rfl wf_X9_33 d_X9_copyFrom_75 (fun v21 => ?_)
      refine g_iload_n hO d_X9_copyFrom_78 (by rfl) 2 rfl ?_
      refine h_aald hO 18 (by omega) (by omega) d_X9_copyFrom_79 (fun v22 => ?_)
      refine k_virtVs hO cl_X7 mm_X7_copyFrom lkV_X9_90 ⟨⟨Nat.le_of_ble_eq_true rfl, Nat.le_of_ble_eq_true rfl⟩, Nat.le_of_ble_eq_true rfl, Nat.le_of_ble_eq_true rfl⟩ (kn' := (0, 0)) rfl (As := [vA v22]) rfl (Nat.le_of_ble_eq_true rfl) (fun o' _ => t_X7_copyFrom Γ.2.1 E o' v22 S18) d_X9_copyFrom_80 rfl (fun S24 => ?_)
      refine g_aload_n hO d_X9_copyFrom_83 (by rfl) 0 rfl ?_
      refine h_getR hO cl_X9 5 rfl wf_X9_37 d_X9_copyFrom_84 (fun v25 => ?_)
      refine g_iload_n hO d_X9_copyFrom_87 (by rfl) 2 rfl ?_
      refine h_aald hO 18 (by omega) (by omega) d_X9_copyFrom_88 (fun v26 => ?_)
      refine g_aload_n hO d_X9_copyFrom_89 (by rfl) 1 rfl ?_
      refine h_getR hO cl_X9 5 rfl wf_X9_37 d_X9_copyFrom_90 (fun v27 => ?_)
      refine g_iload_n hO d_X9_copyFrom_93 (by rfl) 2 rfl ?_
      refine h_aald hO 18 (by omega) (by omega) d_X9_copyFrom_94 (fun v28 => ?_)
      refine k_virtVs hO cl_X7 mm_X7_copyFrom lkV_X9_90 ⟨⟨Nat.le_of_ble_eq_true rfl, Nat.le_of_ble_eq_true rfl⟩, Nat.le_of_ble_eq_true rfl, Nat.le_of_ble_eq_true rfl⟩ (kn' := (0, 0)) rfl (As := [vA v28]) rfl (Nat.le_of_ble_eq_true rfl) (fun o' _ => t_X7_copyFrom Γ.2.1 E o' v28 S24) d_X9_copyFrom_95 rfl (fun S30 => ?_)
      refine g_aload_n hO d_X9_copyFrom_98 (by rfl) 0 rfl ?_
      refine h_getR hO cl_X9 6 rfl wf_X9_40 d_X9_copyFrom_99 (fun v31 => ?_)
      refine g_iload_n hO d_X9_copyFrom_102 (by rfl) 2 rfl ?_
      refine h_aald hO 18 (by omega) (by omega) d_X9_copyFrom_103 (fun v32 => ?_)
      refine g_aload_n hO d_X9_copyFrom_104 (by rfl) 1 rfl ?_
      refine h_getR hO cl_X9 6 rfl wf_X9_40 d_X9_copyFrom_105 (fun v33 => ?_)
      refine g_iload_n hO d_X9_copyFrom_108 (by rfl) 2 rfl ?_
      refine h_aald hO 18 (by omega) (by omega) d_X9_copyFrom_109 (fun v34 => ?_)
      refine k_virtVs hO cl_X7 mm_X7_copyFrom lkV_X9_90 ⟨⟨Nat.le_of_ble_eq_true rfl, Nat.le_of_ble_eq_true rfl⟩, Nat.le_of_ble_eq_true rfl, Nat.le_of_ble_eq_true rfl⟩ (kn' := (0, 0)) rfl (As := [vA v34]) rfl (Nat.le_of_ble_eq_true rfl) (fun o' _ => t_X7_copyFrom Γ.2.1 E o' v34 S30) d_X9_copyFrom_110 rfl (fun S36 => ?_)
      refine g_aload_n hO d_X9_copyFrom_113 (by rfl) 0 rfl ?_
      refine h_getR hO cl_X9 7 rfl wf_X9_43 d_X9_copyFrom_114 (fun v37 => ?_)
      refine g_iload_n hO d_X9_copyFrom_117 (by rfl) 2 rfl ?_
      refine h_aald hO 18 (by omega) (by omega) d_X9_copyFrom_118 (fun v38 => ?_)
      refine g_aload_n hO d_X9_copyFrom_119 (by rfl) 1 rfl ?_
      refine h_getR hO cl_X9 7 rfl wf_X9_43 d_X9_copyFrom_120 (fun v39 => ?_)
      refine g_iload_n hO d_X9_copyFrom_123 (by rfl) 2 rfl ?_
      refine h_aald hO 18 (by omega) (by omega) d_X9_copyFrom_124 (fun v40 => ?_)
      refine k_virtVs hO cl_X7 mm_X7_copyFrom lkV_X9_90 ⟨⟨Nat.le_of_ble_eq_true rfl, Nat.le_of_ble_eq_true rfl⟩, Nat.le_of_ble_eq_true rfl, Nat.le_of_ble_eq_true rfl⟩ (kn' := (0, 0)) rfl (As := [vA v40]) rfl (Nat.le_of_ble_eq_true rfl) (fun o' _ => t_X7_copyFrom Γ.2.1 E o' v40 S36) d_X9_copyFrom_125 rfl (fun S42 => ?_)
      refine g_iinc (lv' := [(2, vI (x2 + 1)), (0, vA (some o)), (1, vA x1)]) hO 1 d_X9_copyFrom_128 (by decide) 2 rfl (by decide) rfl ?_
      refine g_goto (tgt := 33) hO d_X9_copyFrom_131.1 d_X9_copyFrom_131.2 ?_
      exact g_sub [1, 2, 0] rfl (ih _ _ _)
set_option maxRecDepth 20000 in
theorem w_X9_copyFrom {Γ : GC} {E : GE} (hO : gOk Γ E cX9_copyFrom RX9 3 rm_X9_copyFrom none "copyFrom") (o : Nat) (x1 : Option Nat) (S : GS) : Go Γ E (gBsV Γ E) 3 (0, 0) 0 S [(0, vA (some o)), (1, vA x1)] [] (f_X9_copyFrom o x1 S) := by
  unfold f_X9_copyFrom
  refine g_aload_n hO d_X9_copyFrom_0 (by rfl) 1 rfl ?_
  refine h_getR hO cl_X9 0 rfl wf_X9_9 d_X9_copyFrom_1 (fun v1 => ?_)
  refine g_iconst hO 0 d_X9_copyFrom_4 (by decide) ?_
  refine g_aload_n hO d_X9_copyFrom_5 (by rfl) 0 rfl ?_
  refine h_getR hO cl_X9 0 rfl wf_X9_9 d_X9_copyFrom_6 (fun v2 => ?_)
  refine g_iconst hO 0 d_X9_copyFrom_9 (by decide) ?_
  refine g_sipush hO 600 d_X9_copyFrom_10 (by decide) ?_
  refine h_acI hO 13 (Or.inl rfl) wm_X9_93 w_acn w_acs wi_System ⟨by decide, Nat.le_of_ble_eq_true rfl⟩ d_X9_copyFrom_13 (fun S3 => ?_)
  refine g_aload_n hO d_X9_copyFrom_16 (by rfl) 1 rfl ?_
  refine h_getR hO cl_X9 1 rfl wf_X9_15 d_X9_copyFrom_17 (fun v4 => ?_)
  refine g_iconst hO 0 d_X9_copyFrom_20 (by decide) ?_
  refine g_aload_n hO d_X9_copyFrom_21 (by rfl) 0 rfl ?_
  refine h_getR hO cl_X9 1 rfl wf_X9_15 d_X9_copyFrom_22 (fun v5 => ?_)
  refine g_iconst hO 0 d_X9_copyFrom_25 (by decide) ?_
  refine g_bipush hO 6 d_X9_copyFrom_26 (by decide) ?_
  refine h_acI hO 14 (Or.inr rfl) wm_X9_93 w_acn w_acs wi_System ⟨by decide, Nat.le_of_ble_eq_true rfl⟩ d_X9_copyFrom_28 (fun S6 => ?_)
  refine g_iconst hO 0 d_X9_copyFrom_31 (by decide) ?_
  refine g_istore_n (lv' := [(2, vI 0), (0, vA (some o)), (1, vA x1)]) hO d_X9_copyFrom_32 (by rfl) (by decide) rfl ?_
  exact g_sub [1, 2, 0] rfl (w_X9_copyFrom_33 hO o _ _ _ _)
theorem t_X9_copyFrom (l : Launch) (E : GE) (o : Nat) (x1 : Option Nat) (S : GS) : ∀ a, f_X9_copyFrom o x1 S = some a → Ct l E yX9_copyFrom cX9_copyFrom 3 none rm_X9_copyFrom [vA (some o), vA x1] S none a :=
  Ct_of (val := fun _ => none) (nxt := fun b => b) (by decide) (Nat.le_of_ble_eq_true rfl) (fun Γ hl hO => w_X9_copyFrom hO o x1 S)
theorem d_X10_init_0 : gD cX10_init 0 (.aload_n 0) 1 1 := ⟨by decide +kernel, rfl⟩
theorem d_X10_init_1 : gD cX10_init 1 (.invokespecial 3) 3 4 := ⟨by decide +kernel, rfl⟩
theorem d_X10_init_4 : gD cX10_init 4 (.aload_n 0) 1 5 := ⟨by decide +kernel, rfl⟩
theorem d_X10_init_5 : gD cX10_init 5 (.bipush 17) 2 7 := ⟨by decide +kernel, rfl⟩
theorem d_X10_init_7 : gD cX10_init 7 (.bipush 41) 2 9 := ⟨by decide +kernel, rfl⟩
theorem d_X10_init_9 : gD cX10_init 9 (.multianewarray 9 2) 4 13 := ⟨by decide +kernel, rfl⟩
theorem d_X10_init_13 : gD cX10_init 13 (.putfield 11) 3 16 := ⟨by decide +kernel, rfl⟩
theorem d_X10_init_16 : gD cX10_init 16 (.aload_n 0) 1 17 := ⟨by decide +kernel, rfl⟩
theorem d_X10_init_17 : gD cX10_init 17 (.bipush 17) 2 19 := ⟨by decide +kernel, rfl⟩
theorem d_X10_init_19 : gD cX10_init 19 (.bipush 41) 2 21 := ⟨by decide +kernel, rfl⟩
theorem d_X10_init_21 : gD cX10_init 21 (.multianewarray 9 2) 4 25 := ⟨by decide +kernel, rfl⟩
theorem d_X10_init_25 : gD cX10_init 25 (.putfield 16) 3 28 := ⟨by decide +kernel, rfl⟩
theorem d_X10_init_28 : gD cX10_init 28 (.return_) 1 29 := ⟨by decide +kernel, rfl⟩
abbrev rm_X10_init : Room := { frames := 1, cells := 36, slots := 1428, locals := 12 }
set_option maxRecDepth 20000 in
theorem w_X10_init {Γ : GC} {E : GE} (hO : gOk Γ E cX10_init RX10 1 rm_X10_init none "<init>") (o : Nat) (S : GS) : Go Γ E (gBsV Γ E) 1 (0, 0) 0 S [(0, vA (some o))] [] (f_X10_init o S) := by
  unfold f_X10_init
  refine g_aload_n hO d_X10_init_0 (by rfl) 0 rfl ?_
  refine g_oinit hO wm_X10_3 wn_obj wc_obj (Nat.le_of_ble_eq_true rfl) (Nat.le_of_ble_eq_true rfl) (fun h => nomatch h) d_X10_init_1 ?_
  refine g_aload_n hO d_X10_init_4 (by rfl) 0 rfl ?_
  refine g_bipush hO 17 d_X10_init_5 (by decide) ?_
  refine g_bipush hO 41 d_X10_init_7 (by decide) ?_
  refine h_mna hO wcl_X10_9 wac_14 17 41 (by decide) (by decide) (by decide) (by decide) (kn' := (18, 714)) rfl ⟨by decide, by decide⟩ ⟨by decide, by decide⟩ d_X10_init_9 (fun v1 S2 => ?_)
  refine h_putR hO cl_X10 0 rfl (ty := .array (.array .int)) (by decide +kernel) (Or.inr ⟨_, rfl⟩) wf_X10_11 (Or.inr ⟨rfl, rfl, rfl⟩) d_X10_init_13 (fun S3 => ?_)
  refine g_aload_n hO d_X10_init_16 (by rfl) 0 rfl ?_
  refine g_bipush hO 17 d_X10_init_17 (by decide) ?_
  refine g_bipush hO 41 d_X10_init_19 (by decide) ?_
  refine h_mna hO wcl_X10_9 wac_14 17 41 (by decide) (by decide) (by decide) (by decide) (kn' := (36, 1428)) rfl ⟨by decide, by decide⟩ ⟨by decide, by decide⟩ d_X10_init_21 (fun v4 S5 => ?_)
  refine h_putR hO cl_X10 1 rfl (ty := .array (.array .int)) (by decide +kernel) (Or.inr ⟨_, rfl⟩) wf_X10_16 (Or.inr ⟨rfl, rfl, rfl⟩) d_X10_init_25 (fun S6 => ?_)
  exact g_vret hO rfl ⟨Nat.le_of_ble_eq_true rfl, Nat.le_of_ble_eq_true rfl⟩ rfl rfl d_X10_init_28.1
theorem t_X10_init (l : Launch) (E : GE) (o : Nat) (S : GS) : ∀ a, f_X10_init o S = some a → Ct l E yX10_init cX10_init 1 none rm_X10_init [vA (some o)] S none a :=
  Ct_of (val := fun _ => none) (nxt := fun b => b) (by decide) (Nat.le_of_ble_eq_true rfl) (fun Γ hl hO => w_X10_init hO o S)
theorem d_X10_nearTo_0 : gD cX10_nearTo 0 (.iconst 0) 1 1 := ⟨by decide +kernel, rfl⟩
theorem d_X10_nearTo_1 : gD cX10_nearTo 1 (.istore_n 2) 1 2 := ⟨by decide +kernel, rfl⟩
theorem d_X10_nearTo_2 : gD cX10_nearTo 2 (.iload_n 1) 1 3 := ⟨by decide +kernel, rfl⟩
theorem d_X10_nearTo_3 : gD cX10_nearTo 3 (.iconst 1) 1 4 := ⟨by decide +kernel, rfl⟩
theorem d_X10_nearTo_4 : gD cX10_nearTo 4 (.isub) 1 5 := ⟨by decide +kernel, rfl⟩
theorem d_X10_nearTo_5 : gD cX10_nearTo 5 (.istore_n 3) 1 6 := ⟨by decide +kernel, rfl⟩
theorem d_X10_nearTo_6 : gD cX10_nearTo 6 (.iload_n 3) 1 7 := ⟨by decide +kernel, rfl⟩
theorem d_X10_nearTo_7 : gD cX10_nearTo 7 (.iload_n 1) 1 8 := ⟨by decide +kernel, rfl⟩
theorem d_X10_nearTo_8 : gD cX10_nearTo 8 (.iconst 1) 1 9 := ⟨by decide +kernel, rfl⟩
theorem d_X10_nearTo_9 : gD cX10_nearTo 9 (.iadd) 1 10 := ⟨by decide +kernel, rfl⟩
theorem d_X10_nearTo_10 : gD cX10_nearTo 10 (.if_icmp .gt 25) 3 13 ∧ ((10 : Nat) : Int) + 25 = ((35 : Nat) : Int) := ⟨⟨by decide +kernel, rfl⟩, by decide⟩
theorem d_X10_nearTo_13 : gD cX10_nearTo 13 (.iload_n 3) 1 14 := ⟨by decide +kernel, rfl⟩
theorem d_X10_nearTo_14 : gD cX10_nearTo 14 (.ifCond .lt 15) 3 17 ∧ ((14 : Nat) : Int) + 15 = ((29 : Nat) : Int) := ⟨⟨by decide +kernel, rfl⟩, by decide⟩
theorem d_X10_nearTo_17 : gD cX10_nearTo 17 (.iload_n 3) 1 18 := ⟨by decide +kernel, rfl⟩
theorem d_X10_nearTo_18 : gD cX10_nearTo 18 (.aload_n 0) 1 19 := ⟨by decide +kernel, rfl⟩
theorem d_X10_nearTo_19 : gD cX10_nearTo 19 (.arraylength) 1 20 := ⟨by decide +kernel, rfl⟩
theorem d_X10_nearTo_20 : gD cX10_nearTo 20 (.if_icmp .ge 9) 3 23 ∧ ((20 : Nat) : Int) + 9 = ((29 : Nat) : Int) := ⟨⟨by decide +kernel, rfl⟩, by decide⟩
theorem d_X10_nearTo_23 : gD cX10_nearTo 23 (.iload_n 2) 1 24 := ⟨by decide +kernel, rfl⟩
theorem d_X10_nearTo_24 : gD cX10_nearTo 24 (.aload_n 0) 1 25 := ⟨by decide +kernel, rfl⟩
theorem d_X10_nearTo_25 : gD cX10_nearTo 25 (.iload_n 3) 1 26 := ⟨by decide +kernel, rfl⟩
theorem d_X10_nearTo_26 : gD cX10_nearTo 26 (.iaload) 1 27 := ⟨by decide +kernel, rfl⟩
theorem d_X10_nearTo_27 : gD cX10_nearTo 27 (.iadd) 1 28 := ⟨by decide +kernel, rfl⟩
theorem d_X10_nearTo_28 : gD cX10_nearTo 28 (.istore_n 2) 1 29 := ⟨by decide +kernel, rfl⟩
theorem d_X10_nearTo_29 : gD cX10_nearTo 29 (.iinc 3 1) 3 32 := ⟨by decide +kernel, rfl⟩
theorem d_X10_nearTo_32 : decode cX10_nearTo 32 = .ok (.goto (-26), 3) ∧ ((32 : Nat) : Int) + (-26) = ((6 : Nat) : Int) := ⟨by decide +kernel, by decide⟩
theorem d_X10_nearTo_35 : gD cX10_nearTo 35 (.iload_n 2) 1 36 := ⟨by decide +kernel, rfl⟩
theorem d_X10_nearTo_36 : gD cX10_nearTo 36 (.ireturn) 1 37 := ⟨by decide +kernel, rfl⟩
abbrev rm_X10_nearTo : Room := { frames := 0, cells := 0, slots := 0, locals := 0 }
set_option maxRecDepth 20000 in
theorem w_X10_nearTo_29 {Γ : GC} {E : GE} (hO : gOk Γ E cX10_nearTo RX10 4 rm_X10_nearTo (some .int) "nearTo") (S : GS) {k6 : (Option Nat → Int32 → Int32 → Int32 → Option Int32)} (hk6 : ∀ (z0 : Option Nat) (z1 : Int32) (z2 : Int32) (z3 : Int32), Go Γ E (gBpI Γ E S) 4 (0, 0) 6 S [(0, vA z0), (1, vI z1), (2, vI z2), (3, vI z3)] [] (k6 z0 z1 z2 z3)) (x0 : Option Nat) (x1 : Int32) (x2 : Int32) (x3 : Int32) : Go Γ E (gBpI Γ E S) 4 (0, 0) 29 S [(0, vA x0), (1, vI x1), (2, vI x2), (3, vI x3)] [] (f_X10_nearTo_29 k6 S x0 x1 x2 x3) := by
  unfold f_X10_nearTo_29
  refine g_iinc (lv' := [(3, vI (x3 + 1)), (0, vA x0), (1, vI x1), (2, vI x2)]) hO 1 d_X10_nearTo_29 (by decide) 3 rfl (by decide) rfl ?_
  refine g_goto (tgt := 6) hO d_X10_nearTo_32.1 d_X10_nearTo_32.2 ?_
  exact g_sub [1, 2, 3, 0] rfl (hk6 _ _ _ _)
set_option maxRecDepth 20000 in
theorem w_X10_nearTo_6 {Γ : GC} {E : GE} (hO : gOk Γ E cX10_nearTo RX10 4 rm_X10_nearTo (some .int) "nearTo") (S : GS) : ∀ (n : Nat) (x0 : Option Nat) (x1 : Int32) (x2 : Int32) (x3 : Int32), Go Γ E (gBpI Γ E S) 4 (0, 0) 6 S [(0, vA x0), (1, vI x1), (2, vI x2), (3, vI x3)] [] (f_X10_nearTo_6 S n x0 x1 x2 x3) := by
  intro n
  induction n with
  | zero =>
    intro x0 x1 x2 x3
    exact g_none
  | succ n ih =>
    intro x0 x1 x2 x3
    rw [f_X10_nearTo_6]
    refine g_iload_n hO d_X10_nearTo_6 (by rfl) 3 rfl ?_
    refine g_iload_n hO d_X10_nearTo_7 (by rfl) 1 rfl ?_
    refine g_iconst hO 1 d_X10_nearTo_8 (by decide) ?_
    refine g_iadd hO d_X10_nearTo_9 ?_
    refine g_ic_gt (tgt := 35) hO d_X10_nearTo_10.1 d_X10_nearTo_10.2 (fun _ => ?_) (fun _ => ?_)
    · skip
      refine g_iload_n hO d_X10_nearTo_35 (by rfl) 2 rfl ?_
      exact g_ret hO rfl rfl ⟨Nat.le_of_ble_eq_true rfl, Nat.le_of_ble_eq_true rfl⟩ rfl rfl d_X10_nearTo_36.1
    · skip
      refine g_iload_n hO d_X10_nearTo_13 (by rfl) 3 rfl ?_
      refine g_if_lt (tgt := 29) hO d_X10_nearTo_14.1 d_X10_nearTo_14.2 (fun _ => ?_) (fun _ => ?_)
      · skip
        exact g_sub [0, 1, 2, 3] rfl (w_X10_nearTo_29 hO _ ih _ _ _ _)
      · skip
        refine g_iload_n hO d_X10_nearTo_17 (by rfl) 3 rfl ?_
        refine g_aload_n hO d_X10_nearTo_18 (by rfl) 0 rfl ?_
        refine h_alen hO 14 (by omega) (by omega) d_X10_nearTo_19 (fun v1 => ?_)
        refine g_ic_ge (tgt := 29) hO d_X10_nearTo_20.1 d_X10_nearTo_20.2 (fun _ => ?_) (fun _ => ?_)
        · skip
          exact g_sub [0, 1, 2, 3] rfl (w_X10_nearTo_29 hO _ ih _ _ _ _)
        · skip
          refine g_iload_n hO d_X10_nearTo_23 (by rfl) 2 rfl ?_
          refine g_aload_n hO d_X10_nearTo_24 (by rfl) 0 rfl ?_
          refine g_iload_n hO d_X10_nearTo_25 (by rfl) 3 rfl ?_
          refine h_iald hO d_X10_nearTo_26 (fun v2 => ?_)
          refine g_iadd hO d_X10_nearTo_27 ?_
          refine g_istore_n (lv' := [(2, vI (x2 + v2)), (0, vA x0), (1, vI x1), (3, vI x3)]) hO d_X10_nearTo_28 (by rfl) (by decide) rfl ?_
          exact g_sub [1, 2, 0, 3] rfl (w_X10_nearTo_29 hO _ ih _ _ _ _)
set_option maxRecDepth 20000 in
theorem w_X10_nearTo {Γ : GC} {E : GE} (hO : gOk Γ E cX10_nearTo RX10 4 rm_X10_nearTo (some .int) "nearTo") (x0 : Option Nat) (x1 : Int32) (S : GS) : Go Γ E (gBpI Γ E S) 4 (0, 0) 0 S [(0, vA x0), (1, vI x1)] [] (f_X10_nearTo x0 x1 S) := by
  unfold f_X10_nearTo
  refine g_iconst hO 0 d_X10_nearTo_0 (by decide) ?_
  refine g_istore_n (lv' := [(2, vI 0), (0, vA x0), (1, vI x1)]) hO d_X10_nearTo_1 (by rfl) (by decide) rfl ?_
  refine g_iload_n hO d_X10_nearTo_2 (by rfl) 2 rfl ?_
  refine g_iconst hO 1 d_X10_nearTo_3 (by decide) ?_
  refine g_isub hO d_X10_nearTo_4 ?_
  refine g_istore_n (lv' := [(3, vI (x1 - 1)), (2, vI 0), (0, vA x0), (1, vI x1)]) hO d_X10_nearTo_5 (by rfl) (by decide) rfl ?_
  exact g_sub [2, 3, 1, 0] rfl (w_X10_nearTo_6 hO _ _ _ _ _ _)
theorem t_X10_nearTo (l : Launch) (E : GE) (x0 : Option Nat) (x1 : Int32) (S : GS) : ∀ a, f_X10_nearTo x0 x1 S = some a → Ct l E yX10_nearTo cX10_nearTo 4 (some .int) rm_X10_nearTo [vA x0, vI x1] S (some (vI a)) S :=
  Ct_of (val := fun b => some (vI b)) (nxt := fun _ => S) (by decide) (Nat.le_of_ble_eq_true rfl) (fun Γ hl hO => w_X10_nearTo hO x0 x1 S)
theorem d_X10_come_0 : gD cX10_come 0 (.aload_n 0) 1 1 := ⟨by decide +kernel, rfl⟩
theorem d_X10_come_1 : gD cX10_come 1 (.getfield 11) 3 4 := ⟨by decide +kernel, rfl⟩
theorem d_X10_come_4 : gD cX10_come 4 (.iconst 0) 1 5 := ⟨by decide +kernel, rfl⟩
theorem d_X10_come_5 : gD cX10_come 5 (.aaload) 1 6 := ⟨by decide +kernel, rfl⟩
theorem d_X10_come_6 : gD cX10_come 6 (.iconst 0) 1 7 := ⟨by decide +kernel, rfl⟩
theorem d_X10_come_7 : gD cX10_come 7 (.invokestatic 46) 3 10 := ⟨by decide +kernel, rfl⟩
theorem d_X10_come_10 : gD cX10_come 10 (.aload_n 1) 1 11 := ⟨by decide +kernel, rfl⟩
theorem d_X10_come_11 : gD cX10_come 11 (.getfield 52) 3 14 := ⟨by decide +kernel, rfl⟩
theorem d_X10_come_14 : gD cX10_come 14 (.invokestatic 57) 3 17 := ⟨by decide +kernel, rfl⟩
theorem d_X10_come_17 : gD cX10_come 17 (.ifCond .eq 15) 3 20 ∧ ((17 : Nat) : Int) + 15 = ((32 : Nat) : Int) := ⟨⟨by decide +kernel, rfl⟩, by decide⟩
theorem d_X10_come_20 : gD cX10_come 20 (.aload_n 0) 1 21 := ⟨by decide +kernel, rfl⟩
theorem d_X10_come_21 : gD cX10_come 21 (.getfield 11) 3 24 := ⟨by decide +kernel, rfl⟩
theorem d_X10_come_24 : gD cX10_come 24 (.iconst 0) 1 25 := ⟨by decide +kernel, rfl⟩
theorem d_X10_come_25 : gD cX10_come 25 (.aaload) 1 26 := ⟨by decide +kernel, rfl⟩
theorem d_X10_come_26 : gD cX10_come 26 (.aload_n 1) 1 27 := ⟨by decide +kernel, rfl⟩
theorem d_X10_come_27 : gD cX10_come 27 (.getfield 52) 3 30 := ⟨by decide +kernel, rfl⟩
theorem d_X10_come_30 : gD cX10_come 30 (.iconst 1) 1 31 := ⟨by decide +kernel, rfl⟩
theorem d_X10_come_31 : gD cX10_come 31 (.iastore) 1 32 := ⟨by decide +kernel, rfl⟩
theorem d_X10_come_32 : gD cX10_come 32 (.iconst 1) 1 33 := ⟨by decide +kernel, rfl⟩
theorem d_X10_come_33 : gD cX10_come 33 (.istore_n 3) 1 34 := ⟨by decide +kernel, rfl⟩
theorem d_X10_come_34 : gD cX10_come 34 (.iload_n 3) 1 35 := ⟨by decide +kernel, rfl⟩
theorem d_X10_come_35 : gD cX10_come 35 (.aload_n 0) 1 36 := ⟨by decide +kernel, rfl⟩
theorem d_X10_come_36 : gD cX10_come 36 (.getfield 35) 3 39 := ⟨by decide +kernel, rfl⟩
theorem d_X10_come_39 : gD cX10_come 39 (.if_icmp .gt 89) 3 42 ∧ ((39 : Nat) : Int) + 89 = ((128 : Nat) : Int) := ⟨⟨by decide +kernel, rfl⟩, by decide⟩
theorem d_X10_come_42 : gD cX10_come 42 (.iload_n 3) 1 43 := ⟨by decide +kernel, rfl⟩
theorem d_X10_come_43 : gD cX10_come 43 (.bipush 16) 2 45 := ⟨by decide +kernel, rfl⟩
theorem d_X10_come_45 : gD cX10_come 45 (.if_icmp .gt 83) 3 48 ∧ ((45 : Nat) : Int) + 83 = ((128 : Nat) : Int) := ⟨⟨by decide +kernel, rfl⟩, by decide⟩
theorem d_X10_come_48 : gD cX10_come 48 (.iconst 0) 1 49 := ⟨by decide +kernel, rfl⟩
theorem d_X10_come_49 : gD cX10_come 49 (.istore 4) 2 51 := ⟨by decide +kernel, rfl⟩
theorem d_X10_come_51 : gD cX10_come 51 (.iload 4) 2 53 := ⟨by decide +kernel, rfl⟩
theorem d_X10_come_53 : gD cX10_come 53 (.bipush 40) 2 55 := ⟨by decide +kernel, rfl⟩
theorem d_X10_come_55 : gD cX10_come 55 (.if_icmp .gt 67) 3 58 ∧ ((55 : Nat) : Int) + 67 = ((122 : Nat) : Int) := ⟨⟨by decide +kernel, rfl⟩, by decide⟩
theorem d_X10_come_58 : gD cX10_come 58 (.aload_n 0) 1 59 := ⟨by decide +kernel, rfl⟩
theorem d_X10_come_59 : gD cX10_come 59 (.getfield 11) 3 62 := ⟨by decide +kernel, rfl⟩
theorem d_X10_come_62 : gD cX10_come 62 (.iload_n 3) 1 63 := ⟨by decide +kernel, rfl⟩
theorem d_X10_come_63 : gD cX10_come 63 (.iconst 1) 1 64 := ⟨by decide +kernel, rfl⟩
theorem d_X10_come_64 : gD cX10_come 64 (.isub) 1 65 := ⟨by decide +kernel, rfl⟩
theorem d_X10_come_65 : gD cX10_come 65 (.aaload) 1 66 := ⟨by decide +kernel, rfl⟩
theorem d_X10_come_66 : gD cX10_come 66 (.iload 4) 2 68 := ⟨by decide +kernel, rfl⟩
theorem d_X10_come_68 : gD cX10_come 68 (.invokestatic 61) 3 71 := ⟨by decide +kernel, rfl⟩
theorem d_X10_come_71 : gD cX10_come 71 (.istore 5) 2 73 := ⟨by decide +kernel, rfl⟩
theorem d_X10_come_73 : gD cX10_come 73 (.iload 5) 2 75 := ⟨by decide +kernel, rfl⟩
theorem d_X10_come_75 : gD cX10_come 75 (.ifCond .eq 18) 3 78 ∧ ((75 : Nat) : Int) + 18 = ((93 : Nat) : Int) := ⟨⟨by decide +kernel, rfl⟩, by decide⟩
theorem d_X10_come_78 : gD cX10_come 78 (.aload_n 2) 1 79 := ⟨by decide +kernel, rfl⟩
theorem d_X10_come_79 : gD cX10_come 79 (.aload_n 1) 1 80 := ⟨by decide +kernel, rfl⟩
theorem d_X10_come_80 : gD cX10_come 80 (.iload_n 3) 1 81 := ⟨by decide +kernel, rfl⟩
theorem d_X10_come_81 : gD cX10_come 81 (.iload 4) 2 83 := ⟨by decide +kernel, rfl⟩
theorem d_X10_come_83 : gD cX10_come 83 (.invokevirtual 65) 3 86 := ⟨by decide +kernel, rfl⟩
theorem d_X10_come_86 : gD cX10_come 86 (.ifCond .eq 7) 3 89 ∧ ((86 : Nat) : Int) + 7 = ((93 : Nat) : Int) := ⟨⟨by decide +kernel, rfl⟩, by decide⟩
theorem d_X10_come_89 : gD cX10_come 89 (.iconst 1) 1 90 := ⟨by decide +kernel, rfl⟩
theorem d_X10_come_90 : decode cX10_come 90 = .ok (.goto 4, 3) ∧ ((90 : Nat) : Int) + 4 = ((94 : Nat) : Int) := ⟨by decide +kernel, by decide⟩
theorem d_X10_come_93 : gD cX10_come 93 (.iconst 0) 1 94 := ⟨by decide +kernel, rfl⟩
theorem d_X10_come_94 : gD cX10_come 94 (.istore 6) 2 96 := ⟨by decide +kernel, rfl⟩
theorem d_X10_come_96 : gD cX10_come 96 (.aload_n 0) 1 97 := ⟨by decide +kernel, rfl⟩
theorem d_X10_come_97 : gD cX10_come 97 (.getfield 11) 3 100 := ⟨by decide +kernel, rfl⟩
theorem d_X10_come_100 : gD cX10_come 100 (.iload_n 3) 1 101 := ⟨by decide +kernel, rfl⟩
theorem d_X10_come_101 : gD cX10_come 101 (.aaload) 1 102 := ⟨by decide +kernel, rfl⟩
theorem d_X10_come_102 : gD cX10_come 102 (.iload 4) 2 104 := ⟨by decide +kernel, rfl⟩
theorem d_X10_come_104 : gD cX10_come 104 (.iload 6) 2 106 := ⟨by decide +kernel, rfl⟩
theorem d_X10_come_106 : gD cX10_come 106 (.ifCond .eq 8) 3 109 ∧ ((106 : Nat) : Int) + 8 = ((114 : Nat) : Int) := ⟨⟨by decide +kernel, rfl⟩, by decide⟩
theorem d_X10_come_109 : gD cX10_come 109 (.iload 5) 2 111 := ⟨by decide +kernel, rfl⟩
theorem d_X10_come_111 : decode cX10_come 111 = .ok (.goto 4, 3) ∧ ((111 : Nat) : Int) + 4 = ((115 : Nat) : Int) := ⟨by decide +kernel, by decide⟩
theorem d_X10_come_114 : gD cX10_come 114 (.iconst 0) 1 115 := ⟨by decide +kernel, rfl⟩
theorem d_X10_come_115 : gD cX10_come 115 (.iastore) 1 116 := ⟨by decide +kernel, rfl⟩
theorem d_X10_come_116 : gD cX10_come 116 (.iinc 4 1) 3 119 := ⟨by decide +kernel, rfl⟩
theorem d_X10_come_119 : decode cX10_come 119 = .ok (.goto (-68), 3) ∧ ((119 : Nat) : Int) + (-68) = ((51 : Nat) : Int) := ⟨by decide +kernel, by decide⟩
theorem d_X10_come_122 : gD cX10_come 122 (.iinc 3 1) 3 125 := ⟨by decide +kernel, rfl⟩
theorem d_X10_come_125 : decode cX10_come 125 = .ok (.goto (-91), 3) ∧ ((125 : Nat) : Int) + (-91) = ((34 : Nat) : Int) := ⟨by decide +kernel, by decide⟩
theorem d_X10_come_128 : gD cX10_come 128 (.return_) 1 129 := ⟨by decide +kernel, rfl⟩
abbrev rm_X10_come : Room := { frames := 4, cells := 0, slots := 0, locals := 94 }
set_option maxRecDepth 20000 in
theorem w_X10_come_115 {Γ : GC} {E : GE} (hO : gOk Γ E cX10_come RX10 7 rm_X10_come none "come") (o : Nat) {k34 : (Option Nat → Option Nat → Int32 → GS → Option GS)} {k51 : (Option Nat → Option Nat → Int32 → Int32 → GS → Option GS)} (hk34 : ∀ (z1 : Option Nat) (z2 : Option Nat) (z3 : Int32) (S1 : GS), Go Γ E (gBsV Γ E) 7 (0, 0) 34 S1 [(0, vA (some o)), (1, vA z1), (2, vA z2), (3, vI z3)] [] (k34 z1 z2 z3 S1)) (hk51 : ∀ (z1 : Option Nat) (z2 : Option Nat) (z3 : Int32) (z4 : Int32) (S1 : GS), Go Γ E (gBsV Γ E) 7 (0, 0) 51 S1 [(0, vA (some o)), (1, vA z1), (2, vA z2), (3, vI z3), (4, vI z4)] [] (k51 z1 z2 z3 z4 S1)) (x1 : Option Nat) (x2 : Option Nat) (x3 : Int32) (x4 : Int32) (y0 : Option Nat) (y1 : Int32) (y2 : Int32) (S : GS) : Go Γ E (gBsV Γ E) 7 (0, 0) 115 S [(0, vA (some o)), (1, vA x1), (2, vA x2), (3, vI x3), (4, vI x4)] [vI y2, vI y1, vA y0] (f_X10_come_115 k34 k51 o x1 x2 x3 x4 y0 y1 y2 S) := by
  unfold f_X10_come_115
  refine h_iast hO d_X10_come_115 (fun S1 => ?_)
  refine g_iinc (lv' := [(4, vI (x4 + 1)), (0, vA (some o)), (1, vA x1), (2, vA x2), (3, vI x3)]) hO 1 d_X10_come_116 (by decide) 4 rfl (by decide) rfl ?_
  refine g_goto (tgt := 51) hO d_X10_come_119.1 d_X10_come_119.2 ?_
  exact g_sub [1, 2, 3, 4, 0] rfl (hk51 _ _ _ _ _)
set_option maxRecDepth 20000 in
theorem w_X10_come_94 {Γ : GC} {E : GE} (hO : gOk Γ E cX10_come RX10 7 rm_X10_come none "come") (o : Nat) {k34 : (Option Nat → Option Nat → Int32 → GS → Option GS)} {k51 : (Option Nat → Option Nat → Int32 → Int32 → GS → Option GS)} (hk34 : ∀ (z1 : Option Nat) (z2 : Option Nat) (z3 : Int32) (S1 : GS), Go Γ E (gBsV Γ E) 7 (0, 0) 34 S1 [(0, vA (some o)), (1, vA z1), (2, vA z2), (3, vI z3)] [] (k34 z1 z2 z3 S1)) (hk51 : ∀ (z1 : Option Nat) (z2 : Option Nat) (z3 : Int32) (z4 : Int32) (S1 : GS), Go Γ E (gBsV Γ E) 7 (0, 0) 51 S1 [(0, vA (some o)), (1, vA z1), (2, vA z2), (3, vI z3), (4, vI z4)] [] (k51 z1 z2 z3 z4 S1)) (x1 : Option Nat) (x2 : Option Nat) (x3 : Int32) (x4 : Int32) (x5 : Int32) (y0 : Int32) (S : GS) : Go Γ E (gBsV Γ E) 7 (0, 0) 94 S [(0, vA (some o)), (1, vA x1), (2, vA x2), (3, vI x3), (4, vI x4), (5, vI x5)] [vI y0] (f_X10_come_94 k34 k51 o x1 x2 x3 x4 x5 y0 S) := by
  unfold f_X10_come_94
  refine g_istore (lv' := [(6, vI y0), (0, vA (some o)), (1, vA x1), (2, vA x2), (3, vI x3), (4, vI x4), (5, vI x5)]) hO d_X10_come_94 (by decide) rfl ?_
  refine g_aload_n hO d_X10_come_96 (by rfl) 1 rfl ?_
  refine h_getR hO cl_X10 0 rfl wf_X10_11 d_X10_come_97 (fun v1 => ?_)
  refine g_iload_n hO d_X10_come_100 (by rfl) 4 rfl ?_
  refine h_aald hO 21 (by omega) (by omega) d_X10_come_101 (fun v2 => ?_)
  refine g_iload hO d_X10_come_102 5 rfl ?_
  refine g_iload hO d_X10_come_104 0 rfl ?_
  refine g_if_eq (tgt := 114) hO d_X10_come_106.1 d_X10_come_106.2 (fun _ => ?_) (fun _ => ?_)
  · skip
    refine g_iconst hO 0 d_X10_come_114 (by decide) ?_
    exact g_sub [1, 2, 3, 4, 5] rfl (w_X10_come_115 hO o hk34 hk51 _ _ _ _ _ _ _ _)
  · skip
    refine g_iload hO d_X10_come_109 6 rfl ?_
    refine g_goto (tgt := 115) hO d_X10_come_111.1 d_X10_come_111.2 ?_
    exact g_sub [1, 2, 3, 4, 5] rfl (w_X10_come_115 hO o hk34 hk51 _ _ _ _ _ _ _ _)
set_option maxRecDepth 20000 in
theorem w_X10_come_93 {Γ : GC} {E : GE} (hO : gOk Γ E cX10_come RX10 7 rm_X10_come none "come") (o : Nat) {k34 : (Option Nat → Option Nat → Int32 → GS → Option GS)} {k51 : (Option Nat → Option Nat → Int32 → Int32 → GS → Option GS)} (hk34 : ∀ (z1 : Option Nat) (z2 : Option Nat) (z3 : Int32) (S1 : GS), Go Γ E (gBsV Γ E) 7 (0, 0) 34 S1 [(0, vA (some o)), (1, vA z1), (2, vA z2), (3, vI z3)] [] (k34 z1 z2 z3 S1)) (hk51 : ∀ (z1 : Option Nat) (z2 : Option Nat) (z3 : Int32) (z4 : Int32) (S1 : GS), Go Γ E (gBsV Γ E) 7 (0, 0) 51 S1 [(0, vA (some o)), (1, vA z1), (2, vA z2), (3, vI z3), (4, vI z4)] [] (k51 z1 z2 z3 z4 S1)) (x1 : Option Nat) (x2 : Option Nat) (x3 : Int32) (x4 : Int32) (x5 : Int32) (S : GS) : Go Γ E (gBsV Γ E) 7 (0, 0) 93 S [(0, vA (some o)), (1, vA x1), (2, vA x2), (3, vI x3), (4, vI x4), (5, vI x5)] [] (f_X10_come_93 k34 k51 o x1 x2 x3 x4 x5 S) := by
  unfold f_X10_come_93
  refine g_iconst hO 0 d_X10_come_93 (by decide) ?_
  exact g_sub [0, 1, 2, 3, 4, 5] rfl (w_X10_come_94 hO o hk34 hk51 _ _ _ _ _ _ _)
set_option maxRecDepth 20000 in
theorem w_X10_come_51 {Γ : GC} {E : GE} (hO : gOk Γ E cX10_come RX10 7 rm_X10_come none "come") (o : Nat) {k34 : (Option Nat → Option Nat → Int32 → GS → Option GS)} (hk34 : ∀ (z1 : Option Nat) (z2 : Option Nat) (z3 : Int32) (S1 : GS), Go Γ E (gBsV Γ E) 7 (0, 0) 34 S1 [(0, vA (some o)), (1, vA z1), (2, vA z2), (3, vI z3)] [] (k34 z1 z2 z3 S1)) : ∀ (n : Nat) (x1 : Option Nat) (x2 : Option Nat) (x3 : Int32) (x4 : Int32) (S : GS), Go Γ E (gBsV Γ E) 7 (0, 0) 51 S [(0, vA (some o)), (1, vA x1), (2, vA x2), (3, vI x3), (4, vI x4)] [] (f_X10_come_51 k34 o n x1 x2 x3 x4 S) := by
  intro n
  induction n with
  | zero =>
    intro x1 x2 x3 x4 S
    exact g_none
  | succ n ih =>
    intro x1 x2 x3 x4 S
    rw [f_X10_come_51]
    refine g_iload hO d_X10_come_51 4 rfl ?_
    refine g_bipush hO 40 d_X10_come_53 (by decide) ?_
    refine g_ic_gt (tgt := 122) hO d_X10_come_55.1 d_X10_come_55.2 (fun _ => ?_) (fun _ => ?_)
    · skip
      refine g_iinc (lv' := [(3, vI (x3 + 1)), (0, vA (some o)), (1, vA x1), (2, vA x2), (4, vI x4)]) hO 1 d_X10_come_122 (by decide) 3 rfl (by decide) rfl ?_
      refine g_goto (tgt := 34) hO d_X10_come_125.1 d_X10_come_125.2 ?_
      exact g_sub [1, 2, 3, 0] rfl (hk34 _ _ _ _)
    · skip
      refine g_aload_n hO d_X10_come_58 (by rfl) 0 rfl ?_
      refine h_getR hO cl_X10 0 rfl wf_X10_11 d_X10_come_59 (fun v1 => ?_)
      refine g_iload_n hO d_X10_come_62 (by rfl) 3 rfl ?_
      refine g_iconst hO 1 d_X10_come_63 (by decide) ?_
      refine g_isub hO d_X10_come_64 ?_
      refine h_aald hO 21 (by omega) (by omega) d_X10_come_65 (fun v2 => ?_)
      refine g_iload hO d_X10_come_66 4 rfl ?_
      refine k_statIp hO mm_X10_nearTo lkS_X10_61 ⟨⟨Nat.le_of_ble_eq_true rfl, Nat.le_of_ble_eq_true rfl⟩, Nat.le_of_ble_eq_true rfl, Nat.le_of_ble_eq_true rfl⟩ (kn' := (0, 0)) rfl (As := [vA v2, vI x4]) rfl (Nat.le_of_ble_eq_true rfl) (t_X10_nearTo Γ.2.1 E v2 x4 S) d_X10_come_68 rfl (fun v3 => ?_)
      refine g_istore (lv' := [(5, vI v3), (0, vA (some o)), (1, vA x1), (2, vA x2), (3, vI x3), (4, vI x4)]) hO d_X10_come_71 (by decide) rfl ?_
      refine g_iload hO d_X10_come_73 0 rfl ?_
      refine g_if_eq (tgt := 93) hO d_X10_come_75.1 d_X10_come_75.2 (fun _ => ?_) (fun _ => ?_)
      · skip
        exact g_sub [1, 2, 3, 4, 5, 0] rfl (w_X10_come_93 hO o hk34 ih _ _ _ _ _ _)
      · skip
        refine g_aload_n hO d_X10_come_78 (by rfl) 3 rfl ?_
        refine g_aload_n hO d_X10_come_79 (by rfl) 2 rfl ?_
        refine g_iload_n hO d_X10_come_80 (by rfl) 4 rfl ?_
        refine g_iload hO d_X10_come_81 5 rfl ?_
        refine k_virtIp hO cl_X8 mm_X8_seenAgree lkV_X10_65 ⟨⟨Nat.le_of_ble_eq_true rfl, Nat.le_of_ble_eq_true rfl⟩, Nat.le_of_ble_eq_true rfl, Nat.le_of_ble_eq_true rfl⟩ (kn' := (0, 0)) rfl (As := [vA x1, vI x3, vI x4]) rfl (Nat.le_of_ble_eq_true rfl) (fun o' _ => t_X8_seenAgree Γ.2.1 E o' x1 x3 x4 S) d_X10_come_83 rfl (fun v5 => ?_)
        refine g_if_eq (tgt := 93) hO d_X10_come_86.1 d_X10_come_86.2 (fun _ => ?_) (fun _ => ?_)
        · skip
          exact g_sub [1, 2, 3, 4, 5, 0] rfl (w_X10_come_93 hO o hk34 ih _ _ _ _ _ _)
        · skip
          refine g_iconst hO 1 d_X10_come_89 (by decide) ?_
          refine g_goto (tgt := 94) hO d_X10_come_90.1 d_X10_come_90.2 ?_
          exact g_sub [1, 2, 3, 4, 5, 0] rfl (w_X10_come_94 hO o hk34 ih _ _ _ _ _ _ _)
set_option maxRecDepth 20000 in
theorem w_X10_come_34 {Γ : GC} {E : GE} (hO : gOk Γ E cX10_come RX10 7 rm_X10_come none "come") (o : Nat) : ∀ (n : Nat) (x1 : Option Nat) (x2 : Option Nat) (x3 : Int32) (S : GS), Go Γ E (gBsV Γ E) 7 (0, 0) 34 S [(0, vA (some o)), (1, vA x1), (2, vA x2), (3, vI x3)] [] (f_X10_come_34 o n x1 x2 x3 S) := by
  intro n
  induction n with
  | zero =>
    intro x1 x2 x3 S
    exact g_none
  | succ n ih =>
    intro x1 x2 x3 S
    rw [f_X10_come_34]
    refine g_iload_n hO d_X10_come_34 (by rfl) 3 rfl ?_
    refine g_aload_n hO d_X10_come_35 (by rfl) 0 rfl ?_
    refine h_getI hO cl_X10 2 rfl wf_X10_35 d_X10_come_36 (fun v1 => ?_)
    refine g_ic_gt (tgt := 128) hO d_X10_come_39.1 d_X10_come_39.2 (fun _ => ?_) (fun _ => ?_)
    · skip
      exact g_vret hO rfl ⟨Nat.le_of_ble_eq_true rfl, Nat.le_of_ble_eq_true rfl⟩ rfl rfl d_X10_come_128.1
    · skip
      refine g_iload_n hO d_X10_come_42 (by rfl) 3 rfl ?_
      refine g_bipush hO 16 d_X10_come_43 (by decide) ?_
      refine g_ic_gt (tgt := 128) hO d_X10_come_45.1 d_X10_come_45.2 (fun _ => ?_) (fun _ => ?_)
      · skip
        exact g_vret hO rfl ⟨Nat.le_of_ble_eq_true rfl, Nat.le_of_ble_eq_true rfl⟩ rfl rfl d_X10_come_128.1
      · skip
        refine g_iconst hO 0 d_X10_come_48 (by decide) ?_
        refine g_istore (lv' := [(4, vI 0), (0, vA (some o)), (1, vA x1), (2, vA x2), (3, vI x3)]) hO d_X10_come_49 (by decide) rfl ?_
        exact g_sub [1, 2, 3, 4, 0] rfl (w_X10_come_51 hO o ih _ _ _ _ _ _)
set_option maxRecDepth 20000 in
theorem w_X10_come_32 {Γ : GC} {E : GE} (hO : gOk Γ E cX10_come RX10 7 rm_X10_come none "come") (o : Nat) (x1 : Option Nat) (x2 : Option Nat) (S : GS) : Go Γ E (gBsV Γ E) 7 (0, 0) 32 S [(0, vA (some o)), (1, vA x1), (2, vA x2)] [] (f_X10_come_32 o x1 x2 S) := by
  unfold f_X10_come_32
  refine g_iconst hO 1 d_X10_come_32 (by decide) ?_
  refine g_istore_n (lv' := [(3, vI 1), (0, vA (some o)), (1, vA x1), (2, vA x2)]) hO d_X10_come_33 (by rfl) (by decide) rfl ?_
  exact g_sub [1, 2, 3, 0] rfl (w_X10_come_34 hO o _ _ _ _ _)
set_option maxRecDepth 20000 in
theorem w_X10_come {Γ : GC} {E : GE} (hO : gOk Γ E cX10_come RX10 7 rm_X10_come none "come") (o : Nat) (x1 : Option Nat) (x2 : Option Nat) (S : GS) : Go Γ E (gBsV Γ E) 7 (0, 0) 0 S [(0, vA (some o)), (1, vA x1), (2, vA x2)] [] (f_X10_come o x1 x2 S) := by
  unfold f_X10_come
  refine g_aload_n hO d_X10_come_0 (by rfl) 0 rfl ?_
  refine h_getR hO cl_X10 0 rfl wf_X10_11 d_X10_come_1 (fun v1 => ?_)
  refine g_iconst hO 0 d_X10_come_4 (by decide) ?_
  refine h_aald hO 21 (by omega) (by omega) d_X10_come_5 (fun v2 => ?_)
  refine g_iconst hO 0 d_X10_come_6 (by decide) ?_
  refine k_statVs hO mm_J7_fill_53178 lkS_X10_46 ⟨⟨Nat.le_of_ble_eq_true rfl, Nat.le_of_ble_eq_true rfl⟩, Nat.le_of_ble_eq_true rfl, Nat.le_of_ble_eq_true rfl⟩ (kn' := (0, 0)) rfl (As := [vA v2, vI 0]) rfl (Nat.le_of_ble_eq_true rfl) (t_J7_fill_53178 Γ.2.1 E v2 0 S) d_X10_come_7 rfl (fun S4 => ?_)
  refine g_aload_n hO d_X10_come_10 (by rfl) 1 rfl ?_
  refine h_getI hO cl_X0 6 rfl wf_X10_52 d_X10_come_11 (fun v5 => ?_)
  refine k_statNIp hO mm_X11_isMark lkSN_X10_57 ⟨⟨Nat.le_of_ble_eq_true rfl, Nat.le_of_ble_eq_true rfl⟩, Nat.le_of_ble_eq_true rfl, Nat.le_of_ble_eq_true rfl⟩ (kn' := (0, 0)) rfl (As := [vI v5]) rfl (Nat.le_of_ble_eq_true rfl) (t_X11_isMark Γ.2.1 E v5 S4) d_X10_come_14 rfl (fun v6 => ?_)
  refine g_if_eq (tgt := 32) hO d_X10_come_17.1 d_X10_come_17.2 (fun _ => ?_) (fun _ => ?_)
  · skip
    exact g_sub [0, 1, 2] rfl (w_X10_come_32 hO o _ _ _)
  · skip
    refine g_aload_n hO d_X10_come_20 (by rfl) 0 rfl ?_
    refine h_getR hO cl_X10 0 rfl wf_X10_11 d_X10_come_21 (fun v8 => ?_)
    refine g_iconst hO 0 d_X10_come_24 (by decide) ?_
    refine h_aald hO 21 (by omega) (by omega) d_X10_come_25 (fun v9 => ?_)
    refine g_aload_n hO d_X10_come_26 (by rfl) 1 rfl ?_
    refine h_getI hO cl_X0 6 rfl wf_X10_52 d_X10_come_27 (fun v10 => ?_)
    refine g_iconst hO 1 d_X10_come_30 (by decide) ?_
    refine h_iast hO d_X10_come_31 (fun S11 => ?_)
    exact g_sub [0, 1, 2] rfl (w_X10_come_32 hO o _ _ _)
theorem t_X10_come (l : Launch) (E : GE) (o : Nat) (x1 : Option Nat) (x2 : Option Nat) (S : GS) : ∀ a, f_X10_come o x1 x2 S = some a → Ct l E yX10_come cX10_come 7 none rm_X10_come [vA (some o), vA x1, vA x2] S none a :=
  Ct_of (val := fun _ => none) (nxt := fun b => b) (by decide) (Nat.le_of_ble_eq_true rfl) (fun Γ hl hO => w_X10_come hO o x1 x2 S)
