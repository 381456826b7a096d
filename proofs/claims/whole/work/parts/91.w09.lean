theorem d_X12_of_0 : gD cX12_of 0 (.aload_n 0) 1 1 := ⟨by decide +kernel, rfl⟩
theorem d_X12_of_1 : gD cX12_of 1 (.iconst 0) 1 2 := ⟨by decide +kernel, rfl⟩
theorem d_X12_of_2 : gD cX12_of 2 (.putfield 100) 3 5 := ⟨by decide +kernel, rfl⟩
theorem d_X12_of_5 : gD cX12_of 5 (.aload_n 0) 1 6 := ⟨by decide +kernel, rfl⟩
theorem d_X12_of_6 : gD cX12_of 6 (.iload_n 1) 1 7 := ⟨by decide +kernel, rfl⟩
theorem d_X12_of_7 : gD cX12_of 7 (.iload_n 2) 1 8 := ⟨by decide +kernel, rfl⟩
theorem d_X12_of_8 : gD cX12_of 8 (.iload_n 3) 1 9 := ⟨by decide +kernel, rfl⟩
theorem d_X12_of_9 : gD cX12_of 9 (.invokevirtual 406) 3 12 := ⟨by decide +kernel, rfl⟩
theorem d_X12_of_12 : gD cX12_of 12 (.ifCond .eq 12) 3 15 ∧ ((12 : Nat) : Int) + 12 = ((24 : Nat) : Int) := ⟨⟨by decide +kernel, rfl⟩, by decide⟩
theorem d_X12_of_15 : gD cX12_of 15 (.aload_n 0) 1 16 := ⟨by decide +kernel, rfl⟩
theorem d_X12_of_16 : gD cX12_of 16 (.iload 4) 2 18 := ⟨by decide +kernel, rfl⟩
theorem d_X12_of_18 : gD cX12_of 18 (.invokevirtual 303) 3 21 := ⟨by decide +kernel, rfl⟩
theorem d_X12_of_21 : gD cX12_of 21 (.ifCond .ne 6) 3 24 ∧ ((21 : Nat) : Int) + 6 = ((27 : Nat) : Int) := ⟨⟨by decide +kernel, rfl⟩, by decide⟩
theorem d_X12_of_24 : gD cX12_of 24 (.bipush (-2)) 2 26 := ⟨by decide +kernel, rfl⟩
theorem d_X12_of_26 : gD cX12_of 26 (.ireturn) 1 27 := ⟨by decide +kernel, rfl⟩
theorem d_X12_of_27 : gD cX12_of 27 (.iload 5) 2 29 := ⟨by decide +kernel, rfl⟩
theorem d_X12_of_29 : decode cX12_of 29 = .ok (.tableswitch 91 0 4 #[35, 43, 51, 75, 83], 35) ∧ ((29 : Nat) : Int) + 91 = ((120 : Nat) : Int) := ⟨by decide +kernel, by decide⟩
theorem d_X12_of_64 : gD cX12_of 64 (.aload_n 0) 1 65 := ⟨by decide +kernel, rfl⟩
theorem d_X12_of_65 : gD cX12_of 65 (.getfield 53) 3 68 := ⟨by decide +kernel, rfl⟩
theorem d_X12_of_68 : gD cX12_of 68 (.iload 4) 2 70 := ⟨by decide +kernel, rfl⟩
theorem d_X12_of_70 : gD cX12_of 70 (.iaload) 1 71 := ⟨by decide +kernel, rfl⟩
theorem d_X12_of_71 : gD cX12_of 71 (.ireturn) 1 72 := ⟨by decide +kernel, rfl⟩
theorem d_X12_of_72 : gD cX12_of 72 (.aload_n 0) 1 73 := ⟨by decide +kernel, rfl⟩
theorem d_X12_of_73 : gD cX12_of 73 (.getfield 56) 3 76 := ⟨by decide +kernel, rfl⟩
theorem d_X12_of_76 : gD cX12_of 76 (.iload 4) 2 78 := ⟨by decide +kernel, rfl⟩
theorem d_X12_of_78 : gD cX12_of 78 (.iaload) 1 79 := ⟨by decide +kernel, rfl⟩
theorem d_X12_of_79 : gD cX12_of 79 (.ireturn) 1 80 := ⟨by decide +kernel, rfl⟩
theorem d_X12_of_80 : gD cX12_of 80 (.aload_n 0) 1 81 := ⟨by decide +kernel, rfl⟩
theorem d_X12_of_81 : gD cX12_of 81 (.getfield 334) 3 84 := ⟨by decide +kernel, rfl⟩
theorem d_X12_of_84 : gD cX12_of 84 (.iload 4) 2 86 := ⟨by decide +kernel, rfl⟩
theorem d_X12_of_86 : gD cX12_of 86 (.invokestatic 104) 3 89 := ⟨by decide +kernel, rfl⟩
theorem d_X12_of_89 : gD cX12_of 89 (.ifCond .eq 13) 3 92 ∧ ((89 : Nat) : Int) + 13 = ((102 : Nat) : Int) := ⟨⟨by decide +kernel, rfl⟩, by decide⟩
theorem d_X12_of_92 : gD cX12_of 92 (.aload_n 0) 1 93 := ⟨by decide +kernel, rfl⟩
theorem d_X12_of_93 : gD cX12_of 93 (.getfield 59) 3 96 := ⟨by decide +kernel, rfl⟩
theorem d_X12_of_96 : gD cX12_of 96 (.iload 4) 2 98 := ⟨by decide +kernel, rfl⟩
theorem d_X12_of_98 : gD cX12_of 98 (.iaload) 1 99 := ⟨by decide +kernel, rfl⟩
theorem d_X12_of_99 : decode cX12_of 99 = .ok (.goto 4, 3) ∧ ((99 : Nat) : Int) + 4 = ((103 : Nat) : Int) := ⟨by decide +kernel, by decide⟩
theorem d_X12_of_102 : gD cX12_of 102 (.iconst 0) 1 103 := ⟨by decide +kernel, rfl⟩
theorem d_X12_of_103 : gD cX12_of 103 (.ireturn) 1 104 := ⟨by decide +kernel, rfl⟩
theorem d_X12_of_104 : gD cX12_of 104 (.aload_n 0) 1 105 := ⟨by decide +kernel, rfl⟩
theorem d_X12_of_105 : gD cX12_of 105 (.getfield 62) 3 108 := ⟨by decide +kernel, rfl⟩
theorem d_X12_of_108 : gD cX12_of 108 (.iload 4) 2 110 := ⟨by decide +kernel, rfl⟩
theorem d_X12_of_110 : gD cX12_of 110 (.iaload) 1 111 := ⟨by decide +kernel, rfl⟩
theorem d_X12_of_111 : gD cX12_of 111 (.ireturn) 1 112 := ⟨by decide +kernel, rfl⟩
theorem d_X12_of_112 : gD cX12_of 112 (.aload_n 0) 1 113 := ⟨by decide +kernel, rfl⟩
theorem d_X12_of_113 : gD cX12_of 113 (.getfield 65) 3 116 := ⟨by decide +kernel, rfl⟩
theorem d_X12_of_116 : gD cX12_of 116 (.iload 4) 2 118 := ⟨by decide +kernel, rfl⟩
theorem d_X12_of_118 : gD cX12_of 118 (.iaload) 1 119 := ⟨by decide +kernel, rfl⟩
theorem d_X12_of_119 : gD cX12_of 119 (.ireturn) 1 120 := ⟨by decide +kernel, rfl⟩
theorem d_X12_of_120 : gD cX12_of 120 (.bipush (-2)) 2 122 := ⟨by decide +kernel, rfl⟩
theorem d_X12_of_122 : gD cX12_of 122 (.ireturn) 1 123 := ⟨by decide +kernel, rfl⟩
abbrev rm_X12_of : Room := { frames := 8, cells := 0, slots := 0, locals := 178 }
set_option maxRecDepth 20000 in
theorem w_X12_of {Γ : GC} {E : GE} (hO : gOk Γ E cX12_of RX12 6 rm_X12_of (some .int) "of") (o : Nat) (x1 : Int32) (x2 : Int32) (x3 : Int32) (x4 : Int32) (x5 : Int32) (S : GS) : Go Γ E (gBsI Γ E) 6 (0, 0) 0 S [(0, vA (some o)), (1, vI x1), (2, vI x2), (3, vI x3), (4, vI x4), (5, vI x5)] [] (f_X12_of o x1 x2 x3 x4 x5 S) := by
  unfold f_X12_of
  refine g_aload_n hO d_X12_of_0 (by rfl) 0 rfl ?_
  refine g_iconst hO 0 d_X12_of_1 (by decide) ?_
  refine h_putI hO cl_X12 0 rfl rfl wf_X12_100 (Or.inl rfl) d_X12_of_2 (fun S1 => ?_)
  refine g_aload_n hO d_X12_of_5 (by rfl) 0 rfl ?_
  refine g_iload_n hO d_X12_of_6 (by rfl) 1 rfl ?_
  refine g_iload_n hO d_X12_of_7 (by rfl) 2 rfl ?_
  refine g_iload_n hO d_X12_of_8 (by rfl) 3 rfl ?_
  refine k_virtIs hO cl_X12 mm_X12_layState lkV_X12_406 ⟨⟨Nat.le_of_ble_eq_true rfl, Nat.le_of_ble_eq_true rfl⟩, Nat.le_of_ble_eq_true rfl, Nat.le_of_ble_eq_true rfl⟩ (kn' := (0, 0)) rfl (As := [vI x1, vI x2, vI x3]) rfl (Nat.le_of_ble_eq_true rfl) (fun o' _ => t_X12_layState Γ.2.1 E o' x1 x2 x3 S1) d_X12_of_9 rfl (fun v2 S3 => ?_)
  refine g_if_eq (tgt := 24) hO d_X12_of_12.1 d_X12_of_12.2 (fun _ => ?_) (fun _ => ?_)
  · skip
    refine g_bipush hO (-2) d_X12_of_24 (by decide) ?_
    exact g_ret hO rfl rfl ⟨Nat.le_of_ble_eq_true rfl, Nat.le_of_ble_eq_true rfl⟩ rfl rfl d_X12_of_26.1
  · skip
    refine g_aload_n hO d_X12_of_15 (by rfl) 0 rfl ?_
    refine g_iload hO d_X12_of_16 4 rfl ?_
    refine k_virtIp hO cl_X12 mm_X12_isLady lkV_X12_303 ⟨⟨Nat.le_of_ble_eq_true rfl, Nat.le_of_ble_eq_true rfl⟩, Nat.le_of_ble_eq_true rfl, Nat.le_of_ble_eq_true rfl⟩ (kn' := (0, 0)) rfl (As := [vI x4]) rfl (Nat.le_of_ble_eq_true rfl) (fun o' _ => t_X12_isLady Γ.2.1 E o' x4 S3) d_X12_of_18 rfl (fun v4 => ?_)
    refine g_if_ne (tgt := 27) hO d_X12_of_21.1 d_X12_of_21.2 (fun _ => ?_) (fun _ => ?_)
    · skip
      refine g_bipush hO (-2) d_X12_of_24 (by decide) ?_
      exact g_ret hO rfl rfl ⟨Nat.le_of_ble_eq_true rfl, Nat.le_of_ble_eq_true rfl⟩ rfl rfl d_X12_of_26.1
    · skip
      refine g_iload hO d_X12_of_27 5 rfl ?_
      refine h_tsw (c := 0) (dt := 120) hO d_X12_of_29.1 5 (by decide) (by rfl) rfl (by decide) (by decide) d_X12_of_29.2 ⟨⟨64, by decide, ?_⟩, ⟨72, by decide, ?_⟩, ⟨80, by decide, ?_⟩, ⟨104, by decide, ?_⟩, ⟨112, by decide, ?_⟩, trivial⟩ ?_
      · skip
        refine g_aload_n hO d_X12_of_64 (by rfl) 0 rfl ?_
        refine h_getR hO cl_X12 40 rfl wf_X12_53 d_X12_of_65 (fun v6 => ?_)
        refine g_iload hO d_X12_of_68 4 rfl ?_
        refine h_iald hO d_X12_of_70 (fun v7 => ?_)
        exact g_ret hO rfl rfl ⟨Nat.le_of_ble_eq_true rfl, Nat.le_of_ble_eq_true rfl⟩ rfl rfl d_X12_of_71.1
      · skip
        refine g_aload_n hO d_X12_of_72 (by rfl) 0 rfl ?_
        refine h_getR hO cl_X12 41 rfl wf_X12_56 d_X12_of_73 (fun v8 => ?_)
        refine g_iload hO d_X12_of_76 4 rfl ?_
        refine h_iald hO d_X12_of_78 (fun v9 => ?_)
        exact g_ret hO rfl rfl ⟨Nat.le_of_ble_eq_true rfl, Nat.le_of_ble_eq_true rfl⟩ rfl rfl d_X12_of_79.1
      · skip
        refine g_aload_n hO d_X12_of_80 (by rfl) 0 rfl ?_
        refine h_getI hO cl_X12 32 rfl wf_X12_334 d_X12_of_81 (fun v10 => ?_)
        refine g_iload hO d_X12_of_84 4 rfl ?_
        refine k_statIp hO mm_X12_has lkS_X12_104 ⟨⟨Nat.le_of_ble_eq_true rfl, Nat.le_of_ble_eq_true rfl⟩, Nat.le_of_ble_eq_true rfl, Nat.le_of_ble_eq_true rfl⟩ (kn' := (0, 0)) rfl (As := [vI v10, vI x4]) rfl (Nat.le_of_ble_eq_true rfl) (t_X12_has Γ.2.1 E v10 x4 S3) d_X12_of_86 rfl (fun v11 => ?_)
        refine g_if_eq (tgt := 102) hO d_X12_of_89.1 d_X12_of_89.2 (fun _ => ?_) (fun _ => ?_)
        · skip
          refine g_iconst hO 0 d_X12_of_102 (by decide) ?_
          exact g_ret hO rfl rfl ⟨Nat.le_of_ble_eq_true rfl, Nat.le_of_ble_eq_true rfl⟩ rfl rfl d_X12_of_103.1
        · skip
          refine g_aload_n hO d_X12_of_92 (by rfl) 0 rfl ?_
          refine h_getR hO cl_X12 42 rfl wf_X12_59 d_X12_of_93 (fun v13 => ?_)
          refine g_iload hO d_X12_of_96 4 rfl ?_
          refine h_iald hO d_X12_of_98 (fun v14 => ?_)
          refine g_goto (tgt := 103) hO d_X12_of_99.1 d_X12_of_99.2 ?_
          exact g_ret hO rfl rfl ⟨Nat.le_of_ble_eq_true rfl, Nat.le_of_ble_eq_true rfl⟩ rfl rfl d_X12_of_103.1
      · skip
        refine g_aload_n hO d_X12_of_104 (by rfl) 0 rfl ?_
        refine h_getR hO cl_X12 43 rfl wf_X12_62 d_X12_of_105 (fun v15 => ?_)
        refine g_iload hO d_X12_of_108 4 rfl ?_
        refine h_iald hO d_X12_of_110 (fun v16 => ?_)
        exact g_ret hO rfl rfl ⟨Nat.le_of_ble_eq_true rfl, Nat.le_of_ble_eq_true rfl⟩ rfl rfl d_X12_of_111.1
      · skip
        refine g_aload_n hO d_X12_of_112 (by rfl) 0 rfl ?_
        refine h_getR hO cl_X12 44 rfl wf_X12_65 d_X12_of_113 (fun v17 => ?_)
        refine g_iload hO d_X12_of_116 4 rfl ?_
        refine h_iald hO d_X12_of_118 (fun v18 => ?_)
        exact g_ret hO rfl rfl ⟨Nat.le_of_ble_eq_true rfl, Nat.le_of_ble_eq_true rfl⟩ rfl rfl d_X12_of_119.1
      · skip
        refine g_bipush hO (-2) d_X12_of_120 (by decide) ?_
        exact g_ret hO rfl rfl ⟨Nat.le_of_ble_eq_true rfl, Nat.le_of_ble_eq_true rfl⟩ rfl rfl d_X12_of_122.1
theorem t_X12_of (l : Launch) (E : GE) (o : Nat) (x1 : Int32) (x2 : Int32) (x3 : Int32) (x4 : Int32) (x5 : Int32) (S : GS) : ∀ a, f_X12_of o x1 x2 x3 x4 x5 S = some a → Ct l E yX12_of cX12_of 6 (some .int) rm_X12_of [vA (some o), vI x1, vI x2, vI x3, vI x4, vI x5] S (some (vI a.1)) a.2 :=
  Ct_of (val := fun (b : Int32 × GS) => some (vI b.1)) (nxt := fun (b : Int32 × GS) => b.2) (by decide) (Nat.le_of_ble_eq_true rfl) (fun Γ hl hO => w_X12_of hO o x1 x2 x3 x4 x5 S)
theorem d_X12_marks_0 : gD cX12_marks 0 (.aload_n 0) 1 1 := ⟨by decide +kernel, rfl⟩
theorem d_X12_marks_1 : gD cX12_marks 1 (.getfield 32) 3 4 := ⟨by decide +kernel, rfl⟩
theorem d_X12_marks_4 : gD cX12_marks 4 (.bipush 17) 2 6 := ⟨by decide +kernel, rfl⟩
theorem d_X12_marks_6 : gD cX12_marks 6 (.aload_n 0) 1 7 := ⟨by decide +kernel, rfl⟩
theorem d_X12_marks_7 : gD cX12_marks 7 (.getfield 412) 3 10 := ⟨by decide +kernel, rfl⟩
theorem d_X12_marks_10 : gD cX12_marks 10 (.imul) 1 11 := ⟨by decide +kernel, rfl⟩
theorem d_X12_marks_11 : gD cX12_marks 11 (.iaload) 1 12 := ⟨by decide +kernel, rfl⟩
theorem d_X12_marks_12 : gD cX12_marks 12 (.ireturn) 1 13 := ⟨by decide +kernel, rfl⟩
abbrev rm_X12_marks : Room := { frames := 0, cells := 0, slots := 0, locals := 0 }
set_option maxRecDepth 20000 in
theorem w_X12_marks {Γ : GC} {E : GE} (hO : gOk Γ E cX12_marks RX12 1 rm_X12_marks (some .int) "marks") (o : Nat) (S : GS) : Go Γ E (gBpI Γ E S) 1 (0, 0) 0 S [(0, vA (some o))] [] (f_X12_marks o S) := by
  unfold f_X12_marks
  refine g_aload_n hO d_X12_marks_0 (by rfl) 0 rfl ?_
  refine h_getR hO cl_X12 8 rfl wf_X12_32 d_X12_marks_1 (fun v1 => ?_)
  refine g_bipush hO 17 d_X12_marks_4 (by decide) ?_
  refine g_aload_n hO d_X12_marks_6 (by rfl) 0 rfl ?_
  refine h_getI hO cl_X12 45 rfl wf_X12_412 d_X12_marks_7 (fun v2 => ?_)
  refine g_imul hO d_X12_marks_10 ?_
  refine h_iald hO d_X12_marks_11 (fun v3 => ?_)
  exact g_ret hO rfl rfl ⟨Nat.le_of_ble_eq_true rfl, Nat.le_of_ble_eq_true rfl⟩ rfl rfl d_X12_marks_12.1
theorem t_X12_marks (l : Launch) (E : GE) (o : Nat) (S : GS) : ∀ a, f_X12_marks o S = some a → Ct l E yX12_marks cX12_marks 1 (some .int) rm_X12_marks [vA (some o)] S (some (vI a)) S :=
  Ct_of (val := fun b => some (vI b)) (nxt := fun _ => S) (by decide) (Nat.le_of_ble_eq_true rfl) (fun Γ hl hO => w_X12_marks hO o S)
theorem d_X12_markOf_0 : gD cX12_markOf 0 (.aload_n 0) 1 1 := ⟨by decide +kernel, rfl⟩
theorem d_X12_markOf_1 : gD cX12_markOf 1 (.getfield 32) 3 4 := ⟨by decide +kernel, rfl⟩
theorem d_X12_markOf_4 : gD cX12_markOf 4 (.bipush 17) 2 6 := ⟨by decide +kernel, rfl⟩
theorem d_X12_markOf_6 : gD cX12_markOf 6 (.aload_n 0) 1 7 := ⟨by decide +kernel, rfl⟩
theorem d_X12_markOf_7 : gD cX12_markOf 7 (.getfield 412) 3 10 := ⟨by decide +kernel, rfl⟩
theorem d_X12_markOf_10 : gD cX12_markOf 10 (.imul) 1 11 := ⟨by decide +kernel, rfl⟩
theorem d_X12_markOf_11 : gD cX12_markOf 11 (.iconst 1) 1 12 := ⟨by decide +kernel, rfl⟩
theorem d_X12_markOf_12 : gD cX12_markOf 12 (.iadd) 1 13 := ⟨by decide +kernel, rfl⟩
theorem d_X12_markOf_13 : gD cX12_markOf 13 (.iload_n 1) 1 14 := ⟨by decide +kernel, rfl⟩
theorem d_X12_markOf_14 : gD cX12_markOf 14 (.iadd) 1 15 := ⟨by decide +kernel, rfl⟩
theorem d_X12_markOf_15 : gD cX12_markOf 15 (.iaload) 1 16 := ⟨by decide +kernel, rfl⟩
theorem d_X12_markOf_16 : gD cX12_markOf 16 (.ireturn) 1 17 := ⟨by decide +kernel, rfl⟩
abbrev rm_X12_markOf : Room := { frames := 0, cells := 0, slots := 0, locals := 0 }
set_option maxRecDepth 20000 in
theorem w_X12_markOf {Γ : GC} {E : GE} (hO : gOk Γ E cX12_markOf RX12 2 rm_X12_markOf (some .int) "markOf") (o : Nat) (x1 : Int32) (S : GS) : Go Γ E (gBpI Γ E S) 2 (0, 0) 0 S [(0, vA (some o)), (1, vI x1)] [] (f_X12_markOf o x1 S) := by
  unfold f_X12_markOf
  refine g_aload_n hO d_X12_markOf_0 (by rfl) 0 rfl ?_
  refine h_getR hO cl_X12 8 rfl wf_X12_32 d_X12_markOf_1 (fun v1 => ?_)
  refine g_bipush hO 17 d_X12_markOf_4 (by decide) ?_
  refine g_aload_n hO d_X12_markOf_6 (by rfl) 0 rfl ?_
  refine h_getI hO cl_X12 45 rfl wf_X12_412 d_X12_markOf_7 (fun v2 => ?_)
  refine g_imul hO d_X12_markOf_10 ?_
  refine g_iconst hO 1 d_X12_markOf_11 (by decide) ?_
  refine g_iadd hO d_X12_markOf_12 ?_
  refine g_iload_n hO d_X12_markOf_13 (by rfl) 1 rfl ?_
  refine g_iadd hO d_X12_markOf_14 ?_
  refine h_iald hO d_X12_markOf_15 (fun v3 => ?_)
  exact g_ret hO rfl rfl ⟨Nat.le_of_ble_eq_true rfl, Nat.le_of_ble_eq_true rfl⟩ rfl rfl d_X12_markOf_16.1
theorem t_X12_markOf (l : Launch) (E : GE) (o : Nat) (x1 : Int32) (S : GS) : ∀ a, f_X12_markOf o x1 S = some a → Ct l E yX12_markOf cX12_markOf 2 (some .int) rm_X12_markOf [vA (some o), vI x1] S (some (vI a)) S :=
  Ct_of (val := fun b => some (vI b)) (nxt := fun _ => S) (by decide) (Nat.le_of_ble_eq_true rfl) (fun Γ hl hO => w_X12_markOf hO o x1 S)
theorem d_X12_hasForecast_0 : gD cX12_hasForecast 0 (.aload_n 0) 1 1 := ⟨by decide +kernel, rfl⟩
theorem d_X12_hasForecast_1 : gD cX12_hasForecast 1 (.iload_n 1) 1 2 := ⟨by decide +kernel, rfl⟩
theorem d_X12_hasForecast_2 : gD cX12_hasForecast 2 (.putfield 412) 3 5 := ⟨by decide +kernel, rfl⟩
theorem d_X12_hasForecast_5 : gD cX12_hasForecast 5 (.aload_n 0) 1 6 := ⟨by decide +kernel, rfl⟩
theorem d_X12_hasForecast_6 : gD cX12_hasForecast 6 (.iconst 2) 1 7 := ⟨by decide +kernel, rfl⟩
theorem d_X12_hasForecast_7 : gD cX12_hasForecast 7 (.iload_n 1) 1 8 := ⟨by decide +kernel, rfl⟩
theorem d_X12_hasForecast_8 : gD cX12_hasForecast 8 (.invokevirtual 275) 3 11 := ⟨by decide +kernel, rfl⟩
theorem d_X12_hasForecast_11 : gD cX12_hasForecast 11 (.ireturn) 1 12 := ⟨by decide +kernel, rfl⟩
abbrev rm_X12_hasForecast : Room := { frames := 2, cells := 0, slots := 0, locals := 44 }
set_option maxRecDepth 20000 in
theorem w_X12_hasForecast {Γ : GC} {E : GE} (hO : gOk Γ E cX12_hasForecast RX12 2 rm_X12_hasForecast (some .boolean) "hasForecast") (o : Nat) (x1 : Int32) (S : GS) : Go Γ E (gBsI Γ E) 2 (0, 0) 0 S [(0, vA (some o)), (1, vI x1)] [] (f_X12_hasForecast o x1 S) := by
  unfold f_X12_hasForecast
  refine g_aload_n hO d_X12_hasForecast_0 (by rfl) 0 rfl ?_
  refine g_iload_n hO d_X12_hasForecast_1 (by rfl) 1 rfl ?_
  refine h_putI hO cl_X12 45 rfl rfl wf_X12_412 (Or.inl rfl) d_X12_hasForecast_2 (fun S1 => ?_)
  refine g_aload_n hO d_X12_hasForecast_5 (by rfl) 0 rfl ?_
  refine g_iconst hO 2 d_X12_hasForecast_6 (by decide) ?_
  refine g_iload_n hO d_X12_hasForecast_7 (by rfl) 1 rfl ?_
  refine k_virtIp hO cl_X12 mm_X12_is lkV_X12_275 ⟨⟨Nat.le_of_ble_eq_true rfl, Nat.le_of_ble_eq_true rfl⟩, Nat.le_of_ble_eq_true rfl, Nat.le_of_ble_eq_true rfl⟩ (kn' := (0, 0)) rfl (As := [vI 2, vI x1]) rfl (Nat.le_of_ble_eq_true rfl) (fun o' _ => t_X12_is Γ.2.1 E o' 2 x1 S1) d_X12_hasForecast_8 rfl (fun v2 => ?_)
  exact g_zret hO rfl ⟨Nat.le_of_ble_eq_true rfl, Nat.le_of_ble_eq_true rfl⟩ rfl rfl d_X12_hasForecast_11.1
theorem t_X12_hasForecast (l : Launch) (E : GE) (o : Nat) (x1 : Int32) (S : GS) : ∀ a, f_X12_hasForecast o x1 S = some a → Ct l E yX12_hasForecast cX12_hasForecast 2 (some .boolean) rm_X12_hasForecast [vA (some o), vI x1] S (some (vI a.1)) a.2 :=
  Ct_of (val := fun (b : Int32 × GS) => some (vI b.1)) (nxt := fun (b : Int32 × GS) => b.2) (by decide) (Nat.le_of_ble_eq_true rfl) (fun Γ hl hO => w_X12_hasForecast hO o x1 S)
theorem d_X12_mark_0 : gD cX12_mark 0 (.aload_n 0) 1 1 := ⟨by decide +kernel, rfl⟩
theorem d_X12_mark_1 : gD cX12_mark 1 (.iconst 0) 1 2 := ⟨by decide +kernel, rfl⟩
theorem d_X12_mark_2 : gD cX12_mark 2 (.putfield 100) 3 5 := ⟨by decide +kernel, rfl⟩
theorem d_X12_mark_5 : gD cX12_mark 5 (.aload_n 0) 1 6 := ⟨by decide +kernel, rfl⟩
theorem d_X12_mark_6 : gD cX12_mark 6 (.iload_n 1) 1 7 := ⟨by decide +kernel, rfl⟩
theorem d_X12_mark_7 : gD cX12_mark 7 (.invokevirtual 415) 3 10 := ⟨by decide +kernel, rfl⟩
theorem d_X12_mark_10 : gD cX12_mark 10 (.ifCond .ne 6) 3 13 ∧ ((10 : Nat) : Int) + 6 = ((16 : Nat) : Int) := ⟨⟨by decide +kernel, rfl⟩, by decide⟩
theorem d_X12_mark_13 : gD cX12_mark 13 (.bipush (-2)) 2 15 := ⟨by decide +kernel, rfl⟩
theorem d_X12_mark_15 : gD cX12_mark 15 (.ireturn) 1 16 := ⟨by decide +kernel, rfl⟩
theorem d_X12_mark_16 : gD cX12_mark 16 (.iload_n 2) 1 17 := ⟨by decide +kernel, rfl⟩
theorem d_X12_mark_17 : gD cX12_mark 17 (.iconst (-1)) 1 18 := ⟨by decide +kernel, rfl⟩
theorem d_X12_mark_18 : gD cX12_mark 18 (.if_icmp .ne 10) 3 21 ∧ ((18 : Nat) : Int) + 10 = ((28 : Nat) : Int) := ⟨⟨by decide +kernel, rfl⟩, by decide⟩
theorem d_X12_mark_21 : gD cX12_mark 21 (.aload_n 0) 1 22 := ⟨by decide +kernel, rfl⟩
theorem d_X12_mark_22 : gD cX12_mark 22 (.invokevirtual 418) 3 25 := ⟨by decide +kernel, rfl⟩
theorem d_X12_mark_25 : decode cX12_mark 25 = .ok (.goto 27, 3) ∧ ((25 : Nat) : Int) + 27 = ((52 : Nat) : Int) := ⟨by decide +kernel, by decide⟩
theorem d_X12_mark_28 : gD cX12_mark 28 (.iload_n 2) 1 29 := ⟨by decide +kernel, rfl⟩
theorem d_X12_mark_29 : gD cX12_mark 29 (.iconst 0) 1 30 := ⟨by decide +kernel, rfl⟩
theorem d_X12_mark_30 : gD cX12_mark 30 (.aload_n 0) 1 31 := ⟨by decide +kernel, rfl⟩
theorem d_X12_mark_31 : gD cX12_mark 31 (.invokevirtual 418) 3 34 := ⟨by decide +kernel, rfl⟩
theorem d_X12_mark_34 : gD cX12_mark 34 (.iconst 1) 1 35 := ⟨by decide +kernel, rfl⟩
theorem d_X12_mark_35 : gD cX12_mark 35 (.isub) 1 36 := ⟨by decide +kernel, rfl⟩
theorem d_X12_mark_36 : gD cX12_mark 36 (.invokestatic 112) 3 39 := ⟨by decide +kernel, rfl⟩
theorem d_X12_mark_39 : gD cX12_mark 39 (.ifCond .eq 11) 3 42 ∧ ((39 : Nat) : Int) + 11 = ((50 : Nat) : Int) := ⟨⟨by decide +kernel, rfl⟩, by decide⟩
theorem d_X12_mark_42 : gD cX12_mark 42 (.aload_n 0) 1 43 := ⟨by decide +kernel, rfl⟩
theorem d_X12_mark_43 : gD cX12_mark 43 (.iload_n 2) 1 44 := ⟨by decide +kernel, rfl⟩
theorem d_X12_mark_44 : gD cX12_mark 44 (.invokevirtual 421) 3 47 := ⟨by decide +kernel, rfl⟩
theorem d_X12_mark_47 : decode cX12_mark 47 = .ok (.goto 5, 3) ∧ ((47 : Nat) : Int) + 5 = ((52 : Nat) : Int) := ⟨by decide +kernel, by decide⟩
theorem d_X12_mark_50 : gD cX12_mark 50 (.bipush (-2)) 2 52 := ⟨by decide +kernel, rfl⟩
theorem d_X12_mark_52 : gD cX12_mark 52 (.ireturn) 1 53 := ⟨by decide +kernel, rfl⟩
abbrev rm_X12_mark : Room := { frames := 3, cells := 0, slots := 0, locals := 65 }
set_option maxRecDepth 20000 in
theorem w_X12_mark {Γ : GC} {E : GE} (hO : gOk Γ E cX12_mark RX12 3 rm_X12_mark (some .int) "mark") (o : Nat) (x1 : Int32) (x2 : Int32) (S : GS) : Go Γ E (gBsI Γ E) 3 (0, 0) 0 S [(0, vA (some o)), (1, vI x1), (2, vI x2)] [] (f_X12_mark o x1 x2 S) := by
  unfold f_X12_mark
  refine g_aload_n hO d_X12_mark_0 (by rfl) 0 rfl ?_
  refine g_iconst hO 0 d_X12_mark_1 (by decide) ?_
  refine h_putI hO cl_X12 0 rfl rfl wf_X12_100 (Or.inl rfl) d_X12_mark_2 (fun S1 => ?_)
  refine g_aload_n hO d_X12_mark_5 (by rfl) 0 rfl ?_
  refine g_iload_n hO d_X12_mark_6 (by rfl) 1 rfl ?_
  refine k_virtIs hO cl_X12 mm_X12_hasForecast lkV_X12_415 ⟨⟨Nat.le_of_ble_eq_true rfl, Nat.le_of_ble_eq_true rfl⟩, Nat.le_of_ble_eq_true rfl, Nat.le_of_ble_eq_true rfl⟩ (kn' := (0, 0)) rfl (As := [vI x1]) rfl (Nat.le_of_ble_eq_true rfl) (fun o' _ => t_X12_hasForecast Γ.2.1 E o' x1 S1) d_X12_mark_7 rfl (fun v2 S3 => ?_)
  refine g_if_ne (tgt := 16) hO d_X12_mark_10.1 d_X12_mark_10.2 (fun _ => ?_) (fun _ => ?_)
  · skip
    refine g_bipush hO (-2) d_X12_mark_13 (by decide) ?_
    exact g_ret hO rfl rfl ⟨Nat.le_of_ble_eq_true rfl, Nat.le_of_ble_eq_true rfl⟩ rfl rfl d_X12_mark_15.1
  · skip
    refine g_iload_n hO d_X12_mark_16 (by rfl) 2 rfl ?_
    refine g_iconst hO (-1) d_X12_mark_17 (by decide) ?_
    refine g_ic_ne (tgt := 28) hO d_X12_mark_18.1 d_X12_mark_18.2 (fun _ => ?_) (fun _ => ?_)
    · skip
      refine g_aload_n hO d_X12_mark_21 (by rfl) 0 rfl ?_
      refine k_virtIp hO cl_X12 mm_X12_marks lkV_X12_418 ⟨⟨Nat.le_of_ble_eq_true rfl, Nat.le_of_ble_eq_true rfl⟩, Nat.le_of_ble_eq_true rfl, Nat.le_of_ble_eq_true rfl⟩ (kn' := (0, 0)) rfl (As := []) rfl (Nat.le_of_ble_eq_true rfl) (fun o' _ => t_X12_marks Γ.2.1 E o' S3) d_X12_mark_22 rfl (fun v4 => ?_)
      refine g_goto (tgt := 52) hO d_X12_mark_25.1 d_X12_mark_25.2 ?_
      exact g_ret hO rfl rfl ⟨Nat.le_of_ble_eq_true rfl, Nat.le_of_ble_eq_true rfl⟩ rfl rfl d_X12_mark_52.1
    · skip
      refine g_iload_n hO d_X12_mark_28 (by rfl) 2 rfl ?_
      refine g_iconst hO 0 d_X12_mark_29 (by decide) ?_
      refine g_aload_n hO d_X12_mark_30 (by rfl) 0 rfl ?_
      refine k_virtIp hO cl_X12 mm_X12_marks lkV_X12_418 ⟨⟨Nat.le_of_ble_eq_true rfl, Nat.le_of_ble_eq_true rfl⟩, Nat.le_of_ble_eq_true rfl, Nat.le_of_ble_eq_true rfl⟩ (kn' := (0, 0)) rfl (As := []) rfl (Nat.le_of_ble_eq_true rfl) (fun o' _ => t_X12_marks Γ.2.1 E o' S3) d_X12_mark_31 rfl (fun v6 => ?_)
      refine g_iconst hO 1 d_X12_mark_34 (by decide) ?_
      refine g_isub hO d_X12_mark_35 ?_
      refine k_statIp hO mm_X12_in lkS_X12_112 ⟨⟨Nat.le_of_ble_eq_true rfl, Nat.le_of_ble_eq_true rfl⟩, Nat.le_of_ble_eq_true rfl, Nat.le_of_ble_eq_true rfl⟩ (kn' := (0, 0)) rfl (As := [vI x2, vI 0, vI (v6 - 1)]) rfl (Nat.le_of_ble_eq_true rfl) (t_X12_in Γ.2.1 E x2 0 (v6 - 1) S3) d_X12_mark_36 rfl (fun v8 => ?_)
      refine g_if_eq (tgt := 50) hO d_X12_mark_39.1 d_X12_mark_39.2 (fun _ => ?_) (fun _ => ?_)
      · skip
        refine g_bipush hO (-2) d_X12_mark_50 (by decide) ?_
        exact g_ret hO rfl rfl ⟨Nat.le_of_ble_eq_true rfl, Nat.le_of_ble_eq_true rfl⟩ rfl rfl d_X12_mark_52.1
      · skip
        refine g_aload_n hO d_X12_mark_42 (by rfl) 0 rfl ?_
        refine g_iload_n hO d_X12_mark_43 (by rfl) 2 rfl ?_
        refine k_virtIp hO cl_X12 mm_X12_markOf lkV_X12_421 ⟨⟨Nat.le_of_ble_eq_true rfl, Nat.le_of_ble_eq_true rfl⟩, Nat.le_of_ble_eq_true rfl, Nat.le_of_ble_eq_true rfl⟩ (kn' := (0, 0)) rfl (As := [vI x2]) rfl (Nat.le_of_ble_eq_true rfl) (fun o' _ => t_X12_markOf Γ.2.1 E o' x2 S3) d_X12_mark_44 rfl (fun v10 => ?_)
        refine g_goto (tgt := 52) hO d_X12_mark_47.1 d_X12_mark_47.2 ?_
        exact g_ret hO rfl rfl ⟨Nat.le_of_ble_eq_true rfl, Nat.le_of_ble_eq_true rfl⟩ rfl rfl d_X12_mark_52.1
theorem t_X12_mark (l : Launch) (E : GE) (o : Nat) (x1 : Int32) (x2 : Int32) (S : GS) : ∀ a, f_X12_mark o x1 x2 S = some a → Ct l E yX12_mark cX12_mark 3 (some .int) rm_X12_mark [vA (some o), vI x1, vI x2] S (some (vI a.1)) a.2 :=
  Ct_of (val := fun (b : Int32 × GS) => some (vI b.1)) (nxt := fun (b : Int32 × GS) => b.2) (by decide) (Nat.le_of_ble_eq_true rfl) (fun Γ hl hO => w_X12_mark hO o x1 x2 S)
theorem d_X12_stands_0 : gD cX12_stands 0 (.aload_n 0) 1 1 := ⟨by decide +kernel, rfl⟩
theorem d_X12_stands_1 : gD cX12_stands 1 (.iload_n 1) 1 2 := ⟨by decide +kernel, rfl⟩
theorem d_X12_stands_2 : gD cX12_stands 2 (.iload_n 2) 1 3 := ⟨by decide +kernel, rfl⟩
theorem d_X12_stands_3 : gD cX12_stands 3 (.iload_n 3) 1 4 := ⟨by decide +kernel, rfl⟩
theorem d_X12_stands_4 : gD cX12_stands 4 (.aload_n 0) 1 5 := ⟨by decide +kernel, rfl⟩
theorem d_X12_stands_5 : gD cX12_stands 5 (.aload_n 0) 1 6 := ⟨by decide +kernel, rfl⟩
theorem d_X12_stands_6 : gD cX12_stands 6 (.iload_n 1) 1 7 := ⟨by decide +kernel, rfl⟩
theorem d_X12_stands_7 : gD cX12_stands 7 (.iconst 0) 1 8 := ⟨by decide +kernel, rfl⟩
theorem d_X12_stands_8 : gD cX12_stands 8 (.invokevirtual 306) 3 11 := ⟨by decide +kernel, rfl⟩
theorem d_X12_stands_11 : gD cX12_stands 11 (.invokevirtual 358) 3 14 := ⟨by decide +kernel, rfl⟩
theorem d_X12_stands_14 : gD cX12_stands 14 (.isub) 1 15 := ⟨by decide +kernel, rfl⟩
theorem d_X12_stands_15 : gD cX12_stands 15 (.invokevirtual 309) 3 18 := ⟨by decide +kernel, rfl⟩
theorem d_X12_stands_18 : gD cX12_stands 18 (.ifCond .ne 7) 3 21 ∧ ((18 : Nat) : Int) + 7 = ((25 : Nat) : Int) := ⟨⟨by decide +kernel, rfl⟩, by decide⟩
theorem d_X12_stands_21 : gD cX12_stands 21 (.iconst 1) 1 22 := ⟨by decide +kernel, rfl⟩
theorem d_X12_stands_22 : decode cX12_stands 22 = .ok (.goto 4, 3) ∧ ((22 : Nat) : Int) + 4 = ((26 : Nat) : Int) := ⟨by decide +kernel, by decide⟩
theorem d_X12_stands_25 : gD cX12_stands 25 (.iconst 0) 1 26 := ⟨by decide +kernel, rfl⟩
theorem d_X12_stands_26 : gD cX12_stands 26 (.ireturn) 1 27 := ⟨by decide +kernel, rfl⟩
abbrev rm_X12_stands : Room := { frames := 3, cells := 0, slots := 0, locals := 66 }
set_option maxRecDepth 20000 in
theorem w_X12_stands {Γ : GC} {E : GE} (hO : gOk Γ E cX12_stands RX12 4 rm_X12_stands (some .boolean) "stands") (o : Nat) (x1 : Int32) (x2 : Int32) (x3 : Int32) (S : GS) : Go Γ E (gBpI Γ E S) 4 (0, 0) 0 S [(0, vA (some o)), (1, vI x1), (2, vI x2), (3, vI x3)] [] (f_X12_stands o x1 x2 x3 S) := by
  unfold f_X12_stands
  refine g_aload_n hO d_X12_stands_0 (by rfl) 0 rfl ?_
  refine g_iload_n hO d_X12_stands_1 (by rfl) 1 rfl ?_
  refine g_iload_n hO d_X12_stands_2 (by rfl) 2 rfl ?_
  refine g_iload_n hO d_X12_stands_3 (by rfl) 3 rfl ?_
  refine g_aload_n hO d_X12_stands_4 (by rfl) 0 rfl ?_
  refine g_aload_n hO d_X12_stands_5 (by rfl) 0 rfl ?_
  refine g_iload_n hO d_X12_stands_6 (by rfl) 1 rfl ?_
  refine g_iconst hO 0 d_X12_stands_7 (by decide) ?_
  refine k_virtIp hO cl_X12 mm_X12_ofLady lkV_X12_306 ⟨⟨Nat.le_of_ble_eq_true rfl, Nat.le_of_ble_eq_true rfl⟩, Nat.le_of_ble_eq_true rfl, Nat.le_of_ble_eq_true rfl⟩ (kn' := (0, 0)) rfl (As := [vI x1, vI 0]) rfl (Nat.le_of_ble_eq_true rfl) (fun o' _ => t_X12_ofLady Γ.2.1 E o' x1 0 S) d_X12_stands_8 rfl (fun v1 => ?_)
  refine k_virtIp hO cl_X12 mm_X12_heightOf lkV_X12_358 ⟨⟨Nat.le_of_ble_eq_true rfl, Nat.le_of_ble_eq_true rfl⟩, Nat.le_of_ble_eq_true rfl, Nat.le_of_ble_eq_true rfl⟩ (kn' := (0, 0)) rfl (As := [vI v1]) rfl (Nat.le_of_ble_eq_true rfl) (fun o' _ => t_X12_heightOf Γ.2.1 E o' v1 S) d_X12_stands_11 rfl (fun v3 => ?_)
  refine g_isub hO d_X12_stands_14 ?_
  refine k_virtIp hO cl_X12 mm_X12_does lkV_X12_309 ⟨⟨Nat.le_of_ble_eq_true rfl, Nat.le_of_ble_eq_true rfl⟩, Nat.le_of_ble_eq_true rfl, Nat.le_of_ble_eq_true rfl⟩ (kn' := (0, 0)) rfl (As := [vI x1, vI x2, vI (x3 - v3)]) rfl (Nat.le_of_ble_eq_true rfl) (fun o' _ => t_X12_does Γ.2.1 E o' x1 x2 (x3 - v3) S) d_X12_stands_15 rfl (fun v5 => ?_)
  refine g_if_ne (tgt := 25) hO d_X12_stands_18.1 d_X12_stands_18.2 (fun _ => ?_) (fun _ => ?_)
  · skip
    refine g_iconst hO 1 d_X12_stands_21 (by decide) ?_
    refine g_goto (tgt := 26) hO d_X12_stands_22.1 d_X12_stands_22.2 ?_
    exact g_ret hO rfl rfl ⟨Nat.le_of_ble_eq_true rfl, Nat.le_of_ble_eq_true rfl⟩ rfl rfl d_X12_stands_26.1
  · skip
    refine g_iconst hO 0 d_X12_stands_25 (by decide) ?_
    exact g_ret hO rfl rfl ⟨Nat.le_of_ble_eq_true rfl, Nat.le_of_ble_eq_true rfl⟩ rfl rfl d_X12_stands_26.1
theorem t_X12_stands (l : Launch) (E : GE) (o : Nat) (x1 : Int32) (x2 : Int32) (x3 : Int32) (S : GS) : ∀ a, f_X12_stands o x1 x2 x3 S = some a → Ct l E yX12_stands cX12_stands 4 (some .boolean) rm_X12_stands [vA (some o), vI x1, vI x2, vI x3] S (some (vI a)) S :=
  Ct_of (val := fun b => some (vI b)) (nxt := fun _ => S) (by decide) (Nat.le_of_ble_eq_true rfl) (fun Γ hl hO => w_X12_stands hO o x1 x2 x3 S)
theorem d_X12_falls_0 : gD cX12_falls 0 (.aload_n 0) 1 1 := ⟨by decide +kernel, rfl⟩
theorem d_X12_falls_1 : gD cX12_falls 1 (.iconst 0) 1 2 := ⟨by decide +kernel, rfl⟩
theorem d_X12_falls_2 : gD cX12_falls 2 (.putfield 100) 3 5 := ⟨by decide +kernel, rfl⟩
theorem d_X12_falls_5 : gD cX12_falls 5 (.aload_n 0) 1 6 := ⟨by decide +kernel, rfl⟩
theorem d_X12_falls_6 : gD cX12_falls 6 (.iload_n 2) 1 7 := ⟨by decide +kernel, rfl⟩
theorem d_X12_falls_7 : gD cX12_falls 7 (.invokevirtual 415) 3 10 := ⟨by decide +kernel, rfl⟩
theorem d_X12_falls_10 : gD cX12_falls 10 (.ifCond .eq 19) 3 13 ∧ ((10 : Nat) : Int) + 19 = ((29 : Nat) : Int) := ⟨⟨by decide +kernel, rfl⟩, by decide⟩
theorem d_X12_falls_13 : gD cX12_falls 13 (.aload_n 0) 1 14 := ⟨by decide +kernel, rfl⟩
theorem d_X12_falls_14 : gD cX12_falls 14 (.iload_n 1) 1 15 := ⟨by decide +kernel, rfl⟩
theorem d_X12_falls_15 : gD cX12_falls 15 (.invokevirtual 297) 3 18 := ⟨by decide +kernel, rfl⟩
theorem d_X12_falls_18 : gD cX12_falls 18 (.ifCond .eq 11) 3 21 ∧ ((18 : Nat) : Int) + 11 = ((29 : Nat) : Int) := ⟨⟨by decide +kernel, rfl⟩, by decide⟩
theorem d_X12_falls_21 : gD cX12_falls 21 (.aload_n 0) 1 22 := ⟨by decide +kernel, rfl⟩
theorem d_X12_falls_22 : gD cX12_falls 22 (.iload_n 3) 1 23 := ⟨by decide +kernel, rfl⟩
theorem d_X12_falls_23 : gD cX12_falls 23 (.invokevirtual 303) 3 26 := ⟨by decide +kernel, rfl⟩
theorem d_X12_falls_26 : gD cX12_falls 26 (.ifCond .ne 5) 3 29 ∧ ((26 : Nat) : Int) + 5 = ((31 : Nat) : Int) := ⟨⟨by decide +kernel, rfl⟩, by decide⟩
theorem d_X12_falls_29 : gD cX12_falls 29 (.iconst (-1)) 1 30 := ⟨by decide +kernel, rfl⟩
theorem d_X12_falls_30 : gD cX12_falls 30 (.ireturn) 1 31 := ⟨by decide +kernel, rfl⟩
theorem d_X12_falls_31 : gD cX12_falls 31 (.iconst 0) 1 32 := ⟨by decide +kernel, rfl⟩
theorem d_X12_falls_32 : gD cX12_falls 32 (.istore 4) 2 34 := ⟨by decide +kernel, rfl⟩
theorem d_X12_falls_34 : gD cX12_falls 34 (.iload 4) 2 36 := ⟨by decide +kernel, rfl⟩
theorem d_X12_falls_36 : gD cX12_falls 36 (.aload_n 0) 1 37 := ⟨by decide +kernel, rfl⟩
theorem d_X12_falls_37 : gD cX12_falls 37 (.invokevirtual 418) 3 40 := ⟨by decide +kernel, rfl⟩
theorem d_X12_falls_40 : gD cX12_falls 40 (.if_icmp .ge 32) 3 43 ∧ ((40 : Nat) : Int) + 32 = ((72 : Nat) : Int) := ⟨⟨by decide +kernel, rfl⟩, by decide⟩
theorem d_X12_falls_43 : gD cX12_falls 43 (.aload_n 0) 1 44 := ⟨by decide +kernel, rfl⟩
theorem d_X12_falls_44 : gD cX12_falls 44 (.iload_n 3) 1 45 := ⟨by decide +kernel, rfl⟩
theorem d_X12_falls_45 : gD cX12_falls 45 (.aload_n 0) 1 46 := ⟨by decide +kernel, rfl⟩
theorem d_X12_falls_46 : gD cX12_falls 46 (.iload_n 3) 1 47 := ⟨by decide +kernel, rfl⟩
theorem d_X12_falls_47 : gD cX12_falls 47 (.iconst 1) 1 48 := ⟨by decide +kernel, rfl⟩
theorem d_X12_falls_48 : gD cX12_falls 48 (.invokevirtual 306) 3 51 := ⟨by decide +kernel, rfl⟩
theorem d_X12_falls_51 : gD cX12_falls 51 (.aload_n 0) 1 52 := ⟨by decide +kernel, rfl⟩
theorem d_X12_falls_52 : gD cX12_falls 52 (.iload 4) 2 54 := ⟨by decide +kernel, rfl⟩
theorem d_X12_falls_54 : gD cX12_falls 54 (.invokevirtual 421) 3 57 := ⟨by decide +kernel, rfl⟩
theorem d_X12_falls_57 : gD cX12_falls 57 (.invokevirtual 424) 3 60 := ⟨by decide +kernel, rfl⟩
theorem d_X12_falls_60 : gD cX12_falls 60 (.ifCond .ne 6) 3 63 ∧ ((60 : Nat) : Int) + 6 = ((66 : Nat) : Int) := ⟨⟨by decide +kernel, rfl⟩, by decide⟩
theorem d_X12_falls_63 : gD cX12_falls 63 (.iload 4) 2 65 := ⟨by decide +kernel, rfl⟩
theorem d_X12_falls_65 : gD cX12_falls 65 (.ireturn) 1 66 := ⟨by decide +kernel, rfl⟩
theorem d_X12_falls_66 : gD cX12_falls 66 (.iinc 4 1) 3 69 := ⟨by decide +kernel, rfl⟩
theorem d_X12_falls_69 : decode cX12_falls 69 = .ok (.goto (-35), 3) ∧ ((69 : Nat) : Int) + (-35) = ((34 : Nat) : Int) := ⟨by decide +kernel, by decide⟩
theorem d_X12_falls_72 : gD cX12_falls 72 (.iconst (-1)) 1 73 := ⟨by decide +kernel, rfl⟩
theorem d_X12_falls_73 : gD cX12_falls 73 (.ireturn) 1 74 := ⟨by decide +kernel, rfl⟩
abbrev rm_X12_falls : Room := { frames := 4, cells := 0, slots := 0, locals := 89 }
set_option maxRecDepth 20000 in
theorem w_X12_falls_34 {Γ : GC} {E : GE} (hO : gOk Γ E cX12_falls RX12 5 rm_X12_falls (some .int) "falls") (o : Nat) : ∀ (n : Nat) (x3 : Int32) (x4 : Int32) (S : GS), Go Γ E (gBsI Γ E) 5 (0, 0) 34 S [(0, vA (some o)), (3, vI x3), (4, vI x4)] [] (f_X12_falls_34 o n x3 x4 S) := by
  intro n
  induction n with
  | zero =>
    intro x3 x4 S
    exact g_none
  | succ n ih =>
    intro x3 x4 S
    rw [f_X12_falls_34]
    refine g_iload hO d_X12_falls_34 2 rfl ?_
    refine g_aload_n hO d_X12_falls_36 (by rfl) 0 rfl ?_
    refine k_virtIp hO cl_X12 mm_X12_marks lkV_X12_418 ⟨⟨Nat.le_of_ble_eq_true rfl, Nat.le_of_ble_eq_true rfl⟩, Nat.le_of_ble_eq_true rfl, Nat.le_of_ble_eq_true rfl⟩ (kn' := (0, 0)) rfl (As := []) rfl (Nat.le_of_ble_eq_true rfl) (fun o' _ => t_X12_marks Γ.2.1 E o' S) d_X12_falls_37 rfl (fun v1 => ?_)
    refine g_ic_ge (tgt := 72) hO d_X12_falls_40.1 d_X12_falls_40.2 (fun _ => ?_) (fun _ => ?_)
    · skip
      refine g_iconst hO (-1) d_X12_falls_72 (by decide) ?_
      exact g_ret hO rfl rfl ⟨Nat.le_of_ble_eq_true rfl, Nat.le_of_ble_eq_true rfl⟩ rfl rfl d_X12_falls_73.1
    · skip
      refine g_aload_n hO d_X12_falls_43 (by rfl) 0 rfl ?_
      refine g_iload_n hO d_X12_falls_44 (by rfl) 1 rfl ?_
      refine g_aload_n hO d_X12_falls_45 (by rfl) 0 rfl ?_
      refine g_iload_n hO d_X12_falls_46 (by rfl) 1 rfl ?_
      refine g_iconst hO 1 d_X12_falls_47 (by decide) ?_
      refine k_virtIp hO cl_X12 mm_X12_ofLady lkV_X12_306 ⟨⟨Nat.le_of_ble_eq_true rfl, Nat.le_of_ble_eq_true rfl⟩, Nat.le_of_ble_eq_true rfl, Nat.le_of_ble_eq_true rfl⟩ (kn' := (0, 0)) rfl (As := [vI x3, vI 1]) rfl (Nat.le_of_ble_eq_true rfl) (fun o' _ => t_X12_ofLady Γ.2.1 E o' x3 1 S) d_X12_falls_48 rfl (fun v3 => ?_)
      refine g_aload_n hO d_X12_falls_51 (by rfl) 0 rfl ?_
      refine g_iload hO d_X12_falls_52 2 rfl ?_
      refine k_virtIp hO cl_X12 mm_X12_markOf lkV_X12_421 ⟨⟨Nat.le_of_ble_eq_true rfl, Nat.le_of_ble_eq_true rfl⟩, Nat.le_of_ble_eq_true rfl, Nat.le_of_ble_eq_true rfl⟩ (kn' := (0, 0)) rfl (As := [vI x4]) rfl (Nat.le_of_ble_eq_true rfl) (fun o' _ => t_X12_markOf Γ.2.1 E o' x4 S) d_X12_falls_54 rfl (fun v5 => ?_)
      refine k_virtIp hO cl_X12 mm_X12_stands lkV_X12_424 ⟨⟨Nat.le_of_ble_eq_true rfl, Nat.le_of_ble_eq_true rfl⟩, Nat.le_of_ble_eq_true rfl, Nat.le_of_ble_eq_true rfl⟩ (kn' := (0, 0)) rfl (As := [vI x3, vI v3, vI v5]) rfl (Nat.le_of_ble_eq_true rfl) (fun o' _ => t_X12_stands Γ.2.1 E o' x3 v3 v5 S) d_X12_falls_57 rfl (fun v7 => ?_)
      refine g_if_ne (tgt := 66) hO d_X12_falls_60.1 d_X12_falls_60.2 (fun _ => ?_) (fun _ => ?_)
      · skip
        refine g_iload hO d_X12_falls_63 2 rfl ?_
        exact g_ret hO rfl rfl ⟨Nat.le_of_ble_eq_true rfl, Nat.le_of_ble_eq_true rfl⟩ rfl rfl d_X12_falls_65.1
      · skip
        refine g_iinc (lv' := [(4, vI (x4 + 1)), (0, vA (some o)), (3, vI x3)]) hO 1 d_X12_falls_66 (by decide) 2 rfl (by decide) rfl ?_
        refine g_goto (tgt := 34) hO d_X12_falls_69.1 d_X12_falls_69.2 ?_
        exact g_sub [1, 2, 0] rfl (ih _ _ _)
set_option maxRecDepth 20000 in
theorem w_X12_falls {Γ : GC} {E : GE} (hO : gOk Γ E cX12_falls RX12 5 rm_X12_falls (some .int) "falls") (o : Nat) (x1 : Int32) (x2 : Int32) (x3 : Int32) (S : GS) : Go Γ E (gBsI Γ E) 5 (0, 0) 0 S [(0, vA (some o)), (1, vI x1), (2, vI x2), (3, vI x3)] [] (f_X12_falls o x1 x2 x3 S) := by
  unfold f_X12_falls
  refine g_aload_n hO d_X12_falls_0 (by rfl) 0 rfl ?_
  refine g_iconst hO 0 d_X12_falls_1 (by decide) ?_
  refine h_putI hO cl_X12 0 rfl rfl wf_X12_100 (Or.inl rfl) d_X12_falls_2 (fun S1 => ?_)
  refine g_aload_n hO d_X12_falls_5 (by rfl) 0 rfl ?_
  refine g_iload_n hO d_X12_falls_6 (by rfl) 2 rfl ?_
  refine k_virtIs hO cl_X12 mm_X12_hasForecast lkV_X12_415 ⟨⟨Nat.le_of_ble_eq_true rfl, Nat.le_of_ble_eq_true rfl⟩, Nat.le_of_ble_eq_true rfl, Nat.le_of_ble_eq_true rfl⟩ (kn' := (0, 0)) rfl (As := [vI x2]) rfl (Nat.le_of_ble_eq_true rfl) (fun o' _ => t_X12_hasForecast Γ.2.1 E o' x2 S1) d_X12_falls_7 rfl (fun v2 S3 => ?_)
  refine g_if_eq (tgt := 29) hO d_X12_falls_10.1 d_X12_falls_10.2 (fun _ => ?_) (fun _ => ?_)
  · skip
    refine g_iconst hO (-1) d_X12_falls_29 (by decide) ?_
    exact g_ret hO rfl rfl ⟨Nat.le_of_ble_eq_true rfl, Nat.le_of_ble_eq_true rfl⟩ rfl rfl d_X12_falls_30.1
  · skip
    refine g_aload_n hO d_X12_falls_13 (by rfl) 0 rfl ?_
    refine g_iload_n hO d_X12_falls_14 (by rfl) 1 rfl ?_
    refine k_virtIs hO cl_X12 mm_X12_hand lkV_X12_297 ⟨⟨Nat.le_of_ble_eq_true rfl, Nat.le_of_ble_eq_true rfl⟩, Nat.le_of_ble_eq_true rfl, Nat.le_of_ble_eq_true rfl⟩ (kn' := (0, 0)) rfl (As := [vI x1]) rfl (Nat.le_of_ble_eq_true rfl) (fun o' _ => t_X12_hand Γ.2.1 E o' x1 S3) d_X12_falls_15 rfl (fun v4 S5 => ?_)
    refine g_if_eq (tgt := 29) hO d_X12_falls_18.1 d_X12_falls_18.2 (fun _ => ?_) (fun _ => ?_)
    · skip
      refine g_iconst hO (-1) d_X12_falls_29 (by decide) ?_
      exact g_ret hO rfl rfl ⟨Nat.le_of_ble_eq_true rfl, Nat.le_of_ble_eq_true rfl⟩ rfl rfl d_X12_falls_30.1
    · skip
      refine g_aload_n hO d_X12_falls_21 (by rfl) 0 rfl ?_
      refine g_iload_n hO d_X12_falls_22 (by rfl) 3 rfl ?_
      refine k_virtIp hO cl_X12 mm_X12_isLady lkV_X12_303 ⟨⟨Nat.le_of_ble_eq_true rfl, Nat.le_of_ble_eq_true rfl⟩, Nat.le_of_ble_eq_true rfl, Nat.le_of_ble_eq_true rfl⟩ (kn' := (0, 0)) rfl (As := [vI x3]) rfl (Nat.le_of_ble_eq_true rfl) (fun o' _ => t_X12_isLady Γ.2.1 E o' x3 S5) d_X12_falls_23 rfl (fun v6 => ?_)
      refine g_if_ne (tgt := 31) hO d_X12_falls_26.1 d_X12_falls_26.2 (fun _ => ?_) (fun _ => ?_)
      · skip
        refine g_iconst hO (-1) d_X12_falls_29 (by decide) ?_
        exact g_ret hO rfl rfl ⟨Nat.le_of_ble_eq_true rfl, Nat.le_of_ble_eq_true rfl⟩ rfl rfl d_X12_falls_30.1
      · skip
        refine g_iconst hO 0 d_X12_falls_31 (by decide) ?_
        refine g_istore (lv' := [(4, vI 0), (0, vA (some o)), (1, vI x1), (2, vI x2), (3, vI x3)]) hO d_X12_falls_32 (by decide) rfl ?_
        exact g_sub [1, 4, 0] rfl (w_X12_falls_34 hO o _ _ _ _)
theorem t_X12_falls (l : Launch) (E : GE) (o : Nat) (x1 : Int32) (x2 : Int32) (x3 : Int32) (S : GS) : ∀ a, f_X12_falls o x1 x2 x3 S = some a → Ct l E yX12_falls cX12_falls 5 (some .int) rm_X12_falls [vA (some o), vI x1, vI x2, vI x3] S (some (vI a.1)) a.2 :=
  Ct_of (val := fun (b : Int32 × GS) => some (vI b.1)) (nxt := fun (b : Int32 × GS) => b.2) (by decide) (Nat.le_of_ble_eq_true rfl) (fun Γ hl hO => w_X12_falls hO o x1 x2 x3 S)
theorem d_X12_canHave_0 : gD cX12_canHave 0 (.aload_n 0) 1 1 := ⟨by decide +kernel, rfl⟩
theorem d_X12_canHave_1 : gD cX12_canHave 1 (.iload_n 1) 1 2 := ⟨by decide +kernel, rfl⟩
theorem d_X12_canHave_2 : gD cX12_canHave 2 (.iload_n 2) 1 3 := ⟨by decide +kernel, rfl⟩
theorem d_X12_canHave_3 : gD cX12_canHave 3 (.iload_n 3) 1 4 := ⟨by decide +kernel, rfl⟩
theorem d_X12_canHave_4 : gD cX12_canHave 4 (.invokevirtual 424) 3 7 := ⟨by decide +kernel, rfl⟩
theorem d_X12_canHave_7 : gD cX12_canHave 7 (.ifCond .eq 30) 3 10 ∧ ((7 : Nat) : Int) + 30 = ((37 : Nat) : Int) := ⟨⟨by decide +kernel, rfl⟩, by decide⟩
theorem d_X12_canHave_10 : gD cX12_canHave 10 (.iload 4) 2 12 := ⟨by decide +kernel, rfl⟩
theorem d_X12_canHave_12 : gD cX12_canHave 12 (.ifCond .eq 21) 3 15 ∧ ((12 : Nat) : Int) + 21 = ((33 : Nat) : Int) := ⟨⟨by decide +kernel, rfl⟩, by decide⟩
theorem d_X12_canHave_15 : gD cX12_canHave 15 (.iload_n 2) 1 16 := ⟨by decide +kernel, rfl⟩
theorem d_X12_canHave_16 : gD cX12_canHave 16 (.aload_n 0) 1 17 := ⟨by decide +kernel, rfl⟩
theorem d_X12_canHave_17 : gD cX12_canHave 17 (.iload_n 3) 1 18 := ⟨by decide +kernel, rfl⟩
theorem d_X12_canHave_18 : gD cX12_canHave 18 (.invokevirtual 300) 3 21 := ⟨by decide +kernel, rfl⟩
theorem d_X12_canHave_21 : gD cX12_canHave 21 (.isub) 1 22 := ⟨by decide +kernel, rfl⟩
theorem d_X12_canHave_22 : gD cX12_canHave 22 (.invokestatic 367) 3 25 := ⟨by decide +kernel, rfl⟩
theorem d_X12_canHave_25 : gD cX12_canHave 25 (.aload_n 0) 1 26 := ⟨by decide +kernel, rfl⟩
theorem d_X12_canHave_26 : gD cX12_canHave 26 (.iconst 3) 1 27 := ⟨by decide +kernel, rfl⟩
theorem d_X12_canHave_27 : gD cX12_canHave 27 (.invokevirtual 287) 3 30 := ⟨by decide +kernel, rfl⟩
theorem d_X12_canHave_30 : gD cX12_canHave 30 (.if_icmp .gt 7) 3 33 ∧ ((30 : Nat) : Int) + 7 = ((37 : Nat) : Int) := ⟨⟨by decide +kernel, rfl⟩, by decide⟩
theorem d_X12_canHave_33 : gD cX12_canHave 33 (.iconst 1) 1 34 := ⟨by decide +kernel, rfl⟩
theorem d_X12_canHave_34 : decode cX12_canHave 34 = .ok (.goto 4, 3) ∧ ((34 : Nat) : Int) + 4 = ((38 : Nat) : Int) := ⟨by decide +kernel, by decide⟩
theorem d_X12_canHave_37 : gD cX12_canHave 37 (.iconst 0) 1 38 := ⟨by decide +kernel, rfl⟩
theorem d_X12_canHave_38 : gD cX12_canHave 38 (.ireturn) 1 39 := ⟨by decide +kernel, rfl⟩
abbrev rm_X12_canHave : Room := { frames := 4, cells := 0, slots := 0, locals := 89 }
set_option maxRecDepth 20000 in
theorem w_X12_canHave_33 {Γ : GC} {E : GE} (hO : gOk Γ E cX12_canHave RX12 5 rm_X12_canHave (some .boolean) "canHave") (o : Nat) (S : GS) : Go Γ E (gBpI Γ E S) 5 (0, 0) 33 S [(0, vA (some o))] [] (f_X12_canHave_33 o S) := by
  unfold f_X12_canHave_33
  refine g_iconst hO 1 d_X12_canHave_33 (by decide) ?_
  refine g_goto (tgt := 38) hO d_X12_canHave_34.1 d_X12_canHave_34.2 ?_
  exact g_ret hO rfl rfl ⟨Nat.le_of_ble_eq_true rfl, Nat.le_of_ble_eq_true rfl⟩ rfl rfl d_X12_canHave_38.1
set_option maxRecDepth 20000 in
theorem w_X12_canHave {Γ : GC} {E : GE} (hO : gOk Γ E cX12_canHave RX12 5 rm_X12_canHave (some .boolean) "canHave") (o : Nat) (x1 : Int32) (x2 : Int32) (x3 : Int32) (x4 : Int32) (S : GS) : Go Γ E (gBpI Γ E S) 5 (0, 0) 0 S [(0, vA (some o)), (1, vI x1), (2, vI x2), (3, vI x3), (4, vI x4)] [] (f_X12_canHave o x1 x2 x3 x4 S) := by
  unfold f_X12_canHave
  refine g_aload_n hO d_X12_canHave_0 (by rfl) 0 rfl ?_
  refine g_iload_n hO d_X12_canHave_1 (by rfl) 1 rfl ?_
  refine g_iload_n hO d_X12_canHave_2 (by rfl) 2 rfl ?_
  refine g_iload_n hO d_X12_canHave_3 (by rfl) 3 rfl ?_
  refine k_virtIp hO cl_X12 mm_X12_stands lkV_X12_424 ⟨⟨Nat.le_of_ble_eq_true rfl, Nat.le_of_ble_eq_true rfl⟩, Nat.le_of_ble_eq_true rfl, Nat.le_of_ble_eq_true rfl⟩ (kn' := (0, 0)) rfl (As := [vI x1, vI x2, vI x3]) rfl (Nat.le_of_ble_eq_true rfl) (fun o' _ => t_X12_stands Γ.2.1 E o' x1 x2 x3 S) d_X12_canHave_4 rfl (fun v1 => ?_)
  refine g_if_eq (tgt := 37) hO d_X12_canHave_7.1 d_X12_canHave_7.2 (fun _ => ?_) (fun _ => ?_)
  · skip
    refine g_iconst hO 0 d_X12_canHave_37 (by decide) ?_
    exact g_ret hO rfl rfl ⟨Nat.le_of_ble_eq_true rfl, Nat.le_of_ble_eq_true rfl⟩ rfl rfl d_X12_canHave_38.1
  · skip
    refine g_iload hO d_X12_canHave_10 4 rfl ?_
    refine g_if_eq (tgt := 33) hO d_X12_canHave_12.1 d_X12_canHave_12.2 (fun _ => ?_) (fun _ => ?_)
    · skip
      exact g_sub [0] rfl (w_X12_canHave_33 hO o _)
    · skip
      refine g_iload_n hO d_X12_canHave_15 (by rfl) 2 rfl ?_
      refine g_aload_n hO d_X12_canHave_16 (by rfl) 0 rfl ?_
      refine g_iload_n hO d_X12_canHave_17 (by rfl) 3 rfl ?_
      refine k_virtIp hO cl_X12 mm_X12_properAt lkV_X12_300 ⟨⟨Nat.le_of_ble_eq_true rfl, Nat.le_of_ble_eq_true rfl⟩, Nat.le_of_ble_eq_true rfl, Nat.le_of_ble_eq_true rfl⟩ (kn' := (0, 0)) rfl (As := [vI x3]) rfl (Nat.le_of_ble_eq_true rfl) (fun o' _ => t_X12_properAt Γ.2.1 E o' x3 S) d_X12_canHave_18 rfl (fun v3 => ?_)
      refine g_isub hO d_X12_canHave_21 ?_
      refine k_statIp hO mm_X12_size lkS_X12_367 ⟨⟨Nat.le_of_ble_eq_true rfl, Nat.le_of_ble_eq_true rfl⟩, Nat.le_of_ble_eq_true rfl, Nat.le_of_ble_eq_true rfl⟩ (kn' := (0, 0)) rfl (As := [vI (x2 - v3)]) rfl (Nat.le_of_ble_eq_true rfl) (t_X12_size Γ.2.1 E (x2 - v3) S) d_X12_canHave_22 rfl (fun v5 => ?_)
      refine g_aload_n hO d_X12_canHave_25 (by rfl) 0 rfl ?_
      refine g_iconst hO 3 d_X12_canHave_26 (by decide) ?_
      refine k_virtIp hO cl_X12 mm_X12_ofCourt lkV_X12_287 ⟨⟨Nat.le_of_ble_eq_true rfl, Nat.le_of_ble_eq_true rfl⟩, Nat.le_of_ble_eq_true rfl, Nat.le_of_ble_eq_true rfl⟩ (kn' := (0, 0)) rfl (As := [vI 3]) rfl (Nat.le_of_ble_eq_true rfl) (fun o' _ => t_X12_ofCourt Γ.2.1 E o' 3 S) d_X12_canHave_27 rfl (fun v7 => ?_)
      refine g_ic_gt (tgt := 37) hO d_X12_canHave_30.1 d_X12_canHave_30.2 (fun _ => ?_) (fun _ => ?_)
      · skip
        refine g_iconst hO 0 d_X12_canHave_37 (by decide) ?_
        exact g_ret hO rfl rfl ⟨Nat.le_of_ble_eq_true rfl, Nat.le_of_ble_eq_true rfl⟩ rfl rfl d_X12_canHave_38.1
      · skip
        exact g_sub [0] rfl (w_X12_canHave_33 hO o _)
theorem t_X12_canHave (l : Launch) (E : GE) (o : Nat) (x1 : Int32) (x2 : Int32) (x3 : Int32) (x4 : Int32) (S : GS) : ∀ a, f_X12_canHave o x1 x2 x3 x4 S = some a → Ct l E yX12_canHave cX12_canHave 5 (some .boolean) rm_X12_canHave [vA (some o), vI x1, vI x2, vI x3, vI x4] S (some (vI a)) S :=
  Ct_of (val := fun b => some (vI b)) (nxt := fun _ => S) (by decide) (Nat.le_of_ble_eq_true rfl) (fun Γ hl hO => w_X12_canHave hO o x1 x2 x3 x4 S)
theorem d_X12_laceBy_0 : gD cX12_laceBy 0 (.iconst (-1)) 1 1 := ⟨by decide +kernel, rfl⟩
theorem d_X12_laceBy_1 : gD cX12_laceBy 1 (.istore 5) 2 3 := ⟨by decide +kernel, rfl⟩
theorem d_X12_laceBy_3 : gD cX12_laceBy 3 (.ldc_w 427) 3 6 := ⟨by decide +kernel, rfl⟩
theorem d_X12_laceBy_6 : gD cX12_laceBy 6 (.istore 6) 2 8 := ⟨by decide +kernel, rfl⟩
theorem d_X12_laceBy_8 : gD cX12_laceBy 8 (.iconst 0) 1 9 := ⟨by decide +kernel, rfl⟩
theorem d_X12_laceBy_9 : gD cX12_laceBy 9 (.istore 7) 2 11 := ⟨by decide +kernel, rfl⟩
theorem d_X12_laceBy_11 : gD cX12_laceBy 11 (.iload 7) 2 13 := ⟨by decide +kernel, rfl⟩
theorem d_X12_laceBy_13 : gD cX12_laceBy 13 (.bipush 31) 2 15 := ⟨by decide +kernel, rfl⟩
theorem d_X12_laceBy_15 : gD cX12_laceBy 15 (.if_icmp .ge 81) 3 18 ∧ ((15 : Nat) : Int) + 81 = ((96 : Nat) : Int) := ⟨⟨by decide +kernel, rfl⟩, by decide⟩
theorem d_X12_laceBy_18 : gD cX12_laceBy 18 (.aload_n 0) 1 19 := ⟨by decide +kernel, rfl⟩
theorem d_X12_laceBy_19 : gD cX12_laceBy 19 (.iload_n 1) 1 20 := ⟨by decide +kernel, rfl⟩
theorem d_X12_laceBy_20 : gD cX12_laceBy 20 (.iload 7) 2 22 := ⟨by decide +kernel, rfl⟩
theorem d_X12_laceBy_22 : gD cX12_laceBy 22 (.aload_n 0) 1 23 := ⟨by decide +kernel, rfl⟩
theorem d_X12_laceBy_23 : gD cX12_laceBy 23 (.iload_n 2) 1 24 := ⟨by decide +kernel, rfl⟩
theorem d_X12_laceBy_24 : gD cX12_laceBy 24 (.invokevirtual 421) 3 27 := ⟨by decide +kernel, rfl⟩
theorem d_X12_laceBy_27 : gD cX12_laceBy 27 (.iload 4) 2 29 := ⟨by decide +kernel, rfl⟩
theorem d_X12_laceBy_29 : gD cX12_laceBy 29 (.invokevirtual 428) 3 32 := ⟨by decide +kernel, rfl⟩
theorem d_X12_laceBy_32 : gD cX12_laceBy 32 (.ifCond .eq 28) 3 35 ∧ ((32 : Nat) : Int) + 28 = ((60 : Nat) : Int) := ⟨⟨by decide +kernel, rfl⟩, by decide⟩
theorem d_X12_laceBy_35 : gD cX12_laceBy 35 (.aload_n 0) 1 36 := ⟨by decide +kernel, rfl⟩
theorem d_X12_laceBy_36 : gD cX12_laceBy 36 (.getfield 68) 3 39 := ⟨by decide +kernel, rfl⟩
theorem d_X12_laceBy_39 : gD cX12_laceBy 39 (.bipush 31) 2 41 := ⟨by decide +kernel, rfl⟩
theorem d_X12_laceBy_41 : gD cX12_laceBy 41 (.iload_n 2) 1 42 := ⟨by decide +kernel, rfl⟩
theorem d_X12_laceBy_42 : gD cX12_laceBy 42 (.iconst 1) 1 43 := ⟨by decide +kernel, rfl⟩
theorem d_X12_laceBy_43 : gD cX12_laceBy 43 (.iadd) 1 44 := ⟨by decide +kernel, rfl⟩
theorem d_X12_laceBy_44 : gD cX12_laceBy 44 (.imul) 1 45 := ⟨by decide +kernel, rfl⟩
theorem d_X12_laceBy_45 : gD cX12_laceBy 45 (.iload 7) 2 47 := ⟨by decide +kernel, rfl⟩
theorem d_X12_laceBy_47 : gD cX12_laceBy 47 (.iadd) 1 48 := ⟨by decide +kernel, rfl⟩
theorem d_X12_laceBy_48 : gD cX12_laceBy 48 (.iaload) 1 49 := ⟨by decide +kernel, rfl⟩
theorem d_X12_laceBy_49 : gD cX12_laceBy 49 (.iload 7) 2 51 := ⟨by decide +kernel, rfl⟩
theorem d_X12_laceBy_51 : gD cX12_laceBy 51 (.iload_n 3) 1 52 := ⟨by decide +kernel, rfl⟩
theorem d_X12_laceBy_52 : gD cX12_laceBy 52 (.isub) 1 53 := ⟨by decide +kernel, rfl⟩
theorem d_X12_laceBy_53 : gD cX12_laceBy 53 (.invokestatic 367) 3 56 := ⟨by decide +kernel, rfl⟩
theorem d_X12_laceBy_56 : gD cX12_laceBy 56 (.iadd) 1 57 := ⟨by decide +kernel, rfl⟩
theorem d_X12_laceBy_57 : decode cX12_laceBy 57 = .ok (.goto 6, 3) ∧ ((57 : Nat) : Int) + 6 = ((63 : Nat) : Int) := ⟨by decide +kernel, by decide⟩
theorem d_X12_laceBy_60 : gD cX12_laceBy 60 (.ldc_w 427) 3 63 := ⟨by decide +kernel, rfl⟩
theorem d_X12_laceBy_63 : gD cX12_laceBy 63 (.istore 8) 2 65 := ⟨by decide +kernel, rfl⟩
theorem d_X12_laceBy_65 : gD cX12_laceBy 65 (.iload 8) 2 67 := ⟨by decide +kernel, rfl⟩
theorem d_X12_laceBy_67 : gD cX12_laceBy 67 (.iload 6) 2 69 := ⟨by decide +kernel, rfl⟩
theorem d_X12_laceBy_69 : gD cX12_laceBy 69 (.if_icmp .ge 8) 3 72 ∧ ((69 : Nat) : Int) + 8 = ((77 : Nat) : Int) := ⟨⟨by decide +kernel, rfl⟩, by decide⟩
theorem d_X12_laceBy_72 : gD cX12_laceBy 72 (.iload 7) 2 74 := ⟨by decide +kernel, rfl⟩
theorem d_X12_laceBy_74 : decode cX12_laceBy 74 = .ok (.goto 5, 3) ∧ ((74 : Nat) : Int) + 5 = ((79 : Nat) : Int) := ⟨by decide +kernel, by decide⟩
theorem d_X12_laceBy_77 : gD cX12_laceBy 77 (.iload 5) 2 79 := ⟨by decide +kernel, rfl⟩
theorem d_X12_laceBy_79 : gD cX12_laceBy 79 (.istore 5) 2 81 := ⟨by decide +kernel, rfl⟩
theorem d_X12_laceBy_81 : gD cX12_laceBy 81 (.iload 6) 2 83 := ⟨by decide +kernel, rfl⟩
theorem d_X12_laceBy_83 : gD cX12_laceBy 83 (.iload 8) 2 85 := ⟨by decide +kernel, rfl⟩
theorem d_X12_laceBy_85 : gD cX12_laceBy 85 (.invokestatic 364) 3 88 := ⟨by decide +kernel, rfl⟩
theorem d_X12_laceBy_88 : gD cX12_laceBy 88 (.istore 6) 2 90 := ⟨by decide +kernel, rfl⟩
theorem d_X12_laceBy_90 : gD cX12_laceBy 90 (.iinc 7 1) 3 93 := ⟨by decide +kernel, rfl⟩
theorem d_X12_laceBy_93 : decode cX12_laceBy 93 = .ok (.goto (-82), 3) ∧ ((93 : Nat) : Int) + (-82) = ((11 : Nat) : Int) := ⟨by decide +kernel, by decide⟩
theorem d_X12_laceBy_96 : gD cX12_laceBy 96 (.iload 5) 2 98 := ⟨by decide +kernel, rfl⟩
theorem d_X12_laceBy_98 : gD cX12_laceBy 98 (.ireturn) 1 99 := ⟨by decide +kernel, rfl⟩
abbrev rm_X12_laceBy : Room := { frames := 5, cells := 0, slots := 0, locals := 113 }
set_option maxRecDepth 20000 in
theorem w_X12_laceBy_79 {Γ : GC} {E : GE} (hO : gOk Γ E cX12_laceBy RX12 9 rm_X12_laceBy (some .int) "laceBy") (o : Nat) (S : GS) {k11 : (Int32 → Int32 → Int32 → Int32 → Int32 → Int32 → Int32 → Option Int32)} (hk11 : ∀ (z1 : Int32) (z2 : Int32) (z3 : Int32) (z4 : Int32) (z5 : Int32) (z6 : Int32) (z7 : Int32), Go Γ E (gBpI Γ E S) 9 (0, 0) 11 S [(0, vA (some o)), (1, vI z1), (2, vI z2), (3, vI z3), (4, vI z4), (5, vI z5), (6, vI z6), (7, vI z7)] [] (k11 z1 z2 z3 z4 z5 z6 z7)) (x1 : Int32) (x2 : Int32) (x3 : Int32) (x4 : Int32) (x6 : Int32) (x7 : Int32) (x8 : Int32) (y0 : Int32) : Go Γ E (gBpI Γ E S) 9 (0, 0) 79 S [(0, vA (some o)), (1, vI x1), (2, vI x2), (3, vI x3), (4, vI x4), (6, vI x6), (7, vI x7), (8, vI x8)] [vI y0] (f_X12_laceBy_79 k11 o S x1 x2 x3 x4 x6 x7 x8 y0) := by
  unfold f_X12_laceBy_79
  refine g_istore (lv' := [(5, vI y0), (0, vA (some o)), (1, vI x1), (2, vI x2), (3, vI x3), (4, vI x4), (6, vI x6), (7, vI x7), (8, vI x8)]) hO d_X12_laceBy_79 (by decide) rfl ?_
  refine g_iload hO d_X12_laceBy_81 6 rfl ?_
  refine g_iload hO d_X12_laceBy_83 8 rfl ?_
  refine k_statIp hO mm_X12_lesser lkS_X12_364 ⟨⟨Nat.le_of_ble_eq_true rfl, Nat.le_of_ble_eq_true rfl⟩, Nat.le_of_ble_eq_true rfl, Nat.le_of_ble_eq_true rfl⟩ (kn' := (0, 0)) rfl (As := [vI x6, vI x8]) rfl (Nat.le_of_ble_eq_true rfl) (t_X12_lesser Γ.2.1 E x6 x8 S) d_X12_laceBy_85 rfl (fun v1 => ?_)
  refine g_istore (lv' := [(6, vI v1), (5, vI y0), (0, vA (some o)), (1, vI x1), (2, vI x2), (3, vI x3), (4, vI x4), (7, vI x7), (8, vI x8)]) hO d_X12_laceBy_88 (by decide) rfl ?_
  refine g_iinc (lv' := [(7, vI (x7 + 1)), (6, vI v1), (5, vI y0), (0, vA (some o)), (1, vI x1), (2, vI x2), (3, vI x3), (4, vI x4), (8, vI x8)]) hO 1 d_X12_laceBy_90 (by decide) 7 rfl (by decide) rfl ?_
  refine g_goto (tgt := 11) hO d_X12_laceBy_93.1 d_X12_laceBy_93.2 ?_
  exact g_sub [3, 4, 5, 6, 7, 2, 1, 0] rfl (hk11 _ _ _ _ _ _ _)
set_option maxRecDepth 20000 in
theorem w_X12_laceBy_63 {Γ : GC} {E : GE} (hO : gOk Γ E cX12_laceBy RX12 9 rm_X12_laceBy (some .int) "laceBy") (o : Nat) (S : GS) {k11 : (Int32 → Int32 → Int32 → Int32 → Int32 → Int32 → Int32 → Option Int32)} (hk11 : ∀ (z1 : Int32) (z2 : Int32) (z3 : Int32) (z4 : Int32) (z5 : Int32) (z6 : Int32) (z7 : Int32), Go Γ E (gBpI Γ E S) 9 (0, 0) 11 S [(0, vA (some o)), (1, vI z1), (2, vI z2), (3, vI z3), (4, vI z4), (5, vI z5), (6, vI z6), (7, vI z7)] [] (k11 z1 z2 z3 z4 z5 z6 z7)) (x1 : Int32) (x2 : Int32) (x3 : Int32) (x4 : Int32) (x5 : Int32) (x6 : Int32) (x7 : Int32) (y0 : Int32) : Go Γ E (gBpI Γ E S) 9 (0, 0) 63 S [(0, vA (some o)), (1, vI x1), (2, vI x2), (3, vI x3), (4, vI x4), (5, vI x5), (6, vI x6), (7, vI x7)] [vI y0] (f_X12_laceBy_63 k11 o S x1 x2 x3 x4 x5 x6 x7 y0) := by
  unfold f_X12_laceBy_63
  refine g_istore (lv' := [(8, vI y0), (0, vA (some o)), (1, vI x1), (2, vI x2), (3, vI x3), (4, vI x4), (5, vI x5), (6, vI x6), (7, vI x7)]) hO d_X12_laceBy_63 (by decide) rfl ?_
  refine g_iload hO d_X12_laceBy_65 0 rfl ?_
  refine g_iload hO d_X12_laceBy_67 7 rfl ?_
  refine g_ic_ge (tgt := 77) hO d_X12_laceBy_69.1 d_X12_laceBy_69.2 (fun _ => ?_) (fun _ => ?_)
  · skip
    refine g_iload hO d_X12_laceBy_77 6 rfl ?_
    exact g_sub [1, 2, 3, 4, 5, 7, 8, 0] rfl (w_X12_laceBy_79 hO o _ hk11 _ _ _ _ _ _ _ _)
  · skip
    refine g_iload hO d_X12_laceBy_72 8 rfl ?_
    refine g_goto (tgt := 79) hO d_X12_laceBy_74.1 d_X12_laceBy_74.2 ?_
    exact g_sub [1, 2, 3, 4, 5, 7, 8, 0] rfl (w_X12_laceBy_79 hO o _ hk11 _ _ _ _ _ _ _ _)
set_option maxRecDepth 20000 in
theorem w_X12_laceBy_11 {Γ : GC} {E : GE} (hO : gOk Γ E cX12_laceBy RX12 9 rm_X12_laceBy (some .int) "laceBy") (o : Nat) (S : GS) : ∀ (n : Nat) (x1 : Int32) (x2 : Int32) (x3 : Int32) (x4 : Int32) (x5 : Int32) (x6 : Int32) (x7 : Int32), Go Γ E (gBpI Γ E S) 9 (0, 0) 11 S [(0, vA (some o)), (1, vI x1), (2, vI x2), (3, vI x3), (4, vI x4), (5, vI x5), (6, vI x6), (7, vI x7)] [] (f_X12_laceBy_11 o S n x1 x2 x3 x4 x5 x6 x7) := by
  intro n
  induction n with
  | zero =>
    intro x1 x2 x3 x4 x5 x6 x7
    exact g_none
  | succ n ih =>
    intro x1 x2 x3 x4 x5 x6 x7
    rw [f_X12_laceBy_11]
    refine g_iload hO d_X12_laceBy_11 7 rfl ?_
    refine g_bipush hO 31 d_X12_laceBy_13 (by decide) ?_
    refine g_ic_ge (tgt := 96) hO d_X12_laceBy_15.1 d_X12_laceBy_15.2 (fun _ => ?_) (fun _ => ?_)
    · skip
      refine g_iload hO d_X12_laceBy_96 5 rfl ?_
      exact g_ret hO rfl rfl ⟨Nat.le_of_ble_eq_true rfl, Nat.le_of_ble_eq_true rfl⟩ rfl rfl d_X12_laceBy_98.1
    · skip
      refine g_aload_n hO d_X12_laceBy_18 (by rfl) 0 rfl ?_
      refine g_iload_n hO d_X12_laceBy_19 (by rfl) 1 rfl ?_
      refine g_iload hO d_X12_laceBy_20 7 rfl ?_
      refine g_aload_n hO d_X12_laceBy_22 (by rfl) 0 rfl ?_
      refine g_iload_n hO d_X12_laceBy_23 (by rfl) 2 rfl ?_
      refine k_virtIp hO cl_X12 mm_X12_markOf lkV_X12_421 ⟨⟨Nat.le_of_ble_eq_true rfl, Nat.le_of_ble_eq_true rfl⟩, Nat.le_of_ble_eq_true rfl, Nat.le_of_ble_eq_true rfl⟩ (kn' := (0, 0)) rfl (As := [vI x2]) rfl (Nat.le_of_ble_eq_true rfl) (fun o' _ => t_X12_markOf Γ.2.1 E o' x2 S) d_X12_laceBy_24 rfl (fun v1 => ?_)
      refine g_iload hO d_X12_laceBy_27 4 rfl ?_
      refine k_virtIp hO cl_X12 mm_X12_canHave lkV_X12_428 ⟨⟨Nat.le_of_ble_eq_true rfl, Nat.le_of_ble_eq_true rfl⟩, Nat.le_of_ble_eq_true rfl, Nat.le_of_ble_eq_true rfl⟩ (kn' := (0, 0)) rfl (As := [vI x1, vI x7, vI v1, vI x4]) rfl (Nat.le_of_ble_eq_true rfl) (fun o' _ => t_X12_canHave Γ.2.1 E o' x1 x7 v1 x4 S) d_X12_laceBy_29 rfl (fun v3 => ?_)
      refine g_if_eq (tgt := 60) hO d_X12_laceBy_32.1 d_X12_laceBy_32.2 (fun _ => ?_) (fun _ => ?_)
      · skip
        refine g_ldcw hO 1000000 d_X12_laceBy_60 wk_X12_427 ?_
        exact g_sub [0, 1, 2, 3, 4, 5, 6, 7] rfl (w_X12_laceBy_63 hO o _ ih _ _ _ _ _ _ _ _)
      · skip
        refine g_aload_n hO d_X12_laceBy_35 (by rfl) 0 rfl ?_
        refine h_getR hO cl_X12 46 rfl wf_X12_68 d_X12_laceBy_36 (fun v5 => ?_)
        refine g_bipush hO 31 d_X12_laceBy_39 (by decide) ?_
        refine g_iload_n hO d_X12_laceBy_41 (by rfl) 2 rfl ?_
        refine g_iconst hO 1 d_X12_laceBy_42 (by decide) ?_
        refine g_iadd hO d_X12_laceBy_43 ?_
        refine g_imul hO d_X12_laceBy_44 ?_
        refine g_iload hO d_X12_laceBy_45 7 rfl ?_
        refine g_iadd hO d_X12_laceBy_47 ?_
        refine h_iald hO d_X12_laceBy_48 (fun v6 => ?_)
        refine g_iload hO d_X12_laceBy_49 7 rfl ?_
        refine g_iload_n hO d_X12_laceBy_51 (by rfl) 3 rfl ?_
        refine g_isub hO d_X12_laceBy_52 ?_
        refine k_statIp hO mm_X12_size lkS_X12_367 ⟨⟨Nat.le_of_ble_eq_true rfl, Nat.le_of_ble_eq_true rfl⟩, Nat.le_of_ble_eq_true rfl, Nat.le_of_ble_eq_true rfl⟩ (kn' := (0, 0)) rfl (As := [vI (x7 - x3)]) rfl (Nat.le_of_ble_eq_true rfl) (t_X12_size Γ.2.1 E (x7 - x3) S) d_X12_laceBy_53 rfl (fun v7 => ?_)
        refine g_iadd hO d_X12_laceBy_56 ?_
        refine g_goto (tgt := 63) hO d_X12_laceBy_57.1 d_X12_laceBy_57.2 ?_
        exact g_sub [0, 1, 2, 3, 4, 5, 6, 7] rfl (w_X12_laceBy_63 hO o _ ih _ _ _ _ _ _ _ _)
set_option maxRecDepth 20000 in
theorem w_X12_laceBy {Γ : GC} {E : GE} (hO : gOk Γ E cX12_laceBy RX12 9 rm_X12_laceBy (some .int) "laceBy") (o : Nat) (x1 : Int32) (x2 : Int32) (x3 : Int32) (x4 : Int32) (S : GS) : Go Γ E (gBpI Γ E S) 9 (0, 0) 0 S [(0, vA (some o)), (1, vI x1), (2, vI x2), (3, vI x3), (4, vI x4)] [] (f_X12_laceBy o x1 x2 x3 x4 S) := by
  unfold f_X12_laceBy
  refine g_iconst hO (-1) d_X12_laceBy_0 (by decide) ?_
  refine g_istore (lv' := [(5, vI (-1)), (0, vA (some o)), (1, vI x1), (2, vI x2), (3, vI x3), (4, vI x4)]) hO d_X12_laceBy_1 (by decide) rfl ?_
  refine g_ldcw hO 1000000 d_X12_laceBy_3 wk_X12_427 ?_
  refine g_istore (lv' := [(6, vI 1000000), (5, vI (-1)), (0, vA (some o)), (1, vI x1), (2, vI x2), (3, vI x3), (4, vI x4)]) hO d_X12_laceBy_6 (by decide) rfl ?_
  refine g_iconst hO 0 d_X12_laceBy_8 (by decide) ?_
  refine g_istore (lv' := [(7, vI 0), (6, vI 1000000), (5, vI (-1)), (0, vA (some o)), (1, vI x1), (2, vI x2), (3, vI x3), (4, vI x4)]) hO d_X12_laceBy_9 (by decide) rfl ?_
  exact g_sub [3, 4, 5, 6, 7, 2, 1, 0] rfl (w_X12_laceBy_11 hO o _ _ _ _ _ _ _ _ _)
theorem t_X12_laceBy (l : Launch) (E : GE) (o : Nat) (x1 : Int32) (x2 : Int32) (x3 : Int32) (x4 : Int32) (S : GS) : ∀ a, f_X12_laceBy o x1 x2 x3 x4 S = some a → Ct l E yX12_laceBy cX12_laceBy 9 (some .int) rm_X12_laceBy [vA (some o), vI x1, vI x2, vI x3, vI x4] S (some (vI a)) S :=
  Ct_of (val := fun b => some (vI b)) (nxt := fun _ => S) (by decide) (Nat.le_of_ble_eq_true rfl) (fun Γ hl hO => w_X12_laceBy hO o x1 x2 x3 x4 S)
theorem d_X12_findNeed_0 : gD cX12_findNeed 0 (.aload_n 0) 1 1 := ⟨by decide +kernel, rfl⟩
theorem d_X12_findNeed_1 : gD cX12_findNeed 1 (.invokevirtual 418) 3 4 := ⟨by decide +kernel, rfl⟩
theorem d_X12_findNeed_4 : gD cX12_findNeed 4 (.istore_n 3) 1 5 := ⟨by decide +kernel, rfl⟩
theorem d_X12_findNeed_5 : gD cX12_findNeed 5 (.iconst 0) 1 6 := ⟨by decide +kernel, rfl⟩
theorem d_X12_findNeed_6 : gD cX12_findNeed 6 (.istore 4) 2 8 := ⟨by decide +kernel, rfl⟩
theorem d_X12_findNeed_8 : gD cX12_findNeed 8 (.iload 4) 2 10 := ⟨by decide +kernel, rfl⟩
theorem d_X12_findNeed_10 : gD cX12_findNeed 10 (.bipush 31) 2 12 := ⟨by decide +kernel, rfl⟩
theorem d_X12_findNeed_12 : gD cX12_findNeed 12 (.if_icmp .ge 22) 3 15 ∧ ((12 : Nat) : Int) + 22 = ((34 : Nat) : Int) := ⟨⟨by decide +kernel, rfl⟩, by decide⟩
theorem d_X12_findNeed_15 : gD cX12_findNeed 15 (.aload_n 0) 1 16 := ⟨by decide +kernel, rfl⟩
theorem d_X12_findNeed_16 : gD cX12_findNeed 16 (.getfield 68) 3 19 := ⟨by decide +kernel, rfl⟩
theorem d_X12_findNeed_19 : gD cX12_findNeed 19 (.bipush 31) 2 21 := ⟨by decide +kernel, rfl⟩
theorem d_X12_findNeed_21 : gD cX12_findNeed 21 (.iload_n 3) 1 22 := ⟨by decide +kernel, rfl⟩
theorem d_X12_findNeed_22 : gD cX12_findNeed 22 (.imul) 1 23 := ⟨by decide +kernel, rfl⟩
theorem d_X12_findNeed_23 : gD cX12_findNeed 23 (.iload 4) 2 25 := ⟨by decide +kernel, rfl⟩
theorem d_X12_findNeed_25 : gD cX12_findNeed 25 (.iadd) 1 26 := ⟨by decide +kernel, rfl⟩
theorem d_X12_findNeed_26 : gD cX12_findNeed 26 (.iconst 0) 1 27 := ⟨by decide +kernel, rfl⟩
theorem d_X12_findNeed_27 : gD cX12_findNeed 27 (.iastore) 1 28 := ⟨by decide +kernel, rfl⟩
theorem d_X12_findNeed_28 : gD cX12_findNeed 28 (.iinc 4 1) 3 31 := ⟨by decide +kernel, rfl⟩
theorem d_X12_findNeed_31 : decode cX12_findNeed 31 = .ok (.goto (-23), 3) ∧ ((31 : Nat) : Int) + (-23) = ((8 : Nat) : Int) := ⟨by decide +kernel, by decide⟩
theorem d_X12_findNeed_34 : gD cX12_findNeed 34 (.iload_n 3) 1 35 := ⟨by decide +kernel, rfl⟩
theorem d_X12_findNeed_35 : gD cX12_findNeed 35 (.iconst 1) 1 36 := ⟨by decide +kernel, rfl⟩
theorem d_X12_findNeed_36 : gD cX12_findNeed 36 (.isub) 1 37 := ⟨by decide +kernel, rfl⟩
theorem d_X12_findNeed_37 : gD cX12_findNeed 37 (.istore 4) 2 39 := ⟨by decide +kernel, rfl⟩
theorem d_X12_findNeed_39 : gD cX12_findNeed 39 (.iload 4) 2 41 := ⟨by decide +kernel, rfl⟩
theorem d_X12_findNeed_41 : gD cX12_findNeed 41 (.ifCond .lt 86) 3 44 ∧ ((41 : Nat) : Int) + 86 = ((127 : Nat) : Int) := ⟨⟨by decide +kernel, rfl⟩, by decide⟩
theorem d_X12_findNeed_44 : gD cX12_findNeed 44 (.iconst 0) 1 45 := ⟨by decide +kernel, rfl⟩
theorem d_X12_findNeed_45 : gD cX12_findNeed 45 (.istore 5) 2 47 := ⟨by decide +kernel, rfl⟩
theorem d_X12_findNeed_47 : gD cX12_findNeed 47 (.iload 5) 2 49 := ⟨by decide +kernel, rfl⟩
theorem d_X12_findNeed_49 : gD cX12_findNeed 49 (.bipush 31) 2 51 := ⟨by decide +kernel, rfl⟩
theorem d_X12_findNeed_51 : gD cX12_findNeed 51 (.if_icmp .ge 70) 3 54 ∧ ((51 : Nat) : Int) + 70 = ((121 : Nat) : Int) := ⟨⟨by decide +kernel, rfl⟩, by decide⟩
theorem d_X12_findNeed_54 : gD cX12_findNeed 54 (.aload_n 0) 1 55 := ⟨by decide +kernel, rfl⟩
theorem d_X12_findNeed_55 : gD cX12_findNeed 55 (.iload_n 1) 1 56 := ⟨by decide +kernel, rfl⟩
theorem d_X12_findNeed_56 : gD cX12_findNeed 56 (.iload 4) 2 58 := ⟨by decide +kernel, rfl⟩
theorem d_X12_findNeed_58 : gD cX12_findNeed 58 (.iload 5) 2 60 := ⟨by decide +kernel, rfl⟩
theorem d_X12_findNeed_60 : gD cX12_findNeed 60 (.iload_n 2) 1 61 := ⟨by decide +kernel, rfl⟩
theorem d_X12_findNeed_61 : gD cX12_findNeed 61 (.invokevirtual 432) 3 64 := ⟨by decide +kernel, rfl⟩
theorem d_X12_findNeed_64 : gD cX12_findNeed 64 (.istore 6) 2 66 := ⟨by decide +kernel, rfl⟩
theorem d_X12_findNeed_66 : gD cX12_findNeed 66 (.aload_n 0) 1 67 := ⟨by decide +kernel, rfl⟩
theorem d_X12_findNeed_67 : gD cX12_findNeed 67 (.getfield 68) 3 70 := ⟨by decide +kernel, rfl⟩
theorem d_X12_findNeed_70 : gD cX12_findNeed 70 (.bipush 31) 2 72 := ⟨by decide +kernel, rfl⟩
theorem d_X12_findNeed_72 : gD cX12_findNeed 72 (.iload 4) 2 74 := ⟨by decide +kernel, rfl⟩
theorem d_X12_findNeed_74 : gD cX12_findNeed 74 (.imul) 1 75 := ⟨by decide +kernel, rfl⟩
theorem d_X12_findNeed_75 : gD cX12_findNeed 75 (.iload 5) 2 77 := ⟨by decide +kernel, rfl⟩
theorem d_X12_findNeed_77 : gD cX12_findNeed 77 (.iadd) 1 78 := ⟨by decide +kernel, rfl⟩
theorem d_X12_findNeed_78 : gD cX12_findNeed 78 (.iload 6) 2 80 := ⟨by decide +kernel, rfl⟩
theorem d_X12_findNeed_80 : gD cX12_findNeed 80 (.iconst (-1)) 1 81 := ⟨by decide +kernel, rfl⟩
theorem d_X12_findNeed_81 : gD cX12_findNeed 81 (.if_icmp .ne 9) 3 84 ∧ ((81 : Nat) : Int) + 9 = ((90 : Nat) : Int) := ⟨⟨by decide +kernel, rfl⟩, by decide⟩
theorem d_X12_findNeed_84 : gD cX12_findNeed 84 (.ldc_w 427) 3 87 := ⟨by decide +kernel, rfl⟩
theorem d_X12_findNeed_87 : decode cX12_findNeed 87 = .ok (.goto 27, 3) ∧ ((87 : Nat) : Int) + 27 = ((114 : Nat) : Int) := ⟨by decide +kernel, by decide⟩
theorem d_X12_findNeed_90 : gD cX12_findNeed 90 (.aload_n 0) 1 91 := ⟨by decide +kernel, rfl⟩
theorem d_X12_findNeed_91 : gD cX12_findNeed 91 (.getfield 68) 3 94 := ⟨by decide +kernel, rfl⟩
theorem d_X12_findNeed_94 : gD cX12_findNeed 94 (.bipush 31) 2 96 := ⟨by decide +kernel, rfl⟩
theorem d_X12_findNeed_96 : gD cX12_findNeed 96 (.iload 4) 2 98 := ⟨by decide +kernel, rfl⟩
theorem d_X12_findNeed_98 : gD cX12_findNeed 98 (.iconst 1) 1 99 := ⟨by decide +kernel, rfl⟩
theorem d_X12_findNeed_99 : gD cX12_findNeed 99 (.iadd) 1 100 := ⟨by decide +kernel, rfl⟩
theorem d_X12_findNeed_100 : gD cX12_findNeed 100 (.imul) 1 101 := ⟨by decide +kernel, rfl⟩
theorem d_X12_findNeed_101 : gD cX12_findNeed 101 (.iload 6) 2 103 := ⟨by decide +kernel, rfl⟩
theorem d_X12_findNeed_103 : gD cX12_findNeed 103 (.iadd) 1 104 := ⟨by decide +kernel, rfl⟩
theorem d_X12_findNeed_104 : gD cX12_findNeed 104 (.iaload) 1 105 := ⟨by decide +kernel, rfl⟩
theorem d_X12_findNeed_105 : gD cX12_findNeed 105 (.iload 6) 2 107 := ⟨by decide +kernel, rfl⟩
theorem d_X12_findNeed_107 : gD cX12_findNeed 107 (.iload 5) 2 109 := ⟨by decide +kernel, rfl⟩
theorem d_X12_findNeed_109 : gD cX12_findNeed 109 (.isub) 1 110 := ⟨by decide +kernel, rfl⟩
theorem d_X12_findNeed_110 : gD cX12_findNeed 110 (.invokestatic 367) 3 113 := ⟨by decide +kernel, rfl⟩
theorem d_X12_findNeed_113 : gD cX12_findNeed 113 (.iadd) 1 114 := ⟨by decide +kernel, rfl⟩
theorem d_X12_findNeed_114 : gD cX12_findNeed 114 (.iastore) 1 115 := ⟨by decide +kernel, rfl⟩
theorem d_X12_findNeed_115 : gD cX12_findNeed 115 (.iinc 5 1) 3 118 := ⟨by decide +kernel, rfl⟩
theorem d_X12_findNeed_118 : decode cX12_findNeed 118 = .ok (.goto (-71), 3) ∧ ((118 : Nat) : Int) + (-71) = ((47 : Nat) : Int) := ⟨by decide +kernel, by decide⟩
theorem d_X12_findNeed_121 : gD cX12_findNeed 121 (.iinc 4 (-1)) 3 124 := ⟨by decide +kernel, rfl⟩
theorem d_X12_findNeed_124 : decode cX12_findNeed 124 = .ok (.goto (-85), 3) ∧ ((124 : Nat) : Int) + (-85) = ((39 : Nat) : Int) := ⟨by decide +kernel, by decide⟩
theorem d_X12_findNeed_127 : gD cX12_findNeed 127 (.return_) 1 128 := ⟨by decide +kernel, rfl⟩
abbrev rm_X12_findNeed : Room := { frames := 6, cells := 0, slots := 0, locals := 141 }
set_option maxRecDepth 20000 in
theorem w_X12_findNeed_114 {Γ : GC} {E : GE} (hO : gOk Γ E cX12_findNeed RX12 7 rm_X12_findNeed none "findNeed") (o : Nat) {k39 : (Int32 → Int32 → Int32 → GS → Option GS)} {k47 : (Int32 → Int32 → Int32 → Int32 → GS → Option GS)} (hk39 : ∀ (z1 : Int32) (z2 : Int32) (z4 : Int32) (S1 : GS), Go Γ E (gBsV Γ E) 7 (0, 0) 39 S1 [(0, vA (some o)), (1, vI z1), (2, vI z2), (4, vI z4)] [] (k39 z1 z2 z4 S1)) (hk47 : ∀ (z1 : Int32) (z2 : Int32) (z4 : Int32) (z5 : Int32) (S1 : GS), Go Γ E (gBsV Γ E) 7 (0, 0) 47 S1 [(0, vA (some o)), (1, vI z1), (2, vI z2), (4, vI z4), (5, vI z5)] [] (k47 z1 z2 z4 z5 S1)) (x1 : Int32) (x2 : Int32) (x4 : Int32) (x5 : Int32) (y0 : Option Nat) (y1 : Int32) (y2 : Int32) (S : GS) : Go Γ E (gBsV Γ E) 7 (0, 0) 114 S [(0, vA (some o)), (1, vI x1), (2, vI x2), (4, vI x4), (5, vI x5)] [vI y2, vI y1, vA y0] (f_X12_findNeed_114 k39 k47 o x1 x2 x4 x5 y0 y1 y2 S) := by
  unfold f_X12_findNeed_114
  refine h_iast hO d_X12_findNeed_114 (fun S1 => ?_)
  refine g_iinc (lv' := [(5, vI (x5 + 1)), (0, vA (some o)), (1, vI x1), (2, vI x2), (4, vI x4)]) hO 1 d_X12_findNeed_115 (by decide) 4 rfl (by decide) rfl ?_
  refine g_goto (tgt := 47) hO d_X12_findNeed_118.1 d_X12_findNeed_118.2 ?_
  exact g_sub [1, 2, 3, 4, 0] rfl (hk47 _ _ _ _ _)
set_option maxRecDepth 20000 in
theorem w_X12_findNeed_47 {Γ : GC} {E : GE} (hO : gOk Γ E cX12_findNeed RX12 7 rm_X12_findNeed none "findNeed") (o : Nat) {k39 : (Int32 → Int32 → Int32 → GS → Option GS)} (hk39 : ∀ (z1 : Int32) (z2 : Int32) (z4 : Int32) (S1 : GS), Go Γ E (gBsV Γ E) 7 (0, 0) 39 S1 [(0, vA (some o)), (1, vI z1), (2, vI z2), (4, vI z4)] [] (k39 z1 z2 z4 S1)) : ∀ (n : Nat) (x1 : Int32) (x2 : Int32) (x4 : Int32) (x5 : Int32) (S : GS), Go Γ E (gBsV Γ E) 7 (0, 0) 47 S [(0, vA (some o)), (1, vI x1), (2, vI x2), (4, vI x4), (5, vI x5)] [] (f_X12_findNeed_47 k39 o n x1 x2 x4 x5 S) := by
  intro n
  induction n with
  | zero =>
    intro x1 x2 x4 x5 S
    exact g_none
  | succ n ih =>
    intro x1 x2 x4 x5 S
    rw [f_X12_findNeed_47]
    refine g_iload hO d_X12_findNeed_47 4 rfl ?_
    refine g_bipush hO 31 d_X12_findNeed_49 (by decide) ?_
    refine g_ic_ge (tgt := 121) hO d_X12_findNeed_51.1 d_X12_findNeed_51.2 (fun _ => ?_) (fun _ => ?_)
    · skip
      refine g_iinc (lv' := [(4, vI (x4 + (-1))), (0, vA (some o)), (1, vI x1), (2, vI x2), (5, vI x5)]) hO (-1) d_X12_findNeed_121 (by decide) 3 rfl (by decide) rfl ?_
      refine g_goto (tgt := 39) hO d_X12_findNeed_124.1 d_X12_findNeed_124.2 ?_
      exact g_sub [1, 2, 3, 0] rfl (hk39 _ _ _ _)
    · skip
      refine g_aload_n hO d_X12_findNeed_54 (by rfl) 0 rfl ?_
      refine g_iload_n hO d_X12_findNeed_55 (by rfl) 1 rfl ?_
      refine g_iload hO d_X12_findNeed_56 3 rfl ?_
      refine g_iload hO d_X12_findNeed_58 4 rfl ?_
      refine g_iload_n hO d_X12_findNeed_60 (by rfl) 2 rfl ?_
      refine k_virtIp hO cl_X12 mm_X12_laceBy lkV_X12_432 ⟨⟨Nat.le_of_ble_eq_true rfl, Nat.le_of_ble_eq_true rfl⟩, Nat.le_of_ble_eq_true rfl, Nat.le_of_ble_eq_true rfl⟩ (kn' := (0, 0)) rfl (As := [vI x1, vI x4, vI x5, vI x2]) rfl (Nat.le_of_ble_eq_true rfl) (fun o' _ => t_X12_laceBy Γ.2.1 E o' x1 x4 x5 x2 S) d_X12_findNeed_61 rfl (fun v1 => ?_)
      refine g_istore (lv' := [(6, vI v1), (0, vA (some o)), (1, vI x1), (2, vI x2), (4, vI x4), (5, vI x5)]) hO d_X12_findNeed_64 (by decide) rfl ?_
      refine g_aload_n hO d_X12_findNeed_66 (by rfl) 1 rfl ?_
      refine h_getR hO cl_X12 46 rfl wf_X12_68 d_X12_findNeed_67 (fun v3 => ?_)
      refine g_bipush hO 31 d_X12_findNeed_70 (by decide) ?_
      refine g_iload hO d_X12_findNeed_72 4 rfl ?_
      refine g_imul hO d_X12_findNeed_74 ?_
      refine g_iload hO d_X12_findNeed_75 5 rfl ?_
      refine g_iadd hO d_X12_findNeed_77 ?_
      refine g_iload hO d_X12_findNeed_78 0 rfl ?_
      refine g_iconst hO (-1) d_X12_findNeed_80 (by decide) ?_
      refine g_ic_ne (tgt := 90) hO d_X12_findNeed_81.1 d_X12_findNeed_81.2 (fun _ => ?_) (fun _ => ?_)
      · skip
        refine g_ldcw hO 1000000 d_X12_findNeed_84 wk_X12_427 ?_
        refine g_goto (tgt := 114) hO d_X12_findNeed_87.1 d_X12_findNeed_87.2 ?_
        exact g_sub [1, 2, 3, 4, 5] rfl (w_X12_findNeed_114 hO o hk39 ih _ _ _ _ _ _ _ _)
      · skip
        refine g_aload_n hO d_X12_findNeed_90 (by rfl) 1 rfl ?_
        refine h_getR hO cl_X12 46 rfl wf_X12_68 d_X12_findNeed_91 (fun v4 => ?_)
        refine g_bipush hO 31 d_X12_findNeed_94 (by decide) ?_
        refine g_iload hO d_X12_findNeed_96 4 rfl ?_
        refine g_iconst hO 1 d_X12_findNeed_98 (by decide) ?_
        refine g_iadd hO d_X12_findNeed_99 ?_
        refine g_imul hO d_X12_findNeed_100 ?_
        refine g_iload hO d_X12_findNeed_101 0 rfl ?_
        refine g_iadd hO d_X12_findNeed_103 ?_
        refine h_iald hO d_X12_findNeed_104 (fun v5 => ?_)
        refine g_iload hO d_X12_findNeed_105 0 rfl ?_
        refine g_iload hO d_X12_findNeed_107 5 rfl ?_
        refine g_isub hO d_X12_findNeed_109 ?_
        refine k_statIp hO mm_X12_size lkS_X12_367 ⟨⟨Nat.le_of_ble_eq_true rfl, Nat.le_of_ble_eq_true rfl⟩, Nat.le_of_ble_eq_true rfl, Nat.le_of_ble_eq_true rfl⟩ (kn' := (0, 0)) rfl (As := [vI (v1 - x5)]) rfl (Nat.le_of_ble_eq_true rfl) (t_X12_size Γ.2.1 E (v1 - x5) S) d_X12_findNeed_110 rfl (fun v6 => ?_)
        refine g_iadd hO d_X12_findNeed_113 ?_
        exact g_sub [1, 2, 3, 4, 5] rfl (w_X12_findNeed_114 hO o hk39 ih _ _ _ _ _ _ _ _)
set_option maxRecDepth 20000 in
theorem w_X12_findNeed_39 {Γ : GC} {E : GE} (hO : gOk Γ E cX12_findNeed RX12 7 rm_X12_findNeed none "findNeed") (o : Nat) : ∀ (n : Nat) (x1 : Int32) (x2 : Int32) (x4 : Int32) (S : GS), Go Γ E (gBsV Γ E) 7 (0, 0) 39 S [(0, vA (some o)), (1, vI x1), (2, vI x2), (4, vI x4)] [] (f_X12_findNeed_39 o n x1 x2 x4 S) := by
  intro n
  induction n with
  | zero =>
    intro x1 x2 x4 S
    exact g_none
  | succ n ih =>
    intro x1 x2 x4 S
    rw [f_X12_findNeed_39]
    refine g_iload hO d_X12_findNeed_39 3 rfl ?_
    refine g_if_lt (tgt := 127) hO d_X12_findNeed_41.1 d_X12_findNeed_41.2 (fun _ => ?_) (fun _ => ?_)
    · skip
      exact g_vret hO rfl ⟨Nat.le_of_ble_eq_true rfl, Nat.le_of_ble_eq_true rfl⟩ rfl rfl d_X12_findNeed_127.1
    · skip
      refine g_iconst hO 0 d_X12_findNeed_44 (by decide) ?_
      refine g_istore (lv' := [(5, vI 0), (0, vA (some o)), (1, vI x1), (2, vI x2), (4, vI x4)]) hO d_X12_findNeed_45 (by decide) rfl ?_
      exact g_sub [1, 2, 3, 4, 0] rfl (w_X12_findNeed_47 hO o ih _ _ _ _ _ _)
set_option maxRecDepth 20000 in
theorem w_X12_findNeed_8 {Γ : GC} {E : GE} (hO : gOk Γ E cX12_findNeed RX12 7 rm_X12_findNeed none "findNeed") (o : Nat) : ∀ (n : Nat) (x1 : Int32) (x2 : Int32) (x3 : Int32) (x4 : Int32) (S : GS), Go Γ E (gBsV Γ E) 7 (0, 0) 8 S [(0, vA (some o)), (1, vI x1), (2, vI x2), (3, vI x3), (4, vI x4)] [] (f_X12_findNeed_8 o n x1 x2 x3 x4 S) := by
  intro n
  induction n with
  | zero =>
    intro x1 x2 x3 x4 S
    exact g_none
  | succ n ih =>
    intro x1 x2 x3 x4 S
    rw [f_X12_findNeed_8]
    refine g_iload hO d_X12_findNeed_8 4 rfl ?_
    refine g_bipush hO 31 d_X12_findNeed_10 (by decide) ?_
    refine g_ic_ge (tgt := 34) hO d_X12_findNeed_12.1 d_X12_findNeed_12.2 (fun _ => ?_) (fun _ => ?_)
    · skip
      refine g_iload_n hO d_X12_findNeed_34 (by rfl) 3 rfl ?_
      refine g_iconst hO 1 d_X12_findNeed_35 (by decide) ?_
      refine g_isub hO d_X12_findNeed_36 ?_
      refine g_istore (lv' := [(4, vI (x3 - 1)), (0, vA (some o)), (1, vI x1), (2, vI x2), (3, vI x3)]) hO d_X12_findNeed_37 (by decide) rfl ?_
      exact g_sub [1, 2, 3, 0] rfl (w_X12_findNeed_39 hO o _ _ _ _ _)
    · skip
      refine g_aload_n hO d_X12_findNeed_15 (by rfl) 0 rfl ?_
      refine h_getR hO cl_X12 46 rfl wf_X12_68 d_X12_findNeed_16 (fun v1 => ?_)
      refine g_bipush hO 31 d_X12_findNeed_19 (by decide) ?_
      refine g_iload_n hO d_X12_findNeed_21 (by rfl) 3 rfl ?_
      refine g_imul hO d_X12_findNeed_22 ?_
      refine g_iload hO d_X12_findNeed_23 4 rfl ?_
      refine g_iadd hO d_X12_findNeed_25 ?_
      refine g_iconst hO 0 d_X12_findNeed_26 (by decide) ?_
      refine h_iast hO d_X12_findNeed_27 (fun S2 => ?_)
      refine g_iinc (lv' := [(4, vI (x4 + 1)), (0, vA (some o)), (1, vI x1), (2, vI x2), (3, vI x3)]) hO 1 d_X12_findNeed_28 (by decide) 4 rfl (by decide) rfl ?_
      refine g_goto (tgt := 8) hO d_X12_findNeed_31.1 d_X12_findNeed_31.2 ?_
      exact g_sub [1, 2, 3, 4, 0] rfl (ih _ _ _ _ _)
set_option maxRecDepth 20000 in
theorem w_X12_findNeed {Γ : GC} {E : GE} (hO : gOk Γ E cX12_findNeed RX12 7 rm_X12_findNeed none "findNeed") (o : Nat) (x1 : Int32) (x2 : Int32) (S : GS) : Go Γ E (gBsV Γ E) 7 (0, 0) 0 S [(0, vA (some o)), (1, vI x1), (2, vI x2)] [] (f_X12_findNeed o x1 x2 S) := by
  unfold f_X12_findNeed
  refine g_aload_n hO d_X12_findNeed_0 (by rfl) 0 rfl ?_
  refine k_virtIp hO cl_X12 mm_X12_marks lkV_X12_418 ⟨⟨Nat.le_of_ble_eq_true rfl, Nat.le_of_ble_eq_true rfl⟩, Nat.le_of_ble_eq_true rfl, Nat.le_of_ble_eq_true rfl⟩ (kn' := (0, 0)) rfl (As := []) rfl (Nat.le_of_ble_eq_true rfl) (fun o' _ => t_X12_marks Γ.2.1 E o' S) d_X12_findNeed_1 rfl (fun v1 => ?_)
  refine g_istore_n (lv' := [(3, vI v1), (0, vA (some o)), (1, vI x1), (2, vI x2)]) hO d_X12_findNeed_4 (by rfl) (by decide) rfl ?_
  refine g_iconst hO 0 d_X12_findNeed_5 (by decide) ?_
  refine g_istore (lv' := [(4, vI 0), (3, vI v1), (0, vA (some o)), (1, vI x1), (2, vI x2)]) hO d_X12_findNeed_6 (by decide) rfl ?_
  exact g_sub [2, 3, 4, 1, 0] rfl (w_X12_findNeed_8 hO o _ _ _ _ _ _)
theorem t_X12_findNeed (l : Launch) (E : GE) (o : Nat) (x1 : Int32) (x2 : Int32) (S : GS) : ∀ a, f_X12_findNeed o x1 x2 S = some a → Ct l E yX12_findNeed cX12_findNeed 7 none rm_X12_findNeed [vA (some o), vI x1, vI x2] S none a :=
  Ct_of (val := fun _ => none) (nxt := fun b => b) (by decide) (Nat.le_of_ble_eq_true rfl) (fun Γ hl hO => w_X12_findNeed hO o x1 x2 S)
theorem d_X12_knotsOf_0 : gD cX12_knotsOf 0 (.aload_n 0) 1 1 := ⟨by decide +kernel, rfl⟩
theorem d_X12_knotsOf_1 : gD cX12_knotsOf 1 (.iload_n 1) 1 2 := ⟨by decide +kernel, rfl⟩
theorem d_X12_knotsOf_2 : gD cX12_knotsOf 2 (.iload_n 2) 1 3 := ⟨by decide +kernel, rfl⟩
theorem d_X12_knotsOf_3 : gD cX12_knotsOf 3 (.invokevirtual 436) 3 6 := ⟨by decide +kernel, rfl⟩
theorem d_X12_knotsOf_6 : gD cX12_knotsOf 6 (.aload_n 0) 1 7 := ⟨by decide +kernel, rfl⟩
theorem d_X12_knotsOf_7 : gD cX12_knotsOf 7 (.getfield 68) 3 10 := ⟨by decide +kernel, rfl⟩
theorem d_X12_knotsOf_10 : gD cX12_knotsOf 10 (.aload_n 0) 1 11 := ⟨by decide +kernel, rfl⟩
theorem d_X12_knotsOf_11 : gD cX12_knotsOf 11 (.iload_n 1) 1 12 := ⟨by decide +kernel, rfl⟩
theorem d_X12_knotsOf_12 : gD cX12_knotsOf 12 (.iconst 1) 1 13 := ⟨by decide +kernel, rfl⟩
theorem d_X12_knotsOf_13 : gD cX12_knotsOf 13 (.invokevirtual 306) 3 16 := ⟨by decide +kernel, rfl⟩
theorem d_X12_knotsOf_16 : gD cX12_knotsOf 16 (.iaload) 1 17 := ⟨by decide +kernel, rfl⟩
theorem d_X12_knotsOf_17 : gD cX12_knotsOf 17 (.ireturn) 1 18 := ⟨by decide +kernel, rfl⟩
abbrev rm_X12_knotsOf : Room := { frames := 7, cells := 0, slots := 0, locals := 167 }
set_option maxRecDepth 20000 in
theorem w_X12_knotsOf {Γ : GC} {E : GE} (hO : gOk Γ E cX12_knotsOf RX12 3 rm_X12_knotsOf (some .int) "knotsOf") (o : Nat) (x1 : Int32) (x2 : Int32) (S : GS) : Go Γ E (gBsI Γ E) 3 (0, 0) 0 S [(0, vA (some o)), (1, vI x1), (2, vI x2)] [] (f_X12_knotsOf o x1 x2 S) := by
  unfold f_X12_knotsOf
  refine g_aload_n hO d_X12_knotsOf_0 (by rfl) 0 rfl ?_
  refine g_iload_n hO d_X12_knotsOf_1 (by rfl) 1 rfl ?_
  refine g_iload_n hO d_X12_knotsOf_2 (by rfl) 2 rfl ?_
  refine k_virtVs hO cl_X12 mm_X12_findNeed lkV_X12_436 ⟨⟨Nat.le_of_ble_eq_true rfl, Nat.le_of_ble_eq_true rfl⟩, Nat.le_of_ble_eq_true rfl, Nat.le_of_ble_eq_true rfl⟩ (kn' := (0, 0)) rfl (As := [vI x1, vI x2]) rfl (Nat.le_of_ble_eq_true rfl) (fun o' _ => t_X12_findNeed Γ.2.1 E o' x1 x2 S) d_X12_knotsOf_3 rfl (fun S2 => ?_)
  refine g_aload_n hO d_X12_knotsOf_6 (by rfl) 0 rfl ?_
  refine h_getR hO cl_X12 46 rfl wf_X12_68 d_X12_knotsOf_7 (fun v3 => ?_)
  refine g_aload_n hO d_X12_knotsOf_10 (by rfl) 0 rfl ?_
  refine g_iload_n hO d_X12_knotsOf_11 (by rfl) 1 rfl ?_
  refine g_iconst hO 1 d_X12_knotsOf_12 (by decide) ?_
  refine k_virtIp hO cl_X12 mm_X12_ofLady lkV_X12_306 ⟨⟨Nat.le_of_ble_eq_true rfl, Nat.le_of_ble_eq_true rfl⟩, Nat.le_of_ble_eq_true rfl, Nat.le_of_ble_eq_true rfl⟩ (kn' := (0, 0)) rfl (As := [vI x1, vI 1]) rfl (Nat.le_of_ble_eq_true rfl) (fun o' _ => t_X12_ofLady Γ.2.1 E o' x1 1 S2) d_X12_knotsOf_13 rfl (fun v4 => ?_)
  refine h_iald hO d_X12_knotsOf_16 (fun v6 => ?_)
  exact g_ret hO rfl rfl ⟨Nat.le_of_ble_eq_true rfl, Nat.le_of_ble_eq_true rfl⟩ rfl rfl d_X12_knotsOf_17.1
theorem t_X12_knotsOf (l : Launch) (E : GE) (o : Nat) (x1 : Int32) (x2 : Int32) (S : GS) : ∀ a, f_X12_knotsOf o x1 x2 S = some a → Ct l E yX12_knotsOf cX12_knotsOf 3 (some .int) rm_X12_knotsOf [vA (some o), vI x1, vI x2] S (some (vI a.1)) a.2 :=
  Ct_of (val := fun (b : Int32 × GS) => some (vI b.1)) (nxt := fun (b : Int32 × GS) => b.2) (by decide) (Nat.le_of_ble_eq_true rfl) (fun Γ hl hO => w_X12_knotsOf hO o x1 x2 S)
theorem d_X12_laced_0 : gD cX12_laced 0 (.aload_n 0) 1 1 := ⟨by decide +kernel, rfl⟩
theorem d_X12_laced_1 : gD cX12_laced 1 (.iconst 0) 1 2 := ⟨by decide +kernel, rfl⟩
theorem d_X12_laced_2 : gD cX12_laced 2 (.putfield 100) 3 5 := ⟨by decide +kernel, rfl⟩
theorem d_X12_laced_5 : gD cX12_laced 5 (.aload_n 0) 1 6 := ⟨by decide +kernel, rfl⟩
theorem d_X12_laced_6 : gD cX12_laced 6 (.iload_n 2) 1 7 := ⟨by decide +kernel, rfl⟩
theorem d_X12_laced_7 : gD cX12_laced 7 (.invokevirtual 415) 3 10 := ⟨by decide +kernel, rfl⟩
theorem d_X12_laced_10 : gD cX12_laced 10 (.ifCond .eq 19) 3 13 ∧ ((10 : Nat) : Int) + 19 = ((29 : Nat) : Int) := ⟨⟨by decide +kernel, rfl⟩, by decide⟩
theorem d_X12_laced_13 : gD cX12_laced 13 (.aload_n 0) 1 14 := ⟨by decide +kernel, rfl⟩
theorem d_X12_laced_14 : gD cX12_laced 14 (.iload_n 1) 1 15 := ⟨by decide +kernel, rfl⟩
theorem d_X12_laced_15 : gD cX12_laced 15 (.invokevirtual 297) 3 18 := ⟨by decide +kernel, rfl⟩
theorem d_X12_laced_18 : gD cX12_laced 18 (.ifCond .eq 11) 3 21 ∧ ((18 : Nat) : Int) + 11 = ((29 : Nat) : Int) := ⟨⟨by decide +kernel, rfl⟩, by decide⟩
theorem d_X12_laced_21 : gD cX12_laced 21 (.aload_n 0) 1 22 := ⟨by decide +kernel, rfl⟩
theorem d_X12_laced_22 : gD cX12_laced 22 (.iload_n 3) 1 23 := ⟨by decide +kernel, rfl⟩
theorem d_X12_laced_23 : gD cX12_laced 23 (.invokevirtual 303) 3 26 := ⟨by decide +kernel, rfl⟩
theorem d_X12_laced_26 : gD cX12_laced 26 (.ifCond .ne 5) 3 29 ∧ ((26 : Nat) : Int) + 5 = ((31 : Nat) : Int) := ⟨⟨by decide +kernel, rfl⟩, by decide⟩
theorem d_X12_laced_29 : gD cX12_laced 29 (.iconst (-1)) 1 30 := ⟨by decide +kernel, rfl⟩
theorem d_X12_laced_30 : gD cX12_laced 30 (.ireturn) 1 31 := ⟨by decide +kernel, rfl⟩
theorem d_X12_laced_31 : gD cX12_laced 31 (.aload_n 0) 1 32 := ⟨by decide +kernel, rfl⟩
theorem d_X12_laced_32 : gD cX12_laced 32 (.iload_n 3) 1 33 := ⟨by decide +kernel, rfl⟩
theorem d_X12_laced_33 : gD cX12_laced 33 (.iload 4) 2 35 := ⟨by decide +kernel, rfl⟩
theorem d_X12_laced_35 : gD cX12_laced 35 (.invokevirtual 440) 3 38 := ⟨by decide +kernel, rfl⟩
theorem d_X12_laced_38 : gD cX12_laced 38 (.istore 6) 2 40 := ⟨by decide +kernel, rfl⟩
theorem d_X12_laced_40 : gD cX12_laced 40 (.iload 6) 2 42 := ⟨by decide +kernel, rfl⟩
theorem d_X12_laced_42 : gD cX12_laced 42 (.ldc_w 427) 3 45 := ⟨by decide +kernel, rfl⟩
theorem d_X12_laced_45 : gD cX12_laced 45 (.if_icmp .ge 25) 3 48 ∧ ((45 : Nat) : Int) + 25 = ((70 : Nat) : Int) := ⟨⟨by decide +kernel, rfl⟩, by decide⟩
theorem d_X12_laced_48 : gD cX12_laced 48 (.iload 5) 2 50 := ⟨by decide +kernel, rfl⟩
theorem d_X12_laced_50 : gD cX12_laced 50 (.ifCond .eq 22) 3 53 ∧ ((50 : Nat) : Int) + 22 = ((72 : Nat) : Int) := ⟨⟨by decide +kernel, rfl⟩, by decide⟩
theorem d_X12_laced_53 : gD cX12_laced 53 (.iload 5) 2 55 := ⟨by decide +kernel, rfl⟩
theorem d_X12_laced_55 : gD cX12_laced 55 (.bipush 10) 2 57 := ⟨by decide +kernel, rfl⟩
theorem d_X12_laced_57 : gD cX12_laced 57 (.bipush 9) 2 59 := ⟨by decide +kernel, rfl⟩
theorem d_X12_laced_59 : gD cX12_laced 59 (.aload_n 0) 1 60 := ⟨by decide +kernel, rfl⟩
theorem d_X12_laced_60 : gD cX12_laced 60 (.invokevirtual 418) 3 63 := ⟨by decide +kernel, rfl⟩
theorem d_X12_laced_63 : gD cX12_laced 63 (.iadd) 1 64 := ⟨by decide +kernel, rfl⟩
theorem d_X12_laced_64 : gD cX12_laced 64 (.invokestatic 112) 3 67 := ⟨by decide +kernel, rfl⟩
theorem d_X12_laced_67 : gD cX12_laced 67 (.ifCond .ne 5) 3 70 ∧ ((67 : Nat) : Int) + 5 = ((72 : Nat) : Int) := ⟨⟨by decide +kernel, rfl⟩, by decide⟩
theorem d_X12_laced_70 : gD cX12_laced 70 (.iconst (-1)) 1 71 := ⟨by decide +kernel, rfl⟩
theorem d_X12_laced_71 : gD cX12_laced 71 (.ireturn) 1 72 := ⟨by decide +kernel, rfl⟩
theorem d_X12_laced_72 : gD cX12_laced 72 (.aload_n 0) 1 73 := ⟨by decide +kernel, rfl⟩
theorem d_X12_laced_73 : gD cX12_laced 73 (.iload_n 3) 1 74 := ⟨by decide +kernel, rfl⟩
theorem d_X12_laced_74 : gD cX12_laced 74 (.iconst 1) 1 75 := ⟨by decide +kernel, rfl⟩
theorem d_X12_laced_75 : gD cX12_laced 75 (.invokevirtual 306) 3 78 := ⟨by decide +kernel, rfl⟩
theorem d_X12_laced_78 : gD cX12_laced 78 (.istore 7) 2 80 := ⟨by decide +kernel, rfl⟩
theorem d_X12_laced_80 : gD cX12_laced 80 (.iconst 0) 1 81 := ⟨by decide +kernel, rfl⟩
theorem d_X12_laced_81 : gD cX12_laced 81 (.istore 8) 2 83 := ⟨by decide +kernel, rfl⟩
theorem d_X12_laced_83 : gD cX12_laced 83 (.iload 8) 2 85 := ⟨by decide +kernel, rfl⟩
theorem d_X12_laced_85 : gD cX12_laced 85 (.iload 5) 2 87 := ⟨by decide +kernel, rfl⟩
theorem d_X12_laced_87 : gD cX12_laced 87 (.bipush 10) 2 89 := ⟨by decide +kernel, rfl⟩
theorem d_X12_laced_89 : gD cX12_laced 89 (.isub) 1 90 := ⟨by decide +kernel, rfl⟩
theorem d_X12_laced_90 : gD cX12_laced 90 (.if_icmp .gt 22) 3 93 ∧ ((90 : Nat) : Int) + 22 = ((112 : Nat) : Int) := ⟨⟨by decide +kernel, rfl⟩, by decide⟩
theorem d_X12_laced_93 : gD cX12_laced 93 (.aload_n 0) 1 94 := ⟨by decide +kernel, rfl⟩
theorem d_X12_laced_94 : gD cX12_laced 94 (.iload_n 3) 1 95 := ⟨by decide +kernel, rfl⟩
theorem d_X12_laced_95 : gD cX12_laced 95 (.iload 8) 2 97 := ⟨by decide +kernel, rfl⟩
theorem d_X12_laced_97 : gD cX12_laced 97 (.iload 7) 2 99 := ⟨by decide +kernel, rfl⟩
theorem d_X12_laced_99 : gD cX12_laced 99 (.iload 4) 2 101 := ⟨by decide +kernel, rfl⟩
theorem d_X12_laced_101 : gD cX12_laced 101 (.invokevirtual 432) 3 104 := ⟨by decide +kernel, rfl⟩
theorem d_X12_laced_104 : gD cX12_laced 104 (.istore 7) 2 106 := ⟨by decide +kernel, rfl⟩
theorem d_X12_laced_106 : gD cX12_laced 106 (.iinc 8 1) 3 109 := ⟨by decide +kernel, rfl⟩
theorem d_X12_laced_109 : decode cX12_laced 109 = .ok (.goto (-26), 3) ∧ ((109 : Nat) : Int) + (-26) = ((83 : Nat) : Int) := ⟨by decide +kernel, by decide⟩
theorem d_X12_laced_112 : gD cX12_laced 112 (.iload 5) 2 114 := ⟨by decide +kernel, rfl⟩
theorem d_X12_laced_114 : gD cX12_laced 114 (.ifCond .ne 8) 3 117 ∧ ((114 : Nat) : Int) + 8 = ((122 : Nat) : Int) := ⟨⟨by decide +kernel, rfl⟩, by decide⟩
theorem d_X12_laced_117 : gD cX12_laced 117 (.iload 6) 2 119 := ⟨by decide +kernel, rfl⟩
theorem d_X12_laced_119 : decode cX12_laced 119 = .ok (.goto 5, 3) ∧ ((119 : Nat) : Int) + 5 = ((124 : Nat) : Int) := ⟨by decide +kernel, by decide⟩
theorem d_X12_laced_122 : gD cX12_laced 122 (.iload 7) 2 124 := ⟨by decide +kernel, rfl⟩
theorem d_X12_laced_124 : gD cX12_laced 124 (.ireturn) 1 125 := ⟨by decide +kernel, rfl⟩
abbrev rm_X12_laced : Room := { frames := 8, cells := 0, slots := 0, locals := 189 }
set_option maxRecDepth 20000 in
theorem w_X12_laced_83 {Γ : GC} {E : GE} (hO : gOk Γ E cX12_laced RX12 9 rm_X12_laced (some .int) "laced") (o : Nat) : ∀ (n : Nat) (x3 : Int32) (x4 : Int32) (x5 : Int32) (x6 : Int32) (x7 : Int32) (x8 : Int32) (S : GS), Go Γ E (gBsI Γ E) 9 (0, 0) 83 S [(0, vA (some o)), (3, vI x3), (4, vI x4), (5, vI x5), (6, vI x6), (7, vI x7), (8, vI x8)] [] (f_X12_laced_83 o n x3 x4 x5 x6 x7 x8 S) := by
  intro n
  induction n with
  | zero =>
    intro x3 x4 x5 x6 x7 x8 S
    exact g_none
  | succ n ih =>
    intro x3 x4 x5 x6 x7 x8 S
    rw [f_X12_laced_83]
    refine g_iload hO d_X12_laced_83 6 rfl ?_
    refine g_iload hO d_X12_laced_85 3 rfl ?_
    refine g_bipush hO 10 d_X12_laced_87 (by decide) ?_
    refine g_isub hO d_X12_laced_89 ?_
    refine g_ic_gt (tgt := 112) hO d_X12_laced_90.1 d_X12_laced_90.2 (fun _ => ?_) (fun _ => ?_)
    · skip
      refine g_iload hO d_X12_laced_112 3 rfl ?_
      refine g_if_ne (tgt := 122) hO d_X12_laced_114.1 d_X12_laced_114.2 (fun _ => ?_) (fun _ => ?_)
      · skip
        refine g_iload hO d_X12_laced_117 4 rfl ?_
        refine g_goto (tgt := 124) hO d_X12_laced_119.1 d_X12_laced_119.2 ?_
        exact g_ret hO rfl rfl ⟨Nat.le_of_ble_eq_true rfl, Nat.le_of_ble_eq_true rfl⟩ rfl rfl d_X12_laced_124.1
      · skip
        refine g_iload hO d_X12_laced_122 5 rfl ?_
        exact g_ret hO rfl rfl ⟨Nat.le_of_ble_eq_true rfl, Nat.le_of_ble_eq_true rfl⟩ rfl rfl d_X12_laced_124.1
    · skip
      refine g_aload_n hO d_X12_laced_93 (by rfl) 0 rfl ?_
      refine g_iload_n hO d_X12_laced_94 (by rfl) 1 rfl ?_
      refine g_iload hO d_X12_laced_95 6 rfl ?_
      refine g_iload hO d_X12_laced_97 5 rfl ?_
      refine g_iload hO d_X12_laced_99 2 rfl ?_
      refine k_virtIp hO cl_X12 mm_X12_laceBy lkV_X12_432 ⟨⟨Nat.le_of_ble_eq_true rfl, Nat.le_of_ble_eq_true rfl⟩, Nat.le_of_ble_eq_true rfl, Nat.le_of_ble_eq_true rfl⟩ (kn' := (0, 0)) rfl (As := [vI x3, vI x8, vI x7, vI x4]) rfl (Nat.le_of_ble_eq_true rfl) (fun o' _ => t_X12_laceBy Γ.2.1 E o' x3 x8 x7 x4 S) d_X12_laced_101 rfl (fun v1 => ?_)
      refine g_istore (lv' := [(7, vI v1), (0, vA (some o)), (3, vI x3), (4, vI x4), (5, vI x5), (6, vI x6), (8, vI x8)]) hO d_X12_laced_104 (by decide) rfl ?_
      refine g_iinc (lv' := [(8, vI (x8 + 1)), (7, vI v1), (0, vA (some o)), (3, vI x3), (4, vI x4), (5, vI x5), (6, vI x6)]) hO 1 d_X12_laced_106 (by decide) 6 rfl (by decide) rfl ?_
      refine g_goto (tgt := 83) hO d_X12_laced_109.1 d_X12_laced_109.2 ?_
      exact g_sub [2, 3, 4, 5, 6, 1, 0] rfl (ih _ _ _ _ _ _ _)
set_option maxRecDepth 20000 in
theorem w_X12_laced_72 {Γ : GC} {E : GE} (hO : gOk Γ E cX12_laced RX12 9 rm_X12_laced (some .int) "laced") (o : Nat) (x3 : Int32) (x4 : Int32) (x5 : Int32) (x6 : Int32) (S : GS) : Go Γ E (gBsI Γ E) 9 (0, 0) 72 S [(0, vA (some o)), (3, vI x3), (4, vI x4), (5, vI x5), (6, vI x6)] [] (f_X12_laced_72 o x3 x4 x5 x6 S) := by
  unfold f_X12_laced_72
  refine g_aload_n hO d_X12_laced_72 (by rfl) 0 rfl ?_
  refine g_iload_n hO d_X12_laced_73 (by rfl) 1 rfl ?_
  refine g_iconst hO 1 d_X12_laced_74 (by decide) ?_
  refine k_virtIp hO cl_X12 mm_X12_ofLady lkV_X12_306 ⟨⟨Nat.le_of_ble_eq_true rfl, Nat.le_of_ble_eq_true rfl⟩, Nat.le_of_ble_eq_true rfl, Nat.le_of_ble_eq_true rfl⟩ (kn' := (0, 0)) rfl (As := [vI x3, vI 1]) rfl (Nat.le_of_ble_eq_true rfl) (fun o' _ => t_X12_ofLady Γ.2.1 E o' x3 1 S) d_X12_laced_75 rfl (fun v1 => ?_)
  refine g_istore (lv' := [(7, vI v1), (0, vA (some o)), (3, vI x3), (4, vI x4), (5, vI x5), (6, vI x6)]) hO d_X12_laced_78 (by decide) rfl ?_
  refine g_iconst hO 0 d_X12_laced_80 (by decide) ?_
  refine g_istore (lv' := [(8, vI 0), (7, vI v1), (0, vA (some o)), (3, vI x3), (4, vI x4), (5, vI x5), (6, vI x6)]) hO d_X12_laced_81 (by decide) rfl ?_
  exact g_sub [2, 3, 4, 5, 6, 1, 0] rfl (w_X12_laced_83 hO o _ _ _ _ _ _ _ _)
set_option maxRecDepth 20000 in
theorem w_X12_laced {Γ : GC} {E : GE} (hO : gOk Γ E cX12_laced RX12 9 rm_X12_laced (some .int) "laced") (o : Nat) (x1 : Int32) (x2 : Int32) (x3 : Int32) (x4 : Int32) (x5 : Int32) (S : GS) : Go Γ E (gBsI Γ E) 9 (0, 0) 0 S [(0, vA (some o)), (1, vI x1), (2, vI x2), (3, vI x3), (4, vI x4), (5, vI x5)] [] (f_X12_laced o x1 x2 x3 x4 x5 S) := by
  unfold f_X12_laced
  refine g_aload_n hO d_X12_laced_0 (by rfl) 0 rfl ?_
  refine g_iconst hO 0 d_X12_laced_1 (by decide) ?_
  refine h_putI hO cl_X12 0 rfl rfl wf_X12_100 (Or.inl rfl) d_X12_laced_2 (fun S1 => ?_)
  refine g_aload_n hO d_X12_laced_5 (by rfl) 0 rfl ?_
  refine g_iload_n hO d_X12_laced_6 (by rfl) 2 rfl ?_
  refine k_virtIs hO cl_X12 mm_X12_hasForecast lkV_X12_415 ⟨⟨Nat.le_of_ble_eq_true rfl, Nat.le_of_ble_eq_true rfl⟩, Nat.le_of_ble_eq_true rfl, Nat.le_of_ble_eq_true rfl⟩ (kn' := (0, 0)) rfl (As := [vI x2]) rfl (Nat.le_of_ble_eq_true rfl) (fun o' _ => t_X12_hasForecast Γ.2.1 E o' x2 S1) d_X12_laced_7 rfl (fun v2 S3 => ?_)
  refine g_if_eq (tgt := 29) hO d_X12_laced_10.1 d_X12_laced_10.2 (fun _ => ?_) (fun _ => ?_)
  · skip
    refine g_iconst hO (-1) d_X12_laced_29 (by decide) ?_
    exact g_ret hO rfl rfl ⟨Nat.le_of_ble_eq_true rfl, Nat.le_of_ble_eq_true rfl⟩ rfl rfl d_X12_laced_30.1
  · skip
    refine g_aload_n hO d_X12_laced_13 (by rfl) 0 rfl ?_
    refine g_iload_n hO d_X12_laced_14 (by rfl) 1 rfl ?_
    refine k_virtIs hO cl_X12 mm_X12_hand lkV_X12_297 ⟨⟨Nat.le_of_ble_eq_true rfl, Nat.le_of_ble_eq_true rfl⟩, Nat.le_of_ble_eq_true rfl, Nat.le_of_ble_eq_true rfl⟩ (kn' := (0, 0)) rfl (As := [vI x1]) rfl (Nat.le_of_ble_eq_true rfl) (fun o' _ => t_X12_hand Γ.2.1 E o' x1 S3) d_X12_laced_15 rfl (fun v4 S5 => ?_)
    refine g_if_eq (tgt := 29) hO d_X12_laced_18.1 d_X12_laced_18.2 (fun _ => ?_) (fun _ => ?_)
    · skip
      refine g_iconst hO (-1) d_X12_laced_29 (by decide) ?_
      exact g_ret hO rfl rfl ⟨Nat.le_of_ble_eq_true rfl, Nat.le_of_ble_eq_true rfl⟩ rfl rfl d_X12_laced_30.1
    · skip
      refine g_aload_n hO d_X12_laced_21 (by rfl) 0 rfl ?_
      refine g_iload_n hO d_X12_laced_22 (by rfl) 3 rfl ?_
      refine k_virtIp hO cl_X12 mm_X12_isLady lkV_X12_303 ⟨⟨Nat.le_of_ble_eq_true rfl, Nat.le_of_ble_eq_true rfl⟩, Nat.le_of_ble_eq_true rfl, Nat.le_of_ble_eq_true rfl⟩ (kn' := (0, 0)) rfl (As := [vI x3]) rfl (Nat.le_of_ble_eq_true rfl) (fun o' _ => t_X12_isLady Γ.2.1 E o' x3 S5) d_X12_laced_23 rfl (fun v6 => ?_)
      refine g_if_ne (tgt := 31) hO d_X12_laced_26.1 d_X12_laced_26.2 (fun _ => ?_) (fun _ => ?_)
      · skip
        refine g_iconst hO (-1) d_X12_laced_29 (by decide) ?_
        exact g_ret hO rfl rfl ⟨Nat.le_of_ble_eq_true rfl, Nat.le_of_ble_eq_true rfl⟩ rfl rfl d_X12_laced_30.1
      · skip
        refine g_aload_n hO d_X12_laced_31 (by rfl) 0 rfl ?_
        refine g_iload_n hO d_X12_laced_32 (by rfl) 3 rfl ?_
        refine g_iload hO d_X12_laced_33 4 rfl ?_
        refine k_virtIs hO cl_X12 mm_X12_knotsOf lkV_X12_440 ⟨⟨Nat.le_of_ble_eq_true rfl, Nat.le_of_ble_eq_true rfl⟩, Nat.le_of_ble_eq_true rfl, Nat.le_of_ble_eq_true rfl⟩ (kn' := (0, 0)) rfl (As := [vI x3, vI x4]) rfl (Nat.le_of_ble_eq_true rfl) (fun o' _ => t_X12_knotsOf Γ.2.1 E o' x3 x4 S5) d_X12_laced_35 rfl (fun v8 S9 => ?_)
        refine g_istore (lv' := [(6, vI v8), (0, vA (some o)), (1, vI x1), (2, vI x2), (3, vI x3), (4, vI x4), (5, vI x5)]) hO d_X12_laced_38 (by decide) rfl ?_
        refine g_iload hO d_X12_laced_40 0 rfl ?_
        refine g_ldcw hO 1000000 d_X12_laced_42 wk_X12_427 ?_
        refine g_ic_ge (tgt := 70) hO d_X12_laced_45.1 d_X12_laced_45.2 (fun _ => ?_) (fun _ => ?_)
        · skip
          refine g_iconst hO (-1) d_X12_laced_70 (by decide) ?_
          exact g_ret hO rfl rfl ⟨Nat.le_of_ble_eq_true rfl, Nat.le_of_ble_eq_true rfl⟩ rfl rfl d_X12_laced_71.1
        · skip
          refine g_iload hO d_X12_laced_48 6 rfl ?_
          refine g_if_eq (tgt := 72) hO d_X12_laced_50.1 d_X12_laced_50.2 (fun _ => ?_) (fun _ => ?_)
          · skip
            exact g_sub [1, 4, 5, 6, 0] rfl (w_X12_laced_72 hO o _ _ _ _ _)
          · skip
            refine g_iload hO d_X12_laced_53 6 rfl ?_
            refine g_bipush hO 10 d_X12_laced_55 (by decide) ?_
            refine g_bipush hO 9 d_X12_laced_57 (by decide) ?_
            refine g_aload_n hO d_X12_laced_59 (by rfl) 1 rfl ?_
            refine k_virtIp hO cl_X12 mm_X12_marks lkV_X12_418 ⟨⟨Nat.le_of_ble_eq_true rfl, Nat.le_of_ble_eq_true rfl⟩, Nat.le_of_ble_eq_true rfl, Nat.le_of_ble_eq_true rfl⟩ (kn' := (0, 0)) rfl (As := []) rfl (Nat.le_of_ble_eq_true rfl) (fun o' _ => t_X12_marks Γ.2.1 E o' S9) d_X12_laced_60 rfl (fun v10 => ?_)
            refine g_iadd hO d_X12_laced_63 ?_
            refine k_statIp hO mm_X12_in lkS_X12_112 ⟨⟨Nat.le_of_ble_eq_true rfl, Nat.le_of_ble_eq_true rfl⟩, Nat.le_of_ble_eq_true rfl, Nat.le_of_ble_eq_true rfl⟩ (kn' := (0, 0)) rfl (As := [vI x5, vI 10, vI (9 + v10)]) rfl (Nat.le_of_ble_eq_true rfl) (t_X12_in Γ.2.1 E x5 10 (9 + v10) S9) d_X12_laced_64 rfl (fun v12 => ?_)
            refine g_if_ne (tgt := 72) hO d_X12_laced_67.1 d_X12_laced_67.2 (fun _ => ?_) (fun _ => ?_)
            · skip
              refine g_iconst hO (-1) d_X12_laced_70 (by decide) ?_
              exact g_ret hO rfl rfl ⟨Nat.le_of_ble_eq_true rfl, Nat.le_of_ble_eq_true rfl⟩ rfl rfl d_X12_laced_71.1
            · skip
              exact g_sub [1, 4, 5, 6, 0] rfl (w_X12_laced_72 hO o _ _ _ _ _)
theorem t_X12_laced (l : Launch) (E : GE) (o : Nat) (x1 : Int32) (x2 : Int32) (x3 : Int32) (x4 : Int32) (x5 : Int32) (S : GS) : ∀ a, f_X12_laced o x1 x2 x3 x4 x5 S = some a → Ct l E yX12_laced cX12_laced 9 (some .int) rm_X12_laced [vA (some o), vI x1, vI x2, vI x3, vI x4, vI x5] S (some (vI a.1)) a.2 :=
  Ct_of (val := fun (b : Int32 × GS) => some (vI b.1)) (nxt := fun (b : Int32 × GS) => b.2) (by decide) (Nat.le_of_ble_eq_true rfl) (fun Γ hl hO => w_X12_laced hO o x1 x2 x3 x4 x5 S)
theorem d_X12_least_0 : gD cX12_least 0 (.aload_n 0) 1 1 := ⟨by decide +kernel, rfl⟩
theorem d_X12_least_1 : gD cX12_least 1 (.iconst 0) 1 2 := ⟨by decide +kernel, rfl⟩
theorem d_X12_least_2 : gD cX12_least 2 (.putfield 100) 3 5 := ⟨by decide +kernel, rfl⟩
theorem d_X12_least_5 : gD cX12_least 5 (.aload_n 0) 1 6 := ⟨by decide +kernel, rfl⟩
theorem d_X12_least_6 : gD cX12_least 6 (.iload_n 2) 1 7 := ⟨by decide +kernel, rfl⟩
theorem d_X12_least_7 : gD cX12_least 7 (.invokevirtual 415) 3 10 := ⟨by decide +kernel, rfl⟩
theorem d_X12_least_10 : gD cX12_least 10 (.ifCond .eq 23) 3 13 ∧ ((10 : Nat) : Int) + 23 = ((33 : Nat) : Int) := ⟨⟨by decide +kernel, rfl⟩, by decide⟩
theorem d_X12_least_13 : gD cX12_least 13 (.aload_n 0) 1 14 := ⟨by decide +kernel, rfl⟩
theorem d_X12_least_14 : gD cX12_least 14 (.iload_n 1) 1 15 := ⟨by decide +kernel, rfl⟩
theorem d_X12_least_15 : gD cX12_least 15 (.invokevirtual 297) 3 18 := ⟨by decide +kernel, rfl⟩
theorem d_X12_least_18 : gD cX12_least 18 (.ifCond .eq 15) 3 21 ∧ ((18 : Nat) : Int) + 15 = ((33 : Nat) : Int) := ⟨⟨by decide +kernel, rfl⟩, by decide⟩
theorem d_X12_least_21 : gD cX12_least 21 (.iload_n 3) 1 22 := ⟨by decide +kernel, rfl⟩
theorem d_X12_least_22 : gD cX12_least 22 (.iconst 0) 1 23 := ⟨by decide +kernel, rfl⟩
theorem d_X12_least_23 : gD cX12_least 23 (.aload_n 0) 1 24 := ⟨by decide +kernel, rfl⟩
theorem d_X12_least_24 : gD cX12_least 24 (.getfield 294) 3 27 := ⟨by decide +kernel, rfl⟩
theorem d_X12_least_27 : gD cX12_least 27 (.invokestatic 112) 3 30 := ⟨by decide +kernel, rfl⟩
theorem d_X12_least_30 : gD cX12_least 30 (.ifCond .ne 5) 3 33 ∧ ((30 : Nat) : Int) + 5 = ((35 : Nat) : Int) := ⟨⟨by decide +kernel, rfl⟩, by decide⟩
theorem d_X12_least_33 : gD cX12_least 33 (.iconst (-1)) 1 34 := ⟨by decide +kernel, rfl⟩
theorem d_X12_least_34 : gD cX12_least 34 (.ireturn) 1 35 := ⟨by decide +kernel, rfl⟩
theorem d_X12_least_35 : gD cX12_least 35 (.iconst 0) 1 36 := ⟨by decide +kernel, rfl⟩
theorem d_X12_least_36 : gD cX12_least 36 (.istore 6) 2 38 := ⟨by decide +kernel, rfl⟩
theorem d_X12_least_38 : gD cX12_least 38 (.iload 6) 2 40 := ⟨by decide +kernel, rfl⟩
theorem d_X12_least_40 : gD cX12_least 40 (.aload_n 0) 1 41 := ⟨by decide +kernel, rfl⟩
theorem d_X12_least_41 : gD cX12_least 41 (.getfield 294) 3 44 := ⟨by decide +kernel, rfl⟩
theorem d_X12_least_44 : gD cX12_least 44 (.if_icmp .ge 24) 3 47 ∧ ((44 : Nat) : Int) + 24 = ((68 : Nat) : Int) := ⟨⟨by decide +kernel, rfl⟩, by decide⟩
theorem d_X12_least_47 : gD cX12_least 47 (.aload_n 0) 1 48 := ⟨by decide +kernel, rfl⟩
theorem d_X12_least_48 : gD cX12_least 48 (.getfield 71) 3 51 := ⟨by decide +kernel, rfl⟩
theorem d_X12_least_51 : gD cX12_least 51 (.iload 6) 2 53 := ⟨by decide +kernel, rfl⟩
theorem d_X12_least_53 : gD cX12_least 53 (.aload_n 0) 1 54 := ⟨by decide +kernel, rfl⟩
theorem d_X12_least_54 : gD cX12_least 54 (.iload 6) 2 56 := ⟨by decide +kernel, rfl⟩
theorem d_X12_least_56 : gD cX12_least 56 (.iload 4) 2 58 := ⟨by decide +kernel, rfl⟩
theorem d_X12_least_58 : gD cX12_least 58 (.invokevirtual 440) 3 61 := ⟨by decide +kernel, rfl⟩
theorem d_X12_least_61 : gD cX12_least 61 (.iastore) 1 62 := ⟨by decide +kernel, rfl⟩
theorem d_X12_least_62 : gD cX12_least 62 (.iinc 6 1) 3 65 := ⟨by decide +kernel, rfl⟩
theorem d_X12_least_65 : decode cX12_least 65 = .ok (.goto (-27), 3) ∧ ((65 : Nat) : Int) + (-27) = ((38 : Nat) : Int) := ⟨by decide +kernel, by decide⟩
theorem d_X12_least_68 : gD cX12_least 68 (.iconst (-1)) 1 69 := ⟨by decide +kernel, rfl⟩
theorem d_X12_least_69 : gD cX12_least 69 (.istore 6) 2 71 := ⟨by decide +kernel, rfl⟩
theorem d_X12_least_71 : gD cX12_least 71 (.ldc_w 427) 3 74 := ⟨by decide +kernel, rfl⟩
theorem d_X12_least_74 : gD cX12_least 74 (.istore 7) 2 76 := ⟨by decide +kernel, rfl⟩
theorem d_X12_least_76 : gD cX12_least 76 (.iconst 0) 1 77 := ⟨by decide +kernel, rfl⟩
theorem d_X12_least_77 : gD cX12_least 77 (.istore 8) 2 79 := ⟨by decide +kernel, rfl⟩
theorem d_X12_least_79 : gD cX12_least 79 (.iload 8) 2 81 := ⟨by decide +kernel, rfl⟩
theorem d_X12_least_81 : gD cX12_least 81 (.iconst 1) 1 82 := ⟨by decide +kernel, rfl⟩
theorem d_X12_least_82 : gD cX12_least 82 (.aload_n 0) 1 83 := ⟨by decide +kernel, rfl⟩
theorem d_X12_least_83 : gD cX12_least 83 (.getfield 294) 3 86 := ⟨by decide +kernel, rfl⟩
theorem d_X12_least_86 : gD cX12_least 86 (.ishl) 1 87 := ⟨by decide +kernel, rfl⟩
theorem d_X12_least_87 : gD cX12_least 87 (.if_icmp .ge 114) 3 90 ∧ ((87 : Nat) : Int) + 114 = ((201 : Nat) : Int) := ⟨⟨by decide +kernel, rfl⟩, by decide⟩
theorem d_X12_least_90 : gD cX12_least 90 (.iconst 0) 1 91 := ⟨by decide +kernel, rfl⟩
theorem d_X12_least_91 : gD cX12_least 91 (.istore 9) 2 93 := ⟨by decide +kernel, rfl⟩
theorem d_X12_least_93 : gD cX12_least 93 (.iconst 0) 1 94 := ⟨by decide +kernel, rfl⟩
theorem d_X12_least_94 : gD cX12_least 94 (.istore 10) 2 96 := ⟨by decide +kernel, rfl⟩
theorem d_X12_least_96 : gD cX12_least 96 (.iload 10) 2 98 := ⟨by decide +kernel, rfl⟩
theorem d_X12_least_98 : gD cX12_least 98 (.aload_n 0) 1 99 := ⟨by decide +kernel, rfl⟩
theorem d_X12_least_99 : gD cX12_least 99 (.getfield 294) 3 102 := ⟨by decide +kernel, rfl⟩
theorem d_X12_least_102 : gD cX12_least 102 (.if_icmp .ge 41) 3 105 ∧ ((102 : Nat) : Int) + 41 = ((143 : Nat) : Int) := ⟨⟨by decide +kernel, rfl⟩, by decide⟩
theorem d_X12_least_105 : gD cX12_least 105 (.iload 9) 2 107 := ⟨by decide +kernel, rfl⟩
theorem d_X12_least_107 : gD cX12_least 107 (.iload 8) 2 109 := ⟨by decide +kernel, rfl⟩
theorem d_X12_least_109 : gD cX12_least 109 (.iload 10) 2 111 := ⟨by decide +kernel, rfl⟩
theorem d_X12_least_111 : gD cX12_least 111 (.invokestatic 104) 3 114 := ⟨by decide +kernel, rfl⟩
theorem d_X12_least_114 : gD cX12_least 114 (.ifCond .eq 19) 3 117 ∧ ((114 : Nat) : Int) + 19 = ((133 : Nat) : Int) := ⟨⟨by decide +kernel, rfl⟩, by decide⟩
theorem d_X12_least_117 : gD cX12_least 117 (.ldc_w 427) 3 120 := ⟨by decide +kernel, rfl⟩
theorem d_X12_least_120 : gD cX12_least 120 (.aload_n 0) 1 121 := ⟨by decide +kernel, rfl⟩
theorem d_X12_least_121 : gD cX12_least 121 (.getfield 71) 3 124 := ⟨by decide +kernel, rfl⟩
theorem d_X12_least_124 : gD cX12_least 124 (.iload 10) 2 126 := ⟨by decide +kernel, rfl⟩
theorem d_X12_least_126 : gD cX12_least 126 (.iaload) 1 127 := ⟨by decide +kernel, rfl⟩
theorem d_X12_least_127 : gD cX12_least 127 (.invokestatic 364) 3 130 := ⟨by decide +kernel, rfl⟩
theorem d_X12_least_130 : decode cX12_least 130 = .ok (.goto 4, 3) ∧ ((130 : Nat) : Int) + 4 = ((134 : Nat) : Int) := ⟨by decide +kernel, by decide⟩
theorem d_X12_least_133 : gD cX12_least 133 (.iconst 0) 1 134 := ⟨by decide +kernel, rfl⟩
theorem d_X12_least_134 : gD cX12_least 134 (.iadd) 1 135 := ⟨by decide +kernel, rfl⟩
theorem d_X12_least_135 : gD cX12_least 135 (.istore 9) 2 137 := ⟨by decide +kernel, rfl⟩
theorem d_X12_least_137 : gD cX12_least 137 (.iinc 10 1) 3 140 := ⟨by decide +kernel, rfl⟩
theorem d_X12_least_140 : decode cX12_least 140 = .ok (.goto (-44), 3) ∧ ((140 : Nat) : Int) + (-44) = ((96 : Nat) : Int) := ⟨by decide +kernel, by decide⟩
theorem d_X12_least_143 : gD cX12_least 143 (.aload_n 0) 1 144 := ⟨by decide +kernel, rfl⟩
theorem d_X12_least_144 : gD cX12_least 144 (.iload 8) 2 146 := ⟨by decide +kernel, rfl⟩
theorem d_X12_least_146 : gD cX12_least 146 (.invokevirtual 391) 3 149 := ⟨by decide +kernel, rfl⟩
theorem d_X12_least_149 : gD cX12_least 149 (.iload_n 3) 1 150 := ⟨by decide +kernel, rfl⟩
theorem d_X12_least_150 : gD cX12_least 150 (.if_icmp .ne 14) 3 153 ∧ ((150 : Nat) : Int) + 14 = ((164 : Nat) : Int) := ⟨⟨by decide +kernel, rfl⟩, by decide⟩
theorem d_X12_least_153 : gD cX12_least 153 (.iload 9) 2 155 := ⟨by decide +kernel, rfl⟩
theorem d_X12_least_155 : gD cX12_least 155 (.iload 7) 2 157 := ⟨by decide +kernel, rfl⟩
theorem d_X12_least_157 : gD cX12_least 157 (.if_icmp .ge 7) 3 160 ∧ ((157 : Nat) : Int) + 7 = ((164 : Nat) : Int) := ⟨⟨by decide +kernel, rfl⟩, by decide⟩
theorem d_X12_least_160 : gD cX12_least 160 (.iconst 1) 1 161 := ⟨by decide +kernel, rfl⟩
theorem d_X12_least_161 : decode cX12_least 161 = .ok (.goto 4, 3) ∧ ((161 : Nat) : Int) + 4 = ((165 : Nat) : Int) := ⟨by decide +kernel, by decide⟩
theorem d_X12_least_164 : gD cX12_least 164 (.iconst 0) 1 165 := ⟨by decide +kernel, rfl⟩
theorem d_X12_least_165 : gD cX12_least 165 (.istore 10) 2 167 := ⟨by decide +kernel, rfl⟩
theorem d_X12_least_167 : gD cX12_least 167 (.iload 10) 2 169 := ⟨by decide +kernel, rfl⟩
theorem d_X12_least_169 : gD cX12_least 169 (.ifCond .eq 8) 3 172 ∧ ((169 : Nat) : Int) + 8 = ((177 : Nat) : Int) := ⟨⟨by decide +kernel, rfl⟩, by decide⟩
theorem d_X12_least_172 : gD cX12_least 172 (.iload 8) 2 174 := ⟨by decide +kernel, rfl⟩
theorem d_X12_least_174 : decode cX12_least 174 = .ok (.goto 5, 3) ∧ ((174 : Nat) : Int) + 5 = ((179 : Nat) : Int) := ⟨by decide +kernel, by decide⟩
theorem d_X12_least_177 : gD cX12_least 177 (.iload 6) 2 179 := ⟨by decide +kernel, rfl⟩
theorem d_X12_least_179 : gD cX12_least 179 (.istore 6) 2 181 := ⟨by decide +kernel, rfl⟩
theorem d_X12_least_181 : gD cX12_least 181 (.iload 10) 2 183 := ⟨by decide +kernel, rfl⟩
theorem d_X12_least_183 : gD cX12_least 183 (.ifCond .eq 8) 3 186 ∧ ((183 : Nat) : Int) + 8 = ((191 : Nat) : Int) := ⟨⟨by decide +kernel, rfl⟩, by decide⟩
theorem d_X12_least_186 : gD cX12_least 186 (.iload 9) 2 188 := ⟨by decide +kernel, rfl⟩
theorem d_X12_least_188 : decode cX12_least 188 = .ok (.goto 5, 3) ∧ ((188 : Nat) : Int) + 5 = ((193 : Nat) : Int) := ⟨by decide +kernel, by decide⟩
theorem d_X12_least_191 : gD cX12_least 191 (.iload 7) 2 193 := ⟨by decide +kernel, rfl⟩
theorem d_X12_least_193 : gD cX12_least 193 (.istore 7) 2 195 := ⟨by decide +kernel, rfl⟩
theorem d_X12_least_195 : gD cX12_least 195 (.iinc 8 1) 3 198 := ⟨by decide +kernel, rfl⟩
theorem d_X12_least_198 : decode cX12_least 198 = .ok (.goto (-119), 3) ∧ ((198 : Nat) : Int) + (-119) = ((79 : Nat) : Int) := ⟨by decide +kernel, by decide⟩
theorem d_X12_least_201 : gD cX12_least 201 (.iload 6) 2 203 := ⟨by decide +kernel, rfl⟩
theorem d_X12_least_203 : gD cX12_least 203 (.iconst (-1)) 1 204 := ⟨by decide +kernel, rfl⟩
theorem d_X12_least_204 : gD cX12_least 204 (.if_icmp .ne 7) 3 207 ∧ ((204 : Nat) : Int) + 7 = ((211 : Nat) : Int) := ⟨⟨by decide +kernel, rfl⟩, by decide⟩
theorem d_X12_least_207 : gD cX12_least 207 (.iconst (-1)) 1 208 := ⟨by decide +kernel, rfl⟩
theorem d_X12_least_208 : decode cX12_least 208 = .ok (.goto 15, 3) ∧ ((208 : Nat) : Int) + 15 = ((223 : Nat) : Int) := ⟨by decide +kernel, by decide⟩
theorem d_X12_least_211 : gD cX12_least 211 (.iload 5) 2 213 := ⟨by decide +kernel, rfl⟩
theorem d_X12_least_213 : gD cX12_least 213 (.ifCond .eq 8) 3 216 ∧ ((213 : Nat) : Int) + 8 = ((221 : Nat) : Int) := ⟨⟨by decide +kernel, rfl⟩, by decide⟩
theorem d_X12_least_216 : gD cX12_least 216 (.iload 6) 2 218 := ⟨by decide +kernel, rfl⟩
theorem d_X12_least_218 : decode cX12_least 218 = .ok (.goto 5, 3) ∧ ((218 : Nat) : Int) + 5 = ((223 : Nat) : Int) := ⟨by decide +kernel, by decide⟩
theorem d_X12_least_221 : gD cX12_least 221 (.iload 7) 2 223 := ⟨by decide +kernel, rfl⟩
theorem d_X12_least_223 : gD cX12_least 223 (.ireturn) 1 224 := ⟨by decide +kernel, rfl⟩
abbrev rm_X12_least : Room := { frames := 8, cells := 0, slots := 0, locals := 189 }
set_option maxRecDepth 20000 in
theorem w_X12_least_134 {Γ : GC} {E : GE} (hO : gOk Γ E cX12_least RX12 11 rm_X12_least (some .int) "least") (o : Nat) {k79 : (Int32 → Int32 → Int32 → Int32 → Int32 → GS → Option (Int32 × GS))} {k96 : (Int32 → Int32 → Int32 → Int32 → Int32 → Int32 → Int32 → GS → Option (Int32 × GS))} (hk79 : ∀ (z3 : Int32) (z5 : Int32) (z6 : Int32) (z7 : Int32) (z8 : Int32) (S1 : GS), Go Γ E (gBsI Γ E) 11 (0, 0) 79 S1 [(0, vA (some o)), (3, vI z3), (5, vI z5), (6, vI z6), (7, vI z7), (8, vI z8)] [] (k79 z3 z5 z6 z7 z8 S1)) (hk96 : ∀ (z3 : Int32) (z5 : Int32) (z6 : Int32) (z7 : Int32) (z8 : Int32) (z9 : Int32) (z10 : Int32) (S1 : GS), Go Γ E (gBsI Γ E) 11 (0, 0) 96 S1 [(0, vA (some o)), (3, vI z3), (5, vI z5), (6, vI z6), (7, vI z7), (8, vI z8), (9, vI z9), (10, vI z10)] [] (k96 z3 z5 z6 z7 z8 z9 z10 S1)) (x3 : Int32) (x5 : Int32) (x6 : Int32) (x7 : Int32) (x8 : Int32) (x10 : Int32) (y0 : Int32) (y1 : Int32) (S : GS) : Go Γ E (gBsI Γ E) 11 (0, 0) 134 S [(0, vA (some o)), (3, vI x3), (5, vI x5), (6, vI x6), (7, vI x7), (8, vI x8), (10, vI x10)] [vI y1, vI y0] (f_X12_least_134 k79 k96 o x3 x5 x6 x7 x8 x10 y0 y1 S) := by
  unfold f_X12_least_134
  refine g_iadd hO d_X12_least_134 ?_
  refine g_istore (lv' := [(9, vI (y0 + y1)), (0, vA (some o)), (3, vI x3), (5, vI x5), (6, vI x6), (7, vI x7), (8, vI x8), (10, vI x10)]) hO d_X12_least_135 (by decide) rfl ?_
  refine g_iinc (lv' := [(10, vI (x10 + 1)), (9, vI (y0 + y1)), (0, vA (some o)), (3, vI x3), (5, vI x5), (6, vI x6), (7, vI x7), (8, vI x8)]) hO 1 d_X12_least_137 (by decide) 7 rfl (by decide) rfl ?_
  refine g_goto (tgt := 96) hO d_X12_least_140.1 d_X12_least_140.2 ?_
  exact g_sub [2, 3, 4, 5, 6, 7, 1, 0] rfl (hk96 _ _ _ _ _ _ _ _)
set_option maxRecDepth 20000 in
theorem w_X12_least_193 {Γ : GC} {E : GE} (hO : gOk Γ E cX12_least RX12 11 rm_X12_least (some .int) "least") (o : Nat) {k79 : (Int32 → Int32 → Int32 → Int32 → Int32 → GS → Option (Int32 × GS))} (hk79 : ∀ (z3 : Int32) (z5 : Int32) (z6 : Int32) (z7 : Int32) (z8 : Int32) (S1 : GS), Go Γ E (gBsI Γ E) 11 (0, 0) 79 S1 [(0, vA (some o)), (3, vI z3), (5, vI z5), (6, vI z6), (7, vI z7), (8, vI z8)] [] (k79 z3 z5 z6 z7 z8 S1)) (x3 : Int32) (x5 : Int32) (x6 : Int32) (x8 : Int32) (y0 : Int32) (S : GS) : Go Γ E (gBsI Γ E) 11 (0, 0) 193 S [(0, vA (some o)), (3, vI x3), (5, vI x5), (6, vI x6), (8, vI x8)] [vI y0] (f_X12_least_193 k79 o x3 x5 x6 x8 y0 S) := by
  unfold f_X12_least_193
  refine g_istore (lv' := [(7, vI y0), (0, vA (some o)), (3, vI x3), (5, vI x5), (6, vI x6), (8, vI x8)]) hO d_X12_least_193 (by decide) rfl ?_
  refine g_iinc (lv' := [(8, vI (x8 + 1)), (7, vI y0), (0, vA (some o)), (3, vI x3), (5, vI x5), (6, vI x6)]) hO 1 d_X12_least_195 (by decide) 5 rfl (by decide) rfl ?_
  refine g_goto (tgt := 79) hO d_X12_least_198.1 d_X12_least_198.2 ?_
  exact g_sub [2, 3, 4, 5, 1, 0] rfl (hk79 _ _ _ _ _ _)
set_option maxRecDepth 20000 in
theorem w_X12_least_179 {Γ : GC} {E : GE} (hO : gOk Γ E cX12_least RX12 11 rm_X12_least (some .int) "least") (o : Nat) {k79 : (Int32 → Int32 → Int32 → Int32 → Int32 → GS → Option (Int32 × GS))} (hk79 : ∀ (z3 : Int32) (z5 : Int32) (z6 : Int32) (z7 : Int32) (z8 : Int32) (S1 : GS), Go Γ E (gBsI Γ E) 11 (0, 0) 79 S1 [(0, vA (some o)), (3, vI z3), (5, vI z5), (6, vI z6), (7, vI z7), (8, vI z8)] [] (k79 z3 z5 z6 z7 z8 S1)) (x3 : Int32) (x5 : Int32) (x7 : Int32) (x8 : Int32) (x9 : Int32) (x10 : Int32) (y0 : Int32) (S : GS) : Go Γ E (gBsI Γ E) 11 (0, 0) 179 S [(0, vA (some o)), (3, vI x3), (5, vI x5), (7, vI x7), (8, vI x8), (9, vI x9), (10, vI x10)] [vI y0] (f_X12_least_179 k79 o x3 x5 x7 x8 x9 x10 y0 S) := by
  unfold f_X12_least_179
  refine g_istore (lv' := [(6, vI y0), (0, vA (some o)), (3, vI x3), (5, vI x5), (7, vI x7), (8, vI x8), (9, vI x9), (10, vI x10)]) hO d_X12_least_179 (by decide) rfl ?_
  refine g_iload hO d_X12_least_181 7 rfl ?_
  refine g_if_eq (tgt := 191) hO d_X12_least_183.1 d_X12_least_183.2 (fun _ => ?_) (fun _ => ?_)
  · skip
    refine g_iload hO d_X12_least_191 4 rfl ?_
    exact g_sub [1, 2, 3, 0, 5] rfl (w_X12_least_193 hO o hk79 _ _ _ _ _ _)
  · skip
    refine g_iload hO d_X12_least_186 6 rfl ?_
    refine g_goto (tgt := 193) hO d_X12_least_188.1 d_X12_least_188.2 ?_
    exact g_sub [1, 2, 3, 0, 5] rfl (w_X12_least_193 hO o hk79 _ _ _ _ _ _)
set_option maxRecDepth 20000 in
theorem w_X12_least_165 {Γ : GC} {E : GE} (hO : gOk Γ E cX12_least RX12 11 rm_X12_least (some .int) "least") (o : Nat) {k79 : (Int32 → Int32 → Int32 → Int32 → Int32 → GS → Option (Int32 × GS))} (hk79 : ∀ (z3 : Int32) (z5 : Int32) (z6 : Int32) (z7 : Int32) (z8 : Int32) (S1 : GS), Go Γ E (gBsI Γ E) 11 (0, 0) 79 S1 [(0, vA (some o)), (3, vI z3), (5, vI z5), (6, vI z6), (7, vI z7), (8, vI z8)] [] (k79 z3 z5 z6 z7 z8 S1)) (x3 : Int32) (x5 : Int32) (x6 : Int32) (x7 : Int32) (x8 : Int32) (x9 : Int32) (y0 : Int32) (S : GS) : Go Γ E (gBsI Γ E) 11 (0, 0) 165 S [(0, vA (some o)), (3, vI x3), (5, vI x5), (6, vI x6), (7, vI x7), (8, vI x8), (9, vI x9)] [vI y0] (f_X12_least_165 k79 o x3 x5 x6 x7 x8 x9 y0 S) := by
  unfold f_X12_least_165
  refine g_istore (lv' := [(10, vI y0), (0, vA (some o)), (3, vI x3), (5, vI x5), (6, vI x6), (7, vI x7), (8, vI x8), (9, vI x9)]) hO d_X12_least_165 (by decide) rfl ?_
  refine g_iload hO d_X12_least_167 0 rfl ?_
  refine g_if_eq (tgt := 177) hO d_X12_least_169.1 d_X12_least_169.2 (fun _ => ?_) (fun _ => ?_)
  · skip
    refine g_iload hO d_X12_least_177 4 rfl ?_
    exact g_sub [1, 2, 3, 5, 6, 7, 0] rfl (w_X12_least_179 hO o hk79 _ _ _ _ _ _ _ _)
  · skip
    refine g_iload hO d_X12_least_172 6 rfl ?_
    refine g_goto (tgt := 179) hO d_X12_least_174.1 d_X12_least_174.2 ?_
    exact g_sub [1, 2, 3, 5, 6, 7, 0] rfl (w_X12_least_179 hO o hk79 _ _ _ _ _ _ _ _)
set_option maxRecDepth 20000 in
theorem w_X12_least_164 {Γ : GC} {E : GE} (hO : gOk Γ E cX12_least RX12 11 rm_X12_least (some .int) "least") (o : Nat) {k79 : (Int32 → Int32 → Int32 → Int32 → Int32 → GS → Option (Int32 × GS))} (hk79 : ∀ (z3 : Int32) (z5 : Int32) (z6 : Int32) (z7 : Int32) (z8 : Int32) (S1 : GS), Go Γ E (gBsI Γ E) 11 (0, 0) 79 S1 [(0, vA (some o)), (3, vI z3), (5, vI z5), (6, vI z6), (7, vI z7), (8, vI z8)] [] (k79 z3 z5 z6 z7 z8 S1)) (x3 : Int32) (x5 : Int32) (x6 : Int32) (x7 : Int32) (x8 : Int32) (x9 : Int32) (S : GS) : Go Γ E (gBsI Γ E) 11 (0, 0) 164 S [(0, vA (some o)), (3, vI x3), (5, vI x5), (6, vI x6), (7, vI x7), (8, vI x8), (9, vI x9)] [] (f_X12_least_164 k79 o x3 x5 x6 x7 x8 x9 S) := by
  unfold f_X12_least_164
  refine g_iconst hO 0 d_X12_least_164 (by decide) ?_
  exact g_sub [0, 1, 2, 3, 4, 5, 6] rfl (w_X12_least_165 hO o hk79 _ _ _ _ _ _ _ _)
set_option maxRecDepth 20000 in
theorem w_X12_least_96 {Γ : GC} {E : GE} (hO : gOk Γ E cX12_least RX12 11 rm_X12_least (some .int) "least") (o : Nat) {k79 : (Int32 → Int32 → Int32 → Int32 → Int32 → GS → Option (Int32 × GS))} (hk79 : ∀ (z3 : Int32) (z5 : Int32) (z6 : Int32) (z7 : Int32) (z8 : Int32) (S1 : GS), Go Γ E (gBsI Γ E) 11 (0, 0) 79 S1 [(0, vA (some o)), (3, vI z3), (5, vI z5), (6, vI z6), (7, vI z7), (8, vI z8)] [] (k79 z3 z5 z6 z7 z8 S1)) : ∀ (n : Nat) (x3 : Int32) (x5 : Int32) (x6 : Int32) (x7 : Int32) (x8 : Int32) (x9 : Int32) (x10 : Int32) (S : GS), Go Γ E (gBsI Γ E) 11 (0, 0) 96 S [(0, vA (some o)), (3, vI x3), (5, vI x5), (6, vI x6), (7, vI x7), (8, vI x8), (9, vI x9), (10, vI x10)] [] (f_X12_least_96 k79 o n x3 x5 x6 x7 x8 x9 x10 S) := by
  intro n
  induction n with
  | zero =>
    intro x3 x5 x6 x7 x8 x9 x10 S
    exact g_none
  | succ n ih =>
    intro x3 x5 x6 x7 x8 x9 x10 S
    rw [f_X12_least_96]
    refine g_iload hO d_X12_least_96 7 rfl ?_
    refine g_aload_n hO d_X12_least_98 (by rfl) 0 rfl ?_
    refine h_getI hO cl_X12 27 rfl wf_X12_294 d_X12_least_99 (fun v1 => ?_)
    refine g_ic_ge (tgt := 143) hO d_X12_least_102.1 d_X12_least_102.2 (fun _ => ?_) (fun _ => ?_)
    · skip
      refine g_aload_n hO d_X12_least_143 (by rfl) 0 rfl ?_
      refine g_iload hO d_X12_least_144 5 rfl ?_
      refine k_virtIp hO cl_X12 mm_X12_countOf lkV_X12_391 ⟨⟨Nat.le_of_ble_eq_true rfl, Nat.le_of_ble_eq_true rfl⟩, Nat.le_of_ble_eq_true rfl, Nat.le_of_ble_eq_true rfl⟩ (kn' := (0, 0)) rfl (As := [vI x8]) rfl (Nat.le_of_ble_eq_true rfl) (fun o' _ => t_X12_countOf Γ.2.1 E o' x8 S) d_X12_least_146 rfl (fun v2 => ?_)
      refine g_iload_n hO d_X12_least_149 (by rfl) 1 rfl ?_
      refine g_ic_ne (tgt := 164) hO d_X12_least_150.1 d_X12_least_150.2 (fun _ => ?_) (fun _ => ?_)
      · skip
        refine g_iload hO d_X12_least_153 6 rfl ?_
        refine g_iload hO d_X12_least_155 4 rfl ?_
        refine g_ic_ge (tgt := 164) hO d_X12_least_157.1 d_X12_least_157.2 (fun _ => ?_) (fun _ => ?_)
        · skip
          exact g_sub [0, 1, 2, 3, 4, 5, 6] rfl (w_X12_least_164 hO o hk79 _ _ _ _ _ _ _)
        · skip
          refine g_iconst hO 1 d_X12_least_160 (by decide) ?_
          refine g_goto (tgt := 165) hO d_X12_least_161.1 d_X12_least_161.2 ?_
          exact g_sub [0, 1, 2, 3, 4, 5, 6] rfl (w_X12_least_165 hO o hk79 _ _ _ _ _ _ _ _)
      · skip
        exact g_sub [0, 1, 2, 3, 4, 5, 6] rfl (w_X12_least_164 hO o hk79 _ _ _ _ _ _ _)
    · skip
      refine g_iload hO d_X12_least_105 6 rfl ?_
      refine g_iload hO d_X12_least_107 5 rfl ?_
      refine g_iload hO d_X12_least_109 7 rfl ?_
      refine k_statIp hO mm_X12_has lkS_X12_104 ⟨⟨Nat.le_of_ble_eq_true rfl, Nat.le_of_ble_eq_true rfl⟩, Nat.le_of_ble_eq_true rfl, Nat.le_of_ble_eq_true rfl⟩ (kn' := (0, 0)) rfl (As := [vI x8, vI x10]) rfl (Nat.le_of_ble_eq_true rfl) (t_X12_has Γ.2.1 E x8 x10 S) d_X12_least_111 rfl (fun v4 => ?_)
      refine g_if_eq (tgt := 133) hO d_X12_least_114.1 d_X12_least_114.2 (fun _ => ?_) (fun _ => ?_)
      · skip
        refine g_iconst hO 0 d_X12_least_133 (by decide) ?_
        exact g_sub [0, 1, 2, 3, 4, 5, 7] rfl (w_X12_least_134 hO o hk79 ih _ _ _ _ _ _ _ _ _)
      · skip
        refine g_ldcw hO 1000000 d_X12_least_117 wk_X12_427 ?_
        refine g_aload_n hO d_X12_least_120 (by rfl) 0 rfl ?_
        refine h_getR hO cl_X12 47 rfl wf_X12_71 d_X12_least_121 (fun v6 => ?_)
        refine g_iload hO d_X12_least_124 7 rfl ?_
        refine h_iald hO d_X12_least_126 (fun v7 => ?_)
        refine k_statIp hO mm_X12_lesser lkS_X12_364 ⟨⟨Nat.le_of_ble_eq_true rfl, Nat.le_of_ble_eq_true rfl⟩, Nat.le_of_ble_eq_true rfl, Nat.le_of_ble_eq_true rfl⟩ (kn' := (0, 0)) rfl (As := [vI 1000000, vI v7]) rfl (Nat.le_of_ble_eq_true rfl) (t_X12_lesser Γ.2.1 E 1000000 v7 S) d_X12_least_127 rfl (fun v8 => ?_)
        refine g_goto (tgt := 134) hO d_X12_least_130.1 d_X12_least_130.2 ?_
        exact g_sub [0, 1, 2, 3, 4, 5, 7] rfl (w_X12_least_134 hO o hk79 ih _ _ _ _ _ _ _ _ _)
set_option maxRecDepth 20000 in
theorem w_X12_least_79 {Γ : GC} {E : GE} (hO : gOk Γ E cX12_least RX12 11 rm_X12_least (some .int) "least") (o : Nat) : ∀ (n : Nat) (x3 : Int32) (x5 : Int32) (x6 : Int32) (x7 : Int32) (x8 : Int32) (S : GS), Go Γ E (gBsI Γ E) 11 (0, 0) 79 S [(0, vA (some o)), (3, vI x3), (5, vI x5), (6, vI x6), (7, vI x7), (8, vI x8)] [] (f_X12_least_79 o n x3 x5 x6 x7 x8 S) := by
  intro n
  induction n with
  | zero =>
    intro x3 x5 x6 x7 x8 S
    exact g_none
  | succ n ih =>
    intro x3 x5 x6 x7 x8 S
    rw [f_X12_least_79]
    refine g_iload hO d_X12_least_79 5 rfl ?_
    refine g_iconst hO 1 d_X12_least_81 (by decide) ?_
    refine g_aload_n hO d_X12_least_82 (by rfl) 0 rfl ?_
    refine h_getI hO cl_X12 27 rfl wf_X12_294 d_X12_least_83 (fun v1 => ?_)
    refine g_ishl hO d_X12_least_86 ?_
    refine g_ic_ge (tgt := 201) hO d_X12_least_87.1 d_X12_least_87.2 (fun _ => ?_) (fun _ => ?_)
    · skip
      refine g_iload hO d_X12_least_201 3 rfl ?_
      refine g_iconst hO (-1) d_X12_least_203 (by decide) ?_
      refine g_ic_ne (tgt := 211) hO d_X12_least_204.1 d_X12_least_204.2 (fun _ => ?_) (fun _ => ?_)
      · skip
        refine g_iconst hO (-1) d_X12_least_207 (by decide) ?_
        refine g_goto (tgt := 223) hO d_X12_least_208.1 d_X12_least_208.2 ?_
        exact g_ret hO rfl rfl ⟨Nat.le_of_ble_eq_true rfl, Nat.le_of_ble_eq_true rfl⟩ rfl rfl d_X12_least_223.1
      · skip
        refine g_iload hO d_X12_least_211 2 rfl ?_
        refine g_if_eq (tgt := 221) hO d_X12_least_213.1 d_X12_least_213.2 (fun _ => ?_) (fun _ => ?_)
        · skip
          refine g_iload hO d_X12_least_221 4 rfl ?_
          exact g_ret hO rfl rfl ⟨Nat.le_of_ble_eq_true rfl, Nat.le_of_ble_eq_true rfl⟩ rfl rfl d_X12_least_223.1
        · skip
          refine g_iload hO d_X12_least_216 3 rfl ?_
          refine g_goto (tgt := 223) hO d_X12_least_218.1 d_X12_least_218.2 ?_
          exact g_ret hO rfl rfl ⟨Nat.le_of_ble_eq_true rfl, Nat.le_of_ble_eq_true rfl⟩ rfl rfl d_X12_least_223.1
    · skip
      refine g_iconst hO 0 d_X12_least_90 (by decide) ?_
      refine g_istore (lv' := [(9, vI 0), (0, vA (some o)), (3, vI x3), (5, vI x5), (6, vI x6), (7, vI x7), (8, vI x8)]) hO d_X12_least_91 (by decide) rfl ?_
      refine g_iconst hO 0 d_X12_least_93 (by decide) ?_
      refine g_istore (lv' := [(10, vI 0), (9, vI 0), (0, vA (some o)), (3, vI x3), (5, vI x5), (6, vI x6), (7, vI x7), (8, vI x8)]) hO d_X12_least_94 (by decide) rfl ?_
      exact g_sub [2, 3, 4, 5, 6, 7, 1, 0] rfl (w_X12_least_96 hO o ih _ _ _ _ _ _ _ _ _)
set_option maxRecDepth 20000 in
theorem w_X12_least_38 {Γ : GC} {E : GE} (hO : gOk Γ E cX12_least RX12 11 rm_X12_least (some .int) "least") (o : Nat) : ∀ (n : Nat) (x3 : Int32) (x4 : Int32) (x5 : Int32) (x6 : Int32) (S : GS), Go Γ E (gBsI Γ E) 11 (0, 0) 38 S [(0, vA (some o)), (3, vI x3), (4, vI x4), (5, vI x5), (6, vI x6)] [] (f_X12_least_38 o n x3 x4 x5 x6 S) := by
  intro n
  induction n with
  | zero =>
    intro x3 x4 x5 x6 S
    exact g_none
  | succ n ih =>
    intro x3 x4 x5 x6 S
    rw [f_X12_least_38]
    refine g_iload hO d_X12_least_38 4 rfl ?_
    refine g_aload_n hO d_X12_least_40 (by rfl) 0 rfl ?_
    refine h_getI hO cl_X12 27 rfl wf_X12_294 d_X12_least_41 (fun v1 => ?_)
    refine g_ic_ge (tgt := 68) hO d_X12_least_44.1 d_X12_least_44.2 (fun _ => ?_) (fun _ => ?_)
    · skip
      refine g_iconst hO (-1) d_X12_least_68 (by decide) ?_
      refine g_istore (lv' := [(6, vI (-1)), (0, vA (some o)), (3, vI x3), (4, vI x4), (5, vI x5)]) hO d_X12_least_69 (by decide) rfl ?_
      refine g_ldcw hO 1000000 d_X12_least_71 wk_X12_427 ?_
      refine g_istore (lv' := [(7, vI 1000000), (6, vI (-1)), (0, vA (some o)), (3, vI x3), (4, vI x4), (5, vI x5)]) hO d_X12_least_74 (by decide) rfl ?_
      refine g_iconst hO 0 d_X12_least_76 (by decide) ?_
      refine g_istore (lv' := [(8, vI 0), (7, vI 1000000), (6, vI (-1)), (0, vA (some o)), (3, vI x3), (4, vI x4), (5, vI x5)]) hO d_X12_least_77 (by decide) rfl ?_
      exact g_sub [3, 4, 6, 2, 1, 0] rfl (w_X12_least_79 hO o _ _ _ _ _ _ _)
    · skip
      refine g_aload_n hO d_X12_least_47 (by rfl) 0 rfl ?_
      refine h_getR hO cl_X12 47 rfl wf_X12_71 d_X12_least_48 (fun v2 => ?_)
      refine g_iload hO d_X12_least_51 4 rfl ?_
      refine g_aload_n hO d_X12_least_53 (by rfl) 0 rfl ?_
      refine g_iload hO d_X12_least_54 4 rfl ?_
      refine g_iload hO d_X12_least_56 2 rfl ?_
      refine k_virtIs hO cl_X12 mm_X12_knotsOf lkV_X12_440 ⟨⟨Nat.le_of_ble_eq_true rfl, Nat.le_of_ble_eq_true rfl⟩, Nat.le_of_ble_eq_true rfl, Nat.le_of_ble_eq_true rfl⟩ (kn' := (0, 0)) rfl (As := [vI x6, vI x4]) rfl (Nat.le_of_ble_eq_true rfl) (fun o' _ => t_X12_knotsOf Γ.2.1 E o' x6 x4 S) d_X12_least_58 rfl (fun v3 S4 => ?_)
      refine h_iast hO d_X12_least_61 (fun S5 => ?_)
      refine g_iinc (lv' := [(6, vI (x6 + 1)), (0, vA (some o)), (3, vI x3), (4, vI x4), (5, vI x5)]) hO 1 d_X12_least_62 (by decide) 4 rfl (by decide) rfl ?_
      refine g_goto (tgt := 38) hO d_X12_least_65.1 d_X12_least_65.2 ?_
      exact g_sub [1, 2, 3, 4, 0] rfl (ih _ _ _ _ _)
set_option maxRecDepth 20000 in
theorem w_X12_least {Γ : GC} {E : GE} (hO : gOk Γ E cX12_least RX12 11 rm_X12_least (some .int) "least") (o : Nat) (x1 : Int32) (x2 : Int32) (x3 : Int32) (x4 : Int32) (x5 : Int32) (S : GS) : Go Γ E (gBsI Γ E) 11 (0, 0) 0 S [(0, vA (some o)), (1, vI x1), (2, vI x2), (3, vI x3), (4, vI x4), (5, vI x5)] [] (f_X12_least o x1 x2 x3 x4 x5 S) := by
  unfold f_X12_least
  refine g_aload_n hO d_X12_least_0 (by rfl) 0 rfl ?_
  refine g_iconst hO 0 d_X12_least_1 (by decide) ?_
  refine h_putI hO cl_X12 0 rfl rfl wf_X12_100 (Or.inl rfl) d_X12_least_2 (fun S1 => ?_)
  refine g_aload_n hO d_X12_least_5 (by rfl) 0 rfl ?_
  refine g_iload_n hO d_X12_least_6 (by rfl) 2 rfl ?_
  refine k_virtIs hO cl_X12 mm_X12_hasForecast lkV_X12_415 ⟨⟨Nat.le_of_ble_eq_true rfl, Nat.le_of_ble_eq_true rfl⟩, Nat.le_of_ble_eq_true rfl, Nat.le_of_ble_eq_true rfl⟩ (kn' := (0, 0)) rfl (As := [vI x2]) rfl (Nat.le_of_ble_eq_true rfl) (fun o' _ => t_X12_hasForecast Γ.2.1 E o' x2 S1) d_X12_least_7 rfl (fun v2 S3 => ?_)
  refine g_if_eq (tgt := 33) hO d_X12_least_10.1 d_X12_least_10.2 (fun _ => ?_) (fun _ => ?_)
  · skip
    refine g_iconst hO (-1) d_X12_least_33 (by decide) ?_
    exact g_ret hO rfl rfl ⟨Nat.le_of_ble_eq_true rfl, Nat.le_of_ble_eq_true rfl⟩ rfl rfl d_X12_least_34.1
  · skip
    refine g_aload_n hO d_X12_least_13 (by rfl) 0 rfl ?_
    refine g_iload_n hO d_X12_least_14 (by rfl) 1 rfl ?_
    refine k_virtIs hO cl_X12 mm_X12_hand lkV_X12_297 ⟨⟨Nat.le_of_ble_eq_true rfl, Nat.le_of_ble_eq_true rfl⟩, Nat.le_of_ble_eq_true rfl, Nat.le_of_ble_eq_true rfl⟩ (kn' := (0, 0)) rfl (As := [vI x1]) rfl (Nat.le_of_ble_eq_true rfl) (fun o' _ => t_X12_hand Γ.2.1 E o' x1 S3) d_X12_least_15 rfl (fun v4 S5 => ?_)
    refine g_if_eq (tgt := 33) hO d_X12_least_18.1 d_X12_least_18.2 (fun _ => ?_) (fun _ => ?_)
    · skip
      refine g_iconst hO (-1) d_X12_least_33 (by decide) ?_
      exact g_ret hO rfl rfl ⟨Nat.le_of_ble_eq_true rfl, Nat.le_of_ble_eq_true rfl⟩ rfl rfl d_X12_least_34.1
    · skip
      refine g_iload_n hO d_X12_least_21 (by rfl) 3 rfl ?_
      refine g_iconst hO 0 d_X12_least_22 (by decide) ?_
      refine g_aload_n hO d_X12_least_23 (by rfl) 0 rfl ?_
      refine h_getI hO cl_X12 27 rfl wf_X12_294 d_X12_least_24 (fun v6 => ?_)
      refine k_statIp hO mm_X12_in lkS_X12_112 ⟨⟨Nat.le_of_ble_eq_true rfl, Nat.le_of_ble_eq_true rfl⟩, Nat.le_of_ble_eq_true rfl, Nat.le_of_ble_eq_true rfl⟩ (kn' := (0, 0)) rfl (As := [vI x3, vI 0, vI v6]) rfl (Nat.le_of_ble_eq_true rfl) (t_X12_in Γ.2.1 E x3 0 v6 S5) d_X12_least_27 rfl (fun v7 => ?_)
      refine g_if_ne (tgt := 35) hO d_X12_least_30.1 d_X12_least_30.2 (fun _ => ?_) (fun _ => ?_)
      · skip
        refine g_iconst hO (-1) d_X12_least_33 (by decide) ?_
        exact g_ret hO rfl rfl ⟨Nat.le_of_ble_eq_true rfl, Nat.le_of_ble_eq_true rfl⟩ rfl rfl d_X12_least_34.1
      · skip
        refine g_iconst hO 0 d_X12_least_35 (by decide) ?_
        refine g_istore (lv' := [(6, vI 0), (0, vA (some o)), (1, vI x1), (2, vI x2), (3, vI x3), (4, vI x4), (5, vI x5)]) hO d_X12_least_36 (by decide) rfl ?_
        exact g_sub [1, 4, 5, 6, 0] rfl (w_X12_least_38 hO o _ _ _ _ _ _)
theorem t_X12_least (l : Launch) (E : GE) (o : Nat) (x1 : Int32) (x2 : Int32) (x3 : Int32) (x4 : Int32) (x5 : Int32) (S : GS) : ∀ a, f_X12_least o x1 x2 x3 x4 x5 S = some a → Ct l E yX12_least cX12_least 11 (some .int) rm_X12_least [vA (some o), vI x1, vI x2, vI x3, vI x4, vI x5] S (some (vI a.1)) a.2 :=
  Ct_of (val := fun (b : Int32 × GS) => some (vI b.1)) (nxt := fun (b : Int32 × GS) => b.2) (by decide) (Nat.le_of_ble_eq_true rfl) (fun Γ hl hO => w_X12_least hO o x1 x2 x3 x4 x5 S)
theorem d_X12_dance_0 : gD cX12_dance 0 (.aload_n 0) 1 1 := ⟨by decide +kernel, rfl⟩
theorem d_X12_dance_1 : gD cX12_dance 1 (.iconst 0) 1 2 := ⟨by decide +kernel, rfl⟩
theorem d_X12_dance_2 : gD cX12_dance 2 (.putfield 100) 3 5 := ⟨by decide +kernel, rfl⟩
theorem d_X12_dance_5 : gD cX12_dance 5 (.aload_n 0) 1 6 := ⟨by decide +kernel, rfl⟩
theorem d_X12_dance_6 : gD cX12_dance 6 (.iload_n 1) 1 7 := ⟨by decide +kernel, rfl⟩
theorem d_X12_dance_7 : gD cX12_dance 7 (.invokevirtual 415) 3 10 := ⟨by decide +kernel, rfl⟩
theorem d_X12_dance_10 : gD cX12_dance 10 (.ifCond .ne 5) 3 13 ∧ ((10 : Nat) : Int) + 5 = ((15 : Nat) : Int) := ⟨⟨by decide +kernel, rfl⟩, by decide⟩
theorem d_X12_dance_13 : gD cX12_dance 13 (.iconst (-1)) 1 14 := ⟨by decide +kernel, rfl⟩
theorem d_X12_dance_14 : gD cX12_dance 14 (.ireturn) 1 15 := ⟨by decide +kernel, rfl⟩
theorem d_X12_dance_15 : gD cX12_dance 15 (.iconst 0) 1 16 := ⟨by decide +kernel, rfl⟩
theorem d_X12_dance_16 : gD cX12_dance 16 (.istore_n 3) 1 17 := ⟨by decide +kernel, rfl⟩
theorem d_X12_dance_17 : gD cX12_dance 17 (.iload_n 3) 1 18 := ⟨by decide +kernel, rfl⟩
theorem d_X12_dance_18 : gD cX12_dance 18 (.aload_n 0) 1 19 := ⟨by decide +kernel, rfl⟩
theorem d_X12_dance_19 : gD cX12_dance 19 (.invokevirtual 418) 3 22 := ⟨by decide +kernel, rfl⟩
theorem d_X12_dance_22 : gD cX12_dance 22 (.if_icmp .ge 20) 3 25 ∧ ((22 : Nat) : Int) + 20 = ((42 : Nat) : Int) := ⟨⟨by decide +kernel, rfl⟩, by decide⟩
theorem d_X12_dance_25 : gD cX12_dance 25 (.aload_n 0) 1 26 := ⟨by decide +kernel, rfl⟩
theorem d_X12_dance_26 : gD cX12_dance 26 (.iload_n 3) 1 27 := ⟨by decide +kernel, rfl⟩
theorem d_X12_dance_27 : gD cX12_dance 27 (.invokevirtual 421) 3 30 := ⟨by decide +kernel, rfl⟩
theorem d_X12_dance_30 : gD cX12_dance 30 (.iload_n 2) 1 31 := ⟨by decide +kernel, rfl⟩
theorem d_X12_dance_31 : gD cX12_dance 31 (.if_icmp .ne 5) 3 34 ∧ ((31 : Nat) : Int) + 5 = ((36 : Nat) : Int) := ⟨⟨by decide +kernel, rfl⟩, by decide⟩
theorem d_X12_dance_34 : gD cX12_dance 34 (.iload_n 3) 1 35 := ⟨by decide +kernel, rfl⟩
theorem d_X12_dance_35 : gD cX12_dance 35 (.ireturn) 1 36 := ⟨by decide +kernel, rfl⟩
theorem d_X12_dance_36 : gD cX12_dance 36 (.iinc 3 1) 3 39 := ⟨by decide +kernel, rfl⟩
theorem d_X12_dance_39 : decode cX12_dance 39 = .ok (.goto (-22), 3) ∧ ((39 : Nat) : Int) + (-22) = ((17 : Nat) : Int) := ⟨by decide +kernel, by decide⟩
theorem d_X12_dance_42 : gD cX12_dance 42 (.iconst (-1)) 1 43 := ⟨by decide +kernel, rfl⟩
theorem d_X12_dance_43 : gD cX12_dance 43 (.ireturn) 1 44 := ⟨by decide +kernel, rfl⟩
abbrev rm_X12_dance : Room := { frames := 3, cells := 0, slots := 0, locals := 65 }
set_option maxRecDepth 20000 in
theorem w_X12_dance_17 {Γ : GC} {E : GE} (hO : gOk Γ E cX12_dance RX12 4 rm_X12_dance (some .int) "dance") (o : Nat) : ∀ (n : Nat) (x2 : Int32) (x3 : Int32) (S : GS), Go Γ E (gBsI Γ E) 4 (0, 0) 17 S [(0, vA (some o)), (2, vI x2), (3, vI x3)] [] (f_X12_dance_17 o n x2 x3 S) := by
  intro n
  induction n with
  | zero =>
    intro x2 x3 S
    exact g_none
  | succ n ih =>
    intro x2 x3 S
    rw [f_X12_dance_17]
    refine g_iload_n hO d_X12_dance_17 (by rfl) 2 rfl ?_
    refine g_aload_n hO d_X12_dance_18 (by rfl) 0 rfl ?_
    refine k_virtIp hO cl_X12 mm_X12_marks lkV_X12_418 ⟨⟨Nat.le_of_ble_eq_true rfl, Nat.le_of_ble_eq_true rfl⟩, Nat.le_of_ble_eq_true rfl, Nat.le_of_ble_eq_true rfl⟩ (kn' := (0, 0)) rfl (As := []) rfl (Nat.le_of_ble_eq_true rfl) (fun o' _ => t_X12_marks Γ.2.1 E o' S) d_X12_dance_19 rfl (fun v1 => ?_)
    refine g_ic_ge (tgt := 42) hO d_X12_dance_22.1 d_X12_dance_22.2 (fun _ => ?_) (fun _ => ?_)
    · skip
      refine g_iconst hO (-1) d_X12_dance_42 (by decide) ?_
      exact g_ret hO rfl rfl ⟨Nat.le_of_ble_eq_true rfl, Nat.le_of_ble_eq_true rfl⟩ rfl rfl d_X12_dance_43.1
    · skip
      refine g_aload_n hO d_X12_dance_25 (by rfl) 0 rfl ?_
      refine g_iload_n hO d_X12_dance_26 (by rfl) 2 rfl ?_
      refine k_virtIp hO cl_X12 mm_X12_markOf lkV_X12_421 ⟨⟨Nat.le_of_ble_eq_true rfl, Nat.le_of_ble_eq_true rfl⟩, Nat.le_of_ble_eq_true rfl, Nat.le_of_ble_eq_true rfl⟩ (kn' := (0, 0)) rfl (As := [vI x3]) rfl (Nat.le_of_ble_eq_true rfl) (fun o' _ => t_X12_markOf Γ.2.1 E o' x3 S) d_X12_dance_27 rfl (fun v3 => ?_)
      refine g_iload_n hO d_X12_dance_30 (by rfl) 1 rfl ?_
      refine g_ic_ne (tgt := 36) hO d_X12_dance_31.1 d_X12_dance_31.2 (fun _ => ?_) (fun _ => ?_)
      · skip
        refine g_iload_n hO d_X12_dance_34 (by rfl) 2 rfl ?_
        exact g_ret hO rfl rfl ⟨Nat.le_of_ble_eq_true rfl, Nat.le_of_ble_eq_true rfl⟩ rfl rfl d_X12_dance_35.1
      · skip
        refine g_iinc (lv' := [(3, vI (x3 + 1)), (0, vA (some o)), (2, vI x2)]) hO 1 d_X12_dance_36 (by decide) 2 rfl (by decide) rfl ?_
        refine g_goto (tgt := 17) hO d_X12_dance_39.1 d_X12_dance_39.2 ?_
        exact g_sub [1, 2, 0] rfl (ih _ _ _)
set_option maxRecDepth 20000 in
theorem w_X12_dance {Γ : GC} {E : GE} (hO : gOk Γ E cX12_dance RX12 4 rm_X12_dance (some .int) "dance") (o : Nat) (x1 : Int32) (x2 : Int32) (S : GS) : Go Γ E (gBsI Γ E) 4 (0, 0) 0 S [(0, vA (some o)), (1, vI x1), (2, vI x2)] [] (f_X12_dance o x1 x2 S) := by
  unfold f_X12_dance
  refine g_aload_n hO d_X12_dance_0 (by rfl) 0 rfl ?_
  refine g_iconst hO 0 d_X12_dance_1 (by decide) ?_
  refine h_putI hO cl_X12 0 rfl rfl wf_X12_100 (Or.inl rfl) d_X12_dance_2 (fun S1 => ?_)
  refine g_aload_n hO d_X12_dance_5 (by rfl) 0 rfl ?_
  refine g_iload_n hO d_X12_dance_6 (by rfl) 1 rfl ?_
  refine k_virtIs hO cl_X12 mm_X12_hasForecast lkV_X12_415 ⟨⟨Nat.le_of_ble_eq_true rfl, Nat.le_of_ble_eq_true rfl⟩, Nat.le_of_ble_eq_true rfl, Nat.le_of_ble_eq_true rfl⟩ (kn' := (0, 0)) rfl (As := [vI x1]) rfl (Nat.le_of_ble_eq_true rfl) (fun o' _ => t_X12_hasForecast Γ.2.1 E o' x1 S1) d_X12_dance_7 rfl (fun v2 S3 => ?_)
  refine g_if_ne (tgt := 15) hO d_X12_dance_10.1 d_X12_dance_10.2 (fun _ => ?_) (fun _ => ?_)
  · skip
    refine g_iconst hO (-1) d_X12_dance_13 (by decide) ?_
    exact g_ret hO rfl rfl ⟨Nat.le_of_ble_eq_true rfl, Nat.le_of_ble_eq_true rfl⟩ rfl rfl d_X12_dance_14.1
  · skip
    refine g_iconst hO 0 d_X12_dance_15 (by decide) ?_
    refine g_istore_n (lv' := [(3, vI 0), (0, vA (some o)), (1, vI x1), (2, vI x2)]) hO d_X12_dance_16 (by rfl) (by decide) rfl ?_
    exact g_sub [1, 3, 0] rfl (w_X12_dance_17 hO o _ _ _ _)
theorem t_X12_dance (l : Launch) (E : GE) (o : Nat) (x1 : Int32) (x2 : Int32) (S : GS) : ∀ a, f_X12_dance o x1 x2 S = some a → Ct l E yX12_dance cX12_dance 4 (some .int) rm_X12_dance [vA (some o), vI x1, vI x2] S (some (vI a.1)) a.2 :=
  Ct_of (val := fun (b : Int32 × GS) => some (vI b.1)) (nxt := fun (b : Int32 × GS) => b.2) (by decide) (Nat.le_of_ble_eq_true rfl) (fun Γ hl hO => w_X12_dance hO o x1 x2 S)
theorem d_X12_after_0 : gD cX12_after 0 (.iconst 0) 1 1 := ⟨by decide +kernel, rfl⟩
theorem d_X12_after_1 : gD cX12_after 1 (.bipush 40) 2 3 := ⟨by decide +kernel, rfl⟩
theorem d_X12_after_3 : gD cX12_after 3 (.iload_n 1) 1 4 := ⟨by decide +kernel, rfl⟩
theorem d_X12_after_4 : gD cX12_after 4 (.iload_n 2) 1 5 := ⟨by decide +kernel, rfl⟩
theorem d_X12_after_5 : gD cX12_after 5 (.iadd) 1 6 := ⟨by decide +kernel, rfl⟩
theorem d_X12_after_6 : gD cX12_after 6 (.iconst 1) 1 7 := ⟨by decide +kernel, rfl⟩
theorem d_X12_after_7 : gD cX12_after 7 (.isub) 1 8 := ⟨by decide +kernel, rfl⟩
theorem d_X12_after_8 : gD cX12_after 8 (.invokestatic 364) 3 11 := ⟨by decide +kernel, rfl⟩
theorem d_X12_after_11 : gD cX12_after 11 (.invokestatic 173) 3 14 := ⟨by decide +kernel, rfl⟩
theorem d_X12_after_14 : gD cX12_after 14 (.ireturn) 1 15 := ⟨by decide +kernel, rfl⟩
abbrev rm_X12_after : Room := { frames := 1, cells := 0, slots := 0, locals := 21 }
set_option maxRecDepth 20000 in
theorem w_X12_after {Γ : GC} {E : GE} (hO : gOk Γ E cX12_after RX12 3 rm_X12_after (some .int) "after") (o : Nat) (x1 : Int32) (x2 : Int32) (S : GS) : Go Γ E (gBpI Γ E S) 3 (0, 0) 0 S [(0, vA (some o)), (1, vI x1), (2, vI x2)] [] (f_X12_after o x1 x2 S) := by
  unfold f_X12_after
  refine g_iconst hO 0 d_X12_after_0 (by decide) ?_
  refine g_bipush hO 40 d_X12_after_1 (by decide) ?_
  refine g_iload_n hO d_X12_after_3 (by rfl) 1 rfl ?_
  refine g_iload_n hO d_X12_after_4 (by rfl) 2 rfl ?_
  refine g_iadd hO d_X12_after_5 ?_
  refine g_iconst hO 1 d_X12_after_6 (by decide) ?_
  refine g_isub hO d_X12_after_7 ?_
  refine k_statIp hO mm_X12_lesser lkS_X12_364 ⟨⟨Nat.le_of_ble_eq_true rfl, Nat.le_of_ble_eq_true rfl⟩, Nat.le_of_ble_eq_true rfl, Nat.le_of_ble_eq_true rfl⟩ (kn' := (0, 0)) rfl (As := [vI 40, vI ((x1 + x2) - 1)]) rfl (Nat.le_of_ble_eq_true rfl) (t_X12_lesser Γ.2.1 E 40 ((x1 + x2) - 1) S) d_X12_after_8 rfl (fun v1 => ?_)
  refine k_statIp hO mm_X12_greater lkS_X12_173 ⟨⟨Nat.le_of_ble_eq_true rfl, Nat.le_of_ble_eq_true rfl⟩, Nat.le_of_ble_eq_true rfl, Nat.le_of_ble_eq_true rfl⟩ (kn' := (0, 0)) rfl (As := [vI 0, vI v1]) rfl (Nat.le_of_ble_eq_true rfl) (t_X12_greater Γ.2.1 E 0 v1 S) d_X12_after_11 rfl (fun v3 => ?_)
  exact g_ret hO rfl rfl ⟨Nat.le_of_ble_eq_true rfl, Nat.le_of_ble_eq_true rfl⟩ rfl rfl d_X12_after_14.1
theorem t_X12_after (l : Launch) (E : GE) (o : Nat) (x1 : Int32) (x2 : Int32) (S : GS) : ∀ a, f_X12_after o x1 x2 S = some a → Ct l E yX12_after cX12_after 3 (some .int) rm_X12_after [vA (some o), vI x1, vI x2] S (some (vI a)) S :=
  Ct_of (val := fun b => some (vI b)) (nxt := fun _ => S) (by decide) (Nat.le_of_ble_eq_true rfl) (fun Γ hl hO => w_X12_after hO o x1 x2 S)
theorem d_X12_windOf_0 : gD cX12_windOf 0 (.aload_n 0) 1 1 := ⟨by decide +kernel, rfl⟩
theorem d_X12_windOf_1 : gD cX12_windOf 1 (.bipush 6) 2 3 := ⟨by decide +kernel, rfl⟩
theorem d_X12_windOf_3 : gD cX12_windOf 3 (.iload_n 1) 1 4 := ⟨by decide +kernel, rfl⟩
theorem d_X12_windOf_4 : gD cX12_windOf 4 (.iadd) 1 5 := ⟨by decide +kernel, rfl⟩
theorem d_X12_windOf_5 : gD cX12_windOf 5 (.invokevirtual 287) 3 8 := ⟨by decide +kernel, rfl⟩
theorem d_X12_windOf_8 : gD cX12_windOf 8 (.ireturn) 1 9 := ⟨by decide +kernel, rfl⟩
abbrev rm_X12_windOf : Room := { frames := 1, cells := 0, slots := 0, locals := 21 }
set_option maxRecDepth 20000 in
theorem w_X12_windOf {Γ : GC} {E : GE} (hO : gOk Γ E cX12_windOf RX12 2 rm_X12_windOf (some .int) "windOf") (o : Nat) (x1 : Int32) (S : GS) : Go Γ E (gBpI Γ E S) 2 (0, 0) 0 S [(0, vA (some o)), (1, vI x1)] [] (f_X12_windOf o x1 S) := by
  unfold f_X12_windOf
  refine g_aload_n hO d_X12_windOf_0 (by rfl) 0 rfl ?_
  refine g_bipush hO 6 d_X12_windOf_1 (by decide) ?_
  refine g_iload_n hO d_X12_windOf_3 (by rfl) 1 rfl ?_
  refine g_iadd hO d_X12_windOf_4 ?_
  refine k_virtIp hO cl_X12 mm_X12_ofCourt lkV_X12_287 ⟨⟨Nat.le_of_ble_eq_true rfl, Nat.le_of_ble_eq_true rfl⟩, Nat.le_of_ble_eq_true rfl, Nat.le_of_ble_eq_true rfl⟩ (kn' := (0, 0)) rfl (As := [vI (6 + x1)]) rfl (Nat.le_of_ble_eq_true rfl) (fun o' _ => t_X12_ofCourt Γ.2.1 E o' (6 + x1) S) d_X12_windOf_5 rfl (fun v1 => ?_)
  exact g_ret hO rfl rfl ⟨Nat.le_of_ble_eq_true rfl, Nat.le_of_ble_eq_true rfl⟩ rfl rfl d_X12_windOf_8.1
theorem t_X12_windOf (l : Launch) (E : GE) (o : Nat) (x1 : Int32) (S : GS) : ∀ a, f_X12_windOf o x1 S = some a → Ct l E yX12_windOf cX12_windOf 2 (some .int) rm_X12_windOf [vA (some o), vI x1] S (some (vI a)) S :=
  Ct_of (val := fun b => some (vI b)) (nxt := fun _ => S) (by decide) (Nat.le_of_ble_eq_true rfl) (fun Γ hl hO => w_X12_windOf hO o x1 S)
theorem d_X12_still_0 : gD cX12_still 0 (.aload_n 0) 1 1 := ⟨by decide +kernel, rfl⟩
theorem d_X12_still_1 : gD cX12_still 1 (.aload_n 0) 1 2 := ⟨by decide +kernel, rfl⟩
theorem d_X12_still_2 : gD cX12_still 2 (.iconst 0) 1 3 := ⟨by decide +kernel, rfl⟩
theorem d_X12_still_3 : gD cX12_still 3 (.invokevirtual 444) 3 6 := ⟨by decide +kernel, rfl⟩
theorem d_X12_still_6 : gD cX12_still 6 (.aload_n 0) 1 7 := ⟨by decide +kernel, rfl⟩
theorem d_X12_still_7 : gD cX12_still 7 (.iconst 1) 1 8 := ⟨by decide +kernel, rfl⟩
theorem d_X12_still_8 : gD cX12_still 8 (.invokevirtual 444) 3 11 := ⟨by decide +kernel, rfl⟩
theorem d_X12_still_11 : gD cX12_still 11 (.iadd) 1 12 := ⟨by decide +kernel, rfl⟩
theorem d_X12_still_12 : gD cX12_still 12 (.aload_n 0) 1 13 := ⟨by decide +kernel, rfl⟩
theorem d_X12_still_13 : gD cX12_still 13 (.iconst 2) 1 14 := ⟨by decide +kernel, rfl⟩
theorem d_X12_still_14 : gD cX12_still 14 (.invokevirtual 444) 3 17 := ⟨by decide +kernel, rfl⟩
theorem d_X12_still_17 : gD cX12_still 17 (.iadd) 1 18 := ⟨by decide +kernel, rfl⟩
theorem d_X12_still_18 : gD cX12_still 18 (.putfield 447) 3 21 := ⟨by decide +kernel, rfl⟩
theorem d_X12_still_21 : gD cX12_still 21 (.iconst 0) 1 22 := ⟨by decide +kernel, rfl⟩
theorem d_X12_still_22 : gD cX12_still 22 (.istore_n 1) 1 23 := ⟨by decide +kernel, rfl⟩
theorem d_X12_still_23 : gD cX12_still 23 (.iload_n 1) 1 24 := ⟨by decide +kernel, rfl⟩
theorem d_X12_still_24 : gD cX12_still 24 (.bipush 40) 2 26 := ⟨by decide +kernel, rfl⟩
theorem d_X12_still_26 : gD cX12_still 26 (.if_icmp .gt 29) 3 29 ∧ ((26 : Nat) : Int) + 29 = ((55 : Nat) : Int) := ⟨⟨by decide +kernel, rfl⟩, by decide⟩
theorem d_X12_still_29 : gD cX12_still 29 (.aload_n 0) 1 30 := ⟨by decide +kernel, rfl⟩
theorem d_X12_still_30 : gD cX12_still 30 (.getfield 74) 3 33 := ⟨by decide +kernel, rfl⟩
theorem d_X12_still_33 : gD cX12_still 33 (.iload_n 1) 1 34 := ⟨by decide +kernel, rfl⟩
theorem d_X12_still_34 : gD cX12_still 34 (.iload_n 1) 1 35 := ⟨by decide +kernel, rfl⟩
theorem d_X12_still_35 : gD cX12_still 35 (.aload_n 0) 1 36 := ⟨by decide +kernel, rfl⟩
theorem d_X12_still_36 : gD cX12_still 36 (.iconst 5) 1 37 := ⟨by decide +kernel, rfl⟩
theorem d_X12_still_37 : gD cX12_still 37 (.invokevirtual 287) 3 40 := ⟨by decide +kernel, rfl⟩
theorem d_X12_still_40 : gD cX12_still 40 (.if_icmp .ne 7) 3 43 ∧ ((40 : Nat) : Int) + 7 = ((47 : Nat) : Int) := ⟨⟨by decide +kernel, rfl⟩, by decide⟩
theorem d_X12_still_43 : gD cX12_still 43 (.lconst 1) 1 44 := ⟨by decide +kernel, rfl⟩
theorem d_X12_still_44 : decode cX12_still 44 = .ok (.goto 4, 3) ∧ ((44 : Nat) : Int) + 4 = ((48 : Nat) : Int) := ⟨by decide +kernel, by decide⟩
theorem d_X12_still_47 : gD cX12_still 47 (.lconst 0) 1 48 := ⟨by decide +kernel, rfl⟩
theorem d_X12_still_48 : gD cX12_still 48 (.lastore) 1 49 := ⟨by decide +kernel, rfl⟩
theorem d_X12_still_49 : gD cX12_still 49 (.iinc 1 1) 3 52 := ⟨by decide +kernel, rfl⟩
theorem d_X12_still_52 : decode cX12_still 52 = .ok (.goto (-29), 3) ∧ ((52 : Nat) : Int) + (-29) = ((23 : Nat) : Int) := ⟨by decide +kernel, by decide⟩
theorem d_X12_still_55 : gD cX12_still 55 (.return_) 1 56 := ⟨by decide +kernel, rfl⟩
abbrev rm_X12_still : Room := { frames := 2, cells := 0, slots := 0, locals := 42 }
set_option maxRecDepth 20000 in
theorem w_X12_still_48 {Γ : GC} {E : GE} (hO : gOk Γ E cX12_still RX12 2 rm_X12_still none "still") (o : Nat) {k23 : (Int32 → GS → Option GS)} (hk23 : ∀ (z1 : Int32) (S1 : GS), Go Γ E (gBsV Γ E) 2 (0, 0) 23 S1 [(0, vA (some o)), (1, vI z1)] [] (k23 z1 S1)) (x1 : Int32) (y0 : Option Nat) (y1 : Int32) (y2 : Int64) (S : GS) : Go Γ E (gBsV Γ E) 2 (0, 0) 48 S [(0, vA (some o)), (1, vI x1)] [vJ y2, vI y1, vA y0] (f_X12_still_48 k23 o x1 y0 y1 y2 S) := by
  unfold f_X12_still_48
  refine h_last hO d_X12_still_48 (fun S1 => ?_)
  refine g_iinc (lv' := [(1, vI (x1 + 1)), (0, vA (some o))]) hO 1 d_X12_still_49 (by decide) 1 rfl (by decide) rfl ?_
  refine g_goto (tgt := 23) hO d_X12_still_52.1 d_X12_still_52.2 ?_
  exact g_sub [1, 0] rfl (hk23 _ _)
set_option maxRecDepth 20000 in
theorem w_X12_still_23 {Γ : GC} {E : GE} (hO : gOk Γ E cX12_still RX12 2 rm_X12_still none "still") (o : Nat) : ∀ (n : Nat) (x1 : Int32) (S : GS), Go Γ E (gBsV Γ E) 2 (0, 0) 23 S [(0, vA (some o)), (1, vI x1)] [] (f_X12_still_23 o n x1 S) := by
  intro n
  induction n with
  | zero =>
    intro x1 S
    exact g_none
  | succ n ih =>
    intro x1 S
    rw [f_X12_still_23]
    refine g_iload_n hO d_X12_still_23 (by rfl) 1 rfl ?_
    refine g_bipush hO 40 d_X12_still_24 (by decide) ?_
    refine g_ic_gt (tgt := 55) hO d_X12_still_26.1 d_X12_still_26.2 (fun _ => ?_) (fun _ => ?_)
    · skip
      exact g_vret hO rfl ⟨Nat.le_of_ble_eq_true rfl, Nat.le_of_ble_eq_true rfl⟩ rfl rfl d_X12_still_55.1
    · skip
      refine g_aload_n hO d_X12_still_29 (by rfl) 0 rfl ?_
      refine h_getR hO cl_X12 48 rfl wf_X12_74 d_X12_still_30 (fun v1 => ?_)
      refine g_iload_n hO d_X12_still_33 (by rfl) 1 rfl ?_
      refine g_iload_n hO d_X12_still_34 (by rfl) 1 rfl ?_
      refine g_aload_n hO d_X12_still_35 (by rfl) 0 rfl ?_
      refine g_iconst hO 5 d_X12_still_36 (by decide) ?_
      refine k_virtIp hO cl_X12 mm_X12_ofCourt lkV_X12_287 ⟨⟨Nat.le_of_ble_eq_true rfl, Nat.le_of_ble_eq_true rfl⟩, Nat.le_of_ble_eq_true rfl, Nat.le_of_ble_eq_true rfl⟩ (kn' := (0, 0)) rfl (As := [vI 5]) rfl (Nat.le_of_ble_eq_true rfl) (fun o' _ => t_X12_ofCourt Γ.2.1 E o' 5 S) d_X12_still_37 rfl (fun v2 => ?_)
      refine g_ic_ne (tgt := 47) hO d_X12_still_40.1 d_X12_still_40.2 (fun _ => ?_) (fun _ => ?_)
      · skip
        refine g_lconst hO 1 d_X12_still_43 (by decide) ?_
        refine g_goto (tgt := 48) hO d_X12_still_44.1 d_X12_still_44.2 ?_
        exact g_sub [0, 1] rfl (w_X12_still_48 hO o ih _ _ _ _ _)
      · skip
        refine g_lconst hO 0 d_X12_still_47 (by decide) ?_
        exact g_sub [0, 1] rfl (w_X12_still_48 hO o ih _ _ _ _ _)
set_option maxRecDepth 20000 in
theorem w_X12_still {Γ : GC} {E : GE} (hO : gOk Γ E cX12_still RX12 2 rm_X12_still none "still") (o : Nat) (S : GS) : Go Γ E (gBsV Γ E) 2 (0, 0) 0 S [(0, vA (some o))] [] (f_X12_still o S) := by
  unfold f_X12_still
  refine g_aload_n hO d_X12_still_0 (by rfl) 0 rfl ?_
  refine g_aload_n hO d_X12_still_1 (by rfl) 0 rfl ?_
  refine g_iconst hO 0 d_X12_still_2 (by decide) ?_
  refine k_virtIp hO cl_X12 mm_X12_windOf lkV_X12_444 ⟨⟨Nat.le_of_ble_eq_true rfl, Nat.le_of_ble_eq_true rfl⟩, Nat.le_of_ble_eq_true rfl, Nat.le_of_ble_eq_true rfl⟩ (kn' := (0, 0)) rfl (As := [vI 0]) rfl (Nat.le_of_ble_eq_true rfl) (fun o' _ => t_X12_windOf Γ.2.1 E o' 0 S) d_X12_still_3 rfl (fun v1 => ?_)
  refine g_aload_n hO d_X12_still_6 (by rfl) 0 rfl ?_
  refine g_iconst hO 1 d_X12_still_7 (by decide) ?_
  refine k_virtIp hO cl_X12 mm_X12_windOf lkV_X12_444 ⟨⟨Nat.le_of_ble_eq_true rfl, Nat.le_of_ble_eq_true rfl⟩, Nat.le_of_ble_eq_true rfl, Nat.le_of_ble_eq_true rfl⟩ (kn' := (0, 0)) rfl (As := [vI 1]) rfl (Nat.le_of_ble_eq_true rfl) (fun o' _ => t_X12_windOf Γ.2.1 E o' 1 S) d_X12_still_8 rfl (fun v3 => ?_)
  refine g_iadd hO d_X12_still_11 ?_
  refine g_aload_n hO d_X12_still_12 (by rfl) 0 rfl ?_
  refine g_iconst hO 2 d_X12_still_13 (by decide) ?_
  refine k_virtIp hO cl_X12 mm_X12_windOf lkV_X12_444 ⟨⟨Nat.le_of_ble_eq_true rfl, Nat.le_of_ble_eq_true rfl⟩, Nat.le_of_ble_eq_true rfl, Nat.le_of_ble_eq_true rfl⟩ (kn' := (0, 0)) rfl (As := [vI 2]) rfl (Nat.le_of_ble_eq_true rfl) (fun o' _ => t_X12_windOf Γ.2.1 E o' 2 S) d_X12_still_14 rfl (fun v5 => ?_)
  refine g_iadd hO d_X12_still_17 ?_
  refine h_putI hO cl_X12 50 rfl rfl wf_X12_447 (Or.inl rfl) d_X12_still_18 (fun S7 => ?_)
  refine g_iconst hO 0 d_X12_still_21 (by decide) ?_
  refine g_istore_n (lv' := [(1, vI 0), (0, vA (some o))]) hO d_X12_still_22 (by rfl) (by decide) rfl ?_
  exact g_sub [1, 0] rfl (w_X12_still_23 hO o _ _ _)
theorem t_X12_still (l : Launch) (E : GE) (o : Nat) (S : GS) : ∀ a, f_X12_still o S = some a → Ct l E yX12_still cX12_still 2 none rm_X12_still [vA (some o)] S none a :=
  Ct_of (val := fun _ => none) (nxt := fun b => b) (by decide) (Nat.le_of_ble_eq_true rfl) (fun Γ hl hO => w_X12_still hO o S)
theorem d_X12_blows_0 : gD cX12_blows 0 (.iconst 0) 1 1 := ⟨by decide +kernel, rfl⟩
theorem d_X12_blows_1 : gD cX12_blows 1 (.istore_n 1) 1 2 := ⟨by decide +kernel, rfl⟩
theorem d_X12_blows_2 : gD cX12_blows 2 (.iload_n 1) 1 3 := ⟨by decide +kernel, rfl⟩
theorem d_X12_blows_3 : gD cX12_blows 3 (.bipush 40) 2 5 := ⟨by decide +kernel, rfl⟩
theorem d_X12_blows_5 : gD cX12_blows 5 (.if_icmp .gt 16) 3 8 ∧ ((5 : Nat) : Int) + 16 = ((21 : Nat) : Int) := ⟨⟨by decide +kernel, rfl⟩, by decide⟩
theorem d_X12_blows_8 : gD cX12_blows 8 (.aload_n 0) 1 9 := ⟨by decide +kernel, rfl⟩
theorem d_X12_blows_9 : gD cX12_blows 9 (.getfield 78) 3 12 := ⟨by decide +kernel, rfl⟩
theorem d_X12_blows_12 : gD cX12_blows 12 (.iload_n 1) 1 13 := ⟨by decide +kernel, rfl⟩
theorem d_X12_blows_13 : gD cX12_blows 13 (.lconst 0) 1 14 := ⟨by decide +kernel, rfl⟩
theorem d_X12_blows_14 : gD cX12_blows 14 (.lastore) 1 15 := ⟨by decide +kernel, rfl⟩
theorem d_X12_blows_15 : gD cX12_blows 15 (.iinc 1 1) 3 18 := ⟨by decide +kernel, rfl⟩
theorem d_X12_blows_18 : decode cX12_blows 18 = .ok (.goto (-16), 3) ∧ ((18 : Nat) : Int) + (-16) = ((2 : Nat) : Int) := ⟨by decide +kernel, by decide⟩
theorem d_X12_blows_21 : gD cX12_blows 21 (.iconst 0) 1 22 := ⟨by decide +kernel, rfl⟩
theorem d_X12_blows_22 : gD cX12_blows 22 (.istore_n 1) 1 23 := ⟨by decide +kernel, rfl⟩
theorem d_X12_blows_23 : gD cX12_blows 23 (.iload_n 1) 1 24 := ⟨by decide +kernel, rfl⟩
theorem d_X12_blows_24 : gD cX12_blows 24 (.bipush 40) 2 26 := ⟨by decide +kernel, rfl⟩
theorem d_X12_blows_26 : gD cX12_blows 26 (.if_icmp .gt 49) 3 29 ∧ ((26 : Nat) : Int) + 49 = ((75 : Nat) : Int) := ⟨⟨by decide +kernel, rfl⟩, by decide⟩
theorem d_X12_blows_29 : gD cX12_blows 29 (.iconst 0) 1 30 := ⟨by decide +kernel, rfl⟩
theorem d_X12_blows_30 : gD cX12_blows 30 (.istore_n 2) 1 31 := ⟨by decide +kernel, rfl⟩
theorem d_X12_blows_31 : gD cX12_blows 31 (.iload_n 2) 1 32 := ⟨by decide +kernel, rfl⟩
theorem d_X12_blows_32 : gD cX12_blows 32 (.iconst 3) 1 33 := ⟨by decide +kernel, rfl⟩
theorem d_X12_blows_33 : gD cX12_blows 33 (.if_icmp .ge 36) 3 36 ∧ ((33 : Nat) : Int) + 36 = ((69 : Nat) : Int) := ⟨⟨by decide +kernel, rfl⟩, by decide⟩
theorem d_X12_blows_36 : gD cX12_blows 36 (.aload_n 0) 1 37 := ⟨by decide +kernel, rfl⟩
theorem d_X12_blows_37 : gD cX12_blows 37 (.getfield 78) 3 40 := ⟨by decide +kernel, rfl⟩
theorem d_X12_blows_40 : gD cX12_blows 40 (.aload_n 0) 1 41 := ⟨by decide +kernel, rfl⟩
theorem d_X12_blows_41 : gD cX12_blows 41 (.iload_n 1) 1 42 := ⟨by decide +kernel, rfl⟩
theorem d_X12_blows_42 : gD cX12_blows 42 (.iload_n 2) 1 43 := ⟨by decide +kernel, rfl⟩
theorem d_X12_blows_43 : gD cX12_blows 43 (.invokevirtual 450) 3 46 := ⟨by decide +kernel, rfl⟩
theorem d_X12_blows_46 : gD cX12_blows 46 (.dup2) 1 47 := ⟨by decide +kernel, rfl⟩
theorem d_X12_blows_47 : gD cX12_blows 47 (.laload) 1 48 := ⟨by decide +kernel, rfl⟩
theorem d_X12_blows_48 : gD cX12_blows 48 (.aload_n 0) 1 49 := ⟨by decide +kernel, rfl⟩
theorem d_X12_blows_49 : gD cX12_blows 49 (.getfield 74) 3 52 := ⟨by decide +kernel, rfl⟩
theorem d_X12_blows_52 : gD cX12_blows 52 (.iload_n 1) 1 53 := ⟨by decide +kernel, rfl⟩
theorem d_X12_blows_53 : gD cX12_blows 53 (.laload) 1 54 := ⟨by decide +kernel, rfl⟩
theorem d_X12_blows_54 : gD cX12_blows 54 (.aload_n 0) 1 55 := ⟨by decide +kernel, rfl⟩
theorem d_X12_blows_55 : gD cX12_blows 55 (.iload_n 2) 1 56 := ⟨by decide +kernel, rfl⟩
theorem d_X12_blows_56 : gD cX12_blows 56 (.invokevirtual 444) 3 59 := ⟨by decide +kernel, rfl⟩
theorem d_X12_blows_59 : gD cX12_blows 59 (.i2l) 1 60 := ⟨by decide +kernel, rfl⟩
theorem d_X12_blows_60 : gD cX12_blows 60 (.lmul) 1 61 := ⟨by decide +kernel, rfl⟩
theorem d_X12_blows_61 : gD cX12_blows 61 (.ladd) 1 62 := ⟨by decide +kernel, rfl⟩
theorem d_X12_blows_62 : gD cX12_blows 62 (.lastore) 1 63 := ⟨by decide +kernel, rfl⟩
theorem d_X12_blows_63 : gD cX12_blows 63 (.iinc 2 1) 3 66 := ⟨by decide +kernel, rfl⟩
theorem d_X12_blows_66 : decode cX12_blows 66 = .ok (.goto (-35), 3) ∧ ((66 : Nat) : Int) + (-35) = ((31 : Nat) : Int) := ⟨by decide +kernel, by decide⟩
theorem d_X12_blows_69 : gD cX12_blows 69 (.iinc 1 1) 3 72 := ⟨by decide +kernel, rfl⟩
theorem d_X12_blows_72 : decode cX12_blows 72 = .ok (.goto (-49), 3) ∧ ((72 : Nat) : Int) + (-49) = ((23 : Nat) : Int) := ⟨by decide +kernel, by decide⟩
theorem d_X12_blows_75 : gD cX12_blows 75 (.iconst 0) 1 76 := ⟨by decide +kernel, rfl⟩
theorem d_X12_blows_76 : gD cX12_blows 76 (.istore_n 1) 1 77 := ⟨by decide +kernel, rfl⟩
theorem d_X12_blows_77 : gD cX12_blows 77 (.iload_n 1) 1 78 := ⟨by decide +kernel, rfl⟩
theorem d_X12_blows_78 : gD cX12_blows 78 (.bipush 40) 2 80 := ⟨by decide +kernel, rfl⟩
theorem d_X12_blows_80 : gD cX12_blows 80 (.if_icmp .gt 21) 3 83 ∧ ((80 : Nat) : Int) + 21 = ((101 : Nat) : Int) := ⟨⟨by decide +kernel, rfl⟩, by decide⟩
theorem d_X12_blows_83 : gD cX12_blows 83 (.aload_n 0) 1 84 := ⟨by decide +kernel, rfl⟩
theorem d_X12_blows_84 : gD cX12_blows 84 (.getfield 74) 3 87 := ⟨by decide +kernel, rfl⟩
theorem d_X12_blows_87 : gD cX12_blows 87 (.iload_n 1) 1 88 := ⟨by decide +kernel, rfl⟩
theorem d_X12_blows_88 : gD cX12_blows 88 (.aload_n 0) 1 89 := ⟨by decide +kernel, rfl⟩
theorem d_X12_blows_89 : gD cX12_blows 89 (.getfield 78) 3 92 := ⟨by decide +kernel, rfl⟩
theorem d_X12_blows_92 : gD cX12_blows 92 (.iload_n 1) 1 93 := ⟨by decide +kernel, rfl⟩
theorem d_X12_blows_93 : gD cX12_blows 93 (.laload) 1 94 := ⟨by decide +kernel, rfl⟩
theorem d_X12_blows_94 : gD cX12_blows 94 (.lastore) 1 95 := ⟨by decide +kernel, rfl⟩
theorem d_X12_blows_95 : gD cX12_blows 95 (.iinc 1 1) 3 98 := ⟨by decide +kernel, rfl⟩
theorem d_X12_blows_98 : decode cX12_blows 98 = .ok (.goto (-21), 3) ∧ ((98 : Nat) : Int) + (-21) = ((77 : Nat) : Int) := ⟨by decide +kernel, by decide⟩
theorem d_X12_blows_101 : gD cX12_blows 101 (.return_) 1 102 := ⟨by decide +kernel, rfl⟩
abbrev rm_X12_blows : Room := { frames := 2, cells := 0, slots := 0, locals := 43 }
set_option maxRecDepth 20000 in
theorem w_X12_blows_31 {Γ : GC} {E : GE} (hO : gOk Γ E cX12_blows RX12 3 rm_X12_blows none "blows") (o : Nat) {k23 : (Int32 → GS → Option GS)} (hk23 : ∀ (z1 : Int32) (S1 : GS), Go Γ E (gBsV Γ E) 3 (0, 0) 23 S1 [(0, vA (some o)), (1, vI z1)] [] (k23 z1 S1)) : ∀ (n : Nat) (x1 : Int32) (x2 : Int32) (S : GS), Go Γ E (gBsV Γ E) 3 (0, 0) 31 S [(0, vA (some o)), (1, vI x1), (2, vI x2)] [] (f_X12_blows_31 k23 o n x1 x2 S) := by
  intro n
  induction n with
  | zero =>
    intro x1 x2 S
    exact g_none
  | succ n ih =>
    intro x1 x2 S
    rw [f_X12_blows_31]
    refine g_iload_n hO d_X12_blows_31 (by rfl) 2 rfl ?_
    refine g_iconst hO 3 d_X12_blows_32 (by decide) ?_
    refine g_ic_ge (tgt := 69) hO d_X12_blows_33.1 d_X12_blows_33.2 (fun _ => ?_) (fun _ => ?_)
    · skip
      refine g_iinc (lv' := [(1, vI (x1 + 1)), (0, vA (some o)), (2, vI x2)]) hO 1 d_X12_blows_69 (by decide) 1 rfl (by decide) rfl ?_
      refine g_goto (tgt := 23) hO d_X12_blows_72.1 d_X12_blows_72.2 ?_
      exact g_sub [1, 0] rfl (hk23 _ _)
    · skip
      refine g_aload_n hO d_X12_blows_36 (by rfl) 0 rfl ?_
      refine h_getR hO cl_X12 49 rfl wf_X12_78 d_X12_blows_37 (fun v1 => ?_)
      refine g_aload_n hO d_X12_blows_40 (by rfl) 0 rfl ?_
      refine g_iload_n hO d_X12_blows_41 (by rfl) 1 rfl ?_
      refine g_iload_n hO d_X12_blows_42 (by rfl) 2 rfl ?_
      refine k_virtIp hO cl_X12 mm_X12_after lkV_X12_450 ⟨⟨Nat.le_of_ble_eq_true rfl, Nat.le_of_ble_eq_true rfl⟩, Nat.le_of_ble_eq_true rfl, Nat.le_of_ble_eq_true rfl⟩ (kn' := (0, 0)) rfl (As := [vI x1, vI x2]) rfl (Nat.le_of_ble_eq_true rfl) (fun o' _ => t_X12_after Γ.2.1 E o' x1 x2 S) d_X12_blows_43 rfl (fun v2 => ?_)
      refine g_dup2 hO d_X12_blows_46 rfl rfl ?_
      refine h_lald hO d_X12_blows_47 (fun v4 => ?_)
      refine g_aload_n hO d_X12_blows_48 (by rfl) 0 rfl ?_
      refine h_getR hO cl_X12 48 rfl wf_X12_74 d_X12_blows_49 (fun v5 => ?_)
      refine g_iload_n hO d_X12_blows_52 (by rfl) 1 rfl ?_
      refine h_lald hO d_X12_blows_53 (fun v6 => ?_)
      refine g_aload_n hO d_X12_blows_54 (by rfl) 0 rfl ?_
      refine g_iload_n hO d_X12_blows_55 (by rfl) 2 rfl ?_
      refine k_virtIp hO cl_X12 mm_X12_windOf lkV_X12_444 ⟨⟨Nat.le_of_ble_eq_true rfl, Nat.le_of_ble_eq_true rfl⟩, Nat.le_of_ble_eq_true rfl, Nat.le_of_ble_eq_true rfl⟩ (kn' := (0, 0)) rfl (As := [vI x2]) rfl (Nat.le_of_ble_eq_true rfl) (fun o' _ => t_X12_windOf Γ.2.1 E o' x2 S) d_X12_blows_56 rfl (fun v7 => ?_)
      refine g_i2l hO d_X12_blows_59 ?_
      refine g_lmul hO d_X12_blows_60 ?_
      refine g_ladd hO d_X12_blows_61 ?_
      refine h_last hO d_X12_blows_62 (fun S9 => ?_)
      refine g_iinc (lv' := [(2, vI (x2 + 1)), (0, vA (some o)), (1, vI x1)]) hO 1 d_X12_blows_63 (by decide) 2 rfl (by decide) rfl ?_
      refine g_goto (tgt := 31) hO d_X12_blows_66.1 d_X12_blows_66.2 ?_
      exact g_sub [1, 2, 0] rfl (ih _ _ _)
set_option maxRecDepth 20000 in
theorem w_X12_blows_77 {Γ : GC} {E : GE} (hO : gOk Γ E cX12_blows RX12 3 rm_X12_blows none "blows") (o : Nat) : ∀ (n : Nat) (x1 : Int32) (S : GS), Go Γ E (gBsV Γ E) 3 (0, 0) 77 S [(0, vA (some o)), (1, vI x1)] [] (f_X12_blows_77 o n x1 S) := by
  intro n
  induction n with
  | zero =>
    intro x1 S
    exact g_none
  | succ n ih =>
    intro x1 S
    rw [f_X12_blows_77]
    refine g_iload_n hO d_X12_blows_77 (by rfl) 1 rfl ?_
    refine g_bipush hO 40 d_X12_blows_78 (by decide) ?_
    refine g_ic_gt (tgt := 101) hO d_X12_blows_80.1 d_X12_blows_80.2 (fun _ => ?_) (fun _ => ?_)
    · skip
      exact g_vret hO rfl ⟨Nat.le_of_ble_eq_true rfl, Nat.le_of_ble_eq_true rfl⟩ rfl rfl d_X12_blows_101.1
    · skip
      refine g_aload_n hO d_X12_blows_83 (by rfl) 0 rfl ?_
      refine h_getR hO cl_X12 48 rfl wf_X12_74 d_X12_blows_84 (fun v1 => ?_)
      refine g_iload_n hO d_X12_blows_87 (by rfl) 1 rfl ?_
      refine g_aload_n hO d_X12_blows_88 (by rfl) 0 rfl ?_
      refine h_getR hO cl_X12 49 rfl wf_X12_78 d_X12_blows_89 (fun v2 => ?_)
      refine g_iload_n hO d_X12_blows_92 (by rfl) 1 rfl ?_
      refine h_lald hO d_X12_blows_93 (fun v3 => ?_)
      refine h_last hO d_X12_blows_94 (fun S4 => ?_)
      refine g_iinc (lv' := [(1, vI (x1 + 1)), (0, vA (some o))]) hO 1 d_X12_blows_95 (by decide) 1 rfl (by decide) rfl ?_
      refine g_goto (tgt := 77) hO d_X12_blows_98.1 d_X12_blows_98.2 ?_
      exact g_sub [1, 0] rfl (ih _ _)
set_option maxRecDepth 20000 in
theorem w_X12_blows_23 {Γ : GC} {E : GE} (hO : gOk Γ E cX12_blows RX12 3 rm_X12_blows none "blows") (o : Nat) : ∀ (n : Nat) (x1 : Int32) (S : GS), Go Γ E (gBsV Γ E) 3 (0, 0) 23 S [(0, vA (some o)), (1, vI x1)] [] (f_X12_blows_23 o n x1 S) := by
  intro n
  induction n with
  | zero =>
    intro x1 S
    exact g_none
  | succ n ih =>
    intro x1 S
    rw [f_X12_blows_23]
    refine g_iload_n hO d_X12_blows_23 (by rfl) 1 rfl ?_
    refine g_bipush hO 40 d_X12_blows_24 (by decide) ?_
    refine g_ic_gt (tgt := 75) hO d_X12_blows_26.1 d_X12_blows_26.2 (fun _ => ?_) (fun _ => ?_)
    · skip
      refine g_iconst hO 0 d_X12_blows_75 (by decide) ?_
      refine g_istore_n (lv' := [(1, vI 0), (0, vA (some o))]) hO d_X12_blows_76 (by rfl) (by decide) rfl ?_
      exact g_sub [1, 0] rfl (w_X12_blows_77 hO o _ _ _)
    · skip
      refine g_iconst hO 0 d_X12_blows_29 (by decide) ?_
      refine g_istore_n (lv' := [(2, vI 0), (0, vA (some o)), (1, vI x1)]) hO d_X12_blows_30 (by rfl) (by decide) rfl ?_
      exact g_sub [1, 2, 0] rfl (w_X12_blows_31 hO o ih _ _ _ _)
set_option maxRecDepth 20000 in
theorem w_X12_blows_2 {Γ : GC} {E : GE} (hO : gOk Γ E cX12_blows RX12 3 rm_X12_blows none "blows") (o : Nat) : ∀ (n : Nat) (x1 : Int32) (S : GS), Go Γ E (gBsV Γ E) 3 (0, 0) 2 S [(0, vA (some o)), (1, vI x1)] [] (f_X12_blows_2 o n x1 S) := by
  intro n
  induction n with
  | zero =>
    intro x1 S
    exact g_none
  | succ n ih =>
    intro x1 S
    rw [f_X12_blows_2]
    refine g_iload_n hO d_X12_blows_2 (by rfl) 1 rfl ?_
    refine g_bipush hO 40 d_X12_blows_3 (by decide) ?_
    refine g_ic_gt (tgt := 21) hO d_X12_blows_5.1 d_X12_blows_5.2 (fun _ => ?_) (fun _ => ?_)
    · skip
      refine g_iconst hO 0 d_X12_blows_21 (by decide) ?_
      refine g_istore_n (lv' := [(1, vI 0), (0, vA (some o))]) hO d_X12_blows_22 (by rfl) (by decide) rfl ?_
      exact g_sub [1, 0] rfl (w_X12_blows_23 hO o _ _ _)
    · skip
      refine g_aload_n hO d_X12_blows_8 (by rfl) 0 rfl ?_
      refine h_getR hO cl_X12 49 rfl wf_X12_78 d_X12_blows_9 (fun v1 => ?_)
      refine g_iload_n hO d_X12_blows_12 (by rfl) 1 rfl ?_
      refine g_lconst hO 0 d_X12_blows_13 (by decide) ?_
      refine h_last hO d_X12_blows_14 (fun S2 => ?_)
      refine g_iinc (lv' := [(1, vI (x1 + 1)), (0, vA (some o))]) hO 1 d_X12_blows_15 (by decide) 1 rfl (by decide) rfl ?_
      refine g_goto (tgt := 2) hO d_X12_blows_18.1 d_X12_blows_18.2 ?_
      exact g_sub [1, 0] rfl (ih _ _)
set_option maxRecDepth 20000 in
theorem w_X12_blows {Γ : GC} {E : GE} (hO : gOk Γ E cX12_blows RX12 3 rm_X12_blows none "blows") (o : Nat) (S : GS) : Go Γ E (gBsV Γ E) 3 (0, 0) 0 S [(0, vA (some o))] [] (f_X12_blows o S) := by
  unfold f_X12_blows
  refine g_iconst hO 0 d_X12_blows_0 (by decide) ?_
  refine g_istore_n (lv' := [(1, vI 0), (0, vA (some o))]) hO d_X12_blows_1 (by rfl) (by decide) rfl ?_
  exact g_sub [1, 0] rfl (w_X12_blows_2 hO o _ _ _)
theorem t_X12_blows (l : Launch) (E : GE) (o : Nat) (S : GS) : ∀ a, f_X12_blows o S = some a → Ct l E yX12_blows cX12_blows 3 none rm_X12_blows [vA (some o)] S none a :=
  Ct_of (val := fun _ => none) (nxt := fun b => b) (by decide) (Nat.le_of_ble_eq_true rfl) (fun Γ hl hO => w_X12_blows hO o S)
theorem d_X12_common_0 : gD cX12_common 0 (.lload_n 0) 1 1 := ⟨by decide +kernel, rfl⟩
theorem d_X12_common_1 : gD cX12_common 1 (.lstore 4) 2 3 := ⟨by decide +kernel, rfl⟩
theorem d_X12_common_3 : gD cX12_common 3 (.lload_n 2) 1 4 := ⟨by decide +kernel, rfl⟩
theorem d_X12_common_4 : gD cX12_common 4 (.lstore 6) 2 6 := ⟨by decide +kernel, rfl⟩
theorem d_X12_common_6 : gD cX12_common 6 (.lload 6) 2 8 := ⟨by decide +kernel, rfl⟩
theorem d_X12_common_8 : gD cX12_common 8 (.lconst 0) 1 9 := ⟨by decide +kernel, rfl⟩
theorem d_X12_common_9 : gD cX12_common 9 (.lcmp) 1 10 := ⟨by decide +kernel, rfl⟩
theorem d_X12_common_10 : gD cX12_common 10 (.ifCond .eq 21) 3 13 ∧ ((10 : Nat) : Int) + 21 = ((31 : Nat) : Int) := ⟨⟨by decide +kernel, rfl⟩, by decide⟩
theorem d_X12_common_13 : gD cX12_common 13 (.lload 4) 2 15 := ⟨by decide +kernel, rfl⟩
theorem d_X12_common_15 : gD cX12_common 15 (.lload 6) 2 17 := ⟨by decide +kernel, rfl⟩
theorem d_X12_common_17 : gD cX12_common 17 (.lrem) 1 18 := ⟨by decide +kernel, rfl⟩
theorem d_X12_common_18 : gD cX12_common 18 (.lstore 8) 2 20 := ⟨by decide +kernel, rfl⟩
theorem d_X12_common_20 : gD cX12_common 20 (.lload 6) 2 22 := ⟨by decide +kernel, rfl⟩
theorem d_X12_common_22 : gD cX12_common 22 (.lstore 4) 2 24 := ⟨by decide +kernel, rfl⟩
theorem d_X12_common_24 : gD cX12_common 24 (.lload 8) 2 26 := ⟨by decide +kernel, rfl⟩
theorem d_X12_common_26 : gD cX12_common 26 (.lstore 6) 2 28 := ⟨by decide +kernel, rfl⟩
theorem d_X12_common_28 : decode cX12_common 28 = .ok (.goto (-22), 3) ∧ ((28 : Nat) : Int) + (-22) = ((6 : Nat) : Int) := ⟨by decide +kernel, by decide⟩
theorem d_X12_common_31 : gD cX12_common 31 (.lload 4) 2 33 := ⟨by decide +kernel, rfl⟩
theorem d_X12_common_33 : gD cX12_common 33 (.lreturn) 1 34 := ⟨by decide +kernel, rfl⟩
abbrev rm_X12_common : Room := { frames := 0, cells := 0, slots := 0, locals := 0 }
set_option maxRecDepth 20000 in
theorem w_X12_common_6 {Γ : GC} {E : GE} (hO : gOk Γ E cX12_common RX12 10 rm_X12_common (some .long) "common") (S : GS) : ∀ (n : Nat) (x4 : Int64) (x6 : Int64), Go Γ E (gBpJ Γ E S) 10 (0, 0) 6 S [(4, vJ x4), (6, vJ x6)] [] (f_X12_common_6 S n x4 x6) := by
  intro n
  induction n with
  | zero =>
    intro x4 x6
    exact g_none
  | succ n ih =>
    intro x4 x6
    rw [f_X12_common_6]
    refine g_lload hO d_X12_common_6 1 rfl ?_
    refine g_lconst hO 0 d_X12_common_8 (by decide) ?_
    refine g_lcmp hO d_X12_common_9 ?_
    refine g_if_eq (tgt := 31) hO d_X12_common_10.1 d_X12_common_10.2 (fun _ => ?_) (fun _ => ?_)
    · skip
      refine g_lload hO d_X12_common_31 0 rfl ?_
      exact g_lret hO rfl ⟨Nat.le_of_ble_eq_true rfl, Nat.le_of_ble_eq_true rfl⟩ rfl rfl d_X12_common_33.1
    · skip
      refine g_lload hO d_X12_common_13 0 rfl ?_
      refine g_lload hO d_X12_common_15 1 rfl ?_
      refine g_lrem hO d_X12_common_17 ?_
      refine g_lstore (lv' := [(8, vJ (jlrem x4 x6)), (4, vJ x4), (6, vJ x6)]) hO d_X12_common_18 (by decide) rfl ?_
      refine g_lload hO d_X12_common_20 2 rfl ?_
      refine g_lstore (lv' := [(4, vJ x6), (8, vJ (jlrem x4 x6)), (6, vJ x6)]) hO d_X12_common_22 (by decide) rfl ?_
      refine g_lload hO d_X12_common_24 1 rfl ?_
      refine g_lstore (lv' := [(6, vJ (jlrem x4 x6)), (4, vJ x6), (8, vJ (jlrem x4 x6))]) hO d_X12_common_26 (by decide) rfl ?_
      refine g_goto (tgt := 6) hO d_X12_common_28.1 d_X12_common_28.2 ?_
      exact g_sub [1, 0] rfl (ih _ _)
set_option maxRecDepth 20000 in
theorem w_X12_common {Γ : GC} {E : GE} (hO : gOk Γ E cX12_common RX12 10 rm_X12_common (some .long) "common") (x0 : Int64) (x2 : Int64) (S : GS) : Go Γ E (gBpJ Γ E S) 10 (0, 0) 0 S [(0, vJ x0), (2, vJ x2)] [] (f_X12_common x0 x2 S) := by
  unfold f_X12_common
  refine g_lload_n hO d_X12_common_0 (by rfl) 0 rfl ?_
  refine g_lstore (lv' := [(4, vJ x0), (0, vJ x0), (2, vJ x2)]) hO d_X12_common_1 (by decide) rfl ?_
  refine g_lload_n hO d_X12_common_3 (by rfl) 2 rfl ?_
  refine g_lstore (lv' := [(6, vJ x2), (4, vJ x0), (0, vJ x0), (2, vJ x2)]) hO d_X12_common_4 (by decide) rfl ?_
  exact g_sub [1, 0] rfl (w_X12_common_6 hO _ _ _ _)
theorem t_X12_common (l : Launch) (E : GE) (x0 : Int64) (x2 : Int64) (S : GS) : ∀ a, f_X12_common x0 x2 S = some a → Ct l E yX12_common cX12_common 10 (some .long) rm_X12_common [vJ x0, vJ x2] S (some (vJ a)) S :=
  Ct_of (val := fun b => some (vJ b)) (nxt := fun _ => S) (by decide) (Nat.le_of_ble_eq_true rfl) (fun Γ hl hO => w_X12_common hO x0 x2 S)
theorem d_X12_terms_0 : gD cX12_terms 0 (.iload 4) 2 2 := ⟨by decide +kernel, rfl⟩
theorem d_X12_terms_2 : gD cX12_terms 2 (.ifCond .eq 7) 3 5 ∧ ((2 : Nat) : Int) + 7 = ((9 : Nat) : Int) := ⟨⟨by decide +kernel, rfl⟩, by decide⟩
theorem d_X12_terms_5 : gD cX12_terms 5 (.lload_n 2) 1 6 := ⟨by decide +kernel, rfl⟩
theorem d_X12_terms_6 : decode cX12_terms 6 = .ok (.goto 4, 3) ∧ ((6 : Nat) : Int) + 4 = ((10 : Nat) : Int) := ⟨by decide +kernel, by decide⟩
theorem d_X12_terms_9 : gD cX12_terms 9 (.lload_n 0) 1 10 := ⟨by decide +kernel, rfl⟩
theorem d_X12_terms_10 : gD cX12_terms 10 (.lload_n 0) 1 11 := ⟨by decide +kernel, rfl⟩
theorem d_X12_terms_11 : gD cX12_terms 11 (.lload_n 2) 1 12 := ⟨by decide +kernel, rfl⟩
theorem d_X12_terms_12 : gD cX12_terms 12 (.invokestatic 453) 3 15 := ⟨by decide +kernel, rfl⟩
theorem d_X12_terms_15 : gD cX12_terms 15 (.ldiv) 1 16 := ⟨by decide +kernel, rfl⟩
theorem d_X12_terms_16 : gD cX12_terms 16 (.lreturn) 1 17 := ⟨by decide +kernel, rfl⟩
abbrev rm_X12_terms : Room := { frames := 1, cells := 0, slots := 0, locals := 29 }
set_option maxRecDepth 20000 in
theorem w_X12_terms_10 {Γ : GC} {E : GE} (hO : gOk Γ E cX12_terms RX12 5 rm_X12_terms (some .long) "terms") (S : GS) (x0 : Int64) (x2 : Int64) (y0 : Int64) : Go Γ E (gBpJ Γ E S) 5 (0, 0) 10 S [(0, vJ x0), (2, vJ x2)] [vJ y0] (f_X12_terms_10 S x0 x2 y0) := by
  unfold f_X12_terms_10
  refine g_lload_n hO d_X12_terms_10 (by rfl) 0 rfl ?_
  refine g_lload_n hO d_X12_terms_11 (by rfl) 1 rfl ?_
  refine k_statJp hO mm_X12_common lkS_X12_453 ⟨⟨Nat.le_of_ble_eq_true rfl, Nat.le_of_ble_eq_true rfl⟩, Nat.le_of_ble_eq_true rfl, Nat.le_of_ble_eq_true rfl⟩ (kn' := (0, 0)) rfl (As := [vJ x0, vJ x2]) rfl (Nat.le_of_ble_eq_true rfl) (t_X12_common Γ.2.1 E x0 x2 S) d_X12_terms_12 rfl (fun v1 => ?_)
  refine g_ldiv hO d_X12_terms_15 ?_
  exact g_lret hO rfl ⟨Nat.le_of_ble_eq_true rfl, Nat.le_of_ble_eq_true rfl⟩ rfl rfl d_X12_terms_16.1
set_option maxRecDepth 20000 in
theorem w_X12_terms {Γ : GC} {E : GE} (hO : gOk Γ E cX12_terms RX12 5 rm_X12_terms (some .long) "terms") (x0 : Int64) (x2 : Int64) (x4 : Int32) (S : GS) : Go Γ E (gBpJ Γ E S) 5 (0, 0) 0 S [(0, vJ x0), (2, vJ x2), (4, vI x4)] [] (f_X12_terms x0 x2 x4 S) := by
  unfold f_X12_terms
  refine g_iload hO d_X12_terms_0 2 rfl ?_
  refine g_if_eq (tgt := 9) hO d_X12_terms_2.1 d_X12_terms_2.2 (fun _ => ?_) (fun _ => ?_)
  · skip
    refine g_lload_n hO d_X12_terms_9 (by rfl) 0 rfl ?_
    exact g_sub [0, 1] rfl (w_X12_terms_10 hO _ _ _ _)
  · skip
    refine g_lload_n hO d_X12_terms_5 (by rfl) 1 rfl ?_
    refine g_goto (tgt := 10) hO d_X12_terms_6.1 d_X12_terms_6.2 ?_
    exact g_sub [0, 1] rfl (w_X12_terms_10 hO _ _ _ _)
theorem t_X12_terms (l : Launch) (E : GE) (x0 : Int64) (x2 : Int64) (x4 : Int32) (S : GS) : ∀ a, f_X12_terms x0 x2 x4 S = some a → Ct l E yX12_terms cX12_terms 5 (some .long) rm_X12_terms [vJ x0, vJ x2, vI x4] S (some (vJ a)) S :=
  Ct_of (val := fun b => some (vJ b)) (nxt := fun _ => S) (by decide) (Nat.le_of_ble_eq_true rfl) (fun Γ hl hO => w_X12_terms hO x0 x2 x4 S)
theorem d_X12_reach_0 : gD cX12_reach 0 (.aload_n 0) 1 1 := ⟨by decide +kernel, rfl⟩
theorem d_X12_reach_1 : gD cX12_reach 1 (.iconst 0) 1 2 := ⟨by decide +kernel, rfl⟩
theorem d_X12_reach_2 : gD cX12_reach 2 (.putfield 100) 3 5 := ⟨by decide +kernel, rfl⟩
theorem d_X12_reach_5 : gD cX12_reach 5 (.iload_n 3) 1 6 := ⟨by decide +kernel, rfl⟩
theorem d_X12_reach_6 : gD cX12_reach 6 (.iconst 0) 1 7 := ⟨by decide +kernel, rfl⟩
theorem d_X12_reach_7 : gD cX12_reach 7 (.bipush 9) 2 9 := ⟨by decide +kernel, rfl⟩
theorem d_X12_reach_9 : gD cX12_reach 9 (.invokestatic 112) 3 12 := ⟨by decide +kernel, rfl⟩
theorem d_X12_reach_12 : gD cX12_reach 12 (.ifCond .eq 21) 3 15 ∧ ((12 : Nat) : Int) + 21 = ((33 : Nat) : Int) := ⟨⟨by decide +kernel, rfl⟩, by decide⟩
theorem d_X12_reach_15 : gD cX12_reach 15 (.iload_n 2) 1 16 := ⟨by decide +kernel, rfl⟩
theorem d_X12_reach_16 : gD cX12_reach 16 (.iconst 0) 1 17 := ⟨by decide +kernel, rfl⟩
theorem d_X12_reach_17 : gD cX12_reach 17 (.bipush 40) 2 19 := ⟨by decide +kernel, rfl⟩
theorem d_X12_reach_19 : gD cX12_reach 19 (.invokestatic 112) 3 22 := ⟨by decide +kernel, rfl⟩
theorem d_X12_reach_22 : gD cX12_reach 22 (.ifCond .eq 11) 3 25 ∧ ((22 : Nat) : Int) + 11 = ((33 : Nat) : Int) := ⟨⟨by decide +kernel, rfl⟩, by decide⟩
theorem d_X12_reach_25 : gD cX12_reach 25 (.aload_n 0) 1 26 := ⟨by decide +kernel, rfl⟩
theorem d_X12_reach_26 : gD cX12_reach 26 (.iload_n 1) 1 27 := ⟨by decide +kernel, rfl⟩
theorem d_X12_reach_27 : gD cX12_reach 27 (.invokevirtual 297) 3 30 := ⟨by decide +kernel, rfl⟩
theorem d_X12_reach_30 : gD cX12_reach 30 (.ifCond .ne 7) 3 33 ∧ ((30 : Nat) : Int) + 7 = ((37 : Nat) : Int) := ⟨⟨by decide +kernel, rfl⟩, by decide⟩
theorem d_X12_reach_33 : gD cX12_reach 33 (.ldc2_w 457) 3 36 := ⟨by decide +kernel, rfl⟩
theorem d_X12_reach_36 : gD cX12_reach 36 (.lreturn) 1 37 := ⟨by decide +kernel, rfl⟩
theorem d_X12_reach_37 : gD cX12_reach 37 (.aload_n 0) 1 38 := ⟨by decide +kernel, rfl⟩
theorem d_X12_reach_38 : gD cX12_reach 38 (.invokevirtual 459) 3 41 := ⟨by decide +kernel, rfl⟩
theorem d_X12_reach_41 : gD cX12_reach 41 (.lconst 0) 1 42 := ⟨by decide +kernel, rfl⟩
theorem d_X12_reach_42 : gD cX12_reach 42 (.lstore 6) 2 44 := ⟨by decide +kernel, rfl⟩
theorem d_X12_reach_44 : gD cX12_reach 44 (.lconst 1) 1 45 := ⟨by decide +kernel, rfl⟩
theorem d_X12_reach_45 : gD cX12_reach 45 (.lstore 8) 2 47 := ⟨by decide +kernel, rfl⟩
theorem d_X12_reach_47 : gD cX12_reach 47 (.iconst 0) 1 48 := ⟨by decide +kernel, rfl⟩
theorem d_X12_reach_48 : gD cX12_reach 48 (.istore 10) 2 50 := ⟨by decide +kernel, rfl⟩
theorem d_X12_reach_50 : gD cX12_reach 50 (.iload 10) 2 52 := ⟨by decide +kernel, rfl⟩
theorem d_X12_reach_52 : gD cX12_reach 52 (.iload_n 3) 1 53 := ⟨by decide +kernel, rfl⟩
theorem d_X12_reach_53 : gD cX12_reach 53 (.if_icmp .gt 62) 3 56 ∧ ((53 : Nat) : Int) + 62 = ((115 : Nat) : Int) := ⟨⟨by decide +kernel, rfl⟩, by decide⟩
theorem d_X12_reach_56 : gD cX12_reach 56 (.iload 4) 2 58 := ⟨by decide +kernel, rfl⟩
theorem d_X12_reach_58 : gD cX12_reach 58 (.ifCond .eq 21) 3 61 ∧ ((58 : Nat) : Int) + 21 = ((79 : Nat) : Int) := ⟨⟨by decide +kernel, rfl⟩, by decide⟩
theorem d_X12_reach_61 : gD cX12_reach 61 (.lload 6) 2 63 := ⟨by decide +kernel, rfl⟩
theorem d_X12_reach_63 : gD cX12_reach 63 (.aload_n 0) 1 64 := ⟨by decide +kernel, rfl⟩
theorem d_X12_reach_64 : gD cX12_reach 64 (.getfield 74) 3 67 := ⟨by decide +kernel, rfl⟩
theorem d_X12_reach_67 : gD cX12_reach 67 (.iload_n 2) 1 68 := ⟨by decide +kernel, rfl⟩
theorem d_X12_reach_68 : gD cX12_reach 68 (.laload) 1 69 := ⟨by decide +kernel, rfl⟩
theorem d_X12_reach_69 : gD cX12_reach 69 (.ladd) 1 70 := ⟨by decide +kernel, rfl⟩
theorem d_X12_reach_70 : gD cX12_reach 70 (.lstore 6) 2 72 := ⟨by decide +kernel, rfl⟩
theorem d_X12_reach_72 : gD cX12_reach 72 (.aload_n 0) 1 73 := ⟨by decide +kernel, rfl⟩
theorem d_X12_reach_73 : gD cX12_reach 73 (.getfield 74) 3 76 := ⟨by decide +kernel, rfl⟩
theorem d_X12_reach_76 : gD cX12_reach 76 (.iload_n 2) 1 77 := ⟨by decide +kernel, rfl⟩
theorem d_X12_reach_77 : gD cX12_reach 77 (.lconst 0) 1 78 := ⟨by decide +kernel, rfl⟩
theorem d_X12_reach_78 : gD cX12_reach 78 (.lastore) 1 79 := ⟨by decide +kernel, rfl⟩
theorem d_X12_reach_79 : gD cX12_reach 79 (.iload 10) 2 81 := ⟨by decide +kernel, rfl⟩
theorem d_X12_reach_81 : gD cX12_reach 81 (.iload_n 3) 1 82 := ⟨by decide +kernel, rfl⟩
theorem d_X12_reach_82 : gD cX12_reach 82 (.if_icmp .ge 27) 3 85 ∧ ((82 : Nat) : Int) + 27 = ((109 : Nat) : Int) := ⟨⟨by decide +kernel, rfl⟩, by decide⟩
theorem d_X12_reach_85 : gD cX12_reach 85 (.aload_n 0) 1 86 := ⟨by decide +kernel, rfl⟩
theorem d_X12_reach_86 : gD cX12_reach 86 (.invokevirtual 462) 3 89 := ⟨by decide +kernel, rfl⟩
theorem d_X12_reach_89 : gD cX12_reach 89 (.lload 8) 2 91 := ⟨by decide +kernel, rfl⟩
theorem d_X12_reach_91 : gD cX12_reach 91 (.aload_n 0) 1 92 := ⟨by decide +kernel, rfl⟩
theorem d_X12_reach_92 : gD cX12_reach 92 (.getfield 447) 3 95 := ⟨by decide +kernel, rfl⟩
theorem d_X12_reach_95 : gD cX12_reach 95 (.i2l) 1 96 := ⟨by decide +kernel, rfl⟩
theorem d_X12_reach_96 : gD cX12_reach 96 (.lmul) 1 97 := ⟨by decide +kernel, rfl⟩
theorem d_X12_reach_97 : gD cX12_reach 97 (.lstore 8) 2 99 := ⟨by decide +kernel, rfl⟩
theorem d_X12_reach_99 : gD cX12_reach 99 (.lload 6) 2 101 := ⟨by decide +kernel, rfl⟩
theorem d_X12_reach_101 : gD cX12_reach 101 (.aload_n 0) 1 102 := ⟨by decide +kernel, rfl⟩
theorem d_X12_reach_102 : gD cX12_reach 102 (.getfield 447) 3 105 := ⟨by decide +kernel, rfl⟩
theorem d_X12_reach_105 : gD cX12_reach 105 (.i2l) 1 106 := ⟨by decide +kernel, rfl⟩
theorem d_X12_reach_106 : gD cX12_reach 106 (.lmul) 1 107 := ⟨by decide +kernel, rfl⟩
theorem d_X12_reach_107 : gD cX12_reach 107 (.lstore 6) 2 109 := ⟨by decide +kernel, rfl⟩
theorem d_X12_reach_109 : gD cX12_reach 109 (.iinc 10 1) 3 112 := ⟨by decide +kernel, rfl⟩
theorem d_X12_reach_112 : decode cX12_reach 112 = .ok (.goto (-62), 3) ∧ ((112 : Nat) : Int) + (-62) = ((50 : Nat) : Int) := ⟨by decide +kernel, by decide⟩
theorem d_X12_reach_115 : gD cX12_reach 115 (.iload 4) 2 117 := ⟨by decide +kernel, rfl⟩
theorem d_X12_reach_117 : gD cX12_reach 117 (.ifCond .eq 8) 3 120 ∧ ((117 : Nat) : Int) + 8 = ((125 : Nat) : Int) := ⟨⟨by decide +kernel, rfl⟩, by decide⟩
theorem d_X12_reach_120 : gD cX12_reach 120 (.lload 6) 2 122 := ⟨by decide +kernel, rfl⟩
theorem d_X12_reach_122 : decode cX12_reach 122 = .ok (.goto 9, 3) ∧ ((122 : Nat) : Int) + 9 = ((131 : Nat) : Int) := ⟨by decide +kernel, by decide⟩
theorem d_X12_reach_125 : gD cX12_reach 125 (.aload_n 0) 1 126 := ⟨by decide +kernel, rfl⟩
theorem d_X12_reach_126 : gD cX12_reach 126 (.getfield 74) 3 129 := ⟨by decide +kernel, rfl⟩
theorem d_X12_reach_129 : gD cX12_reach 129 (.iload_n 2) 1 130 := ⟨by decide +kernel, rfl⟩
theorem d_X12_reach_130 : gD cX12_reach 130 (.laload) 1 131 := ⟨by decide +kernel, rfl⟩
theorem d_X12_reach_131 : gD cX12_reach 131 (.lload 8) 2 133 := ⟨by decide +kernel, rfl⟩
theorem d_X12_reach_133 : gD cX12_reach 133 (.iload 5) 2 135 := ⟨by decide +kernel, rfl⟩
theorem d_X12_reach_135 : gD cX12_reach 135 (.invokestatic 465) 3 138 := ⟨by decide +kernel, rfl⟩
theorem d_X12_reach_138 : gD cX12_reach 138 (.lreturn) 1 139 := ⟨by decide +kernel, rfl⟩
abbrev rm_X12_reach : Room := { frames := 3, cells := 0, slots := 0, locals := 65 }
set_option maxRecDepth 20000 in
theorem w_X12_reach_109 {Γ : GC} {E : GE} (hO : gOk Γ E cX12_reach RX12 11 rm_X12_reach (some .long) "reach") (o : Nat) {k50 : (Int32 → Int32 → Int32 → Int32 → Int64 → Int64 → Int32 → GS → Option (Int64 × GS))} (hk50 : ∀ (z2 : Int32) (z3 : Int32) (z4 : Int32) (z5 : Int32) (z6 : Int64) (z8 : Int64) (z10 : Int32) (S1 : GS), Go Γ E (gBsJ Γ E) 11 (0, 0) 50 S1 [(0, vA (some o)), (2, vI z2), (3, vI z3), (4, vI z4), (5, vI z5), (6, vJ z6), (8, vJ z8), (10, vI z10)] [] (k50 z2 z3 z4 z5 z6 z8 z10 S1)) (x2 : Int32) (x3 : Int32) (x4 : Int32) (x5 : Int32) (x6 : Int64) (x8 : Int64) (x10 : Int32) (S : GS) : Go Γ E (gBsJ Γ E) 11 (0, 0) 109 S [(0, vA (some o)), (2, vI x2), (3, vI x3), (4, vI x4), (5, vI x5), (6, vJ x6), (8, vJ x8), (10, vI x10)] [] (f_X12_reach_109 k50 o x2 x3 x4 x5 x6 x8 x10 S) := by
  unfold f_X12_reach_109
  refine g_iinc (lv' := [(10, vI (x10 + 1)), (0, vA (some o)), (2, vI x2), (3, vI x3), (4, vI x4), (5, vI x5), (6, vJ x6), (8, vJ x8)]) hO 1 d_X12_reach_109 (by decide) 7 rfl (by decide) rfl ?_
  refine g_goto (tgt := 50) hO d_X12_reach_112.1 d_X12_reach_112.2 ?_
  exact g_sub [1, 2, 3, 4, 5, 6, 7, 0] rfl (hk50 _ _ _ _ _ _ _ _)
set_option maxRecDepth 20000 in
theorem w_X12_reach_79 {Γ : GC} {E : GE} (hO : gOk Γ E cX12_reach RX12 11 rm_X12_reach (some .long) "reach") (o : Nat) {k50 : (Int32 → Int32 → Int32 → Int32 → Int64 → Int64 → Int32 → GS → Option (Int64 × GS))} (hk50 : ∀ (z2 : Int32) (z3 : Int32) (z4 : Int32) (z5 : Int32) (z6 : Int64) (z8 : Int64) (z10 : Int32) (S1 : GS), Go Γ E (gBsJ Γ E) 11 (0, 0) 50 S1 [(0, vA (some o)), (2, vI z2), (3, vI z3), (4, vI z4), (5, vI z5), (6, vJ z6), (8, vJ z8), (10, vI z10)] [] (k50 z2 z3 z4 z5 z6 z8 z10 S1)) (x2 : Int32) (x3 : Int32) (x4 : Int32) (x5 : Int32) (x6 : Int64) (x8 : Int64) (x10 : Int32) (S : GS) : Go Γ E (gBsJ Γ E) 11 (0, 0) 79 S [(0, vA (some o)), (2, vI x2), (3, vI x3), (4, vI x4), (5, vI x5), (6, vJ x6), (8, vJ x8), (10, vI x10)] [] (f_X12_reach_79 k50 o x2 x3 x4 x5 x6 x8 x10 S) := by
  unfold f_X12_reach_79
  refine g_iload hO d_X12_reach_79 7 rfl ?_
  refine g_iload_n hO d_X12_reach_81 (by rfl) 2 rfl ?_
  refine g_ic_ge (tgt := 109) hO d_X12_reach_82.1 d_X12_reach_82.2 (fun _ => ?_) (fun _ => ?_)
  · skip
    exact g_sub [0, 1, 2, 3, 4, 5, 6, 7] rfl (w_X12_reach_109 hO o hk50 _ _ _ _ _ _ _ _)
  · skip
    refine g_aload_n hO d_X12_reach_85 (by rfl) 0 rfl ?_
    refine k_virtVs hO cl_X12 mm_X12_blows lkV_X12_462 ⟨⟨Nat.le_of_ble_eq_true rfl, Nat.le_of_ble_eq_true rfl⟩, Nat.le_of_ble_eq_true rfl, Nat.le_of_ble_eq_true rfl⟩ (kn' := (0, 0)) rfl (As := []) rfl (Nat.le_of_ble_eq_true rfl) (fun o' _ => t_X12_blows Γ.2.1 E o' S) d_X12_reach_86 rfl (fun S2 => ?_)
    refine g_lload hO d_X12_reach_89 6 rfl ?_
    refine g_aload_n hO d_X12_reach_91 (by rfl) 0 rfl ?_
    refine h_getI hO cl_X12 50 rfl wf_X12_447 d_X12_reach_92 (fun v3 => ?_)
    refine g_i2l hO d_X12_reach_95 ?_
    refine g_lmul hO d_X12_reach_96 ?_
    refine g_lstore (lv' := [(8, vJ (x8 * (v3).toInt64)), (0, vA (some o)), (2, vI x2), (3, vI x3), (4, vI x4), (5, vI x5), (6, vJ x6), (10, vI x10)]) hO d_X12_reach_97 (by decide) rfl ?_
    refine g_lload hO d_X12_reach_99 6 rfl ?_
    refine g_aload_n hO d_X12_reach_101 (by rfl) 1 rfl ?_
    refine h_getI hO cl_X12 50 rfl wf_X12_447 d_X12_reach_102 (fun v4 => ?_)
    refine g_i2l hO d_X12_reach_105 ?_
    refine g_lmul hO d_X12_reach_106 ?_
    refine g_lstore (lv' := [(6, vJ (x6 * (v4).toInt64)), (8, vJ (x8 * (v3).toInt64)), (0, vA (some o)), (2, vI x2), (3, vI x3), (4, vI x4), (5, vI x5), (10, vI x10)]) hO d_X12_reach_107 (by decide) rfl ?_
    exact g_sub [2, 3, 4, 5, 6, 0, 1, 7] rfl (w_X12_reach_109 hO o hk50 _ _ _ _ _ _ _ _)
set_option maxRecDepth 20000 in
theorem w_X12_reach_131 {Γ : GC} {E : GE} (hO : gOk Γ E cX12_reach RX12 11 rm_X12_reach (some .long) "reach") (o : Nat) (x5 : Int32) (x8 : Int64) (y0 : Int64) (S : GS) : Go Γ E (gBsJ Γ E) 11 (0, 0) 131 S [(0, vA (some o)), (5, vI x5), (8, vJ x8)] [vJ y0] (f_X12_reach_131 o x5 x8 y0 S) := by
  unfold f_X12_reach_131
  refine g_lload hO d_X12_reach_131 2 rfl ?_
  refine g_iload hO d_X12_reach_133 1 rfl ?_
  refine k_statJp hO mm_X12_terms lkS_X12_465 ⟨⟨Nat.le_of_ble_eq_true rfl, Nat.le_of_ble_eq_true rfl⟩, Nat.le_of_ble_eq_true rfl, Nat.le_of_ble_eq_true rfl⟩ (kn' := (0, 0)) rfl (As := [vJ y0, vJ x8, vI x5]) rfl (Nat.le_of_ble_eq_true rfl) (t_X12_terms Γ.2.1 E y0 x8 x5 S) d_X12_reach_135 rfl (fun v1 => ?_)
  exact g_lret hO rfl ⟨Nat.le_of_ble_eq_true rfl, Nat.le_of_ble_eq_true rfl⟩ rfl rfl d_X12_reach_138.1
set_option maxRecDepth 20000 in
theorem w_X12_reach_50 {Γ : GC} {E : GE} (hO : gOk Γ E cX12_reach RX12 11 rm_X12_reach (some .long) "reach") (o : Nat) : ∀ (n : Nat) (x2 : Int32) (x3 : Int32) (x4 : Int32) (x5 : Int32) (x6 : Int64) (x8 : Int64) (x10 : Int32) (S : GS), Go Γ E (gBsJ Γ E) 11 (0, 0) 50 S [(0, vA (some o)), (2, vI x2), (3, vI x3), (4, vI x4), (5, vI x5), (6, vJ x6), (8, vJ x8), (10, vI x10)] [] (f_X12_reach_50 o n x2 x3 x4 x5 x6 x8 x10 S) := by
  intro n
  induction n with
  | zero =>
    intro x2 x3 x4 x5 x6 x8 x10 S
    exact g_none
  | succ n ih =>
    intro x2 x3 x4 x5 x6 x8 x10 S
    rw [f_X12_reach_50]
    refine g_iload hO d_X12_reach_50 7 rfl ?_
    refine g_iload_n hO d_X12_reach_52 (by rfl) 2 rfl ?_
    refine g_ic_gt (tgt := 115) hO d_X12_reach_53.1 d_X12_reach_53.2 (fun _ => ?_) (fun _ => ?_)
    · skip
      refine g_iload hO d_X12_reach_115 3 rfl ?_
      refine g_if_eq (tgt := 125) hO d_X12_reach_117.1 d_X12_reach_117.2 (fun _ => ?_) (fun _ => ?_)
      · skip
        refine g_aload_n hO d_X12_reach_125 (by rfl) 0 rfl ?_
        refine h_getR hO cl_X12 48 rfl wf_X12_74 d_X12_reach_126 (fun v1 => ?_)
        refine g_iload_n hO d_X12_reach_129 (by rfl) 1 rfl ?_
        refine h_lald hO d_X12_reach_130 (fun v2 => ?_)
        exact g_sub [0, 4, 6] rfl (w_X12_reach_131 hO o _ _ _ _)
      · skip
        refine g_lload hO d_X12_reach_120 5 rfl ?_
        refine g_goto (tgt := 131) hO d_X12_reach_122.1 d_X12_reach_122.2 ?_
        exact g_sub [0, 4, 6] rfl (w_X12_reach_131 hO o _ _ _ _)
    · skip
      refine g_iload hO d_X12_reach_56 3 rfl ?_
      refine g_if_eq (tgt := 79) hO d_X12_reach_58.1 d_X12_reach_58.2 (fun _ => ?_) (fun _ => ?_)
      · skip
        exact g_sub [0, 1, 2, 3, 4, 5, 6, 7] rfl (w_X12_reach_79 hO o ih _ _ _ _ _ _ _ _)
      · skip
        refine g_lload hO d_X12_reach_61 5 rfl ?_
        refine g_aload_n hO d_X12_reach_63 (by rfl) 0 rfl ?_
        refine h_getR hO cl_X12 48 rfl wf_X12_74 d_X12_reach_64 (fun v3 => ?_)
        refine g_iload_n hO d_X12_reach_67 (by rfl) 1 rfl ?_
        refine h_lald hO d_X12_reach_68 (fun v4 => ?_)
        refine g_ladd hO d_X12_reach_69 ?_
        refine g_lstore (lv' := [(6, vJ (x6 + v4)), (0, vA (some o)), (2, vI x2), (3, vI x3), (4, vI x4), (5, vI x5), (8, vJ x8), (10, vI x10)]) hO d_X12_reach_70 (by decide) rfl ?_
        refine g_aload_n hO d_X12_reach_72 (by rfl) 1 rfl ?_
        refine h_getR hO cl_X12 48 rfl wf_X12_74 d_X12_reach_73 (fun v5 => ?_)
        refine g_iload_n hO d_X12_reach_76 (by rfl) 2 rfl ?_
        refine g_lconst hO 0 d_X12_reach_77 (by decide) ?_
        refine h_last hO d_X12_reach_78 (fun S6 => ?_)
        exact g_sub [1, 2, 3, 4, 5, 0, 6, 7] rfl (w_X12_reach_79 hO o ih _ _ _ _ _ _ _ _)
set_option maxRecDepth 20000 in
theorem w_X12_reach {Γ : GC} {E : GE} (hO : gOk Γ E cX12_reach RX12 11 rm_X12_reach (some .long) "reach") (o : Nat) (x1 : Int32) (x2 : Int32) (x3 : Int32) (x4 : Int32) (x5 : Int32) (S : GS) : Go Γ E (gBsJ Γ E) 11 (0, 0) 0 S [(0, vA (some o)), (1, vI x1), (2, vI x2), (3, vI x3), (4, vI x4), (5, vI x5)] [] (f_X12_reach o x1 x2 x3 x4 x5 S) := by
  unfold f_X12_reach
  refine g_aload_n hO d_X12_reach_0 (by rfl) 0 rfl ?_
  refine g_iconst hO 0 d_X12_reach_1 (by decide) ?_
  refine h_putI hO cl_X12 0 rfl rfl wf_X12_100 (Or.inl rfl) d_X12_reach_2 (fun S1 => ?_)
  refine g_iload_n hO d_X12_reach_5 (by rfl) 3 rfl ?_
  refine g_iconst hO 0 d_X12_reach_6 (by decide) ?_
  refine g_bipush hO 9 d_X12_reach_7 (by decide) ?_
  refine k_statIp hO mm_X12_in lkS_X12_112 ⟨⟨Nat.le_of_ble_eq_true rfl, Nat.le_of_ble_eq_true rfl⟩, Nat.le_of_ble_eq_true rfl, Nat.le_of_ble_eq_true rfl⟩ (kn' := (0, 0)) rfl (As := [vI x3, vI 0, vI 9]) rfl (Nat.le_of_ble_eq_true rfl) (t_X12_in Γ.2.1 E x3 0 9 S1) d_X12_reach_9 rfl (fun v2 => ?_)
  refine g_if_eq (tgt := 33) hO d_X12_reach_12.1 d_X12_reach_12.2 (fun _ => ?_) (fun _ => ?_)
  · skip
    refine g_ldc2 hO (-1) d_X12_reach_33 wk_X12_457 ?_
    exact g_lret hO rfl ⟨Nat.le_of_ble_eq_true rfl, Nat.le_of_ble_eq_true rfl⟩ rfl rfl d_X12_reach_36.1
  · skip
    refine g_iload_n hO d_X12_reach_15 (by rfl) 2 rfl ?_
    refine g_iconst hO 0 d_X12_reach_16 (by decide) ?_
    refine g_bipush hO 40 d_X12_reach_17 (by decide) ?_
    refine k_statIp hO mm_X12_in lkS_X12_112 ⟨⟨Nat.le_of_ble_eq_true rfl, Nat.le_of_ble_eq_true rfl⟩, Nat.le_of_ble_eq_true rfl, Nat.le_of_ble_eq_true rfl⟩ (kn' := (0, 0)) rfl (As := [vI x2, vI 0, vI 40]) rfl (Nat.le_of_ble_eq_true rfl) (t_X12_in Γ.2.1 E x2 0 40 S1) d_X12_reach_19 rfl (fun v4 => ?_)
    refine g_if_eq (tgt := 33) hO d_X12_reach_22.1 d_X12_reach_22.2 (fun _ => ?_) (fun _ => ?_)
    · skip
      refine g_ldc2 hO (-1) d_X12_reach_33 wk_X12_457 ?_
      exact g_lret hO rfl ⟨Nat.le_of_ble_eq_true rfl, Nat.le_of_ble_eq_true rfl⟩ rfl rfl d_X12_reach_36.1
    · skip
      refine g_aload_n hO d_X12_reach_25 (by rfl) 0 rfl ?_
      refine g_iload_n hO d_X12_reach_26 (by rfl) 1 rfl ?_
      refine k_virtIs hO cl_X12 mm_X12_hand lkV_X12_297 ⟨⟨Nat.le_of_ble_eq_true rfl, Nat.le_of_ble_eq_true rfl⟩, Nat.le_of_ble_eq_true rfl, Nat.le_of_ble_eq_true rfl⟩ (kn' := (0, 0)) rfl (As := [vI x1]) rfl (Nat.le_of_ble_eq_true rfl) (fun o' _ => t_X12_hand Γ.2.1 E o' x1 S1) d_X12_reach_27 rfl (fun v6 S7 => ?_)
      refine g_if_ne (tgt := 37) hO d_X12_reach_30.1 d_X12_reach_30.2 (fun _ => ?_) (fun _ => ?_)
      · skip
        refine g_ldc2 hO (-1) d_X12_reach_33 wk_X12_457 ?_
        exact g_lret hO rfl ⟨Nat.le_of_ble_eq_true rfl, Nat.le_of_ble_eq_true rfl⟩ rfl rfl d_X12_reach_36.1
      · skip
        refine g_aload_n hO d_X12_reach_37 (by rfl) 0 rfl ?_
        refine k_virtVs hO cl_X12 mm_X12_still lkV_X12_459 ⟨⟨Nat.le_of_ble_eq_true rfl, Nat.le_of_ble_eq_true rfl⟩, Nat.le_of_ble_eq_true rfl, Nat.le_of_ble_eq_true rfl⟩ (kn' := (0, 0)) rfl (As := []) rfl (Nat.le_of_ble_eq_true rfl) (fun o' _ => t_X12_still Γ.2.1 E o' S7) d_X12_reach_38 rfl (fun S9 => ?_)
        refine g_lconst hO 0 d_X12_reach_41 (by decide) ?_
        refine g_lstore (lv' := [(6, vJ 0), (0, vA (some o)), (1, vI x1), (2, vI x2), (3, vI x3), (4, vI x4), (5, vI x5)]) hO d_X12_reach_42 (by decide) rfl ?_
        refine g_lconst hO 1 d_X12_reach_44 (by decide) ?_
        refine g_lstore (lv' := [(8, vJ 1), (6, vJ 0), (0, vA (some o)), (1, vI x1), (2, vI x2), (3, vI x3), (4, vI x4), (5, vI x5)]) hO d_X12_reach_45 (by decide) rfl ?_
        refine g_iconst hO 0 d_X12_reach_47 (by decide) ?_
        refine g_istore (lv' := [(10, vI 0), (8, vJ 1), (6, vJ 0), (0, vA (some o)), (1, vI x1), (2, vI x2), (3, vI x3), (4, vI x4), (5, vI x5)]) hO d_X12_reach_48 (by decide) rfl ?_
        exact g_sub [3, 5, 6, 7, 8, 2, 1, 0] rfl (w_X12_reach_50 hO o _ _ _ _ _ _ _ _ _)
theorem t_X12_reach (l : Launch) (E : GE) (o : Nat) (x1 : Int32) (x2 : Int32) (x3 : Int32) (x4 : Int32) (x5 : Int32) (S : GS) : ∀ a, f_X12_reach o x1 x2 x3 x4 x5 S = some a → Ct l E yX12_reach cX12_reach 11 (some .long) rm_X12_reach [vA (some o), vI x1, vI x2, vI x3, vI x4, vI x5] S (some (vJ a.1)) a.2 :=
  Ct_of (val := fun (b : Int64 × GS) => some (vJ b.1)) (nxt := fun (b : Int64 × GS) => b.2) (by decide) (Nat.le_of_ble_eq_true rfl) (fun Γ hl hO => w_X12_reach hO o x1 x2 x3 x4 x5 S)
theorem d_X12_drop_0 : gD cX12_drop 0 (.aload_n 0) 1 1 := ⟨by decide +kernel, rfl⟩
theorem d_X12_drop_1 : gD cX12_drop 1 (.iconst 0) 1 2 := ⟨by decide +kernel, rfl⟩
theorem d_X12_drop_2 : gD cX12_drop 2 (.putfield 100) 3 5 := ⟨by decide +kernel, rfl⟩
theorem d_X12_drop_5 : gD cX12_drop 5 (.iload_n 3) 1 6 := ⟨by decide +kernel, rfl⟩
theorem d_X12_drop_6 : gD cX12_drop 6 (.iconst 0) 1 7 := ⟨by decide +kernel, rfl⟩
theorem d_X12_drop_7 : gD cX12_drop 7 (.bipush 9) 2 9 := ⟨by decide +kernel, rfl⟩
theorem d_X12_drop_9 : gD cX12_drop 9 (.invokestatic 112) 3 12 := ⟨by decide +kernel, rfl⟩
theorem d_X12_drop_12 : gD cX12_drop 12 (.ifCond .eq 19) 3 15 ∧ ((12 : Nat) : Int) + 19 = ((31 : Nat) : Int) := ⟨⟨by decide +kernel, rfl⟩, by decide⟩
theorem d_X12_drop_15 : gD cX12_drop 15 (.aload_n 0) 1 16 := ⟨by decide +kernel, rfl⟩
theorem d_X12_drop_16 : gD cX12_drop 16 (.iload_n 1) 1 17 := ⟨by decide +kernel, rfl⟩
theorem d_X12_drop_17 : gD cX12_drop 17 (.invokevirtual 297) 3 20 := ⟨by decide +kernel, rfl⟩
theorem d_X12_drop_20 : gD cX12_drop 20 (.ifCond .eq 11) 3 23 ∧ ((20 : Nat) : Int) + 11 = ((31 : Nat) : Int) := ⟨⟨by decide +kernel, rfl⟩, by decide⟩
theorem d_X12_drop_23 : gD cX12_drop 23 (.aload_n 0) 1 24 := ⟨by decide +kernel, rfl⟩
theorem d_X12_drop_24 : gD cX12_drop 24 (.iload_n 2) 1 25 := ⟨by decide +kernel, rfl⟩
theorem d_X12_drop_25 : gD cX12_drop 25 (.invokevirtual 303) 3 28 := ⟨by decide +kernel, rfl⟩
theorem d_X12_drop_28 : gD cX12_drop 28 (.ifCond .ne 7) 3 31 ∧ ((28 : Nat) : Int) + 7 = ((35 : Nat) : Int) := ⟨⟨by decide +kernel, rfl⟩, by decide⟩
theorem d_X12_drop_31 : gD cX12_drop 31 (.ldc2_w 457) 3 34 := ⟨by decide +kernel, rfl⟩
theorem d_X12_drop_34 : gD cX12_drop 34 (.lreturn) 1 35 := ⟨by decide +kernel, rfl⟩
theorem d_X12_drop_35 : gD cX12_drop 35 (.aload_n 0) 1 36 := ⟨by decide +kernel, rfl⟩
theorem d_X12_drop_36 : gD cX12_drop 36 (.invokevirtual 459) 3 39 := ⟨by decide +kernel, rfl⟩
theorem d_X12_drop_39 : gD cX12_drop 39 (.lconst 0) 1 40 := ⟨by decide +kernel, rfl⟩
theorem d_X12_drop_40 : gD cX12_drop 40 (.lstore 5) 2 42 := ⟨by decide +kernel, rfl⟩
theorem d_X12_drop_42 : gD cX12_drop 42 (.lconst 1) 1 43 := ⟨by decide +kernel, rfl⟩
theorem d_X12_drop_43 : gD cX12_drop 43 (.lstore 7) 2 45 := ⟨by decide +kernel, rfl⟩
theorem d_X12_drop_45 : gD cX12_drop 45 (.iconst 0) 1 46 := ⟨by decide +kernel, rfl⟩
theorem d_X12_drop_46 : gD cX12_drop 46 (.istore 9) 2 48 := ⟨by decide +kernel, rfl⟩
theorem d_X12_drop_48 : gD cX12_drop 48 (.iload 9) 2 50 := ⟨by decide +kernel, rfl⟩
theorem d_X12_drop_50 : gD cX12_drop 50 (.iload_n 3) 1 51 := ⟨by decide +kernel, rfl⟩
theorem d_X12_drop_51 : gD cX12_drop 51 (.if_icmp .ge 85) 3 54 ∧ ((51 : Nat) : Int) + 85 = ((136 : Nat) : Int) := ⟨⟨by decide +kernel, rfl⟩, by decide⟩
theorem d_X12_drop_54 : gD cX12_drop 54 (.aload_n 0) 1 55 := ⟨by decide +kernel, rfl⟩
theorem d_X12_drop_55 : gD cX12_drop 55 (.invokevirtual 462) 3 58 := ⟨by decide +kernel, rfl⟩
theorem d_X12_drop_58 : gD cX12_drop 58 (.lload 7) 2 60 := ⟨by decide +kernel, rfl⟩
theorem d_X12_drop_60 : gD cX12_drop 60 (.aload_n 0) 1 61 := ⟨by decide +kernel, rfl⟩
theorem d_X12_drop_61 : gD cX12_drop 61 (.getfield 447) 3 64 := ⟨by decide +kernel, rfl⟩
theorem d_X12_drop_64 : gD cX12_drop 64 (.i2l) 1 65 := ⟨by decide +kernel, rfl⟩
theorem d_X12_drop_65 : gD cX12_drop 65 (.lmul) 1 66 := ⟨by decide +kernel, rfl⟩
theorem d_X12_drop_66 : gD cX12_drop 66 (.lstore 7) 2 68 := ⟨by decide +kernel, rfl⟩
theorem d_X12_drop_68 : gD cX12_drop 68 (.lload 5) 2 70 := ⟨by decide +kernel, rfl⟩
theorem d_X12_drop_70 : gD cX12_drop 70 (.aload_n 0) 1 71 := ⟨by decide +kernel, rfl⟩
theorem d_X12_drop_71 : gD cX12_drop 71 (.getfield 447) 3 74 := ⟨by decide +kernel, rfl⟩
theorem d_X12_drop_74 : gD cX12_drop 74 (.i2l) 1 75 := ⟨by decide +kernel, rfl⟩
theorem d_X12_drop_75 : gD cX12_drop 75 (.lmul) 1 76 := ⟨by decide +kernel, rfl⟩
theorem d_X12_drop_76 : gD cX12_drop 76 (.lstore 5) 2 78 := ⟨by decide +kernel, rfl⟩
theorem d_X12_drop_78 : gD cX12_drop 78 (.iconst 0) 1 79 := ⟨by decide +kernel, rfl⟩
theorem d_X12_drop_79 : gD cX12_drop 79 (.istore 10) 2 81 := ⟨by decide +kernel, rfl⟩
theorem d_X12_drop_81 : gD cX12_drop 81 (.iload 10) 2 83 := ⟨by decide +kernel, rfl⟩
theorem d_X12_drop_83 : gD cX12_drop 83 (.bipush 40) 2 85 := ⟨by decide +kernel, rfl⟩
theorem d_X12_drop_85 : gD cX12_drop 85 (.if_icmp .gt 45) 3 88 ∧ ((85 : Nat) : Int) + 45 = ((130 : Nat) : Int) := ⟨⟨by decide +kernel, rfl⟩, by decide⟩
theorem d_X12_drop_88 : gD cX12_drop 88 (.aload_n 0) 1 89 := ⟨by decide +kernel, rfl⟩
theorem d_X12_drop_89 : gD cX12_drop 89 (.iload_n 2) 1 90 := ⟨by decide +kernel, rfl⟩
theorem d_X12_drop_90 : gD cX12_drop 90 (.aload_n 0) 1 91 := ⟨by decide +kernel, rfl⟩
theorem d_X12_drop_91 : gD cX12_drop 91 (.iload_n 2) 1 92 := ⟨by decide +kernel, rfl⟩
theorem d_X12_drop_92 : gD cX12_drop 92 (.iconst 1) 1 93 := ⟨by decide +kernel, rfl⟩
theorem d_X12_drop_93 : gD cX12_drop 93 (.invokevirtual 306) 3 96 := ⟨by decide +kernel, rfl⟩
theorem d_X12_drop_96 : gD cX12_drop 96 (.iload 10) 2 98 := ⟨by decide +kernel, rfl⟩
theorem d_X12_drop_98 : gD cX12_drop 98 (.invokevirtual 424) 3 101 := ⟨by decide +kernel, rfl⟩
theorem d_X12_drop_101 : gD cX12_drop 101 (.ifCond .ne 23) 3 104 ∧ ((101 : Nat) : Int) + 23 = ((124 : Nat) : Int) := ⟨⟨by decide +kernel, rfl⟩, by decide⟩
theorem d_X12_drop_104 : gD cX12_drop 104 (.lload 5) 2 106 := ⟨by decide +kernel, rfl⟩
theorem d_X12_drop_106 : gD cX12_drop 106 (.aload_n 0) 1 107 := ⟨by decide +kernel, rfl⟩
theorem d_X12_drop_107 : gD cX12_drop 107 (.getfield 74) 3 110 := ⟨by decide +kernel, rfl⟩
theorem d_X12_drop_110 : gD cX12_drop 110 (.iload 10) 2 112 := ⟨by decide +kernel, rfl⟩
theorem d_X12_drop_112 : gD cX12_drop 112 (.laload) 1 113 := ⟨by decide +kernel, rfl⟩
theorem d_X12_drop_113 : gD cX12_drop 113 (.ladd) 1 114 := ⟨by decide +kernel, rfl⟩
theorem d_X12_drop_114 : gD cX12_drop 114 (.lstore 5) 2 116 := ⟨by decide +kernel, rfl⟩
theorem d_X12_drop_116 : gD cX12_drop 116 (.aload_n 0) 1 117 := ⟨by decide +kernel, rfl⟩
theorem d_X12_drop_117 : gD cX12_drop 117 (.getfield 74) 3 120 := ⟨by decide +kernel, rfl⟩
theorem d_X12_drop_120 : gD cX12_drop 120 (.iload 10) 2 122 := ⟨by decide +kernel, rfl⟩
theorem d_X12_drop_122 : gD cX12_drop 122 (.lconst 0) 1 123 := ⟨by decide +kernel, rfl⟩
theorem d_X12_drop_123 : gD cX12_drop 123 (.lastore) 1 124 := ⟨by decide +kernel, rfl⟩
theorem d_X12_drop_124 : gD cX12_drop 124 (.iinc 10 1) 3 127 := ⟨by decide +kernel, rfl⟩
theorem d_X12_drop_127 : decode cX12_drop 127 = .ok (.goto (-46), 3) ∧ ((127 : Nat) : Int) + (-46) = ((81 : Nat) : Int) := ⟨by decide +kernel, by decide⟩
theorem d_X12_drop_130 : gD cX12_drop 130 (.iinc 9 1) 3 133 := ⟨by decide +kernel, rfl⟩
theorem d_X12_drop_133 : decode cX12_drop 133 = .ok (.goto (-85), 3) ∧ ((133 : Nat) : Int) + (-85) = ((48 : Nat) : Int) := ⟨by decide +kernel, by decide⟩
theorem d_X12_drop_136 : gD cX12_drop 136 (.lload 5) 2 138 := ⟨by decide +kernel, rfl⟩
theorem d_X12_drop_138 : gD cX12_drop 138 (.lload 7) 2 140 := ⟨by decide +kernel, rfl⟩
theorem d_X12_drop_140 : gD cX12_drop 140 (.iload 4) 2 142 := ⟨by decide +kernel, rfl⟩
theorem d_X12_drop_142 : gD cX12_drop 142 (.invokestatic 465) 3 145 := ⟨by decide +kernel, rfl⟩
theorem d_X12_drop_145 : gD cX12_drop 145 (.lreturn) 1 146 := ⟨by decide +kernel, rfl⟩
abbrev rm_X12_drop : Room := { frames := 4, cells := 0, slots := 0, locals := 89 }
set_option maxRecDepth 20000 in
theorem w_X12_drop_124 {Γ : GC} {E : GE} (hO : gOk Γ E cX12_drop RX12 11 rm_X12_drop (some .long) "drop") (o : Nat) {k48 : (Int32 → Int32 → Int32 → Int64 → Int64 → Int32 → GS → Option (Int64 × GS))} {k81 : (Int32 → Int32 → Int32 → Int64 → Int64 → Int32 → Int32 → GS → Option (Int64 × GS))} (hk48 : ∀ (z2 : Int32) (z3 : Int32) (z4 : Int32) (z5 : Int64) (z7 : Int64) (z9 : Int32) (S1 : GS), Go Γ E (gBsJ Γ E) 11 (0, 0) 48 S1 [(0, vA (some o)), (2, vI z2), (3, vI z3), (4, vI z4), (5, vJ z5), (7, vJ z7), (9, vI z9)] [] (k48 z2 z3 z4 z5 z7 z9 S1)) (hk81 : ∀ (z2 : Int32) (z3 : Int32) (z4 : Int32) (z5 : Int64) (z7 : Int64) (z9 : Int32) (z10 : Int32) (S1 : GS), Go Γ E (gBsJ Γ E) 11 (0, 0) 81 S1 [(0, vA (some o)), (2, vI z2), (3, vI z3), (4, vI z4), (5, vJ z5), (7, vJ z7), (9, vI z9), (10, vI z10)] [] (k81 z2 z3 z4 z5 z7 z9 z10 S1)) (x2 : Int32) (x3 : Int32) (x4 : Int32) (x5 : Int64) (x7 : Int64) (x9 : Int32) (x10 : Int32) (S : GS) : Go Γ E (gBsJ Γ E) 11 (0, 0) 124 S [(0, vA (some o)), (2, vI x2), (3, vI x3), (4, vI x4), (5, vJ x5), (7, vJ x7), (9, vI x9), (10, vI x10)] [] (f_X12_drop_124 k48 k81 o x2 x3 x4 x5 x7 x9 x10 S) := by
  unfold f_X12_drop_124
  refine g_iinc (lv' := [(10, vI (x10 + 1)), (0, vA (some o)), (2, vI x2), (3, vI x3), (4, vI x4), (5, vJ x5), (7, vJ x7), (9, vI x9)]) hO 1 d_X12_drop_124 (by decide) 7 rfl (by decide) rfl ?_
  refine g_goto (tgt := 81) hO d_X12_drop_127.1 d_X12_drop_127.2 ?_
  exact g_sub [1, 2, 3, 4, 5, 6, 7, 0] rfl (hk81 _ _ _ _ _ _ _ _)
set_option maxRecDepth 20000 in
theorem w_X12_drop_81 {Γ : GC} {E : GE} (hO : gOk Γ E cX12_drop RX12 11 rm_X12_drop (some .long) "drop") (o : Nat) {k48 : (Int32 → Int32 → Int32 → Int64 → Int64 → Int32 → GS → Option (Int64 × GS))} (hk48 : ∀ (z2 : Int32) (z3 : Int32) (z4 : Int32) (z5 : Int64) (z7 : Int64) (z9 : Int32) (S1 : GS), Go Γ E (gBsJ Γ E) 11 (0, 0) 48 S1 [(0, vA (some o)), (2, vI z2), (3, vI z3), (4, vI z4), (5, vJ z5), (7, vJ z7), (9, vI z9)] [] (k48 z2 z3 z4 z5 z7 z9 S1)) : ∀ (n : Nat) (x2 : Int32) (x3 : Int32) (x4 : Int32) (x5 : Int64) (x7 : Int64) (x9 : Int32) (x10 : Int32) (S : GS), Go Γ E (gBsJ Γ E) 11 (0, 0) 81 S [(0, vA (some o)), (2, vI x2), (3, vI x3), (4, vI x4), (5, vJ x5), (7, vJ x7), (9, vI x9), (10, vI x10)] [] (f_X12_drop_81 k48 o n x2 x3 x4 x5 x7 x9 x10 S) := by
  intro n
  induction n with
  | zero =>
    intro x2 x3 x4 x5 x7 x9 x10 S
    exact g_none
  | succ n ih =>
    intro x2 x3 x4 x5 x7 x9 x10 S
    rw [f_X12_drop_81]
    refine g_iload hO d_X12_drop_81 7 rfl ?_
    refine g_bipush hO 40 d_X12_drop_83 (by decide) ?_
    refine g_ic_gt (tgt := 130) hO d_X12_drop_85.1 d_X12_drop_85.2 (fun _ => ?_) (fun _ => ?_)
    · skip
      refine g_iinc (lv' := [(9, vI (x9 + 1)), (0, vA (some o)), (2, vI x2), (3, vI x3), (4, vI x4), (5, vJ x5), (7, vJ x7), (10, vI x10)]) hO 1 d_X12_drop_130 (by decide) 6 rfl (by decide) rfl ?_
      refine g_goto (tgt := 48) hO d_X12_drop_133.1 d_X12_drop_133.2 ?_
      exact g_sub [1, 2, 3, 4, 5, 6, 0] rfl (hk48 _ _ _ _ _ _ _)
    · skip
      refine g_aload_n hO d_X12_drop_88 (by rfl) 0 rfl ?_
      refine g_iload_n hO d_X12_drop_89 (by rfl) 1 rfl ?_
      refine g_aload_n hO d_X12_drop_90 (by rfl) 0 rfl ?_
      refine g_iload_n hO d_X12_drop_91 (by rfl) 1 rfl ?_
      refine g_iconst hO 1 d_X12_drop_92 (by decide) ?_
      refine k_virtIp hO cl_X12 mm_X12_ofLady lkV_X12_306 ⟨⟨Nat.le_of_ble_eq_true rfl, Nat.le_of_ble_eq_true rfl⟩, Nat.le_of_ble_eq_true rfl, Nat.le_of_ble_eq_true rfl⟩ (kn' := (0, 0)) rfl (As := [vI x2, vI 1]) rfl (Nat.le_of_ble_eq_true rfl) (fun o' _ => t_X12_ofLady Γ.2.1 E o' x2 1 S) d_X12_drop_93 rfl (fun v1 => ?_)
      refine g_iload hO d_X12_drop_96 7 rfl ?_
      refine k_virtIp hO cl_X12 mm_X12_stands lkV_X12_424 ⟨⟨Nat.le_of_ble_eq_true rfl, Nat.le_of_ble_eq_true rfl⟩, Nat.le_of_ble_eq_true rfl, Nat.le_of_ble_eq_true rfl⟩ (kn' := (0, 0)) rfl (As := [vI x2, vI v1, vI x10]) rfl (Nat.le_of_ble_eq_true rfl) (fun o' _ => t_X12_stands Γ.2.1 E o' x2 v1 x10 S) d_X12_drop_98 rfl (fun v3 => ?_)
      refine g_if_ne (tgt := 124) hO d_X12_drop_101.1 d_X12_drop_101.2 (fun _ => ?_) (fun _ => ?_)
      · skip
        refine g_lload hO d_X12_drop_104 4 rfl ?_
        refine g_aload_n hO d_X12_drop_106 (by rfl) 0 rfl ?_
        refine h_getR hO cl_X12 48 rfl wf_X12_74 d_X12_drop_107 (fun v5 => ?_)
        refine g_iload hO d_X12_drop_110 7 rfl ?_
        refine h_lald hO d_X12_drop_112 (fun v6 => ?_)
        refine g_ladd hO d_X12_drop_113 ?_
        refine g_lstore (lv' := [(5, vJ (x5 + v6)), (0, vA (some o)), (2, vI x2), (3, vI x3), (4, vI x4), (7, vJ x7), (9, vI x9), (10, vI x10)]) hO d_X12_drop_114 (by decide) rfl ?_
        refine g_aload_n hO d_X12_drop_116 (by rfl) 1 rfl ?_
        refine h_getR hO cl_X12 48 rfl wf_X12_74 d_X12_drop_117 (fun v7 => ?_)
        refine g_iload hO d_X12_drop_120 7 rfl ?_
        refine g_lconst hO 0 d_X12_drop_122 (by decide) ?_
        refine h_last hO d_X12_drop_123 (fun S8 => ?_)
        exact g_sub [1, 2, 3, 4, 0, 5, 6, 7] rfl (w_X12_drop_124 hO o hk48 ih _ _ _ _ _ _ _ _)
      · skip
        exact g_sub [0, 1, 2, 3, 4, 5, 6, 7] rfl (w_X12_drop_124 hO o hk48 ih _ _ _ _ _ _ _ _)
set_option maxRecDepth 20000 in
theorem w_X12_drop_48 {Γ : GC} {E : GE} (hO : gOk Γ E cX12_drop RX12 11 rm_X12_drop (some .long) "drop") (o : Nat) : ∀ (n : Nat) (x2 : Int32) (x3 : Int32) (x4 : Int32) (x5 : Int64) (x7 : Int64) (x9 : Int32) (S : GS), Go Γ E (gBsJ Γ E) 11 (0, 0) 48 S [(0, vA (some o)), (2, vI x2), (3, vI x3), (4, vI x4), (5, vJ x5), (7, vJ x7), (9, vI x9)] [] (f_X12_drop_48 o n x2 x3 x4 x5 x7 x9 S) := by
  intro n
  induction n with
  | zero =>
    intro x2 x3 x4 x5 x7 x9 S
    exact g_none
  | succ n ih =>
    intro x2 x3 x4 x5 x7 x9 S
    rw [f_X12_drop_48]
    refine g_iload hO d_X12_drop_48 6 rfl ?_
    refine g_iload_n hO d_X12_drop_50 (by rfl) 2 rfl ?_
    refine g_ic_ge (tgt := 136) hO d_X12_drop_51.1 d_X12_drop_51.2 (fun _ => ?_) (fun _ => ?_)
    · skip
      refine g_lload hO d_X12_drop_136 4 rfl ?_
      refine g_lload hO d_X12_drop_138 5 rfl ?_
      refine g_iload hO d_X12_drop_140 3 rfl ?_
      refine k_statJp hO mm_X12_terms lkS_X12_465 ⟨⟨Nat.le_of_ble_eq_true rfl, Nat.le_of_ble_eq_true rfl⟩, Nat.le_of_ble_eq_true rfl, Nat.le_of_ble_eq_true rfl⟩ (kn' := (0, 0)) rfl (As := [vJ x5, vJ x7, vI x4]) rfl (Nat.le_of_ble_eq_true rfl) (t_X12_terms Γ.2.1 E x5 x7 x4 S) d_X12_drop_142 rfl (fun v1 => ?_)
      exact g_lret hO rfl ⟨Nat.le_of_ble_eq_true rfl, Nat.le_of_ble_eq_true rfl⟩ rfl rfl d_X12_drop_145.1
    · skip
      refine g_aload_n hO d_X12_drop_54 (by rfl) 0 rfl ?_
      refine k_virtVs hO cl_X12 mm_X12_blows lkV_X12_462 ⟨⟨Nat.le_of_ble_eq_true rfl, Nat.le_of_ble_eq_true rfl⟩, Nat.le_of_ble_eq_true rfl, Nat.le_of_ble_eq_true rfl⟩ (kn' := (0, 0)) rfl (As := []) rfl (Nat.le_of_ble_eq_true rfl) (fun o' _ => t_X12_blows Γ.2.1 E o' S) d_X12_drop_55 rfl (fun S4 => ?_)
      refine g_lload hO d_X12_drop_58 5 rfl ?_
      refine g_aload_n hO d_X12_drop_60 (by rfl) 0 rfl ?_
      refine h_getI hO cl_X12 50 rfl wf_X12_447 d_X12_drop_61 (fun v5 => ?_)
      refine g_i2l hO d_X12_drop_64 ?_
      refine g_lmul hO d_X12_drop_65 ?_
      refine g_lstore (lv' := [(7, vJ (x7 * (v5).toInt64)), (0, vA (some o)), (2, vI x2), (3, vI x3), (4, vI x4), (5, vJ x5), (9, vI x9)]) hO d_X12_drop_66 (by decide) rfl ?_
      refine g_lload hO d_X12_drop_68 5 rfl ?_
      refine g_aload_n hO d_X12_drop_70 (by rfl) 1 rfl ?_
      refine h_getI hO cl_X12 50 rfl wf_X12_447 d_X12_drop_71 (fun v6 => ?_)
      refine g_i2l hO d_X12_drop_74 ?_
      refine g_lmul hO d_X12_drop_75 ?_
      refine g_lstore (lv' := [(5, vJ (x5 * (v6).toInt64)), (7, vJ (x7 * (v5).toInt64)), (0, vA (some o)), (2, vI x2), (3, vI x3), (4, vI x4), (9, vI x9)]) hO d_X12_drop_76 (by decide) rfl ?_
      refine g_iconst hO 0 d_X12_drop_78 (by decide) ?_
      refine g_istore (lv' := [(10, vI 0), (5, vJ (x5 * (v6).toInt64)), (7, vJ (x7 * (v5).toInt64)), (0, vA (some o)), (2, vI x2), (3, vI x3), (4, vI x4), (9, vI x9)]) hO d_X12_drop_79 (by decide) rfl ?_
      exact g_sub [3, 4, 5, 6, 1, 2, 7, 0] rfl (w_X12_drop_81 hO o ih _ _ _ _ _ _ _ _ _)
set_option maxRecDepth 20000 in
theorem w_X12_drop {Γ : GC} {E : GE} (hO : gOk Γ E cX12_drop RX12 11 rm_X12_drop (some .long) "drop") (o : Nat) (x1 : Int32) (x2 : Int32) (x3 : Int32) (x4 : Int32) (S : GS) : Go Γ E (gBsJ Γ E) 11 (0, 0) 0 S [(0, vA (some o)), (1, vI x1), (2, vI x2), (3, vI x3), (4, vI x4)] [] (f_X12_drop o x1 x2 x3 x4 S) := by
  unfold f_X12_drop
  refine g_aload_n hO d_X12_drop_0 (by rfl) 0 rfl ?_
  refine g_iconst hO 0 d_X12_drop_1 (by decide) ?_
  refine h_putI hO cl_X12 0 rfl rfl wf_X12_100 (Or.inl rfl) d_X12_drop_2 (fun S1 => ?_)
  refine g_iload_n hO d_X12_drop_5 (by rfl) 3 rfl ?_
  refine g_iconst hO 0 d_X12_drop_6 (by decide) ?_
  refine g_bipush hO 9 d_X12_drop_7 (by decide) ?_
  refine k_statIp hO mm_X12_in lkS_X12_112 ⟨⟨Nat.le_of_ble_eq_true rfl, Nat.le_of_ble_eq_true rfl⟩, Nat.le_of_ble_eq_true rfl, Nat.le_of_ble_eq_true rfl⟩ (kn' := (0, 0)) rfl (As := [vI x3, vI 0, vI 9]) rfl (Nat.le_of_ble_eq_true rfl) (t_X12_in Γ.2.1 E x3 0 9 S1) d_X12_drop_9 rfl (fun v2 => ?_)
  refine g_if_eq (tgt := 31) hO d_X12_drop_12.1 d_X12_drop_12.2 (fun _ => ?_) (fun _ => ?_)
  · skip
    refine g_ldc2 hO (-1) d_X12_drop_31 wk_X12_457 ?_
    exact g_lret hO rfl ⟨Nat.le_of_ble_eq_true rfl, Nat.le_of_ble_eq_true rfl⟩ rfl rfl d_X12_drop_34.1
  · skip
    refine g_aload_n hO d_X12_drop_15 (by rfl) 0 rfl ?_
    refine g_iload_n hO d_X12_drop_16 (by rfl) 1 rfl ?_
    refine k_virtIs hO cl_X12 mm_X12_hand lkV_X12_297 ⟨⟨Nat.le_of_ble_eq_true rfl, Nat.le_of_ble_eq_true rfl⟩, Nat.le_of_ble_eq_true rfl, Nat.le_of_ble_eq_true rfl⟩ (kn' := (0, 0)) rfl (As := [vI x1]) rfl (Nat.le_of_ble_eq_true rfl) (fun o' _ => t_X12_hand Γ.2.1 E o' x1 S1) d_X12_drop_17 rfl (fun v4 S5 => ?_)
    refine g_if_eq (tgt := 31) hO d_X12_drop_20.1 d_X12_drop_20.2 (fun _ => ?_) (fun _ => ?_)
    · skip
      refine g_ldc2 hO (-1) d_X12_drop_31 wk_X12_457 ?_
      exact g_lret hO rfl ⟨Nat.le_of_ble_eq_true rfl, Nat.le_of_ble_eq_true rfl⟩ rfl rfl d_X12_drop_34.1
    · skip
      refine g_aload_n hO d_X12_drop_23 (by rfl) 0 rfl ?_
      refine g_iload_n hO d_X12_drop_24 (by rfl) 2 rfl ?_
      refine k_virtIp hO cl_X12 mm_X12_isLady lkV_X12_303 ⟨⟨Nat.le_of_ble_eq_true rfl, Nat.le_of_ble_eq_true rfl⟩, Nat.le_of_ble_eq_true rfl, Nat.le_of_ble_eq_true rfl⟩ (kn' := (0, 0)) rfl (As := [vI x2]) rfl (Nat.le_of_ble_eq_true rfl) (fun o' _ => t_X12_isLady Γ.2.1 E o' x2 S5) d_X12_drop_25 rfl (fun v6 => ?_)
      refine g_if_ne (tgt := 35) hO d_X12_drop_28.1 d_X12_drop_28.2 (fun _ => ?_) (fun _ => ?_)
      · skip
        refine g_ldc2 hO (-1) d_X12_drop_31 wk_X12_457 ?_
        exact g_lret hO rfl ⟨Nat.le_of_ble_eq_true rfl, Nat.le_of_ble_eq_true rfl⟩ rfl rfl d_X12_drop_34.1
      · skip
        refine g_aload_n hO d_X12_drop_35 (by rfl) 0 rfl ?_
        refine k_virtVs hO cl_X12 mm_X12_still lkV_X12_459 ⟨⟨Nat.le_of_ble_eq_true rfl, Nat.le_of_ble_eq_true rfl⟩, Nat.le_of_ble_eq_true rfl, Nat.le_of_ble_eq_true rfl⟩ (kn' := (0, 0)) rfl (As := []) rfl (Nat.le_of_ble_eq_true rfl) (fun o' _ => t_X12_still Γ.2.1 E o' S5) d_X12_drop_36 rfl (fun S9 => ?_)
        refine g_lconst hO 0 d_X12_drop_39 (by decide) ?_
        refine g_lstore (lv' := [(5, vJ 0), (0, vA (some o)), (1, vI x1), (2, vI x2), (3, vI x3), (4, vI x4)]) hO d_X12_drop_40 (by decide) rfl ?_
        refine g_lconst hO 1 d_X12_drop_42 (by decide) ?_
        refine g_lstore (lv' := [(7, vJ 1), (5, vJ 0), (0, vA (some o)), (1, vI x1), (2, vI x2), (3, vI x3), (4, vI x4)]) hO d_X12_drop_43 (by decide) rfl ?_
        refine g_iconst hO 0 d_X12_drop_45 (by decide) ?_
        refine g_istore (lv' := [(9, vI 0), (7, vJ 1), (5, vJ 0), (0, vA (some o)), (1, vI x1), (2, vI x2), (3, vI x3), (4, vI x4)]) hO d_X12_drop_46 (by decide) rfl ?_
        exact g_sub [3, 5, 6, 7, 2, 1, 0] rfl (w_X12_drop_48 hO o _ _ _ _ _ _ _ _)
theorem t_X12_drop (l : Launch) (E : GE) (o : Nat) (x1 : Int32) (x2 : Int32) (x3 : Int32) (x4 : Int32) (S : GS) : ∀ a, f_X12_drop o x1 x2 x3 x4 S = some a → Ct l E yX12_drop cX12_drop 11 (some .long) rm_X12_drop [vA (some o), vI x1, vI x2, vI x3, vI x4] S (some (vJ a.1)) a.2 :=
  Ct_of (val := fun (b : Int64 × GS) => some (vJ b.1)) (nxt := fun (b : Int64 × GS) => b.2) (by decide) (Nat.le_of_ble_eq_true rfl) (fun Γ hl hO => w_X12_drop hO o x1 x2 x3 x4 S)
theorem d_X12_costOf_0 : gD cX12_costOf 0 (.iconst 0) 1 1 := ⟨by decide +kernel, rfl⟩
theorem d_X12_costOf_1 : gD cX12_costOf 1 (.istore 5) 2 3 := ⟨by decide +kernel, rfl⟩
theorem d_X12_costOf_3 : gD cX12_costOf 3 (.iconst 0) 1 4 := ⟨by decide +kernel, rfl⟩
theorem d_X12_costOf_4 : gD cX12_costOf 4 (.istore 6) 2 6 := ⟨by decide +kernel, rfl⟩
theorem d_X12_costOf_6 : gD cX12_costOf 6 (.iload 6) 2 8 := ⟨by decide +kernel, rfl⟩
theorem d_X12_costOf_8 : gD cX12_costOf 8 (.iconst 3) 1 9 := ⟨by decide +kernel, rfl⟩
theorem d_X12_costOf_9 : gD cX12_costOf 9 (.if_icmp .ge 76) 3 12 ∧ ((9 : Nat) : Int) + 76 = ((85 : Nat) : Int) := ⟨⟨by decide +kernel, rfl⟩, by decide⟩
theorem d_X12_costOf_12 : gD cX12_costOf 12 (.iload_n 2) 1 13 := ⟨by decide +kernel, rfl⟩
theorem d_X12_costOf_13 : gD cX12_costOf 13 (.aload_n 0) 1 14 := ⟨by decide +kernel, rfl⟩
theorem d_X12_costOf_14 : gD cX12_costOf 14 (.iload_n 1) 1 15 := ⟨by decide +kernel, rfl⟩
theorem d_X12_costOf_15 : gD cX12_costOf 15 (.iconst 1) 1 16 := ⟨by decide +kernel, rfl⟩
theorem d_X12_costOf_16 : gD cX12_costOf 16 (.invokevirtual 306) 3 19 := ⟨by decide +kernel, rfl⟩
theorem d_X12_costOf_19 : gD cX12_costOf 19 (.isub) 1 20 := ⟨by decide +kernel, rfl⟩
theorem d_X12_costOf_20 : gD cX12_costOf 20 (.invokestatic 367) 3 23 := ⟨by decide +kernel, rfl⟩
theorem d_X12_costOf_23 : gD cX12_costOf 23 (.aload_n 0) 1 24 := ⟨by decide +kernel, rfl⟩
theorem d_X12_costOf_24 : gD cX12_costOf 24 (.iload_n 1) 1 25 := ⟨by decide +kernel, rfl⟩
theorem d_X12_costOf_25 : gD cX12_costOf 25 (.iload_n 2) 1 26 := ⟨by decide +kernel, rfl⟩
theorem d_X12_costOf_26 : gD cX12_costOf 26 (.aload_n 0) 1 27 := ⟨by decide +kernel, rfl⟩
theorem d_X12_costOf_27 : gD cX12_costOf 27 (.aload_n 0) 1 28 := ⟨by decide +kernel, rfl⟩
theorem d_X12_costOf_28 : gD cX12_costOf 28 (.iconst 5) 1 29 := ⟨by decide +kernel, rfl⟩
theorem d_X12_costOf_29 : gD cX12_costOf 29 (.invokevirtual 287) 3 32 := ⟨by decide +kernel, rfl⟩
theorem d_X12_costOf_32 : gD cX12_costOf 32 (.iload 6) 2 34 := ⟨by decide +kernel, rfl⟩
theorem d_X12_costOf_34 : gD cX12_costOf 34 (.invokevirtual 450) 3 37 := ⟨by decide +kernel, rfl⟩
theorem d_X12_costOf_37 : gD cX12_costOf 37 (.invokevirtual 424) 3 40 := ⟨by decide +kernel, rfl⟩
theorem d_X12_costOf_40 : gD cX12_costOf 40 (.ifCond .eq 7) 3 43 ∧ ((40 : Nat) : Int) + 7 = ((47 : Nat) : Int) := ⟨⟨by decide +kernel, rfl⟩, by decide⟩
theorem d_X12_costOf_43 : gD cX12_costOf 43 (.iconst 0) 1 44 := ⟨by decide +kernel, rfl⟩
theorem d_X12_costOf_44 : decode cX12_costOf 44 = .ok (.goto 4, 3) ∧ ((44 : Nat) : Int) + 4 = ((48 : Nat) : Int) := ⟨by decide +kernel, by decide⟩
theorem d_X12_costOf_47 : gD cX12_costOf 47 (.iload_n 3) 1 48 := ⟨by decide +kernel, rfl⟩
theorem d_X12_costOf_48 : gD cX12_costOf 48 (.iadd) 1 49 := ⟨by decide +kernel, rfl⟩
theorem d_X12_costOf_49 : gD cX12_costOf 49 (.istore 7) 2 51 := ⟨by decide +kernel, rfl⟩
theorem d_X12_costOf_51 : gD cX12_costOf 51 (.iload 5) 2 53 := ⟨by decide +kernel, rfl⟩
theorem d_X12_costOf_53 : gD cX12_costOf 53 (.iload 4) 2 55 := ⟨by decide +kernel, rfl⟩
theorem d_X12_costOf_55 : gD cX12_costOf 55 (.iload 6) 2 57 := ⟨by decide +kernel, rfl⟩
theorem d_X12_costOf_57 : gD cX12_costOf 57 (.invokestatic 104) 3 60 := ⟨by decide +kernel, rfl⟩
theorem d_X12_costOf_60 : gD cX12_costOf 60 (.ifCond .eq 15) 3 63 ∧ ((60 : Nat) : Int) + 15 = ((75 : Nat) : Int) := ⟨⟨by decide +kernel, rfl⟩, by decide⟩
theorem d_X12_costOf_63 : gD cX12_costOf 63 (.iload 7) 2 65 := ⟨by decide +kernel, rfl⟩
theorem d_X12_costOf_65 : gD cX12_costOf 65 (.aload_n 0) 1 66 := ⟨by decide +kernel, rfl⟩
theorem d_X12_costOf_66 : gD cX12_costOf 66 (.iload 6) 2 68 := ⟨by decide +kernel, rfl⟩
theorem d_X12_costOf_68 : gD cX12_costOf 68 (.invokevirtual 444) 3 71 := ⟨by decide +kernel, rfl⟩
theorem d_X12_costOf_71 : gD cX12_costOf 71 (.imul) 1 72 := ⟨by decide +kernel, rfl⟩
theorem d_X12_costOf_72 : decode cX12_costOf 72 = .ok (.goto 4, 3) ∧ ((72 : Nat) : Int) + 4 = ((76 : Nat) : Int) := ⟨by decide +kernel, by decide⟩
theorem d_X12_costOf_75 : gD cX12_costOf 75 (.iconst 0) 1 76 := ⟨by decide +kernel, rfl⟩
theorem d_X12_costOf_76 : gD cX12_costOf 76 (.iadd) 1 77 := ⟨by decide +kernel, rfl⟩
theorem d_X12_costOf_77 : gD cX12_costOf 77 (.istore 5) 2 79 := ⟨by decide +kernel, rfl⟩
theorem d_X12_costOf_79 : gD cX12_costOf 79 (.iinc 6 1) 3 82 := ⟨by decide +kernel, rfl⟩
theorem d_X12_costOf_82 : decode cX12_costOf 82 = .ok (.goto (-76), 3) ∧ ((82 : Nat) : Int) + (-76) = ((6 : Nat) : Int) := ⟨by decide +kernel, by decide⟩
theorem d_X12_costOf_85 : gD cX12_costOf 85 (.iload 5) 2 87 := ⟨by decide +kernel, rfl⟩
theorem d_X12_costOf_87 : gD cX12_costOf 87 (.ireturn) 1 88 := ⟨by decide +kernel, rfl⟩
abbrev rm_X12_costOf : Room := { frames := 4, cells := 0, slots := 0, locals := 89 }
set_option maxRecDepth 20000 in
theorem w_X12_costOf_76 {Γ : GC} {E : GE} (hO : gOk Γ E cX12_costOf RX12 8 rm_X12_costOf (some .int) "costOf") (o : Nat) (S : GS) {k6 : (Int32 → Int32 → Int32 → Int32 → Int32 → Int32 → Option Int32)} (hk6 : ∀ (z1 : Int32) (z2 : Int32) (z3 : Int32) (z4 : Int32) (z5 : Int32) (z6 : Int32), Go Γ E (gBpI Γ E S) 8 (0, 0) 6 S [(0, vA (some o)), (1, vI z1), (2, vI z2), (3, vI z3), (4, vI z4), (5, vI z5), (6, vI z6)] [] (k6 z1 z2 z3 z4 z5 z6)) (x1 : Int32) (x2 : Int32) (x3 : Int32) (x4 : Int32) (x6 : Int32) (y0 : Int32) (y1 : Int32) : Go Γ E (gBpI Γ E S) 8 (0, 0) 76 S [(0, vA (some o)), (1, vI x1), (2, vI x2), (3, vI x3), (4, vI x4), (6, vI x6)] [vI y1, vI y0] (f_X12_costOf_76 k6 o S x1 x2 x3 x4 x6 y0 y1) := by
  unfold f_X12_costOf_76
  refine g_iadd hO d_X12_costOf_76 ?_
  refine g_istore (lv' := [(5, vI (y0 + y1)), (0, vA (some o)), (1, vI x1), (2, vI x2), (3, vI x3), (4, vI x4), (6, vI x6)]) hO d_X12_costOf_77 (by decide) rfl ?_
  refine g_iinc (lv' := [(6, vI (x6 + 1)), (5, vI (y0 + y1)), (0, vA (some o)), (1, vI x1), (2, vI x2), (3, vI x3), (4, vI x4)]) hO 1 d_X12_costOf_79 (by decide) 6 rfl (by decide) rfl ?_
  refine g_goto (tgt := 6) hO d_X12_costOf_82.1 d_X12_costOf_82.2 ?_
  exact g_sub [2, 3, 4, 5, 6, 1, 0] rfl (hk6 _ _ _ _ _ _)
set_option maxRecDepth 20000 in
theorem w_X12_costOf_48 {Γ : GC} {E : GE} (hO : gOk Γ E cX12_costOf RX12 8 rm_X12_costOf (some .int) "costOf") (o : Nat) (S : GS) {k6 : (Int32 → Int32 → Int32 → Int32 → Int32 → Int32 → Option Int32)} (hk6 : ∀ (z1 : Int32) (z2 : Int32) (z3 : Int32) (z4 : Int32) (z5 : Int32) (z6 : Int32), Go Γ E (gBpI Γ E S) 8 (0, 0) 6 S [(0, vA (some o)), (1, vI z1), (2, vI z2), (3, vI z3), (4, vI z4), (5, vI z5), (6, vI z6)] [] (k6 z1 z2 z3 z4 z5 z6)) (x1 : Int32) (x2 : Int32) (x3 : Int32) (x4 : Int32) (x5 : Int32) (x6 : Int32) (y0 : Int32) (y1 : Int32) : Go Γ E (gBpI Γ E S) 8 (0, 0) 48 S [(0, vA (some o)), (1, vI x1), (2, vI x2), (3, vI x3), (4, vI x4), (5, vI x5), (6, vI x6)] [vI y1, vI y0] (f_X12_costOf_48 k6 o S x1 x2 x3 x4 x5 x6 y0 y1) := by
  unfold f_X12_costOf_48
  refine g_iadd hO d_X12_costOf_48 ?_
  refine g_istore (lv' := [(7, vI (y0 + y1)), (0, vA (some o)), (1, vI x1), (2, vI x2), (3, vI x3), (4, vI x4), (5, vI x5), (6, vI x6)]) hO d_X12_costOf_49 (by decide) rfl ?_
  refine g_iload hO d_X12_costOf_51 6 rfl ?_
  refine g_iload hO d_X12_costOf_53 5 rfl ?_
  refine g_iload hO d_X12_costOf_55 7 rfl ?_
  refine k_statIp hO mm_X12_has lkS_X12_104 ⟨⟨Nat.le_of_ble_eq_true rfl, Nat.le_of_ble_eq_true rfl⟩, Nat.le_of_ble_eq_true rfl, Nat.le_of_ble_eq_true rfl⟩ (kn' := (0, 0)) rfl (As := [vI x4, vI x6]) rfl (Nat.le_of_ble_eq_true rfl) (t_X12_has Γ.2.1 E x4 x6 S) d_X12_costOf_57 rfl (fun v1 => ?_)
  refine g_if_eq (tgt := 75) hO d_X12_costOf_60.1 d_X12_costOf_60.2 (fun _ => ?_) (fun _ => ?_)
  · skip
    refine g_iconst hO 0 d_X12_costOf_75 (by decide) ?_
    exact g_sub [1, 2, 3, 4, 5, 7] rfl (w_X12_costOf_76 hO o _ hk6 _ _ _ _ _ _ _)
  · skip
    refine g_iload hO d_X12_costOf_63 0 rfl ?_
    refine g_aload_n hO d_X12_costOf_65 (by rfl) 1 rfl ?_
    refine g_iload hO d_X12_costOf_66 7 rfl ?_
    refine k_virtIp hO cl_X12 mm_X12_windOf lkV_X12_444 ⟨⟨Nat.le_of_ble_eq_true rfl, Nat.le_of_ble_eq_true rfl⟩, Nat.le_of_ble_eq_true rfl, Nat.le_of_ble_eq_true rfl⟩ (kn' := (0, 0)) rfl (As := [vI x6]) rfl (Nat.le_of_ble_eq_true rfl) (fun o' _ => t_X12_windOf Γ.2.1 E o' x6 S) d_X12_costOf_68 rfl (fun v3 => ?_)
    refine g_imul hO d_X12_costOf_71 ?_
    refine g_goto (tgt := 76) hO d_X12_costOf_72.1 d_X12_costOf_72.2 ?_
    exact g_sub [1, 2, 3, 4, 5, 7] rfl (w_X12_costOf_76 hO o _ hk6 _ _ _ _ _ _ _)
set_option maxRecDepth 20000 in
theorem w_X12_costOf_6 {Γ : GC} {E : GE} (hO : gOk Γ E cX12_costOf RX12 8 rm_X12_costOf (some .int) "costOf") (o : Nat) (S : GS) : ∀ (n : Nat) (x1 : Int32) (x2 : Int32) (x3 : Int32) (x4 : Int32) (x5 : Int32) (x6 : Int32), Go Γ E (gBpI Γ E S) 8 (0, 0) 6 S [(0, vA (some o)), (1, vI x1), (2, vI x2), (3, vI x3), (4, vI x4), (5, vI x5), (6, vI x6)] [] (f_X12_costOf_6 o S n x1 x2 x3 x4 x5 x6) := by
  intro n
  induction n with
  | zero =>
    intro x1 x2 x3 x4 x5 x6
    exact g_none
  | succ n ih =>
    intro x1 x2 x3 x4 x5 x6
    rw [f_X12_costOf_6]
    refine g_iload hO d_X12_costOf_6 6 rfl ?_
    refine g_iconst hO 3 d_X12_costOf_8 (by decide) ?_
    refine g_ic_ge (tgt := 85) hO d_X12_costOf_9.1 d_X12_costOf_9.2 (fun _ => ?_) (fun _ => ?_)
    · skip
      refine g_iload hO d_X12_costOf_85 5 rfl ?_
      exact g_ret hO rfl rfl ⟨Nat.le_of_ble_eq_true rfl, Nat.le_of_ble_eq_true rfl⟩ rfl rfl d_X12_costOf_87.1
    · skip
      refine g_iload_n hO d_X12_costOf_12 (by rfl) 2 rfl ?_
      refine g_aload_n hO d_X12_costOf_13 (by rfl) 0 rfl ?_
      refine g_iload_n hO d_X12_costOf_14 (by rfl) 1 rfl ?_
      refine g_iconst hO 1 d_X12_costOf_15 (by decide) ?_
      refine k_virtIp hO cl_X12 mm_X12_ofLady lkV_X12_306 ⟨⟨Nat.le_of_ble_eq_true rfl, Nat.le_of_ble_eq_true rfl⟩, Nat.le_of_ble_eq_true rfl, Nat.le_of_ble_eq_true rfl⟩ (kn' := (0, 0)) rfl (As := [vI x1, vI 1]) rfl (Nat.le_of_ble_eq_true rfl) (fun o' _ => t_X12_ofLady Γ.2.1 E o' x1 1 S) d_X12_costOf_16 rfl (fun v1 => ?_)
      refine g_isub hO d_X12_costOf_19 ?_
      refine k_statIp hO mm_X12_size lkS_X12_367 ⟨⟨Nat.le_of_ble_eq_true rfl, Nat.le_of_ble_eq_true rfl⟩, Nat.le_of_ble_eq_true rfl, Nat.le_of_ble_eq_true rfl⟩ (kn' := (0, 0)) rfl (As := [vI (x2 - v1)]) rfl (Nat.le_of_ble_eq_true rfl) (t_X12_size Γ.2.1 E (x2 - v1) S) d_X12_costOf_20 rfl (fun v3 => ?_)
      refine g_aload_n hO d_X12_costOf_23 (by rfl) 0 rfl ?_
      refine g_iload_n hO d_X12_costOf_24 (by rfl) 1 rfl ?_
      refine g_iload_n hO d_X12_costOf_25 (by rfl) 2 rfl ?_
      refine g_aload_n hO d_X12_costOf_26 (by rfl) 0 rfl ?_
      refine g_aload_n hO d_X12_costOf_27 (by rfl) 0 rfl ?_
      refine g_iconst hO 5 d_X12_costOf_28 (by decide) ?_
      refine k_virtIp hO cl_X12 mm_X12_ofCourt lkV_X12_287 ⟨⟨Nat.le_of_ble_eq_true rfl, Nat.le_of_ble_eq_true rfl⟩, Nat.le_of_ble_eq_true rfl, Nat.le_of_ble_eq_true rfl⟩ (kn' := (0, 0)) rfl (As := [vI 5]) rfl (Nat.le_of_ble_eq_true rfl) (fun o' _ => t_X12_ofCourt Γ.2.1 E o' 5 S) d_X12_costOf_29 rfl (fun v5 => ?_)
      refine g_iload hO d_X12_costOf_32 6 rfl ?_
      refine k_virtIp hO cl_X12 mm_X12_after lkV_X12_450 ⟨⟨Nat.le_of_ble_eq_true rfl, Nat.le_of_ble_eq_true rfl⟩, Nat.le_of_ble_eq_true rfl, Nat.le_of_ble_eq_true rfl⟩ (kn' := (0, 0)) rfl (As := [vI v5, vI x6]) rfl (Nat.le_of_ble_eq_true rfl) (fun o' _ => t_X12_after Γ.2.1 E o' v5 x6 S) d_X12_costOf_34 rfl (fun v7 => ?_)
      refine k_virtIp hO cl_X12 mm_X12_stands lkV_X12_424 ⟨⟨Nat.le_of_ble_eq_true rfl, Nat.le_of_ble_eq_true rfl⟩, Nat.le_of_ble_eq_true rfl, Nat.le_of_ble_eq_true rfl⟩ (kn' := (0, 0)) rfl (As := [vI x1, vI x2, vI v7]) rfl (Nat.le_of_ble_eq_true rfl) (fun o' _ => t_X12_stands Γ.2.1 E o' x1 x2 v7 S) d_X12_costOf_37 rfl (fun v9 => ?_)
      refine g_if_eq (tgt := 47) hO d_X12_costOf_40.1 d_X12_costOf_40.2 (fun _ => ?_) (fun _ => ?_)
      · skip
        refine g_iload_n hO d_X12_costOf_47 (by rfl) 3 rfl ?_
        exact g_sub [0, 1, 2, 3, 4, 5, 6] rfl (w_X12_costOf_48 hO o _ ih _ _ _ _ _ _ _ _)
      · skip
        refine g_iconst hO 0 d_X12_costOf_43 (by decide) ?_
        refine g_goto (tgt := 48) hO d_X12_costOf_44.1 d_X12_costOf_44.2 ?_
        exact g_sub [0, 1, 2, 3, 4, 5, 6] rfl (w_X12_costOf_48 hO o _ ih _ _ _ _ _ _ _ _)
set_option maxRecDepth 20000 in
theorem w_X12_costOf {Γ : GC} {E : GE} (hO : gOk Γ E cX12_costOf RX12 8 rm_X12_costOf (some .int) "costOf") (o : Nat) (x1 : Int32) (x2 : Int32) (x3 : Int32) (x4 : Int32) (S : GS) : Go Γ E (gBpI Γ E S) 8 (0, 0) 0 S [(0, vA (some o)), (1, vI x1), (2, vI x2), (3, vI x3), (4, vI x4)] [] (f_X12_costOf o x1 x2 x3 x4 S) := by
  unfold f_X12_costOf
  refine g_iconst hO 0 d_X12_costOf_0 (by decide) ?_
  refine g_istore (lv' := [(5, vI 0), (0, vA (some o)), (1, vI x1), (2, vI x2), (3, vI x3), (4, vI x4)]) hO d_X12_costOf_1 (by decide) rfl ?_
  refine g_iconst hO 0 d_X12_costOf_3 (by decide) ?_
  refine g_istore (lv' := [(6, vI 0), (5, vI 0), (0, vA (some o)), (1, vI x1), (2, vI x2), (3, vI x3), (4, vI x4)]) hO d_X12_costOf_4 (by decide) rfl ?_
  exact g_sub [2, 3, 4, 5, 6, 1, 0] rfl (w_X12_costOf_6 hO o _ _ _ _ _ _ _ _)
theorem t_X12_costOf (l : Launch) (E : GE) (o : Nat) (x1 : Int32) (x2 : Int32) (x3 : Int32) (x4 : Int32) (S : GS) : ∀ a, f_X12_costOf o x1 x2 x3 x4 S = some a → Ct l E yX12_costOf cX12_costOf 8 (some .int) rm_X12_costOf [vA (some o), vI x1, vI x2, vI x3, vI x4] S (some (vI a)) S :=
  Ct_of (val := fun b => some (vI b)) (nxt := fun _ => S) (by decide) (Nat.le_of_ble_eq_true rfl) (fun Γ hl hO => w_X12_costOf hO o x1 x2 x3 x4 S)
theorem d_X12_bestLace_0 : gD cX12_bestLace 0 (.iconst 0) 1 1 := ⟨by decide +kernel, rfl⟩
theorem d_X12_bestLace_1 : gD cX12_bestLace 1 (.istore 4) 2 3 := ⟨by decide +kernel, rfl⟩
theorem d_X12_bestLace_3 : gD cX12_bestLace 3 (.iconst 1) 1 4 := ⟨by decide +kernel, rfl⟩
theorem d_X12_bestLace_4 : gD cX12_bestLace 4 (.istore 5) 2 6 := ⟨by decide +kernel, rfl⟩
theorem d_X12_bestLace_6 : gD cX12_bestLace 6 (.iload 5) 2 8 := ⟨by decide +kernel, rfl⟩
theorem d_X12_bestLace_8 : gD cX12_bestLace 8 (.bipush 31) 2 10 := ⟨by decide +kernel, rfl⟩
theorem d_X12_bestLace_10 : gD cX12_bestLace 10 (.if_icmp .ge 39) 3 13 ∧ ((10 : Nat) : Int) + 39 = ((49 : Nat) : Int) := ⟨⟨by decide +kernel, rfl⟩, by decide⟩
theorem d_X12_bestLace_13 : gD cX12_bestLace 13 (.aload_n 0) 1 14 := ⟨by decide +kernel, rfl⟩
theorem d_X12_bestLace_14 : gD cX12_bestLace 14 (.iload_n 1) 1 15 := ⟨by decide +kernel, rfl⟩
theorem d_X12_bestLace_15 : gD cX12_bestLace 15 (.iload 5) 2 17 := ⟨by decide +kernel, rfl⟩
theorem d_X12_bestLace_17 : gD cX12_bestLace 17 (.iload_n 2) 1 18 := ⟨by decide +kernel, rfl⟩
theorem d_X12_bestLace_18 : gD cX12_bestLace 18 (.iload_n 3) 1 19 := ⟨by decide +kernel, rfl⟩
theorem d_X12_bestLace_19 : gD cX12_bestLace 19 (.invokevirtual 469) 3 22 := ⟨by decide +kernel, rfl⟩
theorem d_X12_bestLace_22 : gD cX12_bestLace 22 (.aload_n 0) 1 23 := ⟨by decide +kernel, rfl⟩
theorem d_X12_bestLace_23 : gD cX12_bestLace 23 (.iload_n 1) 1 24 := ⟨by decide +kernel, rfl⟩
theorem d_X12_bestLace_24 : gD cX12_bestLace 24 (.iload 4) 2 26 := ⟨by decide +kernel, rfl⟩
theorem d_X12_bestLace_26 : gD cX12_bestLace 26 (.iload_n 2) 1 27 := ⟨by decide +kernel, rfl⟩
theorem d_X12_bestLace_27 : gD cX12_bestLace 27 (.iload_n 3) 1 28 := ⟨by decide +kernel, rfl⟩
theorem d_X12_bestLace_28 : gD cX12_bestLace 28 (.invokevirtual 469) 3 31 := ⟨by decide +kernel, rfl⟩
theorem d_X12_bestLace_31 : gD cX12_bestLace 31 (.if_icmp .ge 8) 3 34 ∧ ((31 : Nat) : Int) + 8 = ((39 : Nat) : Int) := ⟨⟨by decide +kernel, rfl⟩, by decide⟩
theorem d_X12_bestLace_34 : gD cX12_bestLace 34 (.iload 5) 2 36 := ⟨by decide +kernel, rfl⟩
theorem d_X12_bestLace_36 : decode cX12_bestLace 36 = .ok (.goto 5, 3) ∧ ((36 : Nat) : Int) + 5 = ((41 : Nat) : Int) := ⟨by decide +kernel, by decide⟩
theorem d_X12_bestLace_39 : gD cX12_bestLace 39 (.iload 4) 2 41 := ⟨by decide +kernel, rfl⟩
theorem d_X12_bestLace_41 : gD cX12_bestLace 41 (.istore 4) 2 43 := ⟨by decide +kernel, rfl⟩
theorem d_X12_bestLace_43 : gD cX12_bestLace 43 (.iinc 5 1) 3 46 := ⟨by decide +kernel, rfl⟩
theorem d_X12_bestLace_46 : decode cX12_bestLace 46 = .ok (.goto (-40), 3) ∧ ((46 : Nat) : Int) + (-40) = ((6 : Nat) : Int) := ⟨by decide +kernel, by decide⟩
theorem d_X12_bestLace_49 : gD cX12_bestLace 49 (.iload 4) 2 51 := ⟨by decide +kernel, rfl⟩
theorem d_X12_bestLace_51 : gD cX12_bestLace 51 (.ireturn) 1 52 := ⟨by decide +kernel, rfl⟩
abbrev rm_X12_bestLace : Room := { frames := 5, cells := 0, slots := 0, locals := 116 }
set_option maxRecDepth 20000 in
theorem w_X12_bestLace_41 {Γ : GC} {E : GE} (hO : gOk Γ E cX12_bestLace RX12 6 rm_X12_bestLace (some .int) "bestLace") (o : Nat) (S : GS) {k6 : (Int32 → Int32 → Int32 → Int32 → Int32 → Option Int32)} (hk6 : ∀ (z1 : Int32) (z2 : Int32) (z3 : Int32) (z4 : Int32) (z5 : Int32), Go Γ E (gBpI Γ E S) 6 (0, 0) 6 S [(0, vA (some o)), (1, vI z1), (2, vI z2), (3, vI z3), (4, vI z4), (5, vI z5)] [] (k6 z1 z2 z3 z4 z5)) (x1 : Int32) (x2 : Int32) (x3 : Int32) (x5 : Int32) (y0 : Int32) : Go Γ E (gBpI Γ E S) 6 (0, 0) 41 S [(0, vA (some o)), (1, vI x1), (2, vI x2), (3, vI x3), (5, vI x5)] [vI y0] (f_X12_bestLace_41 k6 o S x1 x2 x3 x5 y0) := by
  unfold f_X12_bestLace_41
  refine g_istore (lv' := [(4, vI y0), (0, vA (some o)), (1, vI x1), (2, vI x2), (3, vI x3), (5, vI x5)]) hO d_X12_bestLace_41 (by decide) rfl ?_
  refine g_iinc (lv' := [(5, vI (x5 + 1)), (4, vI y0), (0, vA (some o)), (1, vI x1), (2, vI x2), (3, vI x3)]) hO 1 d_X12_bestLace_43 (by decide) 5 rfl (by decide) rfl ?_
  refine g_goto (tgt := 6) hO d_X12_bestLace_46.1 d_X12_bestLace_46.2 ?_
  exact g_sub [2, 3, 4, 5, 1, 0] rfl (hk6 _ _ _ _ _)
set_option maxRecDepth 20000 in
theorem w_X12_bestLace_6 {Γ : GC} {E : GE} (hO : gOk Γ E cX12_bestLace RX12 6 rm_X12_bestLace (some .int) "bestLace") (o : Nat) (S : GS) : ∀ (n : Nat) (x1 : Int32) (x2 : Int32) (x3 : Int32) (x4 : Int32) (x5 : Int32), Go Γ E (gBpI Γ E S) 6 (0, 0) 6 S [(0, vA (some o)), (1, vI x1), (2, vI x2), (3, vI x3), (4, vI x4), (5, vI x5)] [] (f_X12_bestLace_6 o S n x1 x2 x3 x4 x5) := by
  intro n
  induction n with
  | zero =>
    intro x1 x2 x3 x4 x5
    exact g_none
  | succ n ih =>
    intro x1 x2 x3 x4 x5
    rw [f_X12_bestLace_6]
    refine g_iload hO d_X12_bestLace_6 5 rfl ?_
    refine g_bipush hO 31 d_X12_bestLace_8 (by decide) ?_
    refine g_ic_ge (tgt := 49) hO d_X12_bestLace_10.1 d_X12_bestLace_10.2 (fun _ => ?_) (fun _ => ?_)
    · skip
      refine g_iload hO d_X12_bestLace_49 4 rfl ?_
      exact g_ret hO rfl rfl ⟨Nat.le_of_ble_eq_true rfl, Nat.le_of_ble_eq_true rfl⟩ rfl rfl d_X12_bestLace_51.1
    · skip
      refine g_aload_n hO d_X12_bestLace_13 (by rfl) 0 rfl ?_
      refine g_iload_n hO d_X12_bestLace_14 (by rfl) 1 rfl ?_
      refine g_iload hO d_X12_bestLace_15 5 rfl ?_
      refine g_iload_n hO d_X12_bestLace_17 (by rfl) 2 rfl ?_
      refine g_iload_n hO d_X12_bestLace_18 (by rfl) 3 rfl ?_
      refine k_virtIp hO cl_X12 mm_X12_costOf lkV_X12_469 ⟨⟨Nat.le_of_ble_eq_true rfl, Nat.le_of_ble_eq_true rfl⟩, Nat.le_of_ble_eq_true rfl, Nat.le_of_ble_eq_true rfl⟩ (kn' := (0, 0)) rfl (As := [vI x1, vI x5, vI x2, vI x3]) rfl (Nat.le_of_ble_eq_true rfl) (fun o' _ => t_X12_costOf Γ.2.1 E o' x1 x5 x2 x3 S) d_X12_bestLace_19 rfl (fun v1 => ?_)
      refine g_aload_n hO d_X12_bestLace_22 (by rfl) 0 rfl ?_
      refine g_iload_n hO d_X12_bestLace_23 (by rfl) 1 rfl ?_
      refine g_iload hO d_X12_bestLace_24 4 rfl ?_
      refine g_iload_n hO d_X12_bestLace_26 (by rfl) 2 rfl ?_
      refine g_iload_n hO d_X12_bestLace_27 (by rfl) 3 rfl ?_
      refine k_virtIp hO cl_X12 mm_X12_costOf lkV_X12_469 ⟨⟨Nat.le_of_ble_eq_true rfl, Nat.le_of_ble_eq_true rfl⟩, Nat.le_of_ble_eq_true rfl, Nat.le_of_ble_eq_true rfl⟩ (kn' := (0, 0)) rfl (As := [vI x1, vI x4, vI x2, vI x3]) rfl (Nat.le_of_ble_eq_true rfl) (fun o' _ => t_X12_costOf Γ.2.1 E o' x1 x4 x2 x3 S) d_X12_bestLace_28 rfl (fun v3 => ?_)
      refine g_ic_ge (tgt := 39) hO d_X12_bestLace_31.1 d_X12_bestLace_31.2 (fun _ => ?_) (fun _ => ?_)
      · skip
        refine g_iload hO d_X12_bestLace_39 4 rfl ?_
        exact g_sub [0, 1, 2, 3, 5] rfl (w_X12_bestLace_41 hO o _ ih _ _ _ _ _)
      · skip
        refine g_iload hO d_X12_bestLace_34 5 rfl ?_
        refine g_goto (tgt := 41) hO d_X12_bestLace_36.1 d_X12_bestLace_36.2 ?_
        exact g_sub [0, 1, 2, 3, 5] rfl (w_X12_bestLace_41 hO o _ ih _ _ _ _ _)
set_option maxRecDepth 20000 in
theorem w_X12_bestLace {Γ : GC} {E : GE} (hO : gOk Γ E cX12_bestLace RX12 6 rm_X12_bestLace (some .int) "bestLace") (o : Nat) (x1 : Int32) (x2 : Int32) (x3 : Int32) (S : GS) : Go Γ E (gBpI Γ E S) 6 (0, 0) 0 S [(0, vA (some o)), (1, vI x1), (2, vI x2), (3, vI x3)] [] (f_X12_bestLace o x1 x2 x3 S) := by
  unfold f_X12_bestLace
  refine g_iconst hO 0 d_X12_bestLace_0 (by decide) ?_
  refine g_istore (lv' := [(4, vI 0), (0, vA (some o)), (1, vI x1), (2, vI x2), (3, vI x3)]) hO d_X12_bestLace_1 (by decide) rfl ?_
  refine g_iconst hO 1 d_X12_bestLace_3 (by decide) ?_
  refine g_istore (lv' := [(5, vI 1), (4, vI 0), (0, vA (some o)), (1, vI x1), (2, vI x2), (3, vI x3)]) hO d_X12_bestLace_4 (by decide) rfl ?_
  exact g_sub [2, 3, 4, 5, 1, 0] rfl (w_X12_bestLace_6 hO o _ _ _ _ _ _ _)
theorem t_X12_bestLace (l : Launch) (E : GE) (o : Nat) (x1 : Int32) (x2 : Int32) (x3 : Int32) (S : GS) : ∀ a, f_X12_bestLace o x1 x2 x3 S = some a → Ct l E yX12_bestLace cX12_bestLace 6 (some .int) rm_X12_bestLace [vA (some o), vI x1, vI x2, vI x3] S (some (vI a)) S :=
  Ct_of (val := fun b => some (vI b)) (nxt := fun _ => S) (by decide) (Nat.le_of_ble_eq_true rfl) (fun Γ hl hO => w_X12_bestLace hO o x1 x2 x3 S)
