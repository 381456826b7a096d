theorem d_X2_begin_0 : gD cX2_begin 0 (.aload_n 0) 1 1 := ⟨by decide +kernel, rfl⟩
theorem d_X2_begin_1 : gD cX2_begin 1 (.aload_n 1) 1 2 := ⟨by decide +kernel, rfl⟩
theorem d_X2_begin_2 : gD cX2_begin 2 (.putfield 40) 3 5 := ⟨by decide +kernel, rfl⟩
theorem d_X2_begin_5 : gD cX2_begin 5 (.aload_n 0) 1 6 := ⟨by decide +kernel, rfl⟩
theorem d_X2_begin_6 : gD cX2_begin 6 (.aload_n 1) 1 7 := ⟨by decide +kernel, rfl⟩
theorem d_X2_begin_7 : gD cX2_begin 7 (.getfield 44) 3 10 := ⟨by decide +kernel, rfl⟩
theorem d_X2_begin_10 : gD cX2_begin 10 (.putfield 48) 3 13 := ⟨by decide +kernel, rfl⟩
theorem d_X2_begin_13 : gD cX2_begin 13 (.aload_n 0) 1 14 := ⟨by decide +kernel, rfl⟩
theorem d_X2_begin_14 : gD cX2_begin 14 (.iconst 0) 1 15 := ⟨by decide +kernel, rfl⟩
theorem d_X2_begin_15 : gD cX2_begin 15 (.putfield 49) 3 18 := ⟨by decide +kernel, rfl⟩
theorem d_X2_begin_18 : gD cX2_begin 18 (.aload_n 0) 1 19 := ⟨by decide +kernel, rfl⟩
theorem d_X2_begin_19 : gD cX2_begin 19 (.iconst 0) 1 20 := ⟨by decide +kernel, rfl⟩
theorem d_X2_begin_20 : gD cX2_begin 20 (.putfield 52) 3 23 := ⟨by decide +kernel, rfl⟩
theorem d_X2_begin_23 : gD cX2_begin 23 (.aload_n 0) 1 24 := ⟨by decide +kernel, rfl⟩
theorem d_X2_begin_24 : gD cX2_begin 24 (.iconst 0) 1 25 := ⟨by decide +kernel, rfl⟩
theorem d_X2_begin_25 : gD cX2_begin 25 (.putfield 55) 3 28 := ⟨by decide +kernel, rfl⟩
theorem d_X2_begin_28 : gD cX2_begin 28 (.aload_n 0) 1 29 := ⟨by decide +kernel, rfl⟩
theorem d_X2_begin_29 : gD cX2_begin 29 (.iconst 0) 1 30 := ⟨by decide +kernel, rfl⟩
theorem d_X2_begin_30 : gD cX2_begin 30 (.putfield 58) 3 33 := ⟨by decide +kernel, rfl⟩
theorem d_X2_begin_33 : gD cX2_begin 33 (.aload_n 0) 1 34 := ⟨by decide +kernel, rfl⟩
theorem d_X2_begin_34 : gD cX2_begin 34 (.iconst (-1)) 1 35 := ⟨by decide +kernel, rfl⟩
theorem d_X2_begin_35 : gD cX2_begin 35 (.putfield 61) 3 38 := ⟨by decide +kernel, rfl⟩
theorem d_X2_begin_38 : gD cX2_begin 38 (.aload_n 0) 1 39 := ⟨by decide +kernel, rfl⟩
theorem d_X2_begin_39 : gD cX2_begin 39 (.getfield 9) 3 42 := ⟨by decide +kernel, rfl⟩
theorem d_X2_begin_42 : gD cX2_begin 42 (.iconst 0) 1 43 := ⟨by decide +kernel, rfl⟩
theorem d_X2_begin_43 : gD cX2_begin 43 (.invokestatic 64) 3 46 := ⟨by decide +kernel, rfl⟩
theorem d_X2_begin_46 : gD cX2_begin 46 (.aload_n 0) 1 47 := ⟨by decide +kernel, rfl⟩
theorem d_X2_begin_47 : gD cX2_begin 47 (.getfield 25) 3 50 := ⟨by decide +kernel, rfl⟩
theorem d_X2_begin_50 : gD cX2_begin 50 (.iconst 0) 1 51 := ⟨by decide +kernel, rfl⟩
theorem d_X2_begin_51 : gD cX2_begin 51 (.invokestatic 64) 3 54 := ⟨by decide +kernel, rfl⟩
theorem d_X2_begin_54 : gD cX2_begin 54 (.aload_n 0) 1 55 := ⟨by decide +kernel, rfl⟩
theorem d_X2_begin_55 : gD cX2_begin 55 (.getfield 31) 3 58 := ⟨by decide +kernel, rfl⟩
theorem d_X2_begin_58 : gD cX2_begin 58 (.iconst 0) 1 59 := ⟨by decide +kernel, rfl⟩
theorem d_X2_begin_59 : gD cX2_begin 59 (.invokestatic 64) 3 62 := ⟨by decide +kernel, rfl⟩
theorem d_X2_begin_62 : gD cX2_begin 62 (.aload_n 0) 1 63 := ⟨by decide +kernel, rfl⟩
theorem d_X2_begin_63 : gD cX2_begin 63 (.getfield 34) 3 66 := ⟨by decide +kernel, rfl⟩
theorem d_X2_begin_66 : gD cX2_begin 66 (.iconst (-1)) 1 67 := ⟨by decide +kernel, rfl⟩
theorem d_X2_begin_67 : gD cX2_begin 67 (.invokestatic 64) 3 70 := ⟨by decide +kernel, rfl⟩
theorem d_X2_begin_70 : gD cX2_begin 70 (.iconst 0) 1 71 := ⟨by decide +kernel, rfl⟩
theorem d_X2_begin_71 : gD cX2_begin 71 (.istore_n 2) 1 72 := ⟨by decide +kernel, rfl⟩
theorem d_X2_begin_72 : gD cX2_begin 72 (.iload_n 2) 1 73 := ⟨by decide +kernel, rfl⟩
theorem d_X2_begin_73 : gD cX2_begin 73 (.iconst 4) 1 74 := ⟨by decide +kernel, rfl⟩
theorem d_X2_begin_74 : gD cX2_begin 74 (.if_icmp .ge 16) 3 77 ∧ ((74 : Nat) : Int) + 16 = ((90 : Nat) : Int) := ⟨⟨by decide +kernel, rfl⟩, by decide⟩
theorem d_X2_begin_77 : gD cX2_begin 77 (.aload_n 0) 1 78 := ⟨by decide +kernel, rfl⟩
theorem d_X2_begin_78 : gD cX2_begin 78 (.getfield 15) 3 81 := ⟨by decide +kernel, rfl⟩
theorem d_X2_begin_81 : gD cX2_begin 81 (.iload_n 2) 1 82 := ⟨by decide +kernel, rfl⟩
theorem d_X2_begin_82 : gD cX2_begin 82 (.iconst 0) 1 83 := ⟨by decide +kernel, rfl⟩
theorem d_X2_begin_83 : gD cX2_begin 83 (.bastore) 1 84 := ⟨by decide +kernel, rfl⟩
theorem d_X2_begin_84 : gD cX2_begin 84 (.iinc 2 1) 3 87 := ⟨by decide +kernel, rfl⟩
theorem d_X2_begin_87 : decode cX2_begin 87 = .ok (.goto (-15), 3) ∧ ((87 : Nat) : Int) + (-15) = ((72 : Nat) : Int) := ⟨by decide +kernel, by decide⟩
theorem d_X2_begin_90 : gD cX2_begin 90 (.iconst 0) 1 91 := ⟨by decide +kernel, rfl⟩
theorem d_X2_begin_91 : gD cX2_begin 91 (.istore_n 2) 1 92 := ⟨by decide +kernel, rfl⟩
theorem d_X2_begin_92 : gD cX2_begin 92 (.iload_n 2) 1 93 := ⟨by decide +kernel, rfl⟩
theorem d_X2_begin_93 : gD cX2_begin 93 (.bipush 8) 2 95 := ⟨by decide +kernel, rfl⟩
theorem d_X2_begin_95 : gD cX2_begin 95 (.if_icmp .ge 46) 3 98 ∧ ((95 : Nat) : Int) + 46 = ((141 : Nat) : Int) := ⟨⟨by decide +kernel, rfl⟩, by decide⟩
theorem d_X2_begin_98 : gD cX2_begin 98 (.aload_n 0) 1 99 := ⟨by decide +kernel, rfl⟩
theorem d_X2_begin_99 : gD cX2_begin 99 (.getfield 28) 3 102 := ⟨by decide +kernel, rfl⟩
theorem d_X2_begin_102 : gD cX2_begin 102 (.iload_n 2) 1 103 := ⟨by decide +kernel, rfl⟩
theorem d_X2_begin_103 : gD cX2_begin 103 (.iconst 0) 1 104 := ⟨by decide +kernel, rfl⟩
theorem d_X2_begin_104 : gD cX2_begin 104 (.bastore) 1 105 := ⟨by decide +kernel, rfl⟩
theorem d_X2_begin_105 : gD cX2_begin 105 (.aload_n 0) 1 106 := ⟨by decide +kernel, rfl⟩
theorem d_X2_begin_106 : gD cX2_begin 106 (.getfield 19) 3 109 := ⟨by decide +kernel, rfl⟩
theorem d_X2_begin_109 : gD cX2_begin 109 (.iload_n 2) 1 110 := ⟨by decide +kernel, rfl⟩
theorem d_X2_begin_110 : gD cX2_begin 110 (.aload_n 1) 1 111 := ⟨by decide +kernel, rfl⟩
theorem d_X2_begin_111 : gD cX2_begin 111 (.getfield 70) 3 114 := ⟨by decide +kernel, rfl⟩
theorem d_X2_begin_114 : gD cX2_begin 114 (.iload_n 2) 1 115 := ⟨by decide +kernel, rfl⟩
theorem d_X2_begin_115 : gD cX2_begin 115 (.iconst 0) 1 116 := ⟨by decide +kernel, rfl⟩
theorem d_X2_begin_116 : gD cX2_begin 116 (.invokevirtual 74) 3 119 := ⟨by decide +kernel, rfl⟩
theorem d_X2_begin_119 : gD cX2_begin 119 (.iastore) 1 120 := ⟨by decide +kernel, rfl⟩
theorem d_X2_begin_120 : gD cX2_begin 120 (.aload_n 0) 1 121 := ⟨by decide +kernel, rfl⟩
theorem d_X2_begin_121 : gD cX2_begin 121 (.getfield 22) 3 124 := ⟨by decide +kernel, rfl⟩
theorem d_X2_begin_124 : gD cX2_begin 124 (.iload_n 2) 1 125 := ⟨by decide +kernel, rfl⟩
theorem d_X2_begin_125 : gD cX2_begin 125 (.aload_n 1) 1 126 := ⟨by decide +kernel, rfl⟩
theorem d_X2_begin_126 : gD cX2_begin 126 (.getfield 70) 3 129 := ⟨by decide +kernel, rfl⟩
theorem d_X2_begin_129 : gD cX2_begin 129 (.iload_n 2) 1 130 := ⟨by decide +kernel, rfl⟩
theorem d_X2_begin_130 : gD cX2_begin 130 (.iconst 1) 1 131 := ⟨by decide +kernel, rfl⟩
theorem d_X2_begin_131 : gD cX2_begin 131 (.invokevirtual 74) 3 134 := ⟨by decide +kernel, rfl⟩
theorem d_X2_begin_134 : gD cX2_begin 134 (.iastore) 1 135 := ⟨by decide +kernel, rfl⟩
theorem d_X2_begin_135 : gD cX2_begin 135 (.iinc 2 1) 3 138 := ⟨by decide +kernel, rfl⟩
theorem d_X2_begin_138 : decode cX2_begin 138 = .ok (.goto (-46), 3) ∧ ((138 : Nat) : Int) + (-46) = ((92 : Nat) : Int) := ⟨by decide +kernel, by decide⟩
theorem d_X2_begin_141 : gD cX2_begin 141 (.return_) 1 142 := ⟨by decide +kernel, rfl⟩
abbrev rm_X2_begin : Room := { frames := 1, cells := 0, slots := 0, locals := 23 }
set_option maxRecDepth 20000 in
theorem w_X2_begin_92 {Γ : GC} {E : GE} (hO : gOk Γ E cX2_begin RX2 3 rm_X2_begin none "begin") (o : Nat) : ∀ (n : Nat) (x1 : Option Nat) (x2 : Int32) (S : GS), Go Γ E (gBsV Γ E) 3 (0, 0) 92 S [(0, vA (some o)), (1, vA x1), (2, vI x2)] [] (f_X2_begin_92 o n x1 x2 S) := by
  intro n
  induction n with
  | zero =>
    intro x1 x2 S
    exact g_none
  | succ n ih =>
    intro x1 x2 S
    rw [f_X2_begin_92]
    refine g_iload_n hO d_X2_begin_92 (by rfl) 2 rfl ?_
    refine g_bipush hO 8 d_X2_begin_93 (by decide) ?_
    refine g_ic_ge (tgt := 141) hO d_X2_begin_95.1 d_X2_begin_95.2 (fun _ => ?_) (fun _ => ?_)
    · skip
      exact g_vret hO rfl ⟨Nat.le_of_ble_eq_true rfl, Nat.le_of_ble_eq_true rfl⟩ rfl rfl d_X2_begin_141.1
    · skip
      refine g_aload_n hO d_X2_begin_98 (by rfl) 0 rfl ?_
      refine h_getR hO cl_X2 5 rfl wf_X2_28 d_X2_begin_99 (fun v1 => ?_)
      refine g_iload_n hO d_X2_begin_102 (by rfl) 2 rfl ?_
      refine g_iconst hO 0 d_X2_begin_103 (by decide) ?_
      refine h_zast hO d_X2_begin_104 (fun S2 => ?_)
      refine g_aload_n hO d_X2_begin_105 (by rfl) 0 rfl ?_
      refine h_getR hO cl_X2 2 rfl wf_X2_19 d_X2_begin_106 (fun v3 => ?_)
      refine g_iload_n hO d_X2_begin_109 (by rfl) 2 rfl ?_
      refine g_aload_n hO d_X2_begin_110 (by rfl) 1 rfl ?_
      refine h_getR hO cl_X0 1 rfl wf_X2_70 d_X2_begin_111 (fun v4 => ?_)
      refine g_iload_n hO d_X2_begin_114 (by rfl) 2 rfl ?_
      refine g_iconst hO 0 d_X2_begin_115 (by decide) ?_
      refine k_virtIp hO cl_X7 mm_X7_cell lkV_X2_74 ⟨⟨Nat.le_of_ble_eq_true rfl, Nat.le_of_ble_eq_true rfl⟩, Nat.le_of_ble_eq_true rfl, Nat.le_of_ble_eq_true rfl⟩ (kn' := (0, 0)) rfl (As := [vI x2, vI 0]) rfl (Nat.le_of_ble_eq_true rfl) (fun o' _ => t_X7_cell Γ.2.1 E o' x2 0 S2) d_X2_begin_116 rfl (fun v5 => ?_)
      refine h_iast hO d_X2_begin_119 (fun S7 => ?_)
      refine g_aload_n hO d_X2_begin_120 (by rfl) 0 rfl ?_
      refine h_getR hO cl_X2 3 rfl wf_X2_22 d_X2_begin_121 (fun v8 => ?_)
      refine g_iload_n hO d_X2_begin_124 (by rfl) 2 rfl ?_
      refine g_aload_n hO d_X2_begin_125 (by rfl) 1 rfl ?_
      refine h_getR hO cl_X0 1 rfl wf_X2_70 d_X2_begin_126 (fun v9 => ?_)
      refine g_iload_n hO d_X2_begin_129 (by rfl) 2 rfl ?_
      refine g_iconst hO 1 d_X2_begin_130 (by decide) ?_
      refine k_virtIp hO cl_X7 mm_X7_cell lkV_X2_74 ⟨⟨Nat.le_of_ble_eq_true rfl, Nat.le_of_ble_eq_true rfl⟩, Nat.le_of_ble_eq_true rfl, Nat.le_of_ble_eq_true rfl⟩ (kn' := (0, 0)) rfl (As := [vI x2, vI 1]) rfl (Nat.le_of_ble_eq_true rfl) (fun o' _ => t_X7_cell Γ.2.1 E o' x2 1 S7) d_X2_begin_131 rfl (fun v10 => ?_)
      refine h_iast hO d_X2_begin_134 (fun S12 => ?_)
      refine g_iinc (lv' := [(2, vI (x2 + 1)), (0, vA (some o)), (1, vA x1)]) hO 1 d_X2_begin_135 (by decide) 2 rfl (by decide) rfl ?_
      refine g_goto (tgt := 92) hO d_X2_begin_138.1 d_X2_begin_138.2 ?_
      exact g_sub [1, 2, 0] rfl (ih _ _ _)
set_option maxRecDepth 20000 in
theorem w_X2_begin_72 {Γ : GC} {E : GE} (hO : gOk Γ E cX2_begin RX2 3 rm_X2_begin none "begin") (o : Nat) : ∀ (n : Nat) (x1 : Option Nat) (x2 : Int32) (S : GS), Go Γ E (gBsV Γ E) 3 (0, 0) 72 S [(0, vA (some o)), (1, vA x1), (2, vI x2)] [] (f_X2_begin_72 o n x1 x2 S) := by
  intro n
  induction n with
  | zero =>
    intro x1 x2 S
    exact g_none
  | succ n ih =>
    intro x1 x2 S
    rw [f_X2_begin_72]
    refine g_iload_n hO d_X2_begin_72 (by rfl) 2 rfl ?_
    refine g_iconst hO 4 d_X2_begin_73 (by decide) ?_
    refine g_ic_ge (tgt := 90) hO d_X2_begin_74.1 d_X2_begin_74.2 (fun _ => ?_) (fun _ => ?_)
    · skip
      refine g_iconst hO 0 d_X2_begin_90 (by decide) ?_
      refine g_istore_n (lv' := [(2, vI 0), (0, vA (some o)), (1, vA x1)]) hO d_X2_begin_91 (by rfl) (by decide) rfl ?_
      exact g_sub [1, 2, 0] rfl (w_X2_begin_92 hO o _ _ _ _)
    · skip
      refine g_aload_n hO d_X2_begin_77 (by rfl) 0 rfl ?_
      refine h_getR hO cl_X2 1 rfl wf_X2_15 d_X2_begin_78 (fun v1 => ?_)
      refine g_iload_n hO d_X2_begin_81 (by rfl) 2 rfl ?_
      refine g_iconst hO 0 d_X2_begin_82 (by decide) ?_
      refine h_zast hO d_X2_begin_83 (fun S2 => ?_)
      refine g_iinc (lv' := [(2, vI (x2 + 1)), (0, vA (some o)), (1, vA x1)]) hO 1 d_X2_begin_84 (by decide) 2 rfl (by decide) rfl ?_
      refine g_goto (tgt := 72) hO d_X2_begin_87.1 d_X2_begin_87.2 ?_
      exact g_sub [1, 2, 0] rfl (ih _ _ _)
set_option maxRecDepth 20000 in
theorem w_X2_begin {Γ : GC} {E : GE} (hO : gOk Γ E cX2_begin RX2 3 rm_X2_begin none "begin") (o : Nat) (x1 : Option Nat) (S : GS) : Go Γ E (gBsV Γ E) 3 (0, 0) 0 S [(0, vA (some o)), (1, vA x1)] [] (f_X2_begin o x1 S) := by
  unfold f_X2_begin
  refine g_aload_n hO d_X2_begin_0 (by rfl) 0 rfl ?_
  refine g_aload_n hO d_X2_begin_1 (by rfl) 1 rfl ?_
  refine h_putR hO cl_X2 8 rfl (ty := .object "GlassLaces$Court") (by decide +kernel) (Or.inl ⟨_, rfl⟩) wf_X2_40 (Or.inl rfl) d_X2_begin_2 (fun S1 => ?_)
  refine g_aload_n hO d_X2_begin_5 (by rfl) 0 rfl ?_
  refine g_aload_n hO d_X2_begin_6 (by rfl) 1 rfl ?_
  refine h_getI hO cl_X0 6 rfl wf_X2_44 d_X2_begin_7 (fun v2 => ?_)
  refine h_putI hO cl_X2 10 rfl rfl wf_X2_48 (Or.inl rfl) d_X2_begin_10 (fun S3 => ?_)
  refine g_aload_n hO d_X2_begin_13 (by rfl) 0 rfl ?_
  refine g_iconst hO 0 d_X2_begin_14 (by decide) ?_
  refine h_putI hO cl_X2 11 rfl rfl wf_X2_49 (Or.inl rfl) d_X2_begin_15 (fun S4 => ?_)
  refine g_aload_n hO d_X2_begin_18 (by rfl) 0 rfl ?_
  refine g_iconst hO 0 d_X2_begin_19 (by decide) ?_
  refine h_putI hO cl_X2 12 rfl rfl wf_X2_52 (Or.inl rfl) d_X2_begin_20 (fun S5 => ?_)
  refine g_aload_n hO d_X2_begin_23 (by rfl) 0 rfl ?_
  refine g_iconst hO 0 d_X2_begin_24 (by decide) ?_
  refine h_putI hO cl_X2 13 rfl rfl wf_X2_55 (Or.inl rfl) d_X2_begin_25 (fun S6 => ?_)
  refine g_aload_n hO d_X2_begin_28 (by rfl) 0 rfl ?_
  refine g_iconst hO 0 d_X2_begin_29 (by decide) ?_
  refine h_putI hO cl_X2 14 rfl rfl wf_X2_58 (Or.inl rfl) d_X2_begin_30 (fun S7 => ?_)
  refine g_aload_n hO d_X2_begin_33 (by rfl) 0 rfl ?_
  refine g_iconst hO (-1) d_X2_begin_34 (by decide) ?_
  refine h_putI hO cl_X2 15 rfl rfl wf_X2_61 (Or.inl rfl) d_X2_begin_35 (fun S8 => ?_)
  refine g_aload_n hO d_X2_begin_38 (by rfl) 0 rfl ?_
  refine h_getR hO cl_X2 0 rfl wf_X2_9 d_X2_begin_39 (fun v9 => ?_)
  refine g_iconst hO 0 d_X2_begin_42 (by decide) ?_
  refine k_statVs hO mm_J7_fill_53178 lkS_X2_64 ⟨⟨Nat.le_of_ble_eq_true rfl, Nat.le_of_ble_eq_true rfl⟩, Nat.le_of_ble_eq_true rfl, Nat.le_of_ble_eq_true rfl⟩ (kn' := (0, 0)) rfl (As := [vA v9, vI 0]) rfl (Nat.le_of_ble_eq_true rfl) (t_J7_fill_53178 Γ.2.1 E v9 0 S8) d_X2_begin_43 rfl (fun S11 => ?_)
  refine g_aload_n hO d_X2_begin_46 (by rfl) 0 rfl ?_
  refine h_getR hO cl_X2 4 rfl wf_X2_25 d_X2_begin_47 (fun v12 => ?_)
  refine g_iconst hO 0 d_X2_begin_50 (by decide) ?_
  refine k_statVs hO mm_J7_fill_53178 lkS_X2_64 ⟨⟨Nat.le_of_ble_eq_true rfl, Nat.le_of_ble_eq_true rfl⟩, Nat.le_of_ble_eq_true rfl, Nat.le_of_ble_eq_true rfl⟩ (kn' := (0, 0)) rfl (As := [vA v12, vI 0]) rfl (Nat.le_of_ble_eq_true rfl) (t_J7_fill_53178 Γ.2.1 E v12 0 S11) d_X2_begin_51 rfl (fun S14 => ?_)
  refine g_aload_n hO d_X2_begin_54 (by rfl) 0 rfl ?_
  refine h_getR hO cl_X2 6 rfl wf_X2_31 d_X2_begin_55 (fun v15 => ?_)
  refine g_iconst hO 0 d_X2_begin_58 (by decide) ?_
  refine k_statVs hO mm_J7_fill_53178 lkS_X2_64 ⟨⟨Nat.le_of_ble_eq_true rfl, Nat.le_of_ble_eq_true rfl⟩, Nat.le_of_ble_eq_true rfl, Nat.le_of_ble_eq_true rfl⟩ (kn' := (0, 0)) rfl (As := [vA v15, vI 0]) rfl (Nat.le_of_ble_eq_true rfl) (t_J7_fill_53178 Γ.2.1 E v15 0 S14) d_X2_begin_59 rfl (fun S17 => ?_)
  refine g_aload_n hO d_X2_begin_62 (by rfl) 0 rfl ?_
  refine h_getR hO cl_X2 7 rfl wf_X2_34 d_X2_begin_63 (fun v18 => ?_)
  refine g_iconst hO (-1) d_X2_begin_66 (by decide) ?_
  refine k_statVs hO mm_J7_fill_53178 lkS_X2_64 ⟨⟨Nat.le_of_ble_eq_true rfl, Nat.le_of_ble_eq_true rfl⟩, Nat.le_of_ble_eq_true rfl, Nat.le_of_ble_eq_true rfl⟩ (kn' := (0, 0)) rfl (As := [vA v18, vI (-1)]) rfl (Nat.le_of_ble_eq_true rfl) (t_J7_fill_53178 Γ.2.1 E v18 (-1) S17) d_X2_begin_67 rfl (fun S20 => ?_)
  refine g_iconst hO 0 d_X2_begin_70 (by decide) ?_
  refine g_istore_n (lv' := [(2, vI 0), (0, vA (some o)), (1, vA x1)]) hO d_X2_begin_71 (by rfl) (by decide) rfl ?_
  exact g_sub [1, 2, 0] rfl (w_X2_begin_72 hO o _ _ _ _)
theorem t_X2_begin (l : Launch) (E : GE) (o : Nat) (x1 : Option Nat) (S : GS) : ∀ a, f_X2_begin o x1 S = some a → Ct l E yX2_begin cX2_begin 3 none rm_X2_begin [vA (some o), vA x1] S none a :=
  Ct_of (val := fun _ => none) (nxt := fun b => b) (by decide) (Nat.le_of_ble_eq_true rfl) (fun Γ hl hO => w_X2_begin hO o x1 S)
theorem d_X2_hasRoom_0 : gD cX2_hasRoom 0 (.iload_n 1) 1 1 := ⟨by decide +kernel, rfl⟩
theorem d_X2_hasRoom_1 : gD cX2_hasRoom 1 (.ifCond .lt 26) 3 4 ∧ ((1 : Nat) : Int) + 26 = ((27 : Nat) : Int) := ⟨⟨by decide +kernel, rfl⟩, by decide⟩
theorem d_X2_hasRoom_4 : gD cX2_hasRoom 4 (.iload_n 1) 1 5 := ⟨by decide +kernel, rfl⟩
theorem d_X2_hasRoom_5 : gD cX2_hasRoom 5 (.iconst 4) 1 6 := ⟨by decide +kernel, rfl⟩
theorem d_X2_hasRoom_6 : gD cX2_hasRoom 6 (.if_icmp .ge 21) 3 9 ∧ ((6 : Nat) : Int) + 21 = ((27 : Nat) : Int) := ⟨⟨by decide +kernel, rfl⟩, by decide⟩
theorem d_X2_hasRoom_9 : gD cX2_hasRoom 9 (.iload_n 1) 1 10 := ⟨by decide +kernel, rfl⟩
theorem d_X2_hasRoom_10 : gD cX2_hasRoom 10 (.aload_n 0) 1 11 := ⟨by decide +kernel, rfl⟩
theorem d_X2_hasRoom_11 : gD cX2_hasRoom 11 (.getfield 40) 3 14 := ⟨by decide +kernel, rfl⟩
theorem d_X2_hasRoom_14 : gD cX2_hasRoom 14 (.getfield 121) 3 17 := ⟨by decide +kernel, rfl⟩
theorem d_X2_hasRoom_17 : gD cX2_hasRoom 17 (.getfield 80) 3 20 := ⟨by decide +kernel, rfl⟩
theorem d_X2_hasRoom_20 : gD cX2_hasRoom 20 (.if_icmp .ge 7) 3 23 ∧ ((20 : Nat) : Int) + 7 = ((27 : Nat) : Int) := ⟨⟨by decide +kernel, rfl⟩, by decide⟩
theorem d_X2_hasRoom_23 : gD cX2_hasRoom 23 (.iconst 1) 1 24 := ⟨by decide +kernel, rfl⟩
theorem d_X2_hasRoom_24 : decode cX2_hasRoom 24 = .ok (.goto 4, 3) ∧ ((24 : Nat) : Int) + 4 = ((28 : Nat) : Int) := ⟨by decide +kernel, by decide⟩
theorem d_X2_hasRoom_27 : gD cX2_hasRoom 27 (.iconst 0) 1 28 := ⟨by decide +kernel, rfl⟩
theorem d_X2_hasRoom_28 : gD cX2_hasRoom 28 (.ireturn) 1 29 := ⟨by decide +kernel, rfl⟩
abbrev rm_X2_hasRoom : Room := { frames := 0, cells := 0, slots := 0, locals := 0 }
set_option maxRecDepth 20000 in
theorem w_X2_hasRoom {Γ : GC} {E : GE} (hO : gOk Γ E cX2_hasRoom RX2 2 rm_X2_hasRoom (some .boolean) "hasRoom") (o : Nat) (x1 : Int32) (S : GS) : Go Γ E (gBpI Γ E S) 2 (0, 0) 0 S [(0, vA (some o)), (1, vI x1)] [] (f_X2_hasRoom o x1 S) := by
  unfold f_X2_hasRoom
  refine g_iload_n hO d_X2_hasRoom_0 (by rfl) 1 rfl ?_
  refine g_if_lt (tgt := 27) hO d_X2_hasRoom_1.1 d_X2_hasRoom_1.2 (fun _ => ?_) (fun _ => ?_)
  · skip
    refine g_iconst hO 0 d_X2_hasRoom_27 (by decide) ?_
    exact g_ret hO rfl rfl ⟨Nat.le_of_ble_eq_true rfl, Nat.le_of_ble_eq_true rfl⟩ rfl rfl d_X2_hasRoom_28.1
  · skip
    refine g_iload_n hO d_X2_hasRoom_4 (by rfl) 1 rfl ?_
    refine g_iconst hO 4 d_X2_hasRoom_5 (by decide) ?_
    refine g_ic_ge (tgt := 27) hO d_X2_hasRoom_6.1 d_X2_hasRoom_6.2 (fun _ => ?_) (fun _ => ?_)
    · skip
      refine g_iconst hO 0 d_X2_hasRoom_27 (by decide) ?_
      exact g_ret hO rfl rfl ⟨Nat.le_of_ble_eq_true rfl, Nat.le_of_ble_eq_true rfl⟩ rfl rfl d_X2_hasRoom_28.1
    · skip
      refine g_iload_n hO d_X2_hasRoom_9 (by rfl) 1 rfl ?_
      refine g_aload_n hO d_X2_hasRoom_10 (by rfl) 0 rfl ?_
      refine h_getR hO cl_X2 8 rfl wf_X2_40 d_X2_hasRoom_11 (fun v1 => ?_)
      refine h_getR hO cl_X0 0 rfl wf_X2_121 d_X2_hasRoom_14 (fun v2 => ?_)
      refine h_getI hO cl_X7 3 rfl wf_X2_80 d_X2_hasRoom_17 (fun v3 => ?_)
      refine g_ic_ge (tgt := 27) hO d_X2_hasRoom_20.1 d_X2_hasRoom_20.2 (fun _ => ?_) (fun _ => ?_)
      · skip
        refine g_iconst hO 0 d_X2_hasRoom_27 (by decide) ?_
        exact g_ret hO rfl rfl ⟨Nat.le_of_ble_eq_true rfl, Nat.le_of_ble_eq_true rfl⟩ rfl rfl d_X2_hasRoom_28.1
      · skip
        refine g_iconst hO 1 d_X2_hasRoom_23 (by decide) ?_
        refine g_goto (tgt := 28) hO d_X2_hasRoom_24.1 d_X2_hasRoom_24.2 ?_
        exact g_ret hO rfl rfl ⟨Nat.le_of_ble_eq_true rfl, Nat.le_of_ble_eq_true rfl⟩ rfl rfl d_X2_hasRoom_28.1
theorem t_X2_hasRoom (l : Launch) (E : GE) (o : Nat) (x1 : Int32) (S : GS) : ∀ a, f_X2_hasRoom o x1 S = some a → Ct l E yX2_hasRoom cX2_hasRoom 2 (some .boolean) rm_X2_hasRoom [vA (some o), vI x1] S (some (vI a)) S :=
  Ct_of (val := fun b => some (vI b)) (nxt := fun _ => S) (by decide) (Nat.le_of_ble_eq_true rfl) (fun Γ hl hO => w_X2_hasRoom hO o x1 S)
theorem d_X2_turnDoor_0 : gD cX2_turnDoor 0 (.aload_n 0) 1 1 := ⟨by decide +kernel, rfl⟩
theorem d_X2_turnDoor_1 : gD cX2_turnDoor 1 (.iload_n 1) 1 2 := ⟨by decide +kernel, rfl⟩
theorem d_X2_turnDoor_2 : gD cX2_turnDoor 2 (.invokevirtual 124) 3 5 := ⟨by decide +kernel, rfl⟩
theorem d_X2_turnDoor_5 : gD cX2_turnDoor 5 (.ifCond .eq 13) 3 8 ∧ ((5 : Nat) : Int) + 13 = ((18 : Nat) : Int) := ⟨⟨by decide +kernel, rfl⟩, by decide⟩
theorem d_X2_turnDoor_8 : gD cX2_turnDoor 8 (.aload_n 0) 1 9 := ⟨by decide +kernel, rfl⟩
theorem d_X2_turnDoor_9 : gD cX2_turnDoor 9 (.getfield 15) 3 12 := ⟨by decide +kernel, rfl⟩
theorem d_X2_turnDoor_12 : gD cX2_turnDoor 12 (.iload_n 1) 1 13 := ⟨by decide +kernel, rfl⟩
theorem d_X2_turnDoor_13 : gD cX2_turnDoor 13 (.baload) 1 14 := ⟨by decide +kernel, rfl⟩
theorem d_X2_turnDoor_14 : gD cX2_turnDoor 14 (.iload_n 2) 1 15 := ⟨by decide +kernel, rfl⟩
theorem d_X2_turnDoor_15 : gD cX2_turnDoor 15 (.if_icmp .eq 5) 3 18 ∧ ((15 : Nat) : Int) + 5 = ((20 : Nat) : Int) := ⟨⟨by decide +kernel, rfl⟩, by decide⟩
theorem d_X2_turnDoor_18 : gD cX2_turnDoor 18 (.iconst 0) 1 19 := ⟨by decide +kernel, rfl⟩
theorem d_X2_turnDoor_19 : gD cX2_turnDoor 19 (.ireturn) 1 20 := ⟨by decide +kernel, rfl⟩
theorem d_X2_turnDoor_20 : gD cX2_turnDoor 20 (.aload_n 0) 1 21 := ⟨by decide +kernel, rfl⟩
theorem d_X2_turnDoor_21 : gD cX2_turnDoor 21 (.getfield 9) 3 24 := ⟨by decide +kernel, rfl⟩
theorem d_X2_turnDoor_24 : gD cX2_turnDoor 24 (.iload_n 1) 1 25 := ⟨by decide +kernel, rfl⟩
theorem d_X2_turnDoor_25 : gD cX2_turnDoor 25 (.aload_n 0) 1 26 := ⟨by decide +kernel, rfl⟩
theorem d_X2_turnDoor_26 : gD cX2_turnDoor 26 (.getfield 48) 3 29 := ⟨by decide +kernel, rfl⟩
theorem d_X2_turnDoor_29 : gD cX2_turnDoor 29 (.iastore) 1 30 := ⟨by decide +kernel, rfl⟩
theorem d_X2_turnDoor_30 : gD cX2_turnDoor 30 (.aload_n 0) 1 31 := ⟨by decide +kernel, rfl⟩
theorem d_X2_turnDoor_31 : gD cX2_turnDoor 31 (.getfield 15) 3 34 := ⟨by decide +kernel, rfl⟩
theorem d_X2_turnDoor_34 : gD cX2_turnDoor 34 (.iload_n 1) 1 35 := ⟨by decide +kernel, rfl⟩
theorem d_X2_turnDoor_35 : gD cX2_turnDoor 35 (.iload_n 2) 1 36 := ⟨by decide +kernel, rfl⟩
theorem d_X2_turnDoor_36 : gD cX2_turnDoor 36 (.ifCond .ne 7) 3 39 ∧ ((36 : Nat) : Int) + 7 = ((43 : Nat) : Int) := ⟨⟨by decide +kernel, rfl⟩, by decide⟩
theorem d_X2_turnDoor_39 : gD cX2_turnDoor 39 (.iconst 1) 1 40 := ⟨by decide +kernel, rfl⟩
theorem d_X2_turnDoor_40 : decode cX2_turnDoor 40 = .ok (.goto 4, 3) ∧ ((40 : Nat) : Int) + 4 = ((44 : Nat) : Int) := ⟨by decide +kernel, by decide⟩
theorem d_X2_turnDoor_43 : gD cX2_turnDoor 43 (.iconst 0) 1 44 := ⟨by decide +kernel, rfl⟩
theorem d_X2_turnDoor_44 : gD cX2_turnDoor 44 (.bastore) 1 45 := ⟨by decide +kernel, rfl⟩
theorem d_X2_turnDoor_45 : gD cX2_turnDoor 45 (.iconst 1) 1 46 := ⟨by decide +kernel, rfl⟩
theorem d_X2_turnDoor_46 : gD cX2_turnDoor 46 (.ireturn) 1 47 := ⟨by decide +kernel, rfl⟩
abbrev rm_X2_turnDoor : Room := { frames := 1, cells := 0, slots := 0, locals := 21 }
set_option maxRecDepth 20000 in
theorem w_X2_turnDoor {Γ : GC} {E : GE} (hO : gOk Γ E cX2_turnDoor RX2 3 rm_X2_turnDoor (some .boolean) "turnDoor") (o : Nat) (x1 : Int32) (x2 : Int32) (S : GS) : Go Γ E (gBsI Γ E) 3 (0, 0) 0 S [(0, vA (some o)), (1, vI x1), (2, vI x2)] [] (f_X2_turnDoor o x1 x2 S) := by
  unfold f_X2_turnDoor
  refine g_aload_n hO d_X2_turnDoor_0 (by rfl) 0 rfl ?_
  refine g_iload_n hO d_X2_turnDoor_1 (by rfl) 1 rfl ?_
  refine k_virtIp hO cl_X2 mm_X2_hasRoom lkV_X2_124 ⟨⟨Nat.le_of_ble_eq_true rfl, Nat.le_of_ble_eq_true rfl⟩, Nat.le_of_ble_eq_true rfl, Nat.le_of_ble_eq_true rfl⟩ (kn' := (0, 0)) rfl (As := [vI x1]) rfl (Nat.le_of_ble_eq_true rfl) (fun o' _ => t_X2_hasRoom Γ.2.1 E o' x1 S) d_X2_turnDoor_2 rfl (fun v1 => ?_)
  refine g_if_eq (tgt := 18) hO d_X2_turnDoor_5.1 d_X2_turnDoor_5.2 (fun _ => ?_) (fun _ => ?_)
  · skip
    refine g_iconst hO 0 d_X2_turnDoor_18 (by decide) ?_
    exact g_ret hO rfl rfl ⟨Nat.le_of_ble_eq_true rfl, Nat.le_of_ble_eq_true rfl⟩ rfl rfl d_X2_turnDoor_19.1
  · skip
    refine g_aload_n hO d_X2_turnDoor_8 (by rfl) 0 rfl ?_
    refine h_getR hO cl_X2 1 rfl wf_X2_15 d_X2_turnDoor_9 (fun v3 => ?_)
    refine g_iload_n hO d_X2_turnDoor_12 (by rfl) 1 rfl ?_
    refine h_zald hO d_X2_turnDoor_13 (fun v4 => ?_)
    refine g_iload_n hO d_X2_turnDoor_14 (by rfl) 2 rfl ?_
    refine g_ic_eq (tgt := 20) hO d_X2_turnDoor_15.1 d_X2_turnDoor_15.2 (fun _ => ?_) (fun _ => ?_)
    · skip
      refine g_aload_n hO d_X2_turnDoor_20 (by rfl) 0 rfl ?_
      refine h_getR hO cl_X2 0 rfl wf_X2_9 d_X2_turnDoor_21 (fun v5 => ?_)
      refine g_iload_n hO d_X2_turnDoor_24 (by rfl) 1 rfl ?_
      refine g_aload_n hO d_X2_turnDoor_25 (by rfl) 0 rfl ?_
      refine h_getI hO cl_X2 10 rfl wf_X2_48 d_X2_turnDoor_26 (fun v6 => ?_)
      refine h_iast hO d_X2_turnDoor_29 (fun S7 => ?_)
      refine g_aload_n hO d_X2_turnDoor_30 (by rfl) 0 rfl ?_
      refine h_getR hO cl_X2 1 rfl wf_X2_15 d_X2_turnDoor_31 (fun v8 => ?_)
      refine g_iload_n hO d_X2_turnDoor_34 (by rfl) 1 rfl ?_
      refine g_iload_n hO d_X2_turnDoor_35 (by rfl) 2 rfl ?_
      refine g_if_ne (tgt := 43) hO d_X2_turnDoor_36.1 d_X2_turnDoor_36.2 (fun _ => ?_) (fun _ => ?_)
      · skip
        refine g_iconst hO 1 d_X2_turnDoor_39 (by decide) ?_
        refine g_goto (tgt := 44) hO d_X2_turnDoor_40.1 d_X2_turnDoor_40.2 ?_
        refine h_zast hO d_X2_turnDoor_44 (fun S9 => ?_)
        refine g_iconst hO 1 d_X2_turnDoor_45 (by decide) ?_
        exact g_ret hO rfl rfl ⟨Nat.le_of_ble_eq_true rfl, Nat.le_of_ble_eq_true rfl⟩ rfl rfl d_X2_turnDoor_46.1
      · skip
        refine g_iconst hO 0 d_X2_turnDoor_43 (by decide) ?_
        refine h_zast hO d_X2_turnDoor_44 (fun S10 => ?_)
        refine g_iconst hO 1 d_X2_turnDoor_45 (by decide) ?_
        exact g_ret hO rfl rfl ⟨Nat.le_of_ble_eq_true rfl, Nat.le_of_ble_eq_true rfl⟩ rfl rfl d_X2_turnDoor_46.1
    · skip
      refine g_iconst hO 0 d_X2_turnDoor_18 (by decide) ?_
      exact g_ret hO rfl rfl ⟨Nat.le_of_ble_eq_true rfl, Nat.le_of_ble_eq_true rfl⟩ rfl rfl d_X2_turnDoor_19.1
theorem t_X2_turnDoor (l : Launch) (E : GE) (o : Nat) (x1 : Int32) (x2 : Int32) (S : GS) : ∀ a, f_X2_turnDoor o x1 x2 S = some a → Ct l E yX2_turnDoor cX2_turnDoor 3 (some .boolean) rm_X2_turnDoor [vA (some o), vI x1, vI x2] S (some (vI a.1)) a.2 :=
  Ct_of (val := fun (b : Int32 × GS) => some (vI b.1)) (nxt := fun (b : Int32 × GS) => b.2) (by decide) (Nat.le_of_ble_eq_true rfl) (fun Γ hl hO => w_X2_turnDoor hO o x1 x2 S)
theorem d_X2_hasLady_0 : gD cX2_hasLady 0 (.iload_n 1) 1 1 := ⟨by decide +kernel, rfl⟩
theorem d_X2_hasLady_1 : gD cX2_hasLady 1 (.ifCond .lt 27) 3 4 ∧ ((1 : Nat) : Int) + 27 = ((28 : Nat) : Int) := ⟨⟨by decide +kernel, rfl⟩, by decide⟩
theorem d_X2_hasLady_4 : gD cX2_hasLady 4 (.iload_n 1) 1 5 := ⟨by decide +kernel, rfl⟩
theorem d_X2_hasLady_5 : gD cX2_hasLady 5 (.bipush 8) 2 7 := ⟨by decide +kernel, rfl⟩
theorem d_X2_hasLady_7 : gD cX2_hasLady 7 (.if_icmp .ge 21) 3 10 ∧ ((7 : Nat) : Int) + 21 = ((28 : Nat) : Int) := ⟨⟨by decide +kernel, rfl⟩, by decide⟩
theorem d_X2_hasLady_10 : gD cX2_hasLady 10 (.iload_n 1) 1 11 := ⟨by decide +kernel, rfl⟩
theorem d_X2_hasLady_11 : gD cX2_hasLady 11 (.aload_n 0) 1 12 := ⟨by decide +kernel, rfl⟩
theorem d_X2_hasLady_12 : gD cX2_hasLady 12 (.getfield 40) 3 15 := ⟨by decide +kernel, rfl⟩
theorem d_X2_hasLady_15 : gD cX2_hasLady 15 (.getfield 70) 3 18 := ⟨by decide +kernel, rfl⟩
theorem d_X2_hasLady_18 : gD cX2_hasLady 18 (.getfield 80) 3 21 := ⟨by decide +kernel, rfl⟩
theorem d_X2_hasLady_21 : gD cX2_hasLady 21 (.if_icmp .ge 7) 3 24 ∧ ((21 : Nat) : Int) + 7 = ((28 : Nat) : Int) := ⟨⟨by decide +kernel, rfl⟩, by decide⟩
theorem d_X2_hasLady_24 : gD cX2_hasLady 24 (.iconst 1) 1 25 := ⟨by decide +kernel, rfl⟩
theorem d_X2_hasLady_25 : decode cX2_hasLady 25 = .ok (.goto 4, 3) ∧ ((25 : Nat) : Int) + 4 = ((29 : Nat) : Int) := ⟨by decide +kernel, by decide⟩
theorem d_X2_hasLady_28 : gD cX2_hasLady 28 (.iconst 0) 1 29 := ⟨by decide +kernel, rfl⟩
theorem d_X2_hasLady_29 : gD cX2_hasLady 29 (.ireturn) 1 30 := ⟨by decide +kernel, rfl⟩
abbrev rm_X2_hasLady : Room := { frames := 0, cells := 0, slots := 0, locals := 0 }
set_option maxRecDepth 20000 in
theorem w_X2_hasLady {Γ : GC} {E : GE} (hO : gOk Γ E cX2_hasLady RX2 2 rm_X2_hasLady (some .boolean) "hasLady") (o : Nat) (x1 : Int32) (S : GS) : Go Γ E (gBpI Γ E S) 2 (0, 0) 0 S [(0, vA (some o)), (1, vI x1)] [] (f_X2_hasLady o x1 S) := by
  unfold f_X2_hasLady
  refine g_iload_n hO d_X2_hasLady_0 (by rfl) 1 rfl ?_
  refine g_if_lt (tgt := 28) hO d_X2_hasLady_1.1 d_X2_hasLady_1.2 (fun _ => ?_) (fun _ => ?_)
  · skip
    refine g_iconst hO 0 d_X2_hasLady_28 (by decide) ?_
    exact g_ret hO rfl rfl ⟨Nat.le_of_ble_eq_true rfl, Nat.le_of_ble_eq_true rfl⟩ rfl rfl d_X2_hasLady_29.1
  · skip
    refine g_iload_n hO d_X2_hasLady_4 (by rfl) 1 rfl ?_
    refine g_bipush hO 8 d_X2_hasLady_5 (by decide) ?_
    refine g_ic_ge (tgt := 28) hO d_X2_hasLady_7.1 d_X2_hasLady_7.2 (fun _ => ?_) (fun _ => ?_)
    · skip
      refine g_iconst hO 0 d_X2_hasLady_28 (by decide) ?_
      exact g_ret hO rfl rfl ⟨Nat.le_of_ble_eq_true rfl, Nat.le_of_ble_eq_true rfl⟩ rfl rfl d_X2_hasLady_29.1
    · skip
      refine g_iload_n hO d_X2_hasLady_10 (by rfl) 1 rfl ?_
      refine g_aload_n hO d_X2_hasLady_11 (by rfl) 0 rfl ?_
      refine h_getR hO cl_X2 8 rfl wf_X2_40 d_X2_hasLady_12 (fun v1 => ?_)
      refine h_getR hO cl_X0 1 rfl wf_X2_70 d_X2_hasLady_15 (fun v2 => ?_)
      refine h_getI hO cl_X7 3 rfl wf_X2_80 d_X2_hasLady_18 (fun v3 => ?_)
      refine g_ic_ge (tgt := 28) hO d_X2_hasLady_21.1 d_X2_hasLady_21.2 (fun _ => ?_) (fun _ => ?_)
      · skip
        refine g_iconst hO 0 d_X2_hasLady_28 (by decide) ?_
        exact g_ret hO rfl rfl ⟨Nat.le_of_ble_eq_true rfl, Nat.le_of_ble_eq_true rfl⟩ rfl rfl d_X2_hasLady_29.1
      · skip
        refine g_iconst hO 1 d_X2_hasLady_24 (by decide) ?_
        refine g_goto (tgt := 29) hO d_X2_hasLady_25.1 d_X2_hasLady_25.2 ?_
        exact g_ret hO rfl rfl ⟨Nat.le_of_ble_eq_true rfl, Nat.le_of_ble_eq_true rfl⟩ rfl rfl d_X2_hasLady_29.1
theorem t_X2_hasLady (l : Launch) (E : GE) (o : Nat) (x1 : Int32) (S : GS) : ∀ a, f_X2_hasLady o x1 S = some a → Ct l E yX2_hasLady cX2_hasLady 2 (some .boolean) rm_X2_hasLady [vA (some o), vI x1] S (some (vI a)) S :=
  Ct_of (val := fun b => some (vI b)) (nxt := fun _ => S) (by decide) (Nat.le_of_ble_eq_true rfl) (fun Γ hl hO => w_X2_hasLady hO o x1 S)
theorem d_X2_isUp_0 : gD cX2_isUp 0 (.iload_n 1) 1 1 := ⟨by decide +kernel, rfl⟩
theorem d_X2_isUp_1 : gD cX2_isUp 1 (.ifCond .lt 31) 3 4 ∧ ((1 : Nat) : Int) + 31 = ((32 : Nat) : Int) := ⟨⟨by decide +kernel, rfl⟩, by decide⟩
theorem d_X2_isUp_4 : gD cX2_isUp 4 (.iload_n 1) 1 5 := ⟨by decide +kernel, rfl⟩
theorem d_X2_isUp_5 : gD cX2_isUp 5 (.bipush 8) 2 7 := ⟨by decide +kernel, rfl⟩
theorem d_X2_isUp_7 : gD cX2_isUp 7 (.if_icmp .ge 25) 3 10 ∧ ((7 : Nat) : Int) + 25 = ((32 : Nat) : Int) := ⟨⟨by decide +kernel, rfl⟩, by decide⟩
theorem d_X2_isUp_10 : gD cX2_isUp 10 (.aload_n 0) 1 11 := ⟨by decide +kernel, rfl⟩
theorem d_X2_isUp_11 : gD cX2_isUp 11 (.getfield 28) 3 14 := ⟨by decide +kernel, rfl⟩
theorem d_X2_isUp_14 : gD cX2_isUp 14 (.iload_n 1) 1 15 := ⟨by decide +kernel, rfl⟩
theorem d_X2_isUp_15 : gD cX2_isUp 15 (.baload) 1 16 := ⟨by decide +kernel, rfl⟩
theorem d_X2_isUp_16 : gD cX2_isUp 16 (.ifCond .ne 16) 3 19 ∧ ((16 : Nat) : Int) + 16 = ((32 : Nat) : Int) := ⟨⟨by decide +kernel, rfl⟩, by decide⟩
theorem d_X2_isUp_19 : gD cX2_isUp 19 (.aload_n 0) 1 20 := ⟨by decide +kernel, rfl⟩
theorem d_X2_isUp_20 : gD cX2_isUp 20 (.getfield 25) 3 23 := ⟨by decide +kernel, rfl⟩
theorem d_X2_isUp_23 : gD cX2_isUp 23 (.iload_n 1) 1 24 := ⟨by decide +kernel, rfl⟩
theorem d_X2_isUp_24 : gD cX2_isUp 24 (.iaload) 1 25 := ⟨by decide +kernel, rfl⟩
theorem d_X2_isUp_25 : gD cX2_isUp 25 (.ifCond .ne 7) 3 28 ∧ ((25 : Nat) : Int) + 7 = ((32 : Nat) : Int) := ⟨⟨by decide +kernel, rfl⟩, by decide⟩
theorem d_X2_isUp_28 : gD cX2_isUp 28 (.iconst 1) 1 29 := ⟨by decide +kernel, rfl⟩
theorem d_X2_isUp_29 : decode cX2_isUp 29 = .ok (.goto 4, 3) ∧ ((29 : Nat) : Int) + 4 = ((33 : Nat) : Int) := ⟨by decide +kernel, by decide⟩
theorem d_X2_isUp_32 : gD cX2_isUp 32 (.iconst 0) 1 33 := ⟨by decide +kernel, rfl⟩
theorem d_X2_isUp_33 : gD cX2_isUp 33 (.ireturn) 1 34 := ⟨by decide +kernel, rfl⟩
abbrev rm_X2_isUp : Room := { frames := 0, cells := 0, slots := 0, locals := 0 }
set_option maxRecDepth 20000 in
theorem w_X2_isUp {Γ : GC} {E : GE} (hO : gOk Γ E cX2_isUp RX2 2 rm_X2_isUp (some .boolean) "isUp") (o : Nat) (x1 : Int32) (S : GS) : Go Γ E (gBpI Γ E S) 2 (0, 0) 0 S [(0, vA (some o)), (1, vI x1)] [] (f_X2_isUp o x1 S) := by
  unfold f_X2_isUp
  refine g_iload_n hO d_X2_isUp_0 (by rfl) 1 rfl ?_
  refine g_if_lt (tgt := 32) hO d_X2_isUp_1.1 d_X2_isUp_1.2 (fun _ => ?_) (fun _ => ?_)
  · skip
    refine g_iconst hO 0 d_X2_isUp_32 (by decide) ?_
    exact g_ret hO rfl rfl ⟨Nat.le_of_ble_eq_true rfl, Nat.le_of_ble_eq_true rfl⟩ rfl rfl d_X2_isUp_33.1
  · skip
    refine g_iload_n hO d_X2_isUp_4 (by rfl) 1 rfl ?_
    refine g_bipush hO 8 d_X2_isUp_5 (by decide) ?_
    refine g_ic_ge (tgt := 32) hO d_X2_isUp_7.1 d_X2_isUp_7.2 (fun _ => ?_) (fun _ => ?_)
    · skip
      refine g_iconst hO 0 d_X2_isUp_32 (by decide) ?_
      exact g_ret hO rfl rfl ⟨Nat.le_of_ble_eq_true rfl, Nat.le_of_ble_eq_true rfl⟩ rfl rfl d_X2_isUp_33.1
    · skip
      refine g_aload_n hO d_X2_isUp_10 (by rfl) 0 rfl ?_
      refine h_getR hO cl_X2 5 rfl wf_X2_28 d_X2_isUp_11 (fun v1 => ?_)
      refine g_iload_n hO d_X2_isUp_14 (by rfl) 1 rfl ?_
      refine h_zald hO d_X2_isUp_15 (fun v2 => ?_)
      refine g_if_ne (tgt := 32) hO d_X2_isUp_16.1 d_X2_isUp_16.2 (fun _ => ?_) (fun _ => ?_)
      · skip
        refine g_aload_n hO d_X2_isUp_19 (by rfl) 0 rfl ?_
        refine h_getR hO cl_X2 4 rfl wf_X2_25 d_X2_isUp_20 (fun v3 => ?_)
        refine g_iload_n hO d_X2_isUp_23 (by rfl) 1 rfl ?_
        refine h_iald hO d_X2_isUp_24 (fun v4 => ?_)
        refine g_if_ne (tgt := 32) hO d_X2_isUp_25.1 d_X2_isUp_25.2 (fun _ => ?_) (fun _ => ?_)
        · skip
          refine g_iconst hO 1 d_X2_isUp_28 (by decide) ?_
          refine g_goto (tgt := 33) hO d_X2_isUp_29.1 d_X2_isUp_29.2 ?_
          exact g_ret hO rfl rfl ⟨Nat.le_of_ble_eq_true rfl, Nat.le_of_ble_eq_true rfl⟩ rfl rfl d_X2_isUp_33.1
        · skip
          refine g_iconst hO 0 d_X2_isUp_32 (by decide) ?_
          exact g_ret hO rfl rfl ⟨Nat.le_of_ble_eq_true rfl, Nat.le_of_ble_eq_true rfl⟩ rfl rfl d_X2_isUp_33.1
      · skip
        refine g_iconst hO 0 d_X2_isUp_32 (by decide) ?_
        exact g_ret hO rfl rfl ⟨Nat.le_of_ble_eq_true rfl, Nat.le_of_ble_eq_true rfl⟩ rfl rfl d_X2_isUp_33.1
theorem t_X2_isUp (l : Launch) (E : GE) (o : Nat) (x1 : Int32) (S : GS) : ∀ a, f_X2_isUp o x1 S = some a → Ct l E yX2_isUp cX2_isUp 2 (some .boolean) rm_X2_isUp [vA (some o), vI x1] S (some (vI a)) S :=
  Ct_of (val := fun b => some (vI b)) (nxt := fun _ => S) (by decide) (Nat.le_of_ble_eq_true rfl) (fun Γ hl hO => w_X2_isUp hO o x1 S)
theorem d_X2_sighs_0 : gD cX2_sighs 0 (.aload_n 0) 1 1 := ⟨by decide +kernel, rfl⟩
theorem d_X2_sighs_1 : gD cX2_sighs 1 (.iload_n 1) 1 2 := ⟨by decide +kernel, rfl⟩
theorem d_X2_sighs_2 : gD cX2_sighs 2 (.invokevirtual 127) 3 5 := ⟨by decide +kernel, rfl⟩
theorem d_X2_sighs_5 : gD cX2_sighs 5 (.ifCond .eq 11) 3 8 ∧ ((5 : Nat) : Int) + 11 = ((16 : Nat) : Int) := ⟨⟨by decide +kernel, rfl⟩, by decide⟩
theorem d_X2_sighs_8 : gD cX2_sighs 8 (.aload_n 0) 1 9 := ⟨by decide +kernel, rfl⟩
theorem d_X2_sighs_9 : gD cX2_sighs 9 (.iload_n 1) 1 10 := ⟨by decide +kernel, rfl⟩
theorem d_X2_sighs_10 : gD cX2_sighs 10 (.invokevirtual 130) 3 13 := ⟨by decide +kernel, rfl⟩
theorem d_X2_sighs_13 : gD cX2_sighs 13 (.ifCond .ne 5) 3 16 ∧ ((13 : Nat) : Int) + 5 = ((18 : Nat) : Int) := ⟨⟨by decide +kernel, rfl⟩, by decide⟩
theorem d_X2_sighs_16 : gD cX2_sighs 16 (.iconst 0) 1 17 := ⟨by decide +kernel, rfl⟩
theorem d_X2_sighs_17 : gD cX2_sighs 17 (.ireturn) 1 18 := ⟨by decide +kernel, rfl⟩
theorem d_X2_sighs_18 : gD cX2_sighs 18 (.aload_n 0) 1 19 := ⟨by decide +kernel, rfl⟩
theorem d_X2_sighs_19 : gD cX2_sighs 19 (.getfield 19) 3 22 := ⟨by decide +kernel, rfl⟩
theorem d_X2_sighs_22 : gD cX2_sighs 22 (.iload_n 1) 1 23 := ⟨by decide +kernel, rfl⟩
theorem d_X2_sighs_23 : gD cX2_sighs 23 (.iaload) 1 24 := ⟨by decide +kernel, rfl⟩
theorem d_X2_sighs_24 : gD cX2_sighs 24 (.istore_n 2) 1 25 := ⟨by decide +kernel, rfl⟩
theorem d_X2_sighs_25 : gD cX2_sighs 25 (.aload_n 0) 1 26 := ⟨by decide +kernel, rfl⟩
theorem d_X2_sighs_26 : gD cX2_sighs 26 (.iload_n 2) 1 27 := ⟨by decide +kernel, rfl⟩
theorem d_X2_sighs_27 : gD cX2_sighs 27 (.invokevirtual 124) 3 30 := ⟨by decide +kernel, rfl⟩
theorem d_X2_sighs_30 : gD cX2_sighs 30 (.ifCond .eq 47) 3 33 ∧ ((30 : Nat) : Int) + 47 = ((77 : Nat) : Int) := ⟨⟨by decide +kernel, rfl⟩, by decide⟩
theorem d_X2_sighs_33 : gD cX2_sighs 33 (.aload_n 0) 1 34 := ⟨by decide +kernel, rfl⟩
theorem d_X2_sighs_34 : gD cX2_sighs 34 (.getfield 15) 3 37 := ⟨by decide +kernel, rfl⟩
theorem d_X2_sighs_37 : gD cX2_sighs 37 (.iload_n 2) 1 38 := ⟨by decide +kernel, rfl⟩
theorem d_X2_sighs_38 : gD cX2_sighs 38 (.baload) 1 39 := ⟨by decide +kernel, rfl⟩
theorem d_X2_sighs_39 : gD cX2_sighs 39 (.ifCond .eq 38) 3 42 ∧ ((39 : Nat) : Int) + 38 = ((77 : Nat) : Int) := ⟨⟨by decide +kernel, rfl⟩, by decide⟩
theorem d_X2_sighs_42 : gD cX2_sighs 42 (.aload_n 0) 1 43 := ⟨by decide +kernel, rfl⟩
theorem d_X2_sighs_43 : gD cX2_sighs 43 (.getfield 40) 3 46 := ⟨by decide +kernel, rfl⟩
theorem d_X2_sighs_46 : gD cX2_sighs 46 (.getfield 121) 3 49 := ⟨by decide +kernel, rfl⟩
theorem d_X2_sighs_49 : gD cX2_sighs 49 (.iload_n 2) 1 50 := ⟨by decide +kernel, rfl⟩
theorem d_X2_sighs_50 : gD cX2_sighs 50 (.iconst 0) 1 51 := ⟨by decide +kernel, rfl⟩
theorem d_X2_sighs_51 : gD cX2_sighs 51 (.invokevirtual 74) 3 54 := ⟨by decide +kernel, rfl⟩
theorem d_X2_sighs_54 : gD cX2_sighs 54 (.iconst 3) 1 55 := ⟨by decide +kernel, rfl⟩
theorem d_X2_sighs_55 : gD cX2_sighs 55 (.if_icmp .gt 22) 3 58 ∧ ((55 : Nat) : Int) + 22 = ((77 : Nat) : Int) := ⟨⟨by decide +kernel, rfl⟩, by decide⟩
theorem d_X2_sighs_58 : gD cX2_sighs 58 (.aload_n 0) 1 59 := ⟨by decide +kernel, rfl⟩
theorem d_X2_sighs_59 : gD cX2_sighs 59 (.getfield 9) 3 62 := ⟨by decide +kernel, rfl⟩
theorem d_X2_sighs_62 : gD cX2_sighs 62 (.iload_n 2) 1 63 := ⟨by decide +kernel, rfl⟩
theorem d_X2_sighs_63 : gD cX2_sighs 63 (.bipush 40) 2 65 := ⟨by decide +kernel, rfl⟩
theorem d_X2_sighs_65 : gD cX2_sighs 65 (.aload_n 0) 1 66 := ⟨by decide +kernel, rfl⟩
theorem d_X2_sighs_66 : gD cX2_sighs 66 (.getfield 9) 3 69 := ⟨by decide +kernel, rfl⟩
theorem d_X2_sighs_69 : gD cX2_sighs 69 (.iload_n 2) 1 70 := ⟨by decide +kernel, rfl⟩
theorem d_X2_sighs_70 : gD cX2_sighs 70 (.iaload) 1 71 := ⟨by decide +kernel, rfl⟩
theorem d_X2_sighs_71 : gD cX2_sighs 71 (.iconst 1) 1 72 := ⟨by decide +kernel, rfl⟩
theorem d_X2_sighs_72 : gD cX2_sighs 72 (.iadd) 1 73 := ⟨by decide +kernel, rfl⟩
theorem d_X2_sighs_73 : gD cX2_sighs 73 (.invokestatic 133) 3 76 := ⟨by decide +kernel, rfl⟩
theorem d_X2_sighs_76 : gD cX2_sighs 76 (.iastore) 1 77 := ⟨by decide +kernel, rfl⟩
theorem d_X2_sighs_77 : gD cX2_sighs 77 (.iconst 1) 1 78 := ⟨by decide +kernel, rfl⟩
theorem d_X2_sighs_78 : gD cX2_sighs 78 (.ireturn) 1 79 := ⟨by decide +kernel, rfl⟩
abbrev rm_X2_sighs : Room := { frames := 1, cells := 0, slots := 0, locals := 22 }
set_option maxRecDepth 20000 in
theorem w_X2_sighs {Γ : GC} {E : GE} (hO : gOk Γ E cX2_sighs RX2 3 rm_X2_sighs (some .boolean) "sighs") (o : Nat) (x1 : Int32) (S : GS) : Go Γ E (gBsI Γ E) 3 (0, 0) 0 S [(0, vA (some o)), (1, vI x1)] [] (f_X2_sighs o x1 S) := by
  unfold f_X2_sighs
  refine g_aload_n hO d_X2_sighs_0 (by rfl) 0 rfl ?_
  refine g_iload_n hO d_X2_sighs_1 (by rfl) 1 rfl ?_
  refine k_virtIp hO cl_X2 mm_X2_hasLady lkV_X2_127 ⟨⟨Nat.le_of_ble_eq_true rfl, Nat.le_of_ble_eq_true rfl⟩, Nat.le_of_ble_eq_true rfl, Nat.le_of_ble_eq_true rfl⟩ (kn' := (0, 0)) rfl (As := [vI x1]) rfl (Nat.le_of_ble_eq_true rfl) (fun o' _ => t_X2_hasLady Γ.2.1 E o' x1 S) d_X2_sighs_2 rfl (fun v1 => ?_)
  refine g_if_eq (tgt := 16) hO d_X2_sighs_5.1 d_X2_sighs_5.2 (fun _ => ?_) (fun _ => ?_)
  · skip
    refine g_iconst hO 0 d_X2_sighs_16 (by decide) ?_
    exact g_ret hO rfl rfl ⟨Nat.le_of_ble_eq_true rfl, Nat.le_of_ble_eq_true rfl⟩ rfl rfl d_X2_sighs_17.1
  · skip
    refine g_aload_n hO d_X2_sighs_8 (by rfl) 0 rfl ?_
    refine g_iload_n hO d_X2_sighs_9 (by rfl) 1 rfl ?_
    refine k_virtIp hO cl_X2 mm_X2_isUp lkV_X2_130 ⟨⟨Nat.le_of_ble_eq_true rfl, Nat.le_of_ble_eq_true rfl⟩, Nat.le_of_ble_eq_true rfl, Nat.le_of_ble_eq_true rfl⟩ (kn' := (0, 0)) rfl (As := [vI x1]) rfl (Nat.le_of_ble_eq_true rfl) (fun o' _ => t_X2_isUp Γ.2.1 E o' x1 S) d_X2_sighs_10 rfl (fun v3 => ?_)
    refine g_if_ne (tgt := 18) hO d_X2_sighs_13.1 d_X2_sighs_13.2 (fun _ => ?_) (fun _ => ?_)
    · skip
      refine g_iconst hO 0 d_X2_sighs_16 (by decide) ?_
      exact g_ret hO rfl rfl ⟨Nat.le_of_ble_eq_true rfl, Nat.le_of_ble_eq_true rfl⟩ rfl rfl d_X2_sighs_17.1
    · skip
      refine g_aload_n hO d_X2_sighs_18 (by rfl) 0 rfl ?_
      refine h_getR hO cl_X2 2 rfl wf_X2_19 d_X2_sighs_19 (fun v5 => ?_)
      refine g_iload_n hO d_X2_sighs_22 (by rfl) 1 rfl ?_
      refine h_iald hO d_X2_sighs_23 (fun v6 => ?_)
      refine g_istore_n (lv' := [(2, vI v6), (0, vA (some o)), (1, vI x1)]) hO d_X2_sighs_24 (by rfl) (by decide) rfl ?_
      refine g_aload_n hO d_X2_sighs_25 (by rfl) 1 rfl ?_
      refine g_iload_n hO d_X2_sighs_26 (by rfl) 0 rfl ?_
      refine k_virtIp hO cl_X2 mm_X2_hasRoom lkV_X2_124 ⟨⟨Nat.le_of_ble_eq_true rfl, Nat.le_of_ble_eq_true rfl⟩, Nat.le_of_ble_eq_true rfl, Nat.le_of_ble_eq_true rfl⟩ (kn' := (0, 0)) rfl (As := [vI v6]) rfl (Nat.le_of_ble_eq_true rfl) (fun o' _ => t_X2_hasRoom Γ.2.1 E o' v6 S) d_X2_sighs_27 rfl (fun v7 => ?_)
      refine g_if_eq (tgt := 77) hO d_X2_sighs_30.1 d_X2_sighs_30.2 (fun _ => ?_) (fun _ => ?_)
      · skip
        refine g_iconst hO 1 d_X2_sighs_77 (by decide) ?_
        exact g_ret hO rfl rfl ⟨Nat.le_of_ble_eq_true rfl, Nat.le_of_ble_eq_true rfl⟩ rfl rfl d_X2_sighs_78.1
      · skip
        refine g_aload_n hO d_X2_sighs_33 (by rfl) 1 rfl ?_
        refine h_getR hO cl_X2 1 rfl wf_X2_15 d_X2_sighs_34 (fun v9 => ?_)
        refine g_iload_n hO d_X2_sighs_37 (by rfl) 0 rfl ?_
        refine h_zald hO d_X2_sighs_38 (fun v10 => ?_)
        refine g_if_eq (tgt := 77) hO d_X2_sighs_39.1 d_X2_sighs_39.2 (fun _ => ?_) (fun _ => ?_)
        · skip
          refine g_iconst hO 1 d_X2_sighs_77 (by decide) ?_
          exact g_ret hO rfl rfl ⟨Nat.le_of_ble_eq_true rfl, Nat.le_of_ble_eq_true rfl⟩ rfl rfl d_X2_sighs_78.1
        · skip
          refine g_aload_n hO d_X2_sighs_42 (by rfl) 1 rfl ?_
          refine h_getR hO cl_X2 8 rfl wf_X2_40 d_X2_sighs_43 (fun v11 => ?_)
          refine h_getR hO cl_X0 0 rfl wf_X2_121 d_X2_sighs_46 (fun v12 => ?_)
          refine g_iload_n hO d_X2_sighs_49 (by rfl) 0 rfl ?_
          refine g_iconst hO 0 d_X2_sighs_50 (by decide) ?_
          refine k_virtIp hO cl_X7 mm_X7_cell lkV_X2_74 ⟨⟨Nat.le_of_ble_eq_true rfl, Nat.le_of_ble_eq_true rfl⟩, Nat.le_of_ble_eq_true rfl, Nat.le_of_ble_eq_true rfl⟩ (kn' := (0, 0)) rfl (As := [vI v6, vI 0]) rfl (Nat.le_of_ble_eq_true rfl) (fun o' _ => t_X7_cell Γ.2.1 E o' v6 0 S) d_X2_sighs_51 rfl (fun v13 => ?_)
          refine g_iconst hO 3 d_X2_sighs_54 (by decide) ?_
          refine g_ic_gt (tgt := 77) hO d_X2_sighs_55.1 d_X2_sighs_55.2 (fun _ => ?_) (fun _ => ?_)
          · skip
            refine g_iconst hO 1 d_X2_sighs_77 (by decide) ?_
            exact g_ret hO rfl rfl ⟨Nat.le_of_ble_eq_true rfl, Nat.le_of_ble_eq_true rfl⟩ rfl rfl d_X2_sighs_78.1
          · skip
            refine g_aload_n hO d_X2_sighs_58 (by rfl) 1 rfl ?_
            refine h_getR hO cl_X2 0 rfl wf_X2_9 d_X2_sighs_59 (fun v15 => ?_)
            refine g_iload_n hO d_X2_sighs_62 (by rfl) 0 rfl ?_
            refine g_bipush hO 40 d_X2_sighs_63 (by decide) ?_
            refine g_aload_n hO d_X2_sighs_65 (by rfl) 1 rfl ?_
            refine h_getR hO cl_X2 0 rfl wf_X2_9 d_X2_sighs_66 (fun v16 => ?_)
            refine g_iload_n hO d_X2_sighs_69 (by rfl) 0 rfl ?_
            refine h_iald hO d_X2_sighs_70 (fun v17 => ?_)
            refine g_iconst hO 1 d_X2_sighs_71 (by decide) ?_
            refine g_iadd hO d_X2_sighs_72 ?_
            refine g_mmin hO wm_X2_133 wt_min wi_Math wc_min ⟨by decide, Nat.le_of_ble_eq_true rfl, Nat.zero_le _, Nat.zero_le _⟩ d_X2_sighs_73 ?_
            refine h_iast hO d_X2_sighs_76 (fun S18 => ?_)
            refine g_iconst hO 1 d_X2_sighs_77 (by decide) ?_
            exact g_ret hO rfl rfl ⟨Nat.le_of_ble_eq_true rfl, Nat.le_of_ble_eq_true rfl⟩ rfl rfl d_X2_sighs_78.1
theorem t_X2_sighs (l : Launch) (E : GE) (o : Nat) (x1 : Int32) (S : GS) : ∀ a, f_X2_sighs o x1 S = some a → Ct l E yX2_sighs cX2_sighs 3 (some .boolean) rm_X2_sighs [vA (some o), vI x1] S (some (vI a.1)) a.2 :=
  Ct_of (val := fun (b : Int32 × GS) => some (vI b.1)) (nxt := fun (b : Int32 × GS) => b.2) (by decide) (Nat.le_of_ble_eq_true rfl) (fun Γ hl hO => w_X2_sighs hO o x1 S)
theorem d_X11_isLace_0 : gD cX11_isLace 0 (.iload_n 0) 1 1 := ⟨by decide +kernel, rfl⟩
theorem d_X11_isLace_1 : gD cX11_isLace 1 (.ifCond .lt 13) 3 4 ∧ ((1 : Nat) : Int) + 13 = ((14 : Nat) : Int) := ⟨⟨by decide +kernel, rfl⟩, by decide⟩
theorem d_X11_isLace_4 : gD cX11_isLace 4 (.iload_n 0) 1 5 := ⟨by decide +kernel, rfl⟩
theorem d_X11_isLace_5 : gD cX11_isLace 5 (.bipush 30) 2 7 := ⟨by decide +kernel, rfl⟩
theorem d_X11_isLace_7 : gD cX11_isLace 7 (.if_icmp .gt 7) 3 10 ∧ ((7 : Nat) : Int) + 7 = ((14 : Nat) : Int) := ⟨⟨by decide +kernel, rfl⟩, by decide⟩
theorem d_X11_isLace_10 : gD cX11_isLace 10 (.iconst 1) 1 11 := ⟨by decide +kernel, rfl⟩
theorem d_X11_isLace_11 : decode cX11_isLace 11 = .ok (.goto 4, 3) ∧ ((11 : Nat) : Int) + 4 = ((15 : Nat) : Int) := ⟨by decide +kernel, by decide⟩
theorem d_X11_isLace_14 : gD cX11_isLace 14 (.iconst 0) 1 15 := ⟨by decide +kernel, rfl⟩
theorem d_X11_isLace_15 : gD cX11_isLace 15 (.ireturn) 1 16 := ⟨by decide +kernel, rfl⟩
abbrev rm_X11_isLace : Room := { frames := 0, cells := 0, slots := 0, locals := 0 }
set_option maxRecDepth 20000 in
theorem w_X11_isLace {Γ : GC} {E : GE} (hO : gOk Γ E cX11_isLace RX11 1 rm_X11_isLace (some .boolean) "isLace") (x0 : Int32) (S : GS) : Go Γ E (gBpI Γ E S) 1 (0, 0) 0 S [(0, vI x0)] [] (f_X11_isLace x0 S) := by
  unfold f_X11_isLace
  refine g_iload_n hO d_X11_isLace_0 (by rfl) 0 rfl ?_
  refine g_if_lt (tgt := 14) hO d_X11_isLace_1.1 d_X11_isLace_1.2 (fun _ => ?_) (fun _ => ?_)
  · skip
    refine g_iconst hO 0 d_X11_isLace_14 (by decide) ?_
    exact g_ret hO rfl rfl ⟨Nat.le_of_ble_eq_true rfl, Nat.le_of_ble_eq_true rfl⟩ rfl rfl d_X11_isLace_15.1
  · skip
    refine g_iload_n hO d_X11_isLace_4 (by rfl) 0 rfl ?_
    refine g_bipush hO 30 d_X11_isLace_5 (by decide) ?_
    refine g_ic_gt (tgt := 14) hO d_X11_isLace_7.1 d_X11_isLace_7.2 (fun _ => ?_) (fun _ => ?_)
    · skip
      refine g_iconst hO 0 d_X11_isLace_14 (by decide) ?_
      exact g_ret hO rfl rfl ⟨Nat.le_of_ble_eq_true rfl, Nat.le_of_ble_eq_true rfl⟩ rfl rfl d_X11_isLace_15.1
    · skip
      refine g_iconst hO 1 d_X11_isLace_10 (by decide) ?_
      refine g_goto (tgt := 15) hO d_X11_isLace_11.1 d_X11_isLace_11.2 ?_
      exact g_ret hO rfl rfl ⟨Nat.le_of_ble_eq_true rfl, Nat.le_of_ble_eq_true rfl⟩ rfl rfl d_X11_isLace_15.1
theorem t_X11_isLace (l : Launch) (E : GE) (x0 : Int32) (S : GS) : ∀ a, f_X11_isLace x0 S = some a → Ct l E yX11_isLace cX11_isLace 1 (some .boolean) rm_X11_isLace [vI x0] S (some (vI a)) S :=
  Ct_of (val := fun b => some (vI b)) (nxt := fun _ => S) (by decide) (Nat.le_of_ble_eq_true rfl) (fun Γ hl hO => w_X11_isLace hO x0 S)
theorem d_X2_knot_0 : gD cX2_knot 0 (.aload_n 0) 1 1 := ⟨by decide +kernel, rfl⟩
theorem d_X2_knot_1 : gD cX2_knot 1 (.iload_n 1) 1 2 := ⟨by decide +kernel, rfl⟩
theorem d_X2_knot_2 : gD cX2_knot 2 (.invokevirtual 127) 3 5 := ⟨by decide +kernel, rfl⟩
theorem d_X2_knot_5 : gD cX2_knot 5 (.ifCond .eq 26) 3 8 ∧ ((5 : Nat) : Int) + 26 = ((31 : Nat) : Int) := ⟨⟨by decide +kernel, rfl⟩, by decide⟩
theorem d_X2_knot_8 : gD cX2_knot 8 (.aload_n 0) 1 9 := ⟨by decide +kernel, rfl⟩
theorem d_X2_knot_9 : gD cX2_knot 9 (.getfield 28) 3 12 := ⟨by decide +kernel, rfl⟩
theorem d_X2_knot_12 : gD cX2_knot 12 (.iload_n 1) 1 13 := ⟨by decide +kernel, rfl⟩
theorem d_X2_knot_13 : gD cX2_knot 13 (.baload) 1 14 := ⟨by decide +kernel, rfl⟩
theorem d_X2_knot_14 : gD cX2_knot 14 (.ifCond .ne 17) 3 17 ∧ ((14 : Nat) : Int) + 17 = ((31 : Nat) : Int) := ⟨⟨by decide +kernel, rfl⟩, by decide⟩
theorem d_X2_knot_17 : gD cX2_knot 17 (.aload_n 0) 1 18 := ⟨by decide +kernel, rfl⟩
theorem d_X2_knot_18 : gD cX2_knot 18 (.getfield 22) 3 21 := ⟨by decide +kernel, rfl⟩
theorem d_X2_knot_21 : gD cX2_knot 21 (.iload_n 1) 1 22 := ⟨by decide +kernel, rfl⟩
theorem d_X2_knot_22 : gD cX2_knot 22 (.iaload) 1 23 := ⟨by decide +kernel, rfl⟩
theorem d_X2_knot_23 : gD cX2_knot 23 (.iload_n 2) 1 24 := ⟨by decide +kernel, rfl⟩
theorem d_X2_knot_24 : gD cX2_knot 24 (.iadd) 1 25 := ⟨by decide +kernel, rfl⟩
theorem d_X2_knot_25 : gD cX2_knot 25 (.invokestatic 138) 3 28 := ⟨by decide +kernel, rfl⟩
theorem d_X2_knot_28 : gD cX2_knot 28 (.ifCond .ne 5) 3 31 ∧ ((28 : Nat) : Int) + 5 = ((33 : Nat) : Int) := ⟨⟨by decide +kernel, rfl⟩, by decide⟩
theorem d_X2_knot_31 : gD cX2_knot 31 (.iconst 0) 1 32 := ⟨by decide +kernel, rfl⟩
theorem d_X2_knot_32 : gD cX2_knot 32 (.ireturn) 1 33 := ⟨by decide +kernel, rfl⟩
theorem d_X2_knot_33 : gD cX2_knot 33 (.aload_n 0) 1 34 := ⟨by decide +kernel, rfl⟩
theorem d_X2_knot_34 : gD cX2_knot 34 (.getfield 22) 3 37 := ⟨by decide +kernel, rfl⟩
theorem d_X2_knot_37 : gD cX2_knot 37 (.iload_n 1) 1 38 := ⟨by decide +kernel, rfl⟩
theorem d_X2_knot_38 : gD cX2_knot 38 (.dup2) 1 39 := ⟨by decide +kernel, rfl⟩
theorem d_X2_knot_39 : gD cX2_knot 39 (.iaload) 1 40 := ⟨by decide +kernel, rfl⟩
theorem d_X2_knot_40 : gD cX2_knot 40 (.iload_n 2) 1 41 := ⟨by decide +kernel, rfl⟩
theorem d_X2_knot_41 : gD cX2_knot 41 (.iadd) 1 42 := ⟨by decide +kernel, rfl⟩
theorem d_X2_knot_42 : gD cX2_knot 42 (.iastore) 1 43 := ⟨by decide +kernel, rfl⟩
theorem d_X2_knot_43 : gD cX2_knot 43 (.aload_n 0) 1 44 := ⟨by decide +kernel, rfl⟩
theorem d_X2_knot_44 : gD cX2_knot 44 (.dup) 1 45 := ⟨by decide +kernel, rfl⟩
theorem d_X2_knot_45 : gD cX2_knot 45 (.getfield 52) 3 48 := ⟨by decide +kernel, rfl⟩
theorem d_X2_knot_48 : gD cX2_knot 48 (.iload_n 2) 1 49 := ⟨by decide +kernel, rfl⟩
theorem d_X2_knot_49 : gD cX2_knot 49 (.invokestatic 141) 3 52 := ⟨by decide +kernel, rfl⟩
theorem d_X2_knot_52 : gD cX2_knot 52 (.iadd) 1 53 := ⟨by decide +kernel, rfl⟩
theorem d_X2_knot_53 : gD cX2_knot 53 (.putfield 52) 3 56 := ⟨by decide +kernel, rfl⟩
theorem d_X2_knot_56 : gD cX2_knot 56 (.iconst 1) 1 57 := ⟨by decide +kernel, rfl⟩
theorem d_X2_knot_57 : gD cX2_knot 57 (.ireturn) 1 58 := ⟨by decide +kernel, rfl⟩
abbrev rm_X2_knot : Room := { frames := 1, cells := 0, slots := 0, locals := 21 }
set_option maxRecDepth 20000 in
theorem w_X2_knot {Γ : GC} {E : GE} (hO : gOk Γ E cX2_knot RX2 3 rm_X2_knot (some .boolean) "knot") (o : Nat) (x1 : Int32) (x2 : Int32) (S : GS) : Go Γ E (gBsI Γ E) 3 (0, 0) 0 S [(0, vA (some o)), (1, vI x1), (2, vI x2)] [] (f_X2_knot o x1 x2 S) := by
  unfold f_X2_knot
  refine g_aload_n hO d_X2_knot_0 (by rfl) 0 rfl ?_
  refine g_iload_n hO d_X2_knot_1 (by rfl) 1 rfl ?_
  refine k_virtIp hO cl_X2 mm_X2_hasLady lkV_X2_127 ⟨⟨Nat.le_of_ble_eq_true rfl, Nat.le_of_ble_eq_true rfl⟩, Nat.le_of_ble_eq_true rfl, Nat.le_of_ble_eq_true rfl⟩ (kn' := (0, 0)) rfl (As := [vI x1]) rfl (Nat.le_of_ble_eq_true rfl) (fun o' _ => t_X2_hasLady Γ.2.1 E o' x1 S) d_X2_knot_2 rfl (fun v1 => ?_)
  refine g_if_eq (tgt := 31) hO d_X2_knot_5.1 d_X2_knot_5.2 (fun _ => ?_) (fun _ => ?_)
  · skip
    refine g_iconst hO 0 d_X2_knot_31 (by decide) ?_
    exact g_ret hO rfl rfl ⟨Nat.le_of_ble_eq_true rfl, Nat.le_of_ble_eq_true rfl⟩ rfl rfl d_X2_knot_32.1
  · skip
    refine g_aload_n hO d_X2_knot_8 (by rfl) 0 rfl ?_
    refine h_getR hO cl_X2 5 rfl wf_X2_28 d_X2_knot_9 (fun v3 => ?_)
    refine g_iload_n hO d_X2_knot_12 (by rfl) 1 rfl ?_
    refine h_zald hO d_X2_knot_13 (fun v4 => ?_)
    refine g_if_ne (tgt := 31) hO d_X2_knot_14.1 d_X2_knot_14.2 (fun _ => ?_) (fun _ => ?_)
    · skip
      refine g_aload_n hO d_X2_knot_17 (by rfl) 0 rfl ?_
      refine h_getR hO cl_X2 3 rfl wf_X2_22 d_X2_knot_18 (fun v5 => ?_)
      refine g_iload_n hO d_X2_knot_21 (by rfl) 1 rfl ?_
      refine h_iald hO d_X2_knot_22 (fun v6 => ?_)
      refine g_iload_n hO d_X2_knot_23 (by rfl) 2 rfl ?_
      refine g_iadd hO d_X2_knot_24 ?_
      refine k_statNIp hO mm_X11_isLace lkSN_X2_138 ⟨⟨Nat.le_of_ble_eq_true rfl, Nat.le_of_ble_eq_true rfl⟩, Nat.le_of_ble_eq_true rfl, Nat.le_of_ble_eq_true rfl⟩ (kn' := (0, 0)) rfl (As := [vI (v6 + x2)]) rfl (Nat.le_of_ble_eq_true rfl) (t_X11_isLace Γ.2.1 E (v6 + x2) S) d_X2_knot_25 rfl (fun v7 => ?_)
      refine g_if_ne (tgt := 33) hO d_X2_knot_28.1 d_X2_knot_28.2 (fun _ => ?_) (fun _ => ?_)
      · skip
        refine g_iconst hO 0 d_X2_knot_31 (by decide) ?_
        exact g_ret hO rfl rfl ⟨Nat.le_of_ble_eq_true rfl, Nat.le_of_ble_eq_true rfl⟩ rfl rfl d_X2_knot_32.1
      · skip
        refine g_aload_n hO d_X2_knot_33 (by rfl) 0 rfl ?_
        refine h_getR hO cl_X2 3 rfl wf_X2_22 d_X2_knot_34 (fun v9 => ?_)
        refine g_iload_n hO d_X2_knot_37 (by rfl) 1 rfl ?_
        refine g_dup2 hO d_X2_knot_38 rfl rfl ?_
        refine h_iald hO d_X2_knot_39 (fun v10 => ?_)
        refine g_iload_n hO d_X2_knot_40 (by rfl) 2 rfl ?_
        refine g_iadd hO d_X2_knot_41 ?_
        refine h_iast hO d_X2_knot_42 (fun S11 => ?_)
        refine g_aload_n hO d_X2_knot_43 (by rfl) 0 rfl ?_
        refine g_dup hO d_X2_knot_44 rfl ?_
        refine h_getI hO cl_X2 12 rfl wf_X2_52 d_X2_knot_45 (fun v12 => ?_)
        refine g_iload_n hO d_X2_knot_48 (by rfl) 2 rfl ?_
        refine g_mabs hO wm_X2_141 wt_abs wi_Math wc_abs ⟨by decide, Nat.le_of_ble_eq_true rfl, Nat.zero_le _, Nat.zero_le _⟩ d_X2_knot_49 ?_
        refine g_iadd hO d_X2_knot_52 ?_
        refine h_putI hO cl_X2 12 rfl rfl wf_X2_52 (Or.inl rfl) d_X2_knot_53 (fun S13 => ?_)
        refine g_iconst hO 1 d_X2_knot_56 (by decide) ?_
        exact g_ret hO rfl rfl ⟨Nat.le_of_ble_eq_true rfl, Nat.le_of_ble_eq_true rfl⟩ rfl rfl d_X2_knot_57.1
    · skip
      refine g_iconst hO 0 d_X2_knot_31 (by decide) ?_
      exact g_ret hO rfl rfl ⟨Nat.le_of_ble_eq_true rfl, Nat.le_of_ble_eq_true rfl⟩ rfl rfl d_X2_knot_32.1
theorem t_X2_knot (l : Launch) (E : GE) (o : Nat) (x1 : Int32) (x2 : Int32) (S : GS) : ∀ a, f_X2_knot o x1 x2 S = some a → Ct l E yX2_knot cX2_knot 3 (some .boolean) rm_X2_knot [vA (some o), vI x1, vI x2] S (some (vI a.1)) a.2 :=
  Ct_of (val := fun (b : Int32 × GS) => some (vI b.1)) (nxt := fun (b : Int32 × GS) => b.2) (by decide) (Nat.le_of_ble_eq_true rfl) (fun Γ hl hO => w_X2_knot hO o x1 x2 S)
theorem d_X2_goTo_0 : gD cX2_goTo 0 (.aload_n 0) 1 1 := ⟨by decide +kernel, rfl⟩
theorem d_X2_goTo_1 : gD cX2_goTo 1 (.iload_n 1) 1 2 := ⟨by decide +kernel, rfl⟩
theorem d_X2_goTo_2 : gD cX2_goTo 2 (.invokevirtual 127) 3 5 := ⟨by decide +kernel, rfl⟩
theorem d_X2_goTo_5 : gD cX2_goTo 5 (.ifCond .eq 19) 3 8 ∧ ((5 : Nat) : Int) + 19 = ((24 : Nat) : Int) := ⟨⟨by decide +kernel, rfl⟩, by decide⟩
theorem d_X2_goTo_8 : gD cX2_goTo 8 (.aload_n 0) 1 9 := ⟨by decide +kernel, rfl⟩
theorem d_X2_goTo_9 : gD cX2_goTo 9 (.iload_n 2) 1 10 := ⟨by decide +kernel, rfl⟩
theorem d_X2_goTo_10 : gD cX2_goTo 10 (.invokevirtual 124) 3 13 := ⟨by decide +kernel, rfl⟩
theorem d_X2_goTo_13 : gD cX2_goTo 13 (.ifCond .eq 11) 3 16 ∧ ((13 : Nat) : Int) + 11 = ((24 : Nat) : Int) := ⟨⟨by decide +kernel, rfl⟩, by decide⟩
theorem d_X2_goTo_16 : gD cX2_goTo 16 (.aload_n 0) 1 17 := ⟨by decide +kernel, rfl⟩
theorem d_X2_goTo_17 : gD cX2_goTo 17 (.iload_n 1) 1 18 := ⟨by decide +kernel, rfl⟩
theorem d_X2_goTo_18 : gD cX2_goTo 18 (.invokevirtual 130) 3 21 := ⟨by decide +kernel, rfl⟩
theorem d_X2_goTo_21 : gD cX2_goTo 21 (.ifCond .ne 5) 3 24 ∧ ((21 : Nat) : Int) + 5 = ((26 : Nat) : Int) := ⟨⟨by decide +kernel, rfl⟩, by decide⟩
theorem d_X2_goTo_24 : gD cX2_goTo 24 (.iconst 0) 1 25 := ⟨by decide +kernel, rfl⟩
theorem d_X2_goTo_25 : gD cX2_goTo 25 (.ireturn) 1 26 := ⟨by decide +kernel, rfl⟩
theorem d_X2_goTo_26 : gD cX2_goTo 26 (.aload_n 0) 1 27 := ⟨by decide +kernel, rfl⟩
theorem d_X2_goTo_27 : gD cX2_goTo 27 (.getfield 19) 3 30 := ⟨by decide +kernel, rfl⟩
theorem d_X2_goTo_30 : gD cX2_goTo 30 (.iload_n 1) 1 31 := ⟨by decide +kernel, rfl⟩
theorem d_X2_goTo_31 : gD cX2_goTo 31 (.iload_n 2) 1 32 := ⟨by decide +kernel, rfl⟩
theorem d_X2_goTo_32 : gD cX2_goTo 32 (.iastore) 1 33 := ⟨by decide +kernel, rfl⟩
theorem d_X2_goTo_33 : gD cX2_goTo 33 (.iconst 1) 1 34 := ⟨by decide +kernel, rfl⟩
theorem d_X2_goTo_34 : gD cX2_goTo 34 (.ireturn) 1 35 := ⟨by decide +kernel, rfl⟩
abbrev rm_X2_goTo : Room := { frames := 1, cells := 0, slots := 0, locals := 21 }
set_option maxRecDepth 20000 in
theorem w_X2_goTo {Γ : GC} {E : GE} (hO : gOk Γ E cX2_goTo RX2 3 rm_X2_goTo (some .boolean) "goTo") (o : Nat) (x1 : Int32) (x2 : Int32) (S : GS) : Go Γ E (gBsI Γ E) 3 (0, 0) 0 S [(0, vA (some o)), (1, vI x1), (2, vI x2)] [] (f_X2_goTo o x1 x2 S) := by
  unfold f_X2_goTo
  refine g_aload_n hO d_X2_goTo_0 (by rfl) 0 rfl ?_
  refine g_iload_n hO d_X2_goTo_1 (by rfl) 1 rfl ?_
  refine k_virtIp hO cl_X2 mm_X2_hasLady lkV_X2_127 ⟨⟨Nat.le_of_ble_eq_true rfl, Nat.le_of_ble_eq_true rfl⟩, Nat.le_of_ble_eq_true rfl, Nat.le_of_ble_eq_true rfl⟩ (kn' := (0, 0)) rfl (As := [vI x1]) rfl (Nat.le_of_ble_eq_true rfl) (fun o' _ => t_X2_hasLady Γ.2.1 E o' x1 S) d_X2_goTo_2 rfl (fun v1 => ?_)
  refine g_if_eq (tgt := 24) hO d_X2_goTo_5.1 d_X2_goTo_5.2 (fun _ => ?_) (fun _ => ?_)
  · skip
    refine g_iconst hO 0 d_X2_goTo_24 (by decide) ?_
    exact g_ret hO rfl rfl ⟨Nat.le_of_ble_eq_true rfl, Nat.le_of_ble_eq_true rfl⟩ rfl rfl d_X2_goTo_25.1
  · skip
    refine g_aload_n hO d_X2_goTo_8 (by rfl) 0 rfl ?_
    refine g_iload_n hO d_X2_goTo_9 (by rfl) 2 rfl ?_
    refine k_virtIp hO cl_X2 mm_X2_hasRoom lkV_X2_124 ⟨⟨Nat.le_of_ble_eq_true rfl, Nat.le_of_ble_eq_true rfl⟩, Nat.le_of_ble_eq_true rfl, Nat.le_of_ble_eq_true rfl⟩ (kn' := (0, 0)) rfl (As := [vI x2]) rfl (Nat.le_of_ble_eq_true rfl) (fun o' _ => t_X2_hasRoom Γ.2.1 E o' x2 S) d_X2_goTo_10 rfl (fun v3 => ?_)
    refine g_if_eq (tgt := 24) hO d_X2_goTo_13.1 d_X2_goTo_13.2 (fun _ => ?_) (fun _ => ?_)
    · skip
      refine g_iconst hO 0 d_X2_goTo_24 (by decide) ?_
      exact g_ret hO rfl rfl ⟨Nat.le_of_ble_eq_true rfl, Nat.le_of_ble_eq_true rfl⟩ rfl rfl d_X2_goTo_25.1
    · skip
      refine g_aload_n hO d_X2_goTo_16 (by rfl) 0 rfl ?_
      refine g_iload_n hO d_X2_goTo_17 (by rfl) 1 rfl ?_
      refine k_virtIp hO cl_X2 mm_X2_isUp lkV_X2_130 ⟨⟨Nat.le_of_ble_eq_true rfl, Nat.le_of_ble_eq_true rfl⟩, Nat.le_of_ble_eq_true rfl, Nat.le_of_ble_eq_true rfl⟩ (kn' := (0, 0)) rfl (As := [vI x1]) rfl (Nat.le_of_ble_eq_true rfl) (fun o' _ => t_X2_isUp Γ.2.1 E o' x1 S) d_X2_goTo_18 rfl (fun v5 => ?_)
      refine g_if_ne (tgt := 26) hO d_X2_goTo_21.1 d_X2_goTo_21.2 (fun _ => ?_) (fun _ => ?_)
      · skip
        refine g_iconst hO 0 d_X2_goTo_24 (by decide) ?_
        exact g_ret hO rfl rfl ⟨Nat.le_of_ble_eq_true rfl, Nat.le_of_ble_eq_true rfl⟩ rfl rfl d_X2_goTo_25.1
      · skip
        refine g_aload_n hO d_X2_goTo_26 (by rfl) 0 rfl ?_
        refine h_getR hO cl_X2 2 rfl wf_X2_19 d_X2_goTo_27 (fun v7 => ?_)
        refine g_iload_n hO d_X2_goTo_30 (by rfl) 1 rfl ?_
        refine g_iload_n hO d_X2_goTo_31 (by rfl) 2 rfl ?_
        refine h_iast hO d_X2_goTo_32 (fun S8 => ?_)
        refine g_iconst hO 1 d_X2_goTo_33 (by decide) ?_
        exact g_ret hO rfl rfl ⟨Nat.le_of_ble_eq_true rfl, Nat.le_of_ble_eq_true rfl⟩ rfl rfl d_X2_goTo_34.1
theorem t_X2_goTo (l : Launch) (E : GE) (o : Nat) (x1 : Int32) (x2 : Int32) (S : GS) : ∀ a, f_X2_goTo o x1 x2 S = some a → Ct l E yX2_goTo cX2_goTo 3 (some .boolean) rm_X2_goTo [vA (some o), vI x1, vI x2] S (some (vI a.1)) a.2 :=
  Ct_of (val := fun (b : Int32 × GS) => some (vI b.1)) (nxt := fun (b : Int32 × GS) => b.2) (by decide) (Nat.le_of_ble_eq_true rfl) (fun Γ hl hO => w_X2_goTo hO o x1 x2 S)
theorem d_X2_isOne_0 : gD cX2_isOne 0 (.iload_n 1) 1 1 := ⟨by decide +kernel, rfl⟩
theorem d_X2_isOne_1 : gD cX2_isOne 1 (.ifCond .lt 13) 3 4 ∧ ((1 : Nat) : Int) + 13 = ((14 : Nat) : Int) := ⟨⟨by decide +kernel, rfl⟩, by decide⟩
theorem d_X2_isOne_4 : gD cX2_isOne 4 (.iload_n 1) 1 5 := ⟨by decide +kernel, rfl⟩
theorem d_X2_isOne_5 : gD cX2_isOne 5 (.bipush 8) 2 7 := ⟨by decide +kernel, rfl⟩
theorem d_X2_isOne_7 : gD cX2_isOne 7 (.if_icmp .ge 7) 3 10 ∧ ((7 : Nat) : Int) + 7 = ((14 : Nat) : Int) := ⟨⟨by decide +kernel, rfl⟩, by decide⟩
theorem d_X2_isOne_10 : gD cX2_isOne 10 (.iload_n 2) 1 11 := ⟨by decide +kernel, rfl⟩
theorem d_X2_isOne_11 : gD cX2_isOne 11 (.ifCond .ne 9) 3 14 ∧ ((11 : Nat) : Int) + 9 = ((20 : Nat) : Int) := ⟨⟨by decide +kernel, rfl⟩, by decide⟩
theorem d_X2_isOne_14 : gD cX2_isOne 14 (.aload_n 0) 1 15 := ⟨by decide +kernel, rfl⟩
theorem d_X2_isOne_15 : gD cX2_isOne 15 (.iload_n 1) 1 16 := ⟨by decide +kernel, rfl⟩
theorem d_X2_isOne_16 : gD cX2_isOne 16 (.invokevirtual 130) 3 19 := ⟨by decide +kernel, rfl⟩
theorem d_X2_isOne_19 : gD cX2_isOne 19 (.ireturn) 1 20 := ⟨by decide +kernel, rfl⟩
theorem d_X2_isOne_20 : gD cX2_isOne 20 (.iload_n 2) 1 21 := ⟨by decide +kernel, rfl⟩
theorem d_X2_isOne_21 : gD cX2_isOne 21 (.iconst 2) 1 22 := ⟨by decide +kernel, rfl⟩
theorem d_X2_isOne_22 : gD cX2_isOne 22 (.if_icmp .ne 12) 3 25 ∧ ((22 : Nat) : Int) + 12 = ((34 : Nat) : Int) := ⟨⟨by decide +kernel, rfl⟩, by decide⟩
theorem d_X2_isOne_25 : gD cX2_isOne 25 (.aload_n 0) 1 26 := ⟨by decide +kernel, rfl⟩
theorem d_X2_isOne_26 : gD cX2_isOne 26 (.getfield 28) 3 29 := ⟨by decide +kernel, rfl⟩
theorem d_X2_isOne_29 : gD cX2_isOne 29 (.iload_n 1) 1 30 := ⟨by decide +kernel, rfl⟩
theorem d_X2_isOne_30 : gD cX2_isOne 30 (.baload) 1 31 := ⟨by decide +kernel, rfl⟩
theorem d_X2_isOne_31 : decode cX2_isOne 31 = .ok (.goto 17, 3) ∧ ((31 : Nat) : Int) + 17 = ((48 : Nat) : Int) := ⟨by decide +kernel, by decide⟩
theorem d_X2_isOne_34 : gD cX2_isOne 34 (.aload_n 0) 1 35 := ⟨by decide +kernel, rfl⟩
theorem d_X2_isOne_35 : gD cX2_isOne 35 (.getfield 25) 3 38 := ⟨by decide +kernel, rfl⟩
theorem d_X2_isOne_38 : gD cX2_isOne 38 (.iload_n 1) 1 39 := ⟨by decide +kernel, rfl⟩
theorem d_X2_isOne_39 : gD cX2_isOne 39 (.iaload) 1 40 := ⟨by decide +kernel, rfl⟩
theorem d_X2_isOne_40 : gD cX2_isOne 40 (.ifCond .le 7) 3 43 ∧ ((40 : Nat) : Int) + 7 = ((47 : Nat) : Int) := ⟨⟨by decide +kernel, rfl⟩, by decide⟩
theorem d_X2_isOne_43 : gD cX2_isOne 43 (.iconst 1) 1 44 := ⟨by decide +kernel, rfl⟩
theorem d_X2_isOne_44 : decode cX2_isOne 44 = .ok (.goto 4, 3) ∧ ((44 : Nat) : Int) + 4 = ((48 : Nat) : Int) := ⟨by decide +kernel, by decide⟩
theorem d_X2_isOne_47 : gD cX2_isOne 47 (.iconst 0) 1 48 := ⟨by decide +kernel, rfl⟩
theorem d_X2_isOne_48 : gD cX2_isOne 48 (.ireturn) 1 49 := ⟨by decide +kernel, rfl⟩
abbrev rm_X2_isOne : Room := { frames := 1, cells := 0, slots := 0, locals := 21 }
set_option maxRecDepth 20000 in
theorem w_X2_isOne_14 {Γ : GC} {E : GE} (hO : gOk Γ E cX2_isOne RX2 3 rm_X2_isOne (some .boolean) "isOne") (o : Nat) (S : GS) (x1 : Int32) : Go Γ E (gBpI Γ E S) 3 (0, 0) 14 S [(0, vA (some o)), (1, vI x1)] [] (f_X2_isOne_14 o S x1) := by
  unfold f_X2_isOne_14
  refine g_aload_n hO d_X2_isOne_14 (by rfl) 0 rfl ?_
  refine g_iload_n hO d_X2_isOne_15 (by rfl) 1 rfl ?_
  refine k_virtIp hO cl_X2 mm_X2_isUp lkV_X2_130 ⟨⟨Nat.le_of_ble_eq_true rfl, Nat.le_of_ble_eq_true rfl⟩, Nat.le_of_ble_eq_true rfl, Nat.le_of_ble_eq_true rfl⟩ (kn' := (0, 0)) rfl (As := [vI x1]) rfl (Nat.le_of_ble_eq_true rfl) (fun o' _ => t_X2_isUp Γ.2.1 E o' x1 S) d_X2_isOne_16 rfl (fun v1 => ?_)
  exact g_zret hO rfl ⟨Nat.le_of_ble_eq_true rfl, Nat.le_of_ble_eq_true rfl⟩ rfl rfl d_X2_isOne_19.1
set_option maxRecDepth 20000 in
theorem w_X2_isOne {Γ : GC} {E : GE} (hO : gOk Γ E cX2_isOne RX2 3 rm_X2_isOne (some .boolean) "isOne") (o : Nat) (x1 : Int32) (x2 : Int32) (S : GS) : Go Γ E (gBpI Γ E S) 3 (0, 0) 0 S [(0, vA (some o)), (1, vI x1), (2, vI x2)] [] (f_X2_isOne o x1 x2 S) := by
  unfold f_X2_isOne
  refine g_iload_n hO d_X2_isOne_0 (by rfl) 1 rfl ?_
  refine g_if_lt (tgt := 14) hO d_X2_isOne_1.1 d_X2_isOne_1.2 (fun _ => ?_) (fun _ => ?_)
  · skip
    exact g_sub [0, 1] rfl (w_X2_isOne_14 hO o _ _)
  · skip
    refine g_iload_n hO d_X2_isOne_4 (by rfl) 1 rfl ?_
    refine g_bipush hO 8 d_X2_isOne_5 (by decide) ?_
    refine g_ic_ge (tgt := 14) hO d_X2_isOne_7.1 d_X2_isOne_7.2 (fun _ => ?_) (fun _ => ?_)
    · skip
      exact g_sub [0, 1] rfl (w_X2_isOne_14 hO o _ _)
    · skip
      refine g_iload_n hO d_X2_isOne_10 (by rfl) 2 rfl ?_
      refine g_if_ne (tgt := 20) hO d_X2_isOne_11.1 d_X2_isOne_11.2 (fun _ => ?_) (fun _ => ?_)
      · skip
        exact g_sub [0, 1] rfl (w_X2_isOne_14 hO o _ _)
      · skip
        refine g_iload_n hO d_X2_isOne_20 (by rfl) 2 rfl ?_
        refine g_iconst hO 2 d_X2_isOne_21 (by decide) ?_
        refine g_ic_ne (tgt := 34) hO d_X2_isOne_22.1 d_X2_isOne_22.2 (fun _ => ?_) (fun _ => ?_)
        · skip
          refine g_aload_n hO d_X2_isOne_25 (by rfl) 0 rfl ?_
          refine h_getR hO cl_X2 5 rfl wf_X2_28 d_X2_isOne_26 (fun v1 => ?_)
          refine g_iload_n hO d_X2_isOne_29 (by rfl) 1 rfl ?_
          refine h_zald hO d_X2_isOne_30 (fun v2 => ?_)
          refine g_goto (tgt := 48) hO d_X2_isOne_31.1 d_X2_isOne_31.2 ?_
          exact g_zret hO rfl ⟨Nat.le_of_ble_eq_true rfl, Nat.le_of_ble_eq_true rfl⟩ rfl rfl d_X2_isOne_48.1
        · skip
          refine g_aload_n hO d_X2_isOne_34 (by rfl) 0 rfl ?_
          refine h_getR hO cl_X2 4 rfl wf_X2_25 d_X2_isOne_35 (fun v3 => ?_)
          refine g_iload_n hO d_X2_isOne_38 (by rfl) 1 rfl ?_
          refine h_iald hO d_X2_isOne_39 (fun v4 => ?_)
          refine g_if_le (tgt := 47) hO d_X2_isOne_40.1 d_X2_isOne_40.2 (fun _ => ?_) (fun _ => ?_)
          · skip
            refine g_iconst hO 0 d_X2_isOne_47 (by decide) ?_
            exact g_ret hO rfl rfl ⟨Nat.le_of_ble_eq_true rfl, Nat.le_of_ble_eq_true rfl⟩ rfl rfl d_X2_isOne_48.1
          · skip
            refine g_iconst hO 1 d_X2_isOne_43 (by decide) ?_
            refine g_goto (tgt := 48) hO d_X2_isOne_44.1 d_X2_isOne_44.2 ?_
            exact g_ret hO rfl rfl ⟨Nat.le_of_ble_eq_true rfl, Nat.le_of_ble_eq_true rfl⟩ rfl rfl d_X2_isOne_48.1
theorem t_X2_isOne (l : Launch) (E : GE) (o : Nat) (x1 : Int32) (x2 : Int32) (S : GS) : ∀ a, f_X2_isOne o x1 x2 S = some a → Ct l E yX2_isOne cX2_isOne 3 (some .boolean) rm_X2_isOne [vA (some o), vI x1, vI x2] S (some (vI a)) S :=
  Ct_of (val := fun b => some (vI b)) (nxt := fun _ => S) (by decide) (Nat.le_of_ble_eq_true rfl) (fun Γ hl hO => w_X2_isOne hO o x1 x2 S)
theorem d_X2_ladiesWho_0 : gD cX2_ladiesWho 0 (.iconst 0) 1 1 := ⟨by decide +kernel, rfl⟩
theorem d_X2_ladiesWho_1 : gD cX2_ladiesWho 1 (.istore_n 2) 1 2 := ⟨by decide +kernel, rfl⟩
theorem d_X2_ladiesWho_2 : gD cX2_ladiesWho 2 (.iconst 0) 1 3 := ⟨by decide +kernel, rfl⟩
theorem d_X2_ladiesWho_3 : gD cX2_ladiesWho 3 (.istore_n 3) 1 4 := ⟨by decide +kernel, rfl⟩
theorem d_X2_ladiesWho_4 : gD cX2_ladiesWho 4 (.iload_n 3) 1 5 := ⟨by decide +kernel, rfl⟩
theorem d_X2_ladiesWho_5 : gD cX2_ladiesWho 5 (.bipush 8) 2 7 := ⟨by decide +kernel, rfl⟩
theorem d_X2_ladiesWho_7 : gD cX2_ladiesWho 7 (.if_icmp .ge 32) 3 10 ∧ ((7 : Nat) : Int) + 32 = ((39 : Nat) : Int) := ⟨⟨by decide +kernel, rfl⟩, by decide⟩
theorem d_X2_ladiesWho_10 : gD cX2_ladiesWho 10 (.aload_n 0) 1 11 := ⟨by decide +kernel, rfl⟩
theorem d_X2_ladiesWho_11 : gD cX2_ladiesWho 11 (.iload_n 3) 1 12 := ⟨by decide +kernel, rfl⟩
theorem d_X2_ladiesWho_12 : gD cX2_ladiesWho 12 (.invokevirtual 127) 3 15 := ⟨by decide +kernel, rfl⟩
theorem d_X2_ladiesWho_15 : gD cX2_ladiesWho 15 (.ifCond .eq 18) 3 18 ∧ ((15 : Nat) : Int) + 18 = ((33 : Nat) : Int) := ⟨⟨by decide +kernel, rfl⟩, by decide⟩
theorem d_X2_ladiesWho_18 : gD cX2_ladiesWho 18 (.aload_n 0) 1 19 := ⟨by decide +kernel, rfl⟩
theorem d_X2_ladiesWho_19 : gD cX2_ladiesWho 19 (.iload_n 3) 1 20 := ⟨by decide +kernel, rfl⟩
theorem d_X2_ladiesWho_20 : gD cX2_ladiesWho 20 (.iload_n 1) 1 21 := ⟨by decide +kernel, rfl⟩
theorem d_X2_ladiesWho_21 : gD cX2_ladiesWho 21 (.invokevirtual 167) 3 24 := ⟨by decide +kernel, rfl⟩
theorem d_X2_ladiesWho_24 : gD cX2_ladiesWho 24 (.ifCond .eq 9) 3 27 ∧ ((24 : Nat) : Int) + 9 = ((33 : Nat) : Int) := ⟨⟨by decide +kernel, rfl⟩, by decide⟩
theorem d_X2_ladiesWho_27 : gD cX2_ladiesWho 27 (.iload_n 2) 1 28 := ⟨by decide +kernel, rfl⟩
theorem d_X2_ladiesWho_28 : gD cX2_ladiesWho 28 (.iconst 1) 1 29 := ⟨by decide +kernel, rfl⟩
theorem d_X2_ladiesWho_29 : gD cX2_ladiesWho 29 (.iload_n 3) 1 30 := ⟨by decide +kernel, rfl⟩
theorem d_X2_ladiesWho_30 : gD cX2_ladiesWho 30 (.ishl) 1 31 := ⟨by decide +kernel, rfl⟩
theorem d_X2_ladiesWho_31 : gD cX2_ladiesWho 31 (.ior) 1 32 := ⟨by decide +kernel, rfl⟩
theorem d_X2_ladiesWho_32 : gD cX2_ladiesWho 32 (.istore_n 2) 1 33 := ⟨by decide +kernel, rfl⟩
theorem d_X2_ladiesWho_33 : gD cX2_ladiesWho 33 (.iinc 3 1) 3 36 := ⟨by decide +kernel, rfl⟩
theorem d_X2_ladiesWho_36 : decode cX2_ladiesWho 36 = .ok (.goto (-32), 3) ∧ ((36 : Nat) : Int) + (-32) = ((4 : Nat) : Int) := ⟨by decide +kernel, by decide⟩
theorem d_X2_ladiesWho_39 : gD cX2_ladiesWho 39 (.iload_n 2) 1 40 := ⟨by decide +kernel, rfl⟩
theorem d_X2_ladiesWho_40 : gD cX2_ladiesWho 40 (.ireturn) 1 41 := ⟨by decide +kernel, rfl⟩
abbrev rm_X2_ladiesWho : Room := { frames := 2, cells := 0, slots := 0, locals := 43 }
set_option maxRecDepth 20000 in
theorem w_X2_ladiesWho_33 {Γ : GC} {E : GE} (hO : gOk Γ E cX2_ladiesWho RX2 4 rm_X2_ladiesWho (some .int) "ladiesWho") (o : Nat) (S : GS) {k4 : (Int32 → Int32 → Int32 → Option Int32)} (hk4 : ∀ (z1 : Int32) (z2 : Int32) (z3 : Int32), Go Γ E (gBpI Γ E S) 4 (0, 0) 4 S [(0, vA (some o)), (1, vI z1), (2, vI z2), (3, vI z3)] [] (k4 z1 z2 z3)) (x1 : Int32) (x2 : Int32) (x3 : Int32) : Go Γ E (gBpI Γ E S) 4 (0, 0) 33 S [(0, vA (some o)), (1, vI x1), (2, vI x2), (3, vI x3)] [] (f_X2_ladiesWho_33 k4 o S x1 x2 x3) := by
  unfold f_X2_ladiesWho_33
  refine g_iinc (lv' := [(3, vI (x3 + 1)), (0, vA (some o)), (1, vI x1), (2, vI x2)]) hO 1 d_X2_ladiesWho_33 (by decide) 3 rfl (by decide) rfl ?_
  refine g_goto (tgt := 4) hO d_X2_ladiesWho_36.1 d_X2_ladiesWho_36.2 ?_
  exact g_sub [1, 2, 3, 0] rfl (hk4 _ _ _)
set_option maxRecDepth 20000 in
theorem w_X2_ladiesWho_4 {Γ : GC} {E : GE} (hO : gOk Γ E cX2_ladiesWho RX2 4 rm_X2_ladiesWho (some .int) "ladiesWho") (o : Nat) (S : GS) : ∀ (n : Nat) (x1 : Int32) (x2 : Int32) (x3 : Int32), Go Γ E (gBpI Γ E S) 4 (0, 0) 4 S [(0, vA (some o)), (1, vI x1), (2, vI x2), (3, vI x3)] [] (f_X2_ladiesWho_4 o S n x1 x2 x3) := by
  intro n
  induction n with
  | zero =>
    intro x1 x2 x3
    exact g_none
  | succ n ih =>
    intro x1 x2 x3
    rw [f_X2_ladiesWho_4]
    refine g_iload_n hO d_X2_ladiesWho_4 (by rfl) 3 rfl ?_
    refine g_bipush hO 8 d_X2_ladiesWho_5 (by decide) ?_
    refine g_ic_ge (tgt := 39) hO d_X2_ladiesWho_7.1 d_X2_ladiesWho_7.2 (fun _ => ?_) (fun _ => ?_)
    · skip
      refine g_iload_n hO d_X2_ladiesWho_39 (by rfl) 2 rfl ?_
      exact g_ret hO rfl rfl ⟨Nat.le_of_ble_eq_true rfl, Nat.le_of_ble_eq_true rfl⟩ rfl rfl d_X2_ladiesWho_40.1
    · skip
      refine g_aload_n hO d_X2_ladiesWho_10 (by rfl) 0 rfl ?_
      refine g_iload_n hO d_X2_ladiesWho_11 (by rfl) 3 rfl ?_
      refine k_virtIp hO cl_X2 mm_X2_hasLady lkV_X2_127 ⟨⟨Nat.le_of_ble_eq_true rfl, Nat.le_of_ble_eq_true rfl⟩, Nat.le_of_ble_eq_true rfl, Nat.le_of_ble_eq_true rfl⟩ (kn' := (0, 0)) rfl (As := [vI x3]) rfl (Nat.le_of_ble_eq_true rfl) (fun o' _ => t_X2_hasLady Γ.2.1 E o' x3 S) d_X2_ladiesWho_12 rfl (fun v1 => ?_)
      refine g_if_eq (tgt := 33) hO d_X2_ladiesWho_15.1 d_X2_ladiesWho_15.2 (fun _ => ?_) (fun _ => ?_)
      · skip
        exact g_sub [0, 1, 2, 3] rfl (w_X2_ladiesWho_33 hO o _ ih _ _ _)
      · skip
        refine g_aload_n hO d_X2_ladiesWho_18 (by rfl) 0 rfl ?_
        refine g_iload_n hO d_X2_ladiesWho_19 (by rfl) 3 rfl ?_
        refine g_iload_n hO d_X2_ladiesWho_20 (by rfl) 1 rfl ?_
        refine k_virtIp hO cl_X2 mm_X2_isOne lkV_X2_167 ⟨⟨Nat.le_of_ble_eq_true rfl, Nat.le_of_ble_eq_true rfl⟩, Nat.le_of_ble_eq_true rfl, Nat.le_of_ble_eq_true rfl⟩ (kn' := (0, 0)) rfl (As := [vI x3, vI x1]) rfl (Nat.le_of_ble_eq_true rfl) (fun o' _ => t_X2_isOne Γ.2.1 E o' x3 x1 S) d_X2_ladiesWho_21 rfl (fun v3 => ?_)
        refine g_if_eq (tgt := 33) hO d_X2_ladiesWho_24.1 d_X2_ladiesWho_24.2 (fun _ => ?_) (fun _ => ?_)
        · skip
          exact g_sub [0, 1, 2, 3] rfl (w_X2_ladiesWho_33 hO o _ ih _ _ _)
        · skip
          refine g_iload_n hO d_X2_ladiesWho_27 (by rfl) 2 rfl ?_
          refine g_iconst hO 1 d_X2_ladiesWho_28 (by decide) ?_
          refine g_iload_n hO d_X2_ladiesWho_29 (by rfl) 3 rfl ?_
          refine g_ishl hO d_X2_ladiesWho_30 ?_
          refine g_ior hO d_X2_ladiesWho_31 ?_
          refine g_istore_n (lv' := [(2, vI (x2 ||| (jshl 1 x3))), (0, vA (some o)), (1, vI x1), (3, vI x3)]) hO d_X2_ladiesWho_32 (by rfl) (by decide) rfl ?_
          exact g_sub [1, 2, 0, 3] rfl (w_X2_ladiesWho_33 hO o _ ih _ _ _)
set_option maxRecDepth 20000 in
theorem w_X2_ladiesWho {Γ : GC} {E : GE} (hO : gOk Γ E cX2_ladiesWho RX2 4 rm_X2_ladiesWho (some .int) "ladiesWho") (o : Nat) (x1 : Int32) (S : GS) : Go Γ E (gBpI Γ E S) 4 (0, 0) 0 S [(0, vA (some o)), (1, vI x1)] [] (f_X2_ladiesWho o x1 S) := by
  unfold f_X2_ladiesWho
  refine g_iconst hO 0 d_X2_ladiesWho_0 (by decide) ?_
  refine g_istore_n (lv' := [(2, vI 0), (0, vA (some o)), (1, vI x1)]) hO d_X2_ladiesWho_1 (by rfl) (by decide) rfl ?_
  refine g_iconst hO 0 d_X2_ladiesWho_2 (by decide) ?_
  refine g_istore_n (lv' := [(3, vI 0), (2, vI 0), (0, vA (some o)), (1, vI x1)]) hO d_X2_ladiesWho_3 (by rfl) (by decide) rfl ?_
  exact g_sub [2, 3, 1, 0] rfl (w_X2_ladiesWho_4 hO o _ _ _ _ _)
theorem t_X2_ladiesWho (l : Launch) (E : GE) (o : Nat) (x1 : Int32) (S : GS) : ∀ a, f_X2_ladiesWho o x1 S = some a → Ct l E yX2_ladiesWho cX2_ladiesWho 4 (some .int) rm_X2_ladiesWho [vA (some o), vI x1] S (some (vI a)) S :=
  Ct_of (val := fun b => some (vI b)) (nxt := fun _ => S) (by decide) (Nat.le_of_ble_eq_true rfl) (fun Γ hl hO => w_X2_ladiesWho hO o x1 S)
theorem d_J6_bitCount_0f7a4_0 : gD cJ6_bitCount_0f7a4 0 (.iload_n 0) 1 1 := ⟨by decide +kernel, rfl⟩
theorem d_J6_bitCount_0f7a4_1 : gD cJ6_bitCount_0f7a4 1 (.iload_n 0) 1 2 := ⟨by decide +kernel, rfl⟩
theorem d_J6_bitCount_0f7a4_2 : gD cJ6_bitCount_0f7a4 2 (.iconst 1) 1 3 := ⟨by decide +kernel, rfl⟩
theorem d_J6_bitCount_0f7a4_3 : gD cJ6_bitCount_0f7a4 3 (.iushr) 1 4 := ⟨by decide +kernel, rfl⟩
theorem d_J6_bitCount_0f7a4_4 : gD cJ6_bitCount_0f7a4 4 (.ldc_w 265) 3 7 := ⟨by decide +kernel, rfl⟩
theorem d_J6_bitCount_0f7a4_7 : gD cJ6_bitCount_0f7a4 7 (.iand) 1 8 := ⟨by decide +kernel, rfl⟩
theorem d_J6_bitCount_0f7a4_8 : gD cJ6_bitCount_0f7a4 8 (.isub) 1 9 := ⟨by decide +kernel, rfl⟩
theorem d_J6_bitCount_0f7a4_9 : gD cJ6_bitCount_0f7a4 9 (.istore_n 0) 1 10 := ⟨by decide +kernel, rfl⟩
theorem d_J6_bitCount_0f7a4_10 : gD cJ6_bitCount_0f7a4 10 (.iload_n 0) 1 11 := ⟨by decide +kernel, rfl⟩
theorem d_J6_bitCount_0f7a4_11 : gD cJ6_bitCount_0f7a4 11 (.ldc_w 266) 3 14 := ⟨by decide +kernel, rfl⟩
theorem d_J6_bitCount_0f7a4_14 : gD cJ6_bitCount_0f7a4 14 (.iand) 1 15 := ⟨by decide +kernel, rfl⟩
theorem d_J6_bitCount_0f7a4_15 : gD cJ6_bitCount_0f7a4 15 (.iload_n 0) 1 16 := ⟨by decide +kernel, rfl⟩
theorem d_J6_bitCount_0f7a4_16 : gD cJ6_bitCount_0f7a4 16 (.iconst 2) 1 17 := ⟨by decide +kernel, rfl⟩
theorem d_J6_bitCount_0f7a4_17 : gD cJ6_bitCount_0f7a4 17 (.iushr) 1 18 := ⟨by decide +kernel, rfl⟩
theorem d_J6_bitCount_0f7a4_18 : gD cJ6_bitCount_0f7a4 18 (.ldc_w 266) 3 21 := ⟨by decide +kernel, rfl⟩
theorem d_J6_bitCount_0f7a4_21 : gD cJ6_bitCount_0f7a4 21 (.iand) 1 22 := ⟨by decide +kernel, rfl⟩
theorem d_J6_bitCount_0f7a4_22 : gD cJ6_bitCount_0f7a4 22 (.iadd) 1 23 := ⟨by decide +kernel, rfl⟩
theorem d_J6_bitCount_0f7a4_23 : gD cJ6_bitCount_0f7a4 23 (.istore_n 0) 1 24 := ⟨by decide +kernel, rfl⟩
theorem d_J6_bitCount_0f7a4_24 : gD cJ6_bitCount_0f7a4 24 (.iload_n 0) 1 25 := ⟨by decide +kernel, rfl⟩
theorem d_J6_bitCount_0f7a4_25 : gD cJ6_bitCount_0f7a4 25 (.iload_n 0) 1 26 := ⟨by decide +kernel, rfl⟩
theorem d_J6_bitCount_0f7a4_26 : gD cJ6_bitCount_0f7a4 26 (.iconst 4) 1 27 := ⟨by decide +kernel, rfl⟩
theorem d_J6_bitCount_0f7a4_27 : gD cJ6_bitCount_0f7a4 27 (.iushr) 1 28 := ⟨by decide +kernel, rfl⟩
theorem d_J6_bitCount_0f7a4_28 : gD cJ6_bitCount_0f7a4 28 (.iadd) 1 29 := ⟨by decide +kernel, rfl⟩
theorem d_J6_bitCount_0f7a4_29 : gD cJ6_bitCount_0f7a4 29 (.ldc_w 267) 3 32 := ⟨by decide +kernel, rfl⟩
theorem d_J6_bitCount_0f7a4_32 : gD cJ6_bitCount_0f7a4 32 (.iand) 1 33 := ⟨by decide +kernel, rfl⟩
theorem d_J6_bitCount_0f7a4_33 : gD cJ6_bitCount_0f7a4 33 (.istore_n 0) 1 34 := ⟨by decide +kernel, rfl⟩
theorem d_J6_bitCount_0f7a4_34 : gD cJ6_bitCount_0f7a4 34 (.iload_n 0) 1 35 := ⟨by decide +kernel, rfl⟩
theorem d_J6_bitCount_0f7a4_35 : gD cJ6_bitCount_0f7a4 35 (.iload_n 0) 1 36 := ⟨by decide +kernel, rfl⟩
theorem d_J6_bitCount_0f7a4_36 : gD cJ6_bitCount_0f7a4 36 (.bipush 8) 2 38 := ⟨by decide +kernel, rfl⟩
theorem d_J6_bitCount_0f7a4_38 : gD cJ6_bitCount_0f7a4 38 (.iushr) 1 39 := ⟨by decide +kernel, rfl⟩
theorem d_J6_bitCount_0f7a4_39 : gD cJ6_bitCount_0f7a4 39 (.iadd) 1 40 := ⟨by decide +kernel, rfl⟩
theorem d_J6_bitCount_0f7a4_40 : gD cJ6_bitCount_0f7a4 40 (.istore_n 0) 1 41 := ⟨by decide +kernel, rfl⟩
theorem d_J6_bitCount_0f7a4_41 : gD cJ6_bitCount_0f7a4 41 (.iload_n 0) 1 42 := ⟨by decide +kernel, rfl⟩
theorem d_J6_bitCount_0f7a4_42 : gD cJ6_bitCount_0f7a4 42 (.iload_n 0) 1 43 := ⟨by decide +kernel, rfl⟩
theorem d_J6_bitCount_0f7a4_43 : gD cJ6_bitCount_0f7a4 43 (.bipush 16) 2 45 := ⟨by decide +kernel, rfl⟩
theorem d_J6_bitCount_0f7a4_45 : gD cJ6_bitCount_0f7a4 45 (.iushr) 1 46 := ⟨by decide +kernel, rfl⟩
theorem d_J6_bitCount_0f7a4_46 : gD cJ6_bitCount_0f7a4 46 (.iadd) 1 47 := ⟨by decide +kernel, rfl⟩
theorem d_J6_bitCount_0f7a4_47 : gD cJ6_bitCount_0f7a4 47 (.istore_n 0) 1 48 := ⟨by decide +kernel, rfl⟩
theorem d_J6_bitCount_0f7a4_48 : gD cJ6_bitCount_0f7a4 48 (.iload_n 0) 1 49 := ⟨by decide +kernel, rfl⟩
theorem d_J6_bitCount_0f7a4_49 : gD cJ6_bitCount_0f7a4 49 (.bipush 63) 2 51 := ⟨by decide +kernel, rfl⟩
theorem d_J6_bitCount_0f7a4_51 : gD cJ6_bitCount_0f7a4 51 (.iand) 1 52 := ⟨by decide +kernel, rfl⟩
theorem d_J6_bitCount_0f7a4_52 : gD cJ6_bitCount_0f7a4 52 (.ireturn) 1 53 := ⟨by decide +kernel, rfl⟩
abbrev rm_J6_bitCount_0f7a4 : Room := { frames := 0, cells := 0, slots := 0, locals := 0 }
set_option maxRecDepth 20000 in
theorem w_J6_bitCount_0f7a4 {Γ : GC} {E : GE} (hO : gOk Γ E cJ6_bitCount_0f7a4 RJ6 1 rm_J6_bitCount_0f7a4 (some .int) "bitCount") (x0 : Int32) (S : GS) : Go Γ E (gBpI Γ E S) 1 (0, 0) 0 S [(0, vI x0)] [] (f_J6_bitCount_0f7a4 x0 S) := by
  unfold f_J6_bitCount_0f7a4
  refine g_iload_n hO d_J6_bitCount_0f7a4_0 (by rfl) 0 rfl ?_
  refine g_iload_n hO d_J6_bitCount_0f7a4_1 (by rfl) 0 rfl ?_
  refine g_iconst hO 1 d_J6_bitCount_0f7a4_2 (by decide) ?_
  refine g_iushr hO d_J6_bitCount_0f7a4_3 ?_
  refine g_ldcw hO 1431655765 d_J6_bitCount_0f7a4_4 wk_J6_265 ?_
  refine g_iand hO d_J6_bitCount_0f7a4_7 ?_
  refine g_isub hO d_J6_bitCount_0f7a4_8 ?_
  refine g_istore_n (lv' := [(0, vI (x0 - ((jushr x0 1) &&& 1431655765)))]) hO d_J6_bitCount_0f7a4_9 (by rfl) (by decide) rfl ?_
  refine g_iload_n hO d_J6_bitCount_0f7a4_10 (by rfl) 0 rfl ?_
  refine g_ldcw hO 858993459 d_J6_bitCount_0f7a4_11 wk_J6_266 ?_
  refine g_iand hO d_J6_bitCount_0f7a4_14 ?_
  refine g_iload_n hO d_J6_bitCount_0f7a4_15 (by rfl) 0 rfl ?_
  refine g_iconst hO 2 d_J6_bitCount_0f7a4_16 (by decide) ?_
  refine g_iushr hO d_J6_bitCount_0f7a4_17 ?_
  refine g_ldcw hO 858993459 d_J6_bitCount_0f7a4_18 wk_J6_266 ?_
  refine g_iand hO d_J6_bitCount_0f7a4_21 ?_
  refine g_iadd hO d_J6_bitCount_0f7a4_22 ?_
  refine g_istore_n (lv' := [(0, vI (((x0 - ((jushr x0 1) &&& 1431655765)) &&& 858993459) + ((jushr (x0 - ((jushr x0 1) &&& 1431655765)) 2) &&& 858993459)))]) hO d_J6_bitCount_0f7a4_23 (by rfl) (by decide) rfl ?_
  refine g_iload_n hO d_J6_bitCount_0f7a4_24 (by rfl) 0 rfl ?_
  refine g_iload_n hO d_J6_bitCount_0f7a4_25 (by rfl) 0 rfl ?_
  refine g_iconst hO 4 d_J6_bitCount_0f7a4_26 (by decide) ?_
  refine g_iushr hO d_J6_bitCount_0f7a4_27 ?_
  refine g_iadd hO d_J6_bitCount_0f7a4_28 ?_
  refine g_ldcw hO 252645135 d_J6_bitCount_0f7a4_29 wk_J6_267 ?_
  refine g_iand hO d_J6_bitCount_0f7a4_32 ?_
  refine g_istore_n (lv' := [(0, vI (((((x0 - ((jushr x0 1) &&& 1431655765)) &&& 858993459) + ((jushr (x0 - ((jushr x0 1) &&& 1431655765)) 2) &&& 858993459)) + (jushr (((x0 - ((jushr x0 1) &&& 1431655765)) &&& 858993459) + ((jushr (x0 - ((jushr x0 1) &&& 1431655765)) 2) &&& 858993459)) 4)) &&& 252645135))]) hO d_J6_bitCount_0f7a4_33 (by rfl) (by decide) rfl ?_
  refine g_iload_n hO d_J6_bitCount_0f7a4_34 (by rfl) 0 rfl ?_
  refine g_iload_n hO d_J6_bitCount_0f7a4_35 (by rfl) 0 rfl ?_
  refine g_bipush hO 8 d_J6_bitCount_0f7a4_36 (by decide) ?_
  refine g_iushr hO d_J6_bitCount_0f7a4_38 ?_
  refine g_iadd hO d_J6_bitCount_0f7a4_39 ?_
  refine g_istore_n (lv' := [(0, vI ((((((x0 - ((jushr x0 1) &&& 1431655765)) &&& 858993459) + ((jushr (x0 - ((jushr x0 1) &&& 1431655765)) 2) &&& 858993459)) + (jushr (((x0 - ((jushr x0 1) &&& 1431655765)) &&& 858993459) + ((jushr (x0 - ((jushr x0 1) &&& 1431655765)) 2) &&& 858993459)) 4)) &&& 252645135) + (jushr (((((x0 - ((jushr x0 1) &&& 1431655765)) &&& 858993459) + ((jushr (x0 - ((jushr x0 1) &&& 1431655765)) 2) &&& 858993459)) + (jushr (((x0 - ((jushr x0 1) &&& 1431655765)) &&& 858993459) + ((jushr (x0 - ((jushr x0 1) &&& 1431655765)) 2) &&& 858993459)) 4)) &&& 252645135) 8)))]) hO d_J6_bitCount_0f7a4_40 (by rfl) (by decide) rfl ?_
  refine g_iload_n hO d_J6_bitCount_0f7a4_41 (by rfl) 0 rfl ?_
  refine g_iload_n hO d_J6_bitCount_0f7a4_42 (by rfl) 0 rfl ?_
  refine g_bipush hO 16 d_J6_bitCount_0f7a4_43 (by decide) ?_
  refine g_iushr hO d_J6_bitCount_0f7a4_45 ?_
  refine g_iadd hO d_J6_bitCount_0f7a4_46 ?_
  refine g_istore_n (lv' := [(0, vI (((((((x0 - ((jushr x0 1) &&& 1431655765)) &&& 858993459) + ((jushr (x0 - ((jushr x0 1) &&& 1431655765)) 2) &&& 858993459)) + (jushr (((x0 - ((jushr x0 1) &&& 1431655765)) &&& 858993459) + ((jushr (x0 - ((jushr x0 1) &&& 1431655765)) 2) &&& 858993459)) 4)) &&& 252645135) + (jushr (((((x0 - ((jushr x0 1) &&& 1431655765)) &&& 858993459) + ((jushr (x0 - ((jushr x0 1) &&& 1431655765)) 2) &&& 858993459)) + (jushr (((x0 - ((jushr x0 1) &&& 1431655765)) &&& 858993459) + ((jushr (x0 - ((jushr x0 1) &&& 1431655765)) 2) &&& 858993459)) 4)) &&& 252645135) 8)) + (jushr ((((((x0 - ((jushr x0 1) &&& 1431655765)) &&& 858993459) + ((jushr (x0 - ((jushr x0 1) &&& 1431655765)) 2) &&& 858993459)) + (jushr (((x0 - ((jushr x0 1) &&& 1431655765)) &&& 858993459) + ((jushr (x0 - ((jushr x0 1) &&& 1431655765)) 2) &&& 858993459)) 4)) &&& 252645135) + (jushr (((((x0 - ((jushr x0 1) &&& 1431655765)) &&& 858993459) + ((jushr (x0 - ((jushr x0 1) &&& 1431655765)) 2) &&& 858993459)) + (jushr (((x0 - ((jushr x0 1) &&& 1431655765)) &&& 858993459) + ((jushr (x0 - ((jushr x0 1) &&& 1431655765)) 2) &&& 858993459)) 4)) &&& 252645135) 8)) 16)))]) hO d_J6_bitCount_0f7a4_47 (by rfl) (by decide) rfl ?_
  refine g_iload_n hO d_J6_bitCount_0f7a4_48 (by rfl) 0 rfl ?_
  refine g_bipush hO 63 d_J6_bitCount_0f7a4_49 (by decide) ?_
  refine g_iand hO d_J6_bitCount_0f7a4_51 ?_
  exact g_ret hO rfl rfl ⟨Nat.le_of_ble_eq_true rfl, Nat.le_of_ble_eq_true rfl⟩ rfl rfl d_J6_bitCount_0f7a4_52.1
theorem t_J6_bitCount_0f7a4 (l : Launch) (E : GE) (x0 : Int32) (S : GS) : ∀ a, f_J6_bitCount_0f7a4 x0 S = some a → Ct l E yJ6_bitCount_0f7a4 cJ6_bitCount_0f7a4 1 (some .int) rm_J6_bitCount_0f7a4 [vI x0] S (some (vI a)) S :=
  Ct_of (val := fun b => some (vI b)) (nxt := fun _ => S) (by decide) (Nat.le_of_ble_eq_true rfl) (fun Γ hl hO => w_J6_bitCount_0f7a4 hO x0 S)
theorem d_J6_compare_7cf53_0 : gD cJ6_compare_7cf53 0 (.iload_n 0) 1 1 := ⟨by decide +kernel, rfl⟩
theorem d_J6_compare_7cf53_1 : gD cJ6_compare_7cf53 1 (.iload_n 1) 1 2 := ⟨by decide +kernel, rfl⟩
theorem d_J6_compare_7cf53_2 : gD cJ6_compare_7cf53 2 (.if_icmp .ge 7) 3 5 ∧ ((2 : Nat) : Int) + 7 = ((9 : Nat) : Int) := ⟨⟨by decide +kernel, rfl⟩, by decide⟩
theorem d_J6_compare_7cf53_5 : gD cJ6_compare_7cf53 5 (.iconst (-1)) 1 6 := ⟨by decide +kernel, rfl⟩
theorem d_J6_compare_7cf53_6 : decode cJ6_compare_7cf53 6 = .ok (.goto 13, 3) ∧ ((6 : Nat) : Int) + 13 = ((19 : Nat) : Int) := ⟨by decide +kernel, by decide⟩
theorem d_J6_compare_7cf53_9 : gD cJ6_compare_7cf53 9 (.iload_n 0) 1 10 := ⟨by decide +kernel, rfl⟩
theorem d_J6_compare_7cf53_10 : gD cJ6_compare_7cf53 10 (.iload_n 1) 1 11 := ⟨by decide +kernel, rfl⟩
theorem d_J6_compare_7cf53_11 : gD cJ6_compare_7cf53 11 (.if_icmp .ne 7) 3 14 ∧ ((11 : Nat) : Int) + 7 = ((18 : Nat) : Int) := ⟨⟨by decide +kernel, rfl⟩, by decide⟩
theorem d_J6_compare_7cf53_14 : gD cJ6_compare_7cf53 14 (.iconst 0) 1 15 := ⟨by decide +kernel, rfl⟩
theorem d_J6_compare_7cf53_15 : decode cJ6_compare_7cf53 15 = .ok (.goto 4, 3) ∧ ((15 : Nat) : Int) + 4 = ((19 : Nat) : Int) := ⟨by decide +kernel, by decide⟩
theorem d_J6_compare_7cf53_18 : gD cJ6_compare_7cf53 18 (.iconst 1) 1 19 := ⟨by decide +kernel, rfl⟩
theorem d_J6_compare_7cf53_19 : gD cJ6_compare_7cf53 19 (.ireturn) 1 20 := ⟨by decide +kernel, rfl⟩
abbrev rm_J6_compare_7cf53 : Room := { frames := 0, cells := 0, slots := 0, locals := 0 }
set_option maxRecDepth 20000 in
theorem w_J6_compare_7cf53 {Γ : GC} {E : GE} (hO : gOk Γ E cJ6_compare_7cf53 RJ6 2 rm_J6_compare_7cf53 (some .int) "compare") (x0 : Int32) (x1 : Int32) (S : GS) : Go Γ E (gBpI Γ E S) 2 (0, 0) 0 S [(0, vI x0), (1, vI x1)] [] (f_J6_compare_7cf53 x0 x1 S) := by
  unfold f_J6_compare_7cf53
  refine g_iload_n hO d_J6_compare_7cf53_0 (by rfl) 0 rfl ?_
  refine g_iload_n hO d_J6_compare_7cf53_1 (by rfl) 1 rfl ?_
  refine g_ic_ge (tgt := 9) hO d_J6_compare_7cf53_2.1 d_J6_compare_7cf53_2.2 (fun _ => ?_) (fun _ => ?_)
  · skip
    refine g_iload_n hO d_J6_compare_7cf53_9 (by rfl) 0 rfl ?_
    refine g_iload_n hO d_J6_compare_7cf53_10 (by rfl) 1 rfl ?_
    refine g_ic_ne (tgt := 18) hO d_J6_compare_7cf53_11.1 d_J6_compare_7cf53_11.2 (fun _ => ?_) (fun _ => ?_)
    · skip
      refine g_iconst hO 0 d_J6_compare_7cf53_14 (by decide) ?_
      refine g_goto (tgt := 19) hO d_J6_compare_7cf53_15.1 d_J6_compare_7cf53_15.2 ?_
      exact g_ret hO rfl rfl ⟨Nat.le_of_ble_eq_true rfl, Nat.le_of_ble_eq_true rfl⟩ rfl rfl d_J6_compare_7cf53_19.1
    · skip
      refine g_iconst hO 1 d_J6_compare_7cf53_18 (by decide) ?_
      exact g_ret hO rfl rfl ⟨Nat.le_of_ble_eq_true rfl, Nat.le_of_ble_eq_true rfl⟩ rfl rfl d_J6_compare_7cf53_19.1
  · skip
    refine g_iconst hO (-1) d_J6_compare_7cf53_5 (by decide) ?_
    refine g_goto (tgt := 19) hO d_J6_compare_7cf53_6.1 d_J6_compare_7cf53_6.2 ?_
    exact g_ret hO rfl rfl ⟨Nat.le_of_ble_eq_true rfl, Nat.le_of_ble_eq_true rfl⟩ rfl rfl d_J6_compare_7cf53_19.1
theorem t_J6_compare_7cf53 (l : Launch) (E : GE) (x0 : Int32) (x1 : Int32) (S : GS) : ∀ a, f_J6_compare_7cf53 x0 x1 S = some a → Ct l E yJ6_compare_7cf53 cJ6_compare_7cf53 2 (some .int) rm_J6_compare_7cf53 [vI x0, vI x1] S (some (vI a)) S :=
  Ct_of (val := fun b => some (vI b)) (nxt := fun _ => S) (by decide) (Nat.le_of_ble_eq_true rfl) (fun Γ hl hO => w_J6_compare_7cf53 hO x0 x1 S)
theorem d_X2_pressureIn_0 : gD cX2_pressureIn 0 (.aload_n 0) 1 1 := ⟨by decide +kernel, rfl⟩
theorem d_X2_pressureIn_1 : gD cX2_pressureIn 1 (.iload_n 1) 1 2 := ⟨by decide +kernel, rfl⟩
theorem d_X2_pressureIn_2 : gD cX2_pressureIn 2 (.invokevirtual 124) 3 5 := ⟨by decide +kernel, rfl⟩
theorem d_X2_pressureIn_5 : gD cX2_pressureIn 5 (.ifCond .ne 5) 3 8 ∧ ((5 : Nat) : Int) + 5 = ((10 : Nat) : Int) := ⟨⟨by decide +kernel, rfl⟩, by decide⟩
theorem d_X2_pressureIn_8 : gD cX2_pressureIn 8 (.iconst 0) 1 9 := ⟨by decide +kernel, rfl⟩
theorem d_X2_pressureIn_9 : gD cX2_pressureIn 9 (.ireturn) 1 10 := ⟨by decide +kernel, rfl⟩
theorem d_X2_pressureIn_10 : gD cX2_pressureIn 10 (.aload_n 0) 1 11 := ⟨by decide +kernel, rfl⟩
theorem d_X2_pressureIn_11 : gD cX2_pressureIn 11 (.getfield 15) 3 14 := ⟨by decide +kernel, rfl⟩
theorem d_X2_pressureIn_14 : gD cX2_pressureIn 14 (.iload_n 1) 1 15 := ⟨by decide +kernel, rfl⟩
theorem d_X2_pressureIn_15 : gD cX2_pressureIn 15 (.baload) 1 16 := ⟨by decide +kernel, rfl⟩
theorem d_X2_pressureIn_16 : gD cX2_pressureIn 16 (.ifCond .eq 12) 3 19 ∧ ((16 : Nat) : Int) + 12 = ((28 : Nat) : Int) := ⟨⟨by decide +kernel, rfl⟩, by decide⟩
theorem d_X2_pressureIn_19 : gD cX2_pressureIn 19 (.aload_n 0) 1 20 := ⟨by decide +kernel, rfl⟩
theorem d_X2_pressureIn_20 : gD cX2_pressureIn 20 (.getfield 9) 3 23 := ⟨by decide +kernel, rfl⟩
theorem d_X2_pressureIn_23 : gD cX2_pressureIn 23 (.iload_n 1) 1 24 := ⟨by decide +kernel, rfl⟩
theorem d_X2_pressureIn_24 : gD cX2_pressureIn 24 (.iaload) 1 25 := ⟨by decide +kernel, rfl⟩
theorem d_X2_pressureIn_25 : decode cX2_pressureIn 25 = .ok (.goto 7, 3) ∧ ((25 : Nat) : Int) + 7 = ((32 : Nat) : Int) := ⟨by decide +kernel, by decide⟩
theorem d_X2_pressureIn_28 : gD cX2_pressureIn 28 (.aload_n 0) 1 29 := ⟨by decide +kernel, rfl⟩
theorem d_X2_pressureIn_29 : gD cX2_pressureIn 29 (.getfield 48) 3 32 := ⟨by decide +kernel, rfl⟩
theorem d_X2_pressureIn_32 : gD cX2_pressureIn 32 (.aload_n 0) 1 33 := ⟨by decide +kernel, rfl⟩
theorem d_X2_pressureIn_33 : gD cX2_pressureIn 33 (.getfield 40) 3 36 := ⟨by decide +kernel, rfl⟩
theorem d_X2_pressureIn_36 : gD cX2_pressureIn 36 (.getfield 121) 3 39 := ⟨by decide +kernel, rfl⟩
theorem d_X2_pressureIn_39 : gD cX2_pressureIn 39 (.iload_n 1) 1 40 := ⟨by decide +kernel, rfl⟩
theorem d_X2_pressureIn_40 : gD cX2_pressureIn 40 (.iconst 1) 1 41 := ⟨by decide +kernel, rfl⟩
theorem d_X2_pressureIn_41 : gD cX2_pressureIn 41 (.invokevirtual 74) 3 44 := ⟨by decide +kernel, rfl⟩
theorem d_X2_pressureIn_44 : gD cX2_pressureIn 44 (.isub) 1 45 := ⟨by decide +kernel, rfl⟩
theorem d_X2_pressureIn_45 : gD cX2_pressureIn 45 (.ireturn) 1 46 := ⟨by decide +kernel, rfl⟩
abbrev rm_X2_pressureIn : Room := { frames := 1, cells := 0, slots := 0, locals := 22 }
set_option maxRecDepth 20000 in
theorem w_X2_pressureIn_32 {Γ : GC} {E : GE} (hO : gOk Γ E cX2_pressureIn RX2 2 rm_X2_pressureIn (some .int) "pressureIn") (o : Nat) (S : GS) (x1 : Int32) (y0 : Int32) : Go Γ E (gBpI Γ E S) 2 (0, 0) 32 S [(0, vA (some o)), (1, vI x1)] [vI y0] (f_X2_pressureIn_32 o S x1 y0) := by
  unfold f_X2_pressureIn_32
  refine g_aload_n hO d_X2_pressureIn_32 (by rfl) 0 rfl ?_
  refine h_getR hO cl_X2 8 rfl wf_X2_40 d_X2_pressureIn_33 (fun v1 => ?_)
  refine h_getR hO cl_X0 0 rfl wf_X2_121 d_X2_pressureIn_36 (fun v2 => ?_)
  refine g_iload_n hO d_X2_pressureIn_39 (by rfl) 1 rfl ?_
  refine g_iconst hO 1 d_X2_pressureIn_40 (by decide) ?_
  refine k_virtIp hO cl_X7 mm_X7_cell lkV_X2_74 ⟨⟨Nat.le_of_ble_eq_true rfl, Nat.le_of_ble_eq_true rfl⟩, Nat.le_of_ble_eq_true rfl, Nat.le_of_ble_eq_true rfl⟩ (kn' := (0, 0)) rfl (As := [vI x1, vI 1]) rfl (Nat.le_of_ble_eq_true rfl) (fun o' _ => t_X7_cell Γ.2.1 E o' x1 1 S) d_X2_pressureIn_41 rfl (fun v3 => ?_)
  refine g_isub hO d_X2_pressureIn_44 ?_
  exact g_ret hO rfl rfl ⟨Nat.le_of_ble_eq_true rfl, Nat.le_of_ble_eq_true rfl⟩ rfl rfl d_X2_pressureIn_45.1
set_option maxRecDepth 20000 in
theorem w_X2_pressureIn {Γ : GC} {E : GE} (hO : gOk Γ E cX2_pressureIn RX2 2 rm_X2_pressureIn (some .int) "pressureIn") (o : Nat) (x1 : Int32) (S : GS) : Go Γ E (gBpI Γ E S) 2 (0, 0) 0 S [(0, vA (some o)), (1, vI x1)] [] (f_X2_pressureIn o x1 S) := by
  unfold f_X2_pressureIn
  refine g_aload_n hO d_X2_pressureIn_0 (by rfl) 0 rfl ?_
  refine g_iload_n hO d_X2_pressureIn_1 (by rfl) 1 rfl ?_
  refine k_virtIp hO cl_X2 mm_X2_hasRoom lkV_X2_124 ⟨⟨Nat.le_of_ble_eq_true rfl, Nat.le_of_ble_eq_true rfl⟩, Nat.le_of_ble_eq_true rfl, Nat.le_of_ble_eq_true rfl⟩ (kn' := (0, 0)) rfl (As := [vI x1]) rfl (Nat.le_of_ble_eq_true rfl) (fun o' _ => t_X2_hasRoom Γ.2.1 E o' x1 S) d_X2_pressureIn_2 rfl (fun v1 => ?_)
  refine g_if_ne (tgt := 10) hO d_X2_pressureIn_5.1 d_X2_pressureIn_5.2 (fun _ => ?_) (fun _ => ?_)
  · skip
    refine g_iconst hO 0 d_X2_pressureIn_8 (by decide) ?_
    exact g_ret hO rfl rfl ⟨Nat.le_of_ble_eq_true rfl, Nat.le_of_ble_eq_true rfl⟩ rfl rfl d_X2_pressureIn_9.1
  · skip
    refine g_aload_n hO d_X2_pressureIn_10 (by rfl) 0 rfl ?_
    refine h_getR hO cl_X2 1 rfl wf_X2_15 d_X2_pressureIn_11 (fun v3 => ?_)
    refine g_iload_n hO d_X2_pressureIn_14 (by rfl) 1 rfl ?_
    refine h_zald hO d_X2_pressureIn_15 (fun v4 => ?_)
    refine g_if_eq (tgt := 28) hO d_X2_pressureIn_16.1 d_X2_pressureIn_16.2 (fun _ => ?_) (fun _ => ?_)
    · skip
      refine g_aload_n hO d_X2_pressureIn_28 (by rfl) 0 rfl ?_
      refine h_getI hO cl_X2 10 rfl wf_X2_48 d_X2_pressureIn_29 (fun v5 => ?_)
      exact g_sub [0, 1] rfl (w_X2_pressureIn_32 hO o _ _ _)
    · skip
      refine g_aload_n hO d_X2_pressureIn_19 (by rfl) 0 rfl ?_
      refine h_getR hO cl_X2 0 rfl wf_X2_9 d_X2_pressureIn_20 (fun v6 => ?_)
      refine g_iload_n hO d_X2_pressureIn_23 (by rfl) 1 rfl ?_
      refine h_iald hO d_X2_pressureIn_24 (fun v7 => ?_)
      refine g_goto (tgt := 32) hO d_X2_pressureIn_25.1 d_X2_pressureIn_25.2 ?_
      exact g_sub [0, 1] rfl (w_X2_pressureIn_32 hO o _ _ _)
theorem t_X2_pressureIn (l : Launch) (E : GE) (o : Nat) (x1 : Int32) (S : GS) : ∀ a, f_X2_pressureIn o x1 S = some a → Ct l E yX2_pressureIn cX2_pressureIn 2 (some .int) rm_X2_pressureIn [vA (some o), vI x1] S (some (vI a)) S :=
  Ct_of (val := fun b => some (vI b)) (nxt := fun _ => S) (by decide) (Nat.le_of_ble_eq_true rfl) (fun Γ hl hO => w_X2_pressureIn hO o x1 S)
theorem d_X2_meetFate_0 : gD cX2_meetFate 0 (.iload_n 1) 1 1 := ⟨by decide +kernel, rfl⟩
theorem d_X2_meetFate_1 : gD cX2_meetFate 1 (.ifCond .lt 9) 3 4 ∧ ((1 : Nat) : Int) + 9 = ((10 : Nat) : Int) := ⟨⟨by decide +kernel, rfl⟩, by decide⟩
theorem d_X2_meetFate_4 : gD cX2_meetFate 4 (.iload_n 1) 1 5 := ⟨by decide +kernel, rfl⟩
theorem d_X2_meetFate_5 : gD cX2_meetFate 5 (.bipush 8) 2 7 := ⟨by decide +kernel, rfl⟩
theorem d_X2_meetFate_7 : gD cX2_meetFate 7 (.if_icmp .lt 4) 3 10 ∧ ((7 : Nat) : Int) + 4 = ((11 : Nat) : Int) := ⟨⟨by decide +kernel, rfl⟩, by decide⟩
theorem d_X2_meetFate_10 : gD cX2_meetFate 10 (.return_) 1 11 := ⟨by decide +kernel, rfl⟩
theorem d_X2_meetFate_11 : gD cX2_meetFate 11 (.aload_n 0) 1 12 := ⟨by decide +kernel, rfl⟩
theorem d_X2_meetFate_12 : gD cX2_meetFate 12 (.getfield 40) 3 15 := ⟨by decide +kernel, rfl⟩
theorem d_X2_meetFate_15 : gD cX2_meetFate 15 (.iload_n 1) 1 16 := ⟨by decide +kernel, rfl⟩
theorem d_X2_meetFate_16 : gD cX2_meetFate 16 (.aload_n 0) 1 17 := ⟨by decide +kernel, rfl⟩
theorem d_X2_meetFate_17 : gD cX2_meetFate 17 (.getfield 22) 3 20 := ⟨by decide +kernel, rfl⟩
theorem d_X2_meetFate_20 : gD cX2_meetFate 20 (.iload_n 1) 1 21 := ⟨by decide +kernel, rfl⟩
theorem d_X2_meetFate_21 : gD cX2_meetFate 21 (.iaload) 1 22 := ⟨by decide +kernel, rfl⟩
theorem d_X2_meetFate_22 : gD cX2_meetFate 22 (.aload_n 0) 1 23 := ⟨by decide +kernel, rfl⟩
theorem d_X2_meetFate_23 : gD cX2_meetFate 23 (.aload_n 0) 1 24 := ⟨by decide +kernel, rfl⟩
theorem d_X2_meetFate_24 : gD cX2_meetFate 24 (.getfield 19) 3 27 := ⟨by decide +kernel, rfl⟩
theorem d_X2_meetFate_27 : gD cX2_meetFate 27 (.iload_n 1) 1 28 := ⟨by decide +kernel, rfl⟩
theorem d_X2_meetFate_28 : gD cX2_meetFate 28 (.iaload) 1 29 := ⟨by decide +kernel, rfl⟩
theorem d_X2_meetFate_29 : gD cX2_meetFate 29 (.invokevirtual 157) 3 32 := ⟨by decide +kernel, rfl⟩
theorem d_X2_meetFate_32 : gD cX2_meetFate 32 (.invokevirtual 160) 3 35 := ⟨by decide +kernel, rfl⟩
theorem d_X2_meetFate_35 : gD cX2_meetFate 35 (.istore_n 2) 1 36 := ⟨by decide +kernel, rfl⟩
theorem d_X2_meetFate_36 : gD cX2_meetFate 36 (.iload_n 2) 1 37 := ⟨by decide +kernel, rfl⟩
theorem d_X2_meetFate_37 : gD cX2_meetFate 37 (.ifCond .ne 4) 3 40 ∧ ((37 : Nat) : Int) + 4 = ((41 : Nat) : Int) := ⟨⟨by decide +kernel, rfl⟩, by decide⟩
theorem d_X2_meetFate_40 : gD cX2_meetFate 40 (.return_) 1 41 := ⟨by decide +kernel, rfl⟩
theorem d_X2_meetFate_41 : gD cX2_meetFate 41 (.aload_n 0) 1 42 := ⟨by decide +kernel, rfl⟩
theorem d_X2_meetFate_42 : gD cX2_meetFate 42 (.getfield 34) 3 45 := ⟨by decide +kernel, rfl⟩
theorem d_X2_meetFate_45 : gD cX2_meetFate 45 (.iload_n 1) 1 46 := ⟨by decide +kernel, rfl⟩
theorem d_X2_meetFate_46 : gD cX2_meetFate 46 (.aload_n 0) 1 47 := ⟨by decide +kernel, rfl⟩
theorem d_X2_meetFate_47 : gD cX2_meetFate 47 (.getfield 49) 3 50 := ⟨by decide +kernel, rfl⟩
theorem d_X2_meetFate_50 : gD cX2_meetFate 50 (.iastore) 1 51 := ⟨by decide +kernel, rfl⟩
theorem d_X2_meetFate_51 : gD cX2_meetFate 51 (.iload_n 2) 1 52 := ⟨by decide +kernel, rfl⟩
theorem d_X2_meetFate_52 : gD cX2_meetFate 52 (.iconst 2) 1 53 := ⟨by decide +kernel, rfl⟩
theorem d_X2_meetFate_53 : gD cX2_meetFate 53 (.if_icmp .ne 13) 3 56 ∧ ((53 : Nat) : Int) + 13 = ((66 : Nat) : Int) := ⟨⟨by decide +kernel, rfl⟩, by decide⟩
theorem d_X2_meetFate_56 : gD cX2_meetFate 56 (.aload_n 0) 1 57 := ⟨by decide +kernel, rfl⟩
theorem d_X2_meetFate_57 : gD cX2_meetFate 57 (.getfield 28) 3 60 := ⟨by decide +kernel, rfl⟩
theorem d_X2_meetFate_60 : gD cX2_meetFate 60 (.iload_n 1) 1 61 := ⟨by decide +kernel, rfl⟩
theorem d_X2_meetFate_61 : gD cX2_meetFate 61 (.iconst 1) 1 62 := ⟨by decide +kernel, rfl⟩
theorem d_X2_meetFate_62 : gD cX2_meetFate 62 (.bastore) 1 63 := ⟨by decide +kernel, rfl⟩
theorem d_X2_meetFate_63 : decode cX2_meetFate 63 = .ok (.goto 26, 3) ∧ ((63 : Nat) : Int) + 26 = ((89 : Nat) : Int) := ⟨by decide +kernel, by decide⟩
theorem d_X2_meetFate_66 : gD cX2_meetFate 66 (.aload_n 0) 1 67 := ⟨by decide +kernel, rfl⟩
theorem d_X2_meetFate_67 : gD cX2_meetFate 67 (.getfield 31) 3 70 := ⟨by decide +kernel, rfl⟩
theorem d_X2_meetFate_70 : gD cX2_meetFate 70 (.iload_n 1) 1 71 := ⟨by decide +kernel, rfl⟩
theorem d_X2_meetFate_71 : gD cX2_meetFate 71 (.dup2) 1 72 := ⟨by decide +kernel, rfl⟩
theorem d_X2_meetFate_72 : gD cX2_meetFate 72 (.iaload) 1 73 := ⟨by decide +kernel, rfl⟩
theorem d_X2_meetFate_73 : gD cX2_meetFate 73 (.iconst 1) 1 74 := ⟨by decide +kernel, rfl⟩
theorem d_X2_meetFate_74 : gD cX2_meetFate 74 (.iadd) 1 75 := ⟨by decide +kernel, rfl⟩
theorem d_X2_meetFate_75 : gD cX2_meetFate 75 (.iastore) 1 76 := ⟨by decide +kernel, rfl⟩
theorem d_X2_meetFate_76 : gD cX2_meetFate 76 (.aload_n 0) 1 77 := ⟨by decide +kernel, rfl⟩
theorem d_X2_meetFate_77 : gD cX2_meetFate 77 (.getfield 25) 3 80 := ⟨by decide +kernel, rfl⟩
theorem d_X2_meetFate_80 : gD cX2_meetFate 80 (.iload_n 1) 1 81 := ⟨by decide +kernel, rfl⟩
theorem d_X2_meetFate_81 : gD cX2_meetFate 81 (.aload_n 0) 1 82 := ⟨by decide +kernel, rfl⟩
theorem d_X2_meetFate_82 : gD cX2_meetFate 82 (.getfield 40) 3 85 := ⟨by decide +kernel, rfl⟩
theorem d_X2_meetFate_85 : gD cX2_meetFate 85 (.getfield 164) 3 88 := ⟨by decide +kernel, rfl⟩
theorem d_X2_meetFate_88 : gD cX2_meetFate 88 (.iastore) 1 89 := ⟨by decide +kernel, rfl⟩
theorem d_X2_meetFate_89 : gD cX2_meetFate 89 (.return_) 1 90 := ⟨by decide +kernel, rfl⟩
abbrev rm_X2_meetFate : Room := { frames := 2, cells := 0, slots := 0, locals := 45 }
set_option maxRecDepth 20000 in
theorem w_X2_meetFate {Γ : GC} {E : GE} (hO : gOk Γ E cX2_meetFate RX2 3 rm_X2_meetFate none "meetFate") (o : Nat) (x1 : Int32) (S : GS) : Go Γ E (gBsV Γ E) 3 (0, 0) 0 S [(0, vA (some o)), (1, vI x1)] [] (f_X2_meetFate o x1 S) := by
  unfold f_X2_meetFate
  refine g_iload_n hO d_X2_meetFate_0 (by rfl) 1 rfl ?_
  refine g_if_lt (tgt := 10) hO d_X2_meetFate_1.1 d_X2_meetFate_1.2 (fun _ => ?_) (fun _ => ?_)
  · skip
    exact g_vret hO rfl ⟨Nat.le_of_ble_eq_true rfl, Nat.le_of_ble_eq_true rfl⟩ rfl rfl d_X2_meetFate_10.1
  · skip
    refine g_iload_n hO d_X2_meetFate_4 (by rfl) 1 rfl ?_
    refine g_bipush hO 8 d_X2_meetFate_5 (by decide) ?_
    refine g_ic_lt (tgt := 11) hO d_X2_meetFate_7.1 d_X2_meetFate_7.2 (fun _ => ?_) (fun _ => ?_)
    · skip
      refine g_aload_n hO d_X2_meetFate_11 (by rfl) 0 rfl ?_
      refine h_getR hO cl_X2 8 rfl wf_X2_40 d_X2_meetFate_12 (fun v1 => ?_)
      refine g_iload_n hO d_X2_meetFate_15 (by rfl) 1 rfl ?_
      refine g_aload_n hO d_X2_meetFate_16 (by rfl) 0 rfl ?_
      refine h_getR hO cl_X2 3 rfl wf_X2_22 d_X2_meetFate_17 (fun v2 => ?_)
      refine g_iload_n hO d_X2_meetFate_20 (by rfl) 1 rfl ?_
      refine h_iald hO d_X2_meetFate_21 (fun v3 => ?_)
      refine g_aload_n hO d_X2_meetFate_22 (by rfl) 0 rfl ?_
      refine g_aload_n hO d_X2_meetFate_23 (by rfl) 0 rfl ?_
      refine h_getR hO cl_X2 2 rfl wf_X2_19 d_X2_meetFate_24 (fun v4 => ?_)
      refine g_iload_n hO d_X2_meetFate_27 (by rfl) 1 rfl ?_
      refine h_iald hO d_X2_meetFate_28 (fun v5 => ?_)
      refine k_virtIp hO cl_X2 mm_X2_pressureIn lkV_X2_157 ⟨⟨Nat.le_of_ble_eq_true rfl, Nat.le_of_ble_eq_true rfl⟩, Nat.le_of_ble_eq_true rfl, Nat.le_of_ble_eq_true rfl⟩ (kn' := (0, 0)) rfl (As := [vI v5]) rfl (Nat.le_of_ble_eq_true rfl) (fun o' _ => t_X2_pressureIn Γ.2.1 E o' v5 S) d_X2_meetFate_29 rfl (fun v6 => ?_)
      refine k_virtIp hO cl_X0 mm_X0_fate lkV_X2_160 ⟨⟨Nat.le_of_ble_eq_true rfl, Nat.le_of_ble_eq_true rfl⟩, Nat.le_of_ble_eq_true rfl, Nat.le_of_ble_eq_true rfl⟩ (kn' := (0, 0)) rfl (As := [vI x1, vI v3, vI v6]) rfl (Nat.le_of_ble_eq_true rfl) (fun o' _ => t_X0_fate Γ.2.1 E o' x1 v3 v6 S) d_X2_meetFate_32 rfl (fun v8 => ?_)
      refine g_istore_n (lv' := [(2, vI v8), (0, vA (some o)), (1, vI x1)]) hO d_X2_meetFate_35 (by rfl) (by decide) rfl ?_
      refine g_iload_n hO d_X2_meetFate_36 (by rfl) 0 rfl ?_
      refine g_if_ne (tgt := 41) hO d_X2_meetFate_37.1 d_X2_meetFate_37.2 (fun _ => ?_) (fun _ => ?_)
      · skip
        exact g_vret hO rfl ⟨Nat.le_of_ble_eq_true rfl, Nat.le_of_ble_eq_true rfl⟩ rfl rfl d_X2_meetFate_40.1
      · skip
        refine g_aload_n hO d_X2_meetFate_41 (by rfl) 1 rfl ?_
        refine h_getR hO cl_X2 7 rfl wf_X2_34 d_X2_meetFate_42 (fun v10 => ?_)
        refine g_iload_n hO d_X2_meetFate_45 (by rfl) 2 rfl ?_
        refine g_aload_n hO d_X2_meetFate_46 (by rfl) 1 rfl ?_
        refine h_getI hO cl_X2 11 rfl wf_X2_49 d_X2_meetFate_47 (fun v11 => ?_)
        refine h_iast hO d_X2_meetFate_50 (fun S12 => ?_)
        refine g_iload_n hO d_X2_meetFate_51 (by rfl) 0 rfl ?_
        refine g_iconst hO 2 d_X2_meetFate_52 (by decide) ?_
        refine g_ic_ne (tgt := 66) hO d_X2_meetFate_53.1 d_X2_meetFate_53.2 (fun _ => ?_) (fun _ => ?_)
        · skip
          refine g_aload_n hO d_X2_meetFate_56 (by rfl) 1 rfl ?_
          refine h_getR hO cl_X2 5 rfl wf_X2_28 d_X2_meetFate_57 (fun v13 => ?_)
          refine g_iload_n hO d_X2_meetFate_60 (by rfl) 2 rfl ?_
          refine g_iconst hO 1 d_X2_meetFate_61 (by decide) ?_
          refine h_zast hO d_X2_meetFate_62 (fun S14 => ?_)
          refine g_goto (tgt := 89) hO d_X2_meetFate_63.1 d_X2_meetFate_63.2 ?_
          exact g_vret hO rfl ⟨Nat.le_of_ble_eq_true rfl, Nat.le_of_ble_eq_true rfl⟩ rfl rfl d_X2_meetFate_89.1
        · skip
          refine g_aload_n hO d_X2_meetFate_66 (by rfl) 1 rfl ?_
          refine h_getR hO cl_X2 6 rfl wf_X2_31 d_X2_meetFate_67 (fun v15 => ?_)
          refine g_iload_n hO d_X2_meetFate_70 (by rfl) 2 rfl ?_
          refine g_dup2 hO d_X2_meetFate_71 rfl rfl ?_
          refine h_iald hO d_X2_meetFate_72 (fun v16 => ?_)
          refine g_iconst hO 1 d_X2_meetFate_73 (by decide) ?_
          refine g_iadd hO d_X2_meetFate_74 ?_
          refine h_iast hO d_X2_meetFate_75 (fun S17 => ?_)
          refine g_aload_n hO d_X2_meetFate_76 (by rfl) 1 rfl ?_
          refine h_getR hO cl_X2 4 rfl wf_X2_25 d_X2_meetFate_77 (fun v18 => ?_)
          refine g_iload_n hO d_X2_meetFate_80 (by rfl) 2 rfl ?_
          refine g_aload_n hO d_X2_meetFate_81 (by rfl) 1 rfl ?_
          refine h_getR hO cl_X2 8 rfl wf_X2_40 d_X2_meetFate_82 (fun v19 => ?_)
          refine h_getI hO cl_X0 5 rfl wf_X2_164 d_X2_meetFate_85 (fun v20 => ?_)
          refine h_iast hO d_X2_meetFate_88 (fun S21 => ?_)
          exact g_vret hO rfl ⟨Nat.le_of_ble_eq_true rfl, Nat.le_of_ble_eq_true rfl⟩ rfl rfl d_X2_meetFate_89.1
    · skip
      exact g_vret hO rfl ⟨Nat.le_of_ble_eq_true rfl, Nat.le_of_ble_eq_true rfl⟩ rfl rfl d_X2_meetFate_10.1
theorem t_X2_meetFate (l : Launch) (E : GE) (o : Nat) (x1 : Int32) (S : GS) : ∀ a, f_X2_meetFate o x1 S = some a → Ct l E yX2_meetFate cX2_meetFate 3 none rm_X2_meetFate [vA (some o), vI x1] S none a :=
  Ct_of (val := fun _ => none) (nxt := fun b => b) (by decide) (Nat.le_of_ble_eq_true rfl) (fun Γ hl hO => w_X2_meetFate hO o x1 S)
theorem d_X2_tellersIn_0 : gD cX2_tellersIn 0 (.iconst 0) 1 1 := ⟨by decide +kernel, rfl⟩
theorem d_X2_tellersIn_1 : gD cX2_tellersIn 1 (.istore_n 2) 1 2 := ⟨by decide +kernel, rfl⟩
theorem d_X2_tellersIn_2 : gD cX2_tellersIn 2 (.iconst 0) 1 3 := ⟨by decide +kernel, rfl⟩
theorem d_X2_tellersIn_3 : gD cX2_tellersIn 3 (.istore_n 3) 1 4 := ⟨by decide +kernel, rfl⟩
theorem d_X2_tellersIn_4 : gD cX2_tellersIn 4 (.iload_n 3) 1 5 := ⟨by decide +kernel, rfl⟩
theorem d_X2_tellersIn_5 : gD cX2_tellersIn 5 (.bipush 8) 2 7 := ⟨by decide +kernel, rfl⟩
theorem d_X2_tellersIn_7 : gD cX2_tellersIn 7 (.if_icmp .ge 58) 3 10 ∧ ((7 : Nat) : Int) + 58 = ((65 : Nat) : Int) := ⟨⟨by decide +kernel, rfl⟩, by decide⟩
theorem d_X2_tellersIn_10 : gD cX2_tellersIn 10 (.aload_n 0) 1 11 := ⟨by decide +kernel, rfl⟩
theorem d_X2_tellersIn_11 : gD cX2_tellersIn 11 (.iload_n 3) 1 12 := ⟨by decide +kernel, rfl⟩
theorem d_X2_tellersIn_12 : gD cX2_tellersIn 12 (.invokevirtual 127) 3 15 := ⟨by decide +kernel, rfl⟩
theorem d_X2_tellersIn_15 : gD cX2_tellersIn 15 (.ifCond .eq 44) 3 18 ∧ ((15 : Nat) : Int) + 44 = ((59 : Nat) : Int) := ⟨⟨by decide +kernel, rfl⟩, by decide⟩
theorem d_X2_tellersIn_18 : gD cX2_tellersIn 18 (.aload_n 0) 1 19 := ⟨by decide +kernel, rfl⟩
theorem d_X2_tellersIn_19 : gD cX2_tellersIn 19 (.iload_n 3) 1 20 := ⟨by decide +kernel, rfl⟩
theorem d_X2_tellersIn_20 : gD cX2_tellersIn 20 (.invokevirtual 130) 3 23 := ⟨by decide +kernel, rfl⟩
theorem d_X2_tellersIn_23 : gD cX2_tellersIn 23 (.ifCond .eq 36) 3 26 ∧ ((23 : Nat) : Int) + 36 = ((59 : Nat) : Int) := ⟨⟨by decide +kernel, rfl⟩, by decide⟩
theorem d_X2_tellersIn_26 : gD cX2_tellersIn 26 (.aload_n 0) 1 27 := ⟨by decide +kernel, rfl⟩
theorem d_X2_tellersIn_27 : gD cX2_tellersIn 27 (.getfield 19) 3 30 := ⟨by decide +kernel, rfl⟩
theorem d_X2_tellersIn_30 : gD cX2_tellersIn 30 (.iload_n 3) 1 31 := ⟨by decide +kernel, rfl⟩
theorem d_X2_tellersIn_31 : gD cX2_tellersIn 31 (.iaload) 1 32 := ⟨by decide +kernel, rfl⟩
theorem d_X2_tellersIn_32 : gD cX2_tellersIn 32 (.iload_n 1) 1 33 := ⟨by decide +kernel, rfl⟩
theorem d_X2_tellersIn_33 : gD cX2_tellersIn 33 (.if_icmp .ne 26) 3 36 ∧ ((33 : Nat) : Int) + 26 = ((59 : Nat) : Int) := ⟨⟨by decide +kernel, rfl⟩, by decide⟩
theorem d_X2_tellersIn_36 : gD cX2_tellersIn 36 (.aload_n 0) 1 37 := ⟨by decide +kernel, rfl⟩
theorem d_X2_tellersIn_37 : gD cX2_tellersIn 37 (.getfield 40) 3 40 := ⟨by decide +kernel, rfl⟩
theorem d_X2_tellersIn_40 : gD cX2_tellersIn 40 (.getfield 70) 3 43 := ⟨by decide +kernel, rfl⟩
theorem d_X2_tellersIn_43 : gD cX2_tellersIn 43 (.iload_n 3) 1 44 := ⟨by decide +kernel, rfl⟩
theorem d_X2_tellersIn_44 : gD cX2_tellersIn 44 (.iconst 4) 1 45 := ⟨by decide +kernel, rfl⟩
theorem d_X2_tellersIn_45 : gD cX2_tellersIn 45 (.invokevirtual 74) 3 48 := ⟨by decide +kernel, rfl⟩
theorem d_X2_tellersIn_48 : gD cX2_tellersIn 48 (.aload_n 0) 1 49 := ⟨by decide +kernel, rfl⟩
theorem d_X2_tellersIn_49 : gD cX2_tellersIn 49 (.iload_n 1) 1 50 := ⟨by decide +kernel, rfl⟩
theorem d_X2_tellersIn_50 : gD cX2_tellersIn 50 (.invokevirtual 157) 3 53 := ⟨by decide +kernel, rfl⟩
theorem d_X2_tellersIn_53 : gD cX2_tellersIn 53 (.if_icmp .gt 6) 3 56 ∧ ((53 : Nat) : Int) + 6 = ((59 : Nat) : Int) := ⟨⟨by decide +kernel, rfl⟩, by decide⟩
theorem d_X2_tellersIn_56 : gD cX2_tellersIn 56 (.iinc 2 1) 3 59 := ⟨by decide +kernel, rfl⟩
theorem d_X2_tellersIn_59 : gD cX2_tellersIn 59 (.iinc 3 1) 3 62 := ⟨by decide +kernel, rfl⟩
theorem d_X2_tellersIn_62 : decode cX2_tellersIn 62 = .ok (.goto (-58), 3) ∧ ((62 : Nat) : Int) + (-58) = ((4 : Nat) : Int) := ⟨by decide +kernel, by decide⟩
theorem d_X2_tellersIn_65 : gD cX2_tellersIn 65 (.iload_n 2) 1 66 := ⟨by decide +kernel, rfl⟩
theorem d_X2_tellersIn_66 : gD cX2_tellersIn 66 (.ireturn) 1 67 := ⟨by decide +kernel, rfl⟩
abbrev rm_X2_tellersIn : Room := { frames := 2, cells := 0, slots := 0, locals := 43 }
set_option maxRecDepth 20000 in
theorem w_X2_tellersIn_59 {Γ : GC} {E : GE} (hO : gOk Γ E cX2_tellersIn RX2 4 rm_X2_tellersIn (some .int) "tellersIn") (o : Nat) (S : GS) {k4 : (Int32 → Int32 → Int32 → Option Int32)} (hk4 : ∀ (z1 : Int32) (z2 : Int32) (z3 : Int32), Go Γ E (gBpI Γ E S) 4 (0, 0) 4 S [(0, vA (some o)), (1, vI z1), (2, vI z2), (3, vI z3)] [] (k4 z1 z2 z3)) (x1 : Int32) (x2 : Int32) (x3 : Int32) : Go Γ E (gBpI Γ E S) 4 (0, 0) 59 S [(0, vA (some o)), (1, vI x1), (2, vI x2), (3, vI x3)] [] (f_X2_tellersIn_59 k4 o S x1 x2 x3) := by
  unfold f_X2_tellersIn_59
  refine g_iinc (lv' := [(3, vI (x3 + 1)), (0, vA (some o)), (1, vI x1), (2, vI x2)]) hO 1 d_X2_tellersIn_59 (by decide) 3 rfl (by decide) rfl ?_
  refine g_goto (tgt := 4) hO d_X2_tellersIn_62.1 d_X2_tellersIn_62.2 ?_
  exact g_sub [1, 2, 3, 0] rfl (hk4 _ _ _)
set_option maxRecDepth 20000 in
theorem w_X2_tellersIn_4 {Γ : GC} {E : GE} (hO : gOk Γ E cX2_tellersIn RX2 4 rm_X2_tellersIn (some .int) "tellersIn") (o : Nat) (S : GS) : ∀ (n : Nat) (x1 : Int32) (x2 : Int32) (x3 : Int32), Go Γ E (gBpI Γ E S) 4 (0, 0) 4 S [(0, vA (some o)), (1, vI x1), (2, vI x2), (3, vI x3)] [] (f_X2_tellersIn_4 o S n x1 x2 x3) := by
  intro n
  induction n with
  | zero =>
    intro x1 x2 x3
    exact g_none
  | succ n ih =>
    intro x1 x2 x3
    rw [f_X2_tellersIn_4]
    refine g_iload_n hO d_X2_tellersIn_4 (by rfl) 3 rfl ?_
    refine g_bipush hO 8 d_X2_tellersIn_5 (by decide) ?_
    refine g_ic_ge (tgt := 65) hO d_X2_tellersIn_7.1 d_X2_tellersIn_7.2 (fun _ => ?_) (fun _ => ?_)
    · skip
      refine g_iload_n hO d_X2_tellersIn_65 (by rfl) 2 rfl ?_
      exact g_ret hO rfl rfl ⟨Nat.le_of_ble_eq_true rfl, Nat.le_of_ble_eq_true rfl⟩ rfl rfl d_X2_tellersIn_66.1
    · skip
      refine g_aload_n hO d_X2_tellersIn_10 (by rfl) 0 rfl ?_
      refine g_iload_n hO d_X2_tellersIn_11 (by rfl) 3 rfl ?_
      refine k_virtIp hO cl_X2 mm_X2_hasLady lkV_X2_127 ⟨⟨Nat.le_of_ble_eq_true rfl, Nat.le_of_ble_eq_true rfl⟩, Nat.le_of_ble_eq_true rfl, Nat.le_of_ble_eq_true rfl⟩ (kn' := (0, 0)) rfl (As := [vI x3]) rfl (Nat.le_of_ble_eq_true rfl) (fun o' _ => t_X2_hasLady Γ.2.1 E o' x3 S) d_X2_tellersIn_12 rfl (fun v1 => ?_)
      refine g_if_eq (tgt := 59) hO d_X2_tellersIn_15.1 d_X2_tellersIn_15.2 (fun _ => ?_) (fun _ => ?_)
      · skip
        exact g_sub [0, 1, 2, 3] rfl (w_X2_tellersIn_59 hO o _ ih _ _ _)
      · skip
        refine g_aload_n hO d_X2_tellersIn_18 (by rfl) 0 rfl ?_
        refine g_iload_n hO d_X2_tellersIn_19 (by rfl) 3 rfl ?_
        refine k_virtIp hO cl_X2 mm_X2_isUp lkV_X2_130 ⟨⟨Nat.le_of_ble_eq_true rfl, Nat.le_of_ble_eq_true rfl⟩, Nat.le_of_ble_eq_true rfl, Nat.le_of_ble_eq_true rfl⟩ (kn' := (0, 0)) rfl (As := [vI x3]) rfl (Nat.le_of_ble_eq_true rfl) (fun o' _ => t_X2_isUp Γ.2.1 E o' x3 S) d_X2_tellersIn_20 rfl (fun v3 => ?_)
        refine g_if_eq (tgt := 59) hO d_X2_tellersIn_23.1 d_X2_tellersIn_23.2 (fun _ => ?_) (fun _ => ?_)
        · skip
          exact g_sub [0, 1, 2, 3] rfl (w_X2_tellersIn_59 hO o _ ih _ _ _)
        · skip
          refine g_aload_n hO d_X2_tellersIn_26 (by rfl) 0 rfl ?_
          refine h_getR hO cl_X2 2 rfl wf_X2_19 d_X2_tellersIn_27 (fun v5 => ?_)
          refine g_iload_n hO d_X2_tellersIn_30 (by rfl) 3 rfl ?_
          refine h_iald hO d_X2_tellersIn_31 (fun v6 => ?_)
          refine g_iload_n hO d_X2_tellersIn_32 (by rfl) 1 rfl ?_
          refine g_ic_ne (tgt := 59) hO d_X2_tellersIn_33.1 d_X2_tellersIn_33.2 (fun _ => ?_) (fun _ => ?_)
          · skip
            refine g_aload_n hO d_X2_tellersIn_36 (by rfl) 0 rfl ?_
            refine h_getR hO cl_X2 8 rfl wf_X2_40 d_X2_tellersIn_37 (fun v7 => ?_)
            refine h_getR hO cl_X0 1 rfl wf_X2_70 d_X2_tellersIn_40 (fun v8 => ?_)
            refine g_iload_n hO d_X2_tellersIn_43 (by rfl) 3 rfl ?_
            refine g_iconst hO 4 d_X2_tellersIn_44 (by decide) ?_
            refine k_virtIp hO cl_X7 mm_X7_cell lkV_X2_74 ⟨⟨Nat.le_of_ble_eq_true rfl, Nat.le_of_ble_eq_true rfl⟩, Nat.le_of_ble_eq_true rfl, Nat.le_of_ble_eq_true rfl⟩ (kn' := (0, 0)) rfl (As := [vI x3, vI 4]) rfl (Nat.le_of_ble_eq_true rfl) (fun o' _ => t_X7_cell Γ.2.1 E o' x3 4 S) d_X2_tellersIn_45 rfl (fun v9 => ?_)
            refine g_aload_n hO d_X2_tellersIn_48 (by rfl) 0 rfl ?_
            refine g_iload_n hO d_X2_tellersIn_49 (by rfl) 1 rfl ?_
            refine k_virtIp hO cl_X2 mm_X2_pressureIn lkV_X2_157 ⟨⟨Nat.le_of_ble_eq_true rfl, Nat.le_of_ble_eq_true rfl⟩, Nat.le_of_ble_eq_true rfl, Nat.le_of_ble_eq_true rfl⟩ (kn' := (0, 0)) rfl (As := [vI x1]) rfl (Nat.le_of_ble_eq_true rfl) (fun o' _ => t_X2_pressureIn Γ.2.1 E o' x1 S) d_X2_tellersIn_50 rfl (fun v11 => ?_)
            refine g_ic_gt (tgt := 59) hO d_X2_tellersIn_53.1 d_X2_tellersIn_53.2 (fun _ => ?_) (fun _ => ?_)
            · skip
              exact g_sub [0, 1, 2, 3] rfl (w_X2_tellersIn_59 hO o _ ih _ _ _)
            · skip
              refine g_iinc (lv' := [(2, vI (x2 + 1)), (0, vA (some o)), (1, vI x1), (3, vI x3)]) hO 1 d_X2_tellersIn_56 (by decide) 2 rfl (by decide) rfl ?_
              exact g_sub [1, 2, 0, 3] rfl (w_X2_tellersIn_59 hO o _ ih _ _ _)
          · skip
            exact g_sub [0, 1, 2, 3] rfl (w_X2_tellersIn_59 hO o _ ih _ _ _)
set_option maxRecDepth 20000 in
theorem w_X2_tellersIn {Γ : GC} {E : GE} (hO : gOk Γ E cX2_tellersIn RX2 4 rm_X2_tellersIn (some .int) "tellersIn") (o : Nat) (x1 : Int32) (S : GS) : Go Γ E (gBpI Γ E S) 4 (0, 0) 0 S [(0, vA (some o)), (1, vI x1)] [] (f_X2_tellersIn o x1 S) := by
  unfold f_X2_tellersIn
  refine g_iconst hO 0 d_X2_tellersIn_0 (by decide) ?_
  refine g_istore_n (lv' := [(2, vI 0), (0, vA (some o)), (1, vI x1)]) hO d_X2_tellersIn_1 (by rfl) (by decide) rfl ?_
  refine g_iconst hO 0 d_X2_tellersIn_2 (by decide) ?_
  refine g_istore_n (lv' := [(3, vI 0), (2, vI 0), (0, vA (some o)), (1, vI x1)]) hO d_X2_tellersIn_3 (by rfl) (by decide) rfl ?_
  exact g_sub [2, 3, 1, 0] rfl (w_X2_tellersIn_4 hO o _ _ _ _ _)
theorem t_X2_tellersIn (l : Launch) (E : GE) (o : Nat) (x1 : Int32) (S : GS) : ∀ a, f_X2_tellersIn o x1 S = some a → Ct l E yX2_tellersIn cX2_tellersIn 4 (some .int) rm_X2_tellersIn [vA (some o), vI x1] S (some (vI a)) S :=
  Ct_of (val := fun b => some (vI b)) (nxt := fun _ => S) (by decide) (Nat.le_of_ble_eq_true rfl) (fun Γ hl hO => w_X2_tellersIn hO o x1 S)
theorem d_X2_passMinute_0 : gD cX2_passMinute 0 (.aload_n 0) 1 1 := ⟨by decide +kernel, rfl⟩
theorem d_X2_passMinute_1 : gD cX2_passMinute 1 (.dup) 1 2 := ⟨by decide +kernel, rfl⟩
theorem d_X2_passMinute_2 : gD cX2_passMinute 2 (.getfield 49) 3 5 := ⟨by decide +kernel, rfl⟩
theorem d_X2_passMinute_5 : gD cX2_passMinute 5 (.iconst 1) 1 6 := ⟨by decide +kernel, rfl⟩
theorem d_X2_passMinute_6 : gD cX2_passMinute 6 (.iadd) 1 7 := ⟨by decide +kernel, rfl⟩
theorem d_X2_passMinute_7 : gD cX2_passMinute 7 (.putfield 49) 3 10 := ⟨by decide +kernel, rfl⟩
theorem d_X2_passMinute_10 : gD cX2_passMinute 10 (.iconst 0) 1 11 := ⟨by decide +kernel, rfl⟩
theorem d_X2_passMinute_11 : gD cX2_passMinute 11 (.istore_n 1) 1 12 := ⟨by decide +kernel, rfl⟩
theorem d_X2_passMinute_12 : gD cX2_passMinute 12 (.iload_n 1) 1 13 := ⟨by decide +kernel, rfl⟩
theorem d_X2_passMinute_13 : gD cX2_passMinute 13 (.iconst 4) 1 14 := ⟨by decide +kernel, rfl⟩
theorem d_X2_passMinute_14 : gD cX2_passMinute 14 (.if_icmp .ge 40) 3 17 ∧ ((14 : Nat) : Int) + 40 = ((54 : Nat) : Int) := ⟨⟨by decide +kernel, rfl⟩, by decide⟩
theorem d_X2_passMinute_17 : gD cX2_passMinute 17 (.aload_n 0) 1 18 := ⟨by decide +kernel, rfl⟩
theorem d_X2_passMinute_18 : gD cX2_passMinute 18 (.getfield 15) 3 21 := ⟨by decide +kernel, rfl⟩
theorem d_X2_passMinute_21 : gD cX2_passMinute 21 (.iload_n 1) 1 22 := ⟨by decide +kernel, rfl⟩
theorem d_X2_passMinute_22 : gD cX2_passMinute 22 (.baload) 1 23 := ⟨by decide +kernel, rfl⟩
theorem d_X2_passMinute_23 : gD cX2_passMinute 23 (.ifCond .eq 25) 3 26 ∧ ((23 : Nat) : Int) + 25 = ((48 : Nat) : Int) := ⟨⟨by decide +kernel, rfl⟩, by decide⟩
theorem d_X2_passMinute_26 : gD cX2_passMinute 26 (.aload_n 0) 1 27 := ⟨by decide +kernel, rfl⟩
theorem d_X2_passMinute_27 : gD cX2_passMinute 27 (.getfield 9) 3 30 := ⟨by decide +kernel, rfl⟩
theorem d_X2_passMinute_30 : gD cX2_passMinute 30 (.iload_n 1) 1 31 := ⟨by decide +kernel, rfl⟩
theorem d_X2_passMinute_31 : gD cX2_passMinute 31 (.dup2) 1 32 := ⟨by decide +kernel, rfl⟩
theorem d_X2_passMinute_32 : gD cX2_passMinute 32 (.iaload) 1 33 := ⟨by decide +kernel, rfl⟩
theorem d_X2_passMinute_33 : gD cX2_passMinute 33 (.aload_n 0) 1 34 := ⟨by decide +kernel, rfl⟩
theorem d_X2_passMinute_34 : gD cX2_passMinute 34 (.getfield 48) 3 37 := ⟨by decide +kernel, rfl⟩
theorem d_X2_passMinute_37 : gD cX2_passMinute 37 (.aload_n 0) 1 38 := ⟨by decide +kernel, rfl⟩
theorem d_X2_passMinute_38 : gD cX2_passMinute 38 (.getfield 9) 3 41 := ⟨by decide +kernel, rfl⟩
theorem d_X2_passMinute_41 : gD cX2_passMinute 41 (.iload_n 1) 1 42 := ⟨by decide +kernel, rfl⟩
theorem d_X2_passMinute_42 : gD cX2_passMinute 42 (.iaload) 1 43 := ⟨by decide +kernel, rfl⟩
theorem d_X2_passMinute_43 : gD cX2_passMinute 43 (.invokestatic 144) 3 46 := ⟨by decide +kernel, rfl⟩
theorem d_X2_passMinute_46 : gD cX2_passMinute 46 (.iadd) 1 47 := ⟨by decide +kernel, rfl⟩
theorem d_X2_passMinute_47 : gD cX2_passMinute 47 (.iastore) 1 48 := ⟨by decide +kernel, rfl⟩
theorem d_X2_passMinute_48 : gD cX2_passMinute 48 (.iinc 1 1) 3 51 := ⟨by decide +kernel, rfl⟩
theorem d_X2_passMinute_51 : decode cX2_passMinute 51 = .ok (.goto (-39), 3) ∧ ((51 : Nat) : Int) + (-39) = ((12 : Nat) : Int) := ⟨by decide +kernel, by decide⟩
theorem d_X2_passMinute_54 : gD cX2_passMinute 54 (.iconst 0) 1 55 := ⟨by decide +kernel, rfl⟩
theorem d_X2_passMinute_55 : gD cX2_passMinute 55 (.istore_n 1) 1 56 := ⟨by decide +kernel, rfl⟩
theorem d_X2_passMinute_56 : gD cX2_passMinute 56 (.iload_n 1) 1 57 := ⟨by decide +kernel, rfl⟩
theorem d_X2_passMinute_57 : gD cX2_passMinute 57 (.bipush 8) 2 59 := ⟨by decide +kernel, rfl⟩
theorem d_X2_passMinute_59 : gD cX2_passMinute 59 (.if_icmp .ge 27) 3 62 ∧ ((59 : Nat) : Int) + 27 = ((86 : Nat) : Int) := ⟨⟨by decide +kernel, rfl⟩, by decide⟩
theorem d_X2_passMinute_62 : gD cX2_passMinute 62 (.aload_n 0) 1 63 := ⟨by decide +kernel, rfl⟩
theorem d_X2_passMinute_63 : gD cX2_passMinute 63 (.getfield 25) 3 66 := ⟨by decide +kernel, rfl⟩
theorem d_X2_passMinute_66 : gD cX2_passMinute 66 (.iload_n 1) 1 67 := ⟨by decide +kernel, rfl⟩
theorem d_X2_passMinute_67 : gD cX2_passMinute 67 (.iconst 0) 1 68 := ⟨by decide +kernel, rfl⟩
theorem d_X2_passMinute_68 : gD cX2_passMinute 68 (.aload_n 0) 1 69 := ⟨by decide +kernel, rfl⟩
theorem d_X2_passMinute_69 : gD cX2_passMinute 69 (.getfield 25) 3 72 := ⟨by decide +kernel, rfl⟩
theorem d_X2_passMinute_72 : gD cX2_passMinute 72 (.iload_n 1) 1 73 := ⟨by decide +kernel, rfl⟩
theorem d_X2_passMinute_73 : gD cX2_passMinute 73 (.iaload) 1 74 := ⟨by decide +kernel, rfl⟩
theorem d_X2_passMinute_74 : gD cX2_passMinute 74 (.iconst 1) 1 75 := ⟨by decide +kernel, rfl⟩
theorem d_X2_passMinute_75 : gD cX2_passMinute 75 (.isub) 1 76 := ⟨by decide +kernel, rfl⟩
theorem d_X2_passMinute_76 : gD cX2_passMinute 76 (.invokestatic 147) 3 79 := ⟨by decide +kernel, rfl⟩
theorem d_X2_passMinute_79 : gD cX2_passMinute 79 (.iastore) 1 80 := ⟨by decide +kernel, rfl⟩
theorem d_X2_passMinute_80 : gD cX2_passMinute 80 (.iinc 1 1) 3 83 := ⟨by decide +kernel, rfl⟩
theorem d_X2_passMinute_83 : decode cX2_passMinute 83 = .ok (.goto (-27), 3) ∧ ((83 : Nat) : Int) + (-27) = ((56 : Nat) : Int) := ⟨by decide +kernel, by decide⟩
theorem d_X2_passMinute_86 : gD cX2_passMinute 86 (.iconst 0) 1 87 := ⟨by decide +kernel, rfl⟩
theorem d_X2_passMinute_87 : gD cX2_passMinute 87 (.istore_n 1) 1 88 := ⟨by decide +kernel, rfl⟩
theorem d_X2_passMinute_88 : gD cX2_passMinute 88 (.iload_n 1) 1 89 := ⟨by decide +kernel, rfl⟩
theorem d_X2_passMinute_89 : gD cX2_passMinute 89 (.bipush 8) 2 91 := ⟨by decide +kernel, rfl⟩
theorem d_X2_passMinute_91 : gD cX2_passMinute 91 (.if_icmp .ge 30) 3 94 ∧ ((91 : Nat) : Int) + 30 = ((121 : Nat) : Int) := ⟨⟨by decide +kernel, rfl⟩, by decide⟩
theorem d_X2_passMinute_94 : gD cX2_passMinute 94 (.aload_n 0) 1 95 := ⟨by decide +kernel, rfl⟩
theorem d_X2_passMinute_95 : gD cX2_passMinute 95 (.iload_n 1) 1 96 := ⟨by decide +kernel, rfl⟩
theorem d_X2_passMinute_96 : gD cX2_passMinute 96 (.invokevirtual 127) 3 99 := ⟨by decide +kernel, rfl⟩
theorem d_X2_passMinute_99 : gD cX2_passMinute 99 (.ifCond .eq 16) 3 102 ∧ ((99 : Nat) : Int) + 16 = ((115 : Nat) : Int) := ⟨⟨by decide +kernel, rfl⟩, by decide⟩
theorem d_X2_passMinute_102 : gD cX2_passMinute 102 (.aload_n 0) 1 103 := ⟨by decide +kernel, rfl⟩
theorem d_X2_passMinute_103 : gD cX2_passMinute 103 (.iload_n 1) 1 104 := ⟨by decide +kernel, rfl⟩
theorem d_X2_passMinute_104 : gD cX2_passMinute 104 (.invokevirtual 130) 3 107 := ⟨by decide +kernel, rfl⟩
theorem d_X2_passMinute_107 : gD cX2_passMinute 107 (.ifCond .eq 8) 3 110 ∧ ((107 : Nat) : Int) + 8 = ((115 : Nat) : Int) := ⟨⟨by decide +kernel, rfl⟩, by decide⟩
theorem d_X2_passMinute_110 : gD cX2_passMinute 110 (.aload_n 0) 1 111 := ⟨by decide +kernel, rfl⟩
theorem d_X2_passMinute_111 : gD cX2_passMinute 111 (.iload_n 1) 1 112 := ⟨by decide +kernel, rfl⟩
theorem d_X2_passMinute_112 : gD cX2_passMinute 112 (.invokevirtual 150) 3 115 := ⟨by decide +kernel, rfl⟩
theorem d_X2_passMinute_115 : gD cX2_passMinute 115 (.iinc 1 1) 3 118 := ⟨by decide +kernel, rfl⟩
theorem d_X2_passMinute_118 : decode cX2_passMinute 118 = .ok (.goto (-30), 3) ∧ ((118 : Nat) : Int) + (-30) = ((88 : Nat) : Int) := ⟨by decide +kernel, by decide⟩
theorem d_X2_passMinute_121 : gD cX2_passMinute 121 (.iconst 0) 1 122 := ⟨by decide +kernel, rfl⟩
theorem d_X2_passMinute_122 : gD cX2_passMinute 122 (.istore_n 1) 1 123 := ⟨by decide +kernel, rfl⟩
theorem d_X2_passMinute_123 : gD cX2_passMinute 123 (.iload_n 1) 1 124 := ⟨by decide +kernel, rfl⟩
theorem d_X2_passMinute_124 : gD cX2_passMinute 124 (.iconst 4) 1 125 := ⟨by decide +kernel, rfl⟩
theorem d_X2_passMinute_125 : gD cX2_passMinute 125 (.if_icmp .ge 31) 3 128 ∧ ((125 : Nat) : Int) + 31 = ((156 : Nat) : Int) := ⟨⟨by decide +kernel, rfl⟩, by decide⟩
theorem d_X2_passMinute_128 : gD cX2_passMinute 128 (.aload_n 0) 1 129 := ⟨by decide +kernel, rfl⟩
theorem d_X2_passMinute_129 : gD cX2_passMinute 129 (.iload_n 1) 1 130 := ⟨by decide +kernel, rfl⟩
theorem d_X2_passMinute_130 : gD cX2_passMinute 130 (.invokevirtual 154) 3 133 := ⟨by decide +kernel, rfl⟩
theorem d_X2_passMinute_133 : gD cX2_passMinute 133 (.istore_n 2) 1 134 := ⟨by decide +kernel, rfl⟩
theorem d_X2_passMinute_134 : gD cX2_passMinute 134 (.aload_n 0) 1 135 := ⟨by decide +kernel, rfl⟩
theorem d_X2_passMinute_135 : gD cX2_passMinute 135 (.dup) 1 136 := ⟨by decide +kernel, rfl⟩
theorem d_X2_passMinute_136 : gD cX2_passMinute 136 (.getfield 55) 3 139 := ⟨by decide +kernel, rfl⟩
theorem d_X2_passMinute_139 : gD cX2_passMinute 139 (.iload_n 2) 1 140 := ⟨by decide +kernel, rfl⟩
theorem d_X2_passMinute_140 : gD cX2_passMinute 140 (.iload_n 2) 1 141 := ⟨by decide +kernel, rfl⟩
theorem d_X2_passMinute_141 : gD cX2_passMinute 141 (.iconst 1) 1 142 := ⟨by decide +kernel, rfl⟩
theorem d_X2_passMinute_142 : gD cX2_passMinute 142 (.isub) 1 143 := ⟨by decide +kernel, rfl⟩
theorem d_X2_passMinute_143 : gD cX2_passMinute 143 (.imul) 1 144 := ⟨by decide +kernel, rfl⟩
theorem d_X2_passMinute_144 : gD cX2_passMinute 144 (.iconst 2) 1 145 := ⟨by decide +kernel, rfl⟩
theorem d_X2_passMinute_145 : gD cX2_passMinute 145 (.idiv) 1 146 := ⟨by decide +kernel, rfl⟩
theorem d_X2_passMinute_146 : gD cX2_passMinute 146 (.iadd) 1 147 := ⟨by decide +kernel, rfl⟩
theorem d_X2_passMinute_147 : gD cX2_passMinute 147 (.putfield 55) 3 150 := ⟨by decide +kernel, rfl⟩
theorem d_X2_passMinute_150 : gD cX2_passMinute 150 (.iinc 1 1) 3 153 := ⟨by decide +kernel, rfl⟩
theorem d_X2_passMinute_153 : decode cX2_passMinute 153 = .ok (.goto (-30), 3) ∧ ((153 : Nat) : Int) + (-30) = ((123 : Nat) : Int) := ⟨by decide +kernel, by decide⟩
theorem d_X2_passMinute_156 : gD cX2_passMinute 156 (.return_) 1 157 := ⟨by decide +kernel, rfl⟩
abbrev rm_X2_passMinute : Room := { frames := 3, cells := 0, slots := 0, locals := 67 }
set_option maxRecDepth 20000 in
theorem w_X2_passMinute_48 {Γ : GC} {E : GE} (hO : gOk Γ E cX2_passMinute RX2 3 rm_X2_passMinute none "passMinute") (o : Nat) {k12 : (Int32 → GS → Option GS)} (hk12 : ∀ (z1 : Int32) (S1 : GS), Go Γ E (gBsV Γ E) 3 (0, 0) 12 S1 [(0, vA (some o)), (1, vI z1)] [] (k12 z1 S1)) (x1 : Int32) (S : GS) : Go Γ E (gBsV Γ E) 3 (0, 0) 48 S [(0, vA (some o)), (1, vI x1)] [] (f_X2_passMinute_48 k12 o x1 S) := by
  unfold f_X2_passMinute_48
  refine g_iinc (lv' := [(1, vI (x1 + 1)), (0, vA (some o))]) hO 1 d_X2_passMinute_48 (by decide) 1 rfl (by decide) rfl ?_
  refine g_goto (tgt := 12) hO d_X2_passMinute_51.1 d_X2_passMinute_51.2 ?_
  exact g_sub [1, 0] rfl (hk12 _ _)
set_option maxRecDepth 20000 in
theorem w_X2_passMinute_115 {Γ : GC} {E : GE} (hO : gOk Γ E cX2_passMinute RX2 3 rm_X2_passMinute none "passMinute") (o : Nat) {k88 : (Int32 → GS → Option GS)} (hk88 : ∀ (z1 : Int32) (S1 : GS), Go Γ E (gBsV Γ E) 3 (0, 0) 88 S1 [(0, vA (some o)), (1, vI z1)] [] (k88 z1 S1)) (x1 : Int32) (S : GS) : Go Γ E (gBsV Γ E) 3 (0, 0) 115 S [(0, vA (some o)), (1, vI x1)] [] (f_X2_passMinute_115 k88 o x1 S) := by
  unfold f_X2_passMinute_115
  refine g_iinc (lv' := [(1, vI (x1 + 1)), (0, vA (some o))]) hO 1 d_X2_passMinute_115 (by decide) 1 rfl (by decide) rfl ?_
  refine g_goto (tgt := 88) hO d_X2_passMinute_118.1 d_X2_passMinute_118.2 ?_
  exact g_sub [1, 0] rfl (hk88 _ _)
set_option maxRecDepth 20000 in
theorem w_X2_passMinute_123 {Γ : GC} {E : GE} (hO : gOk Γ E cX2_passMinute RX2 3 rm_X2_passMinute none "passMinute") (o : Nat) : ∀ (n : Nat) (x1 : Int32) (S : GS), Go Γ E (gBsV Γ E) 3 (0, 0) 123 S [(0, vA (some o)), (1, vI x1)] [] (f_X2_passMinute_123 o n x1 S) := by
  intro n
  induction n with
  | zero =>
    intro x1 S
    exact g_none
  | succ n ih =>
    intro x1 S
    rw [f_X2_passMinute_123]
    refine g_iload_n hO d_X2_passMinute_123 (by rfl) 1 rfl ?_
    refine g_iconst hO 4 d_X2_passMinute_124 (by decide) ?_
    refine g_ic_ge (tgt := 156) hO d_X2_passMinute_125.1 d_X2_passMinute_125.2 (fun _ => ?_) (fun _ => ?_)
    · skip
      exact g_vret hO rfl ⟨Nat.le_of_ble_eq_true rfl, Nat.le_of_ble_eq_true rfl⟩ rfl rfl d_X2_passMinute_156.1
    · skip
      refine g_aload_n hO d_X2_passMinute_128 (by rfl) 0 rfl ?_
      refine g_iload_n hO d_X2_passMinute_129 (by rfl) 1 rfl ?_
      refine k_virtIp hO cl_X2 mm_X2_tellersIn lkV_X2_154 ⟨⟨Nat.le_of_ble_eq_true rfl, Nat.le_of_ble_eq_true rfl⟩, Nat.le_of_ble_eq_true rfl, Nat.le_of_ble_eq_true rfl⟩ (kn' := (0, 0)) rfl (As := [vI x1]) rfl (Nat.le_of_ble_eq_true rfl) (fun o' _ => t_X2_tellersIn Γ.2.1 E o' x1 S) d_X2_passMinute_130 rfl (fun v1 => ?_)
      refine g_istore_n (lv' := [(2, vI v1), (0, vA (some o)), (1, vI x1)]) hO d_X2_passMinute_133 (by rfl) (by decide) rfl ?_
      refine g_aload_n hO d_X2_passMinute_134 (by rfl) 1 rfl ?_
      refine g_dup hO d_X2_passMinute_135 rfl ?_
      refine h_getI hO cl_X2 13 rfl wf_X2_55 d_X2_passMinute_136 (fun v3 => ?_)
      refine g_iload_n hO d_X2_passMinute_139 (by rfl) 0 rfl ?_
      refine g_iload_n hO d_X2_passMinute_140 (by rfl) 0 rfl ?_
      refine g_iconst hO 1 d_X2_passMinute_141 (by decide) ?_
      refine g_isub hO d_X2_passMinute_142 ?_
      refine g_imul hO d_X2_passMinute_143 ?_
      refine g_iconst hO 2 d_X2_passMinute_144 (by decide) ?_
      refine g_idiv hO d_X2_passMinute_145 ?_
      refine g_iadd hO d_X2_passMinute_146 ?_
      refine h_putI hO cl_X2 13 rfl rfl wf_X2_55 (Or.inl rfl) d_X2_passMinute_147 (fun S4 => ?_)
      refine g_iinc (lv' := [(1, vI (x1 + 1)), (2, vI v1), (0, vA (some o))]) hO 1 d_X2_passMinute_150 (by decide) 2 rfl (by decide) rfl ?_
      refine g_goto (tgt := 123) hO d_X2_passMinute_153.1 d_X2_passMinute_153.2 ?_
      exact g_sub [2, 0] rfl (ih _ _)
set_option maxRecDepth 20000 in
theorem w_X2_passMinute_88 {Γ : GC} {E : GE} (hO : gOk Γ E cX2_passMinute RX2 3 rm_X2_passMinute none "passMinute") (o : Nat) : ∀ (n : Nat) (x1 : Int32) (S : GS), Go Γ E (gBsV Γ E) 3 (0, 0) 88 S [(0, vA (some o)), (1, vI x1)] [] (f_X2_passMinute_88 o n x1 S) := by
  intro n
  induction n with
  | zero =>
    intro x1 S
    exact g_none
  | succ n ih =>
    intro x1 S
    rw [f_X2_passMinute_88]
    refine g_iload_n hO d_X2_passMinute_88 (by rfl) 1 rfl ?_
    refine g_bipush hO 8 d_X2_passMinute_89 (by decide) ?_
    refine g_ic_ge (tgt := 121) hO d_X2_passMinute_91.1 d_X2_passMinute_91.2 (fun _ => ?_) (fun _ => ?_)
    · skip
      refine g_iconst hO 0 d_X2_passMinute_121 (by decide) ?_
      refine g_istore_n (lv' := [(1, vI 0), (0, vA (some o))]) hO d_X2_passMinute_122 (by rfl) (by decide) rfl ?_
      exact g_sub [1, 0] rfl (w_X2_passMinute_123 hO o _ _ _)
    · skip
      refine g_aload_n hO d_X2_passMinute_94 (by rfl) 0 rfl ?_
      refine g_iload_n hO d_X2_passMinute_95 (by rfl) 1 rfl ?_
      refine k_virtIp hO cl_X2 mm_X2_hasLady lkV_X2_127 ⟨⟨Nat.le_of_ble_eq_true rfl, Nat.le_of_ble_eq_true rfl⟩, Nat.le_of_ble_eq_true rfl, Nat.le_of_ble_eq_true rfl⟩ (kn' := (0, 0)) rfl (As := [vI x1]) rfl (Nat.le_of_ble_eq_true rfl) (fun o' _ => t_X2_hasLady Γ.2.1 E o' x1 S) d_X2_passMinute_96 rfl (fun v1 => ?_)
      refine g_if_eq (tgt := 115) hO d_X2_passMinute_99.1 d_X2_passMinute_99.2 (fun _ => ?_) (fun _ => ?_)
      · skip
        exact g_sub [0, 1] rfl (w_X2_passMinute_115 hO o ih _ _)
      · skip
        refine g_aload_n hO d_X2_passMinute_102 (by rfl) 0 rfl ?_
        refine g_iload_n hO d_X2_passMinute_103 (by rfl) 1 rfl ?_
        refine k_virtIp hO cl_X2 mm_X2_isUp lkV_X2_130 ⟨⟨Nat.le_of_ble_eq_true rfl, Nat.le_of_ble_eq_true rfl⟩, Nat.le_of_ble_eq_true rfl, Nat.le_of_ble_eq_true rfl⟩ (kn' := (0, 0)) rfl (As := [vI x1]) rfl (Nat.le_of_ble_eq_true rfl) (fun o' _ => t_X2_isUp Γ.2.1 E o' x1 S) d_X2_passMinute_104 rfl (fun v3 => ?_)
        refine g_if_eq (tgt := 115) hO d_X2_passMinute_107.1 d_X2_passMinute_107.2 (fun _ => ?_) (fun _ => ?_)
        · skip
          exact g_sub [0, 1] rfl (w_X2_passMinute_115 hO o ih _ _)
        · skip
          refine g_aload_n hO d_X2_passMinute_110 (by rfl) 0 rfl ?_
          refine g_iload_n hO d_X2_passMinute_111 (by rfl) 1 rfl ?_
          refine k_virtVs hO cl_X2 mm_X2_meetFate lkV_X2_150 ⟨⟨Nat.le_of_ble_eq_true rfl, Nat.le_of_ble_eq_true rfl⟩, Nat.le_of_ble_eq_true rfl, Nat.le_of_ble_eq_true rfl⟩ (kn' := (0, 0)) rfl (As := [vI x1]) rfl (Nat.le_of_ble_eq_true rfl) (fun o' _ => t_X2_meetFate Γ.2.1 E o' x1 S) d_X2_passMinute_112 rfl (fun S6 => ?_)
          exact g_sub [0, 1] rfl (w_X2_passMinute_115 hO o ih _ _)
set_option maxRecDepth 20000 in
theorem w_X2_passMinute_56 {Γ : GC} {E : GE} (hO : gOk Γ E cX2_passMinute RX2 3 rm_X2_passMinute none "passMinute") (o : Nat) : ∀ (n : Nat) (x1 : Int32) (S : GS), Go Γ E (gBsV Γ E) 3 (0, 0) 56 S [(0, vA (some o)), (1, vI x1)] [] (f_X2_passMinute_56 o n x1 S) := by
  intro n
  induction n with
  | zero =>
    intro x1 S
    exact g_none
  | succ n ih =>
    intro x1 S
    rw [f_X2_passMinute_56]
    refine g_iload_n hO d_X2_passMinute_56 (by rfl) 1 rfl ?_
    refine g_bipush hO 8 d_X2_passMinute_57 (by decide) ?_
    refine g_ic_ge (tgt := 86) hO d_X2_passMinute_59.1 d_X2_passMinute_59.2 (fun _ => ?_) (fun _ => ?_)
    · skip
      refine g_iconst hO 0 d_X2_passMinute_86 (by decide) ?_
      refine g_istore_n (lv' := [(1, vI 0), (0, vA (some o))]) hO d_X2_passMinute_87 (by rfl) (by decide) rfl ?_
      exact g_sub [1, 0] rfl (w_X2_passMinute_88 hO o _ _ _)
    · skip
      refine g_aload_n hO d_X2_passMinute_62 (by rfl) 0 rfl ?_
      refine h_getR hO cl_X2 4 rfl wf_X2_25 d_X2_passMinute_63 (fun v1 => ?_)
      refine g_iload_n hO d_X2_passMinute_66 (by rfl) 1 rfl ?_
      refine g_iconst hO 0 d_X2_passMinute_67 (by decide) ?_
      refine g_aload_n hO d_X2_passMinute_68 (by rfl) 0 rfl ?_
      refine h_getR hO cl_X2 4 rfl wf_X2_25 d_X2_passMinute_69 (fun v2 => ?_)
      refine g_iload_n hO d_X2_passMinute_72 (by rfl) 1 rfl ?_
      refine h_iald hO d_X2_passMinute_73 (fun v3 => ?_)
      refine g_iconst hO 1 d_X2_passMinute_74 (by decide) ?_
      refine g_isub hO d_X2_passMinute_75 ?_
      refine g_mmax hO wm_X2_147 wt_max wi_Math wc_max ⟨by decide, Nat.le_of_ble_eq_true rfl, Nat.zero_le _, Nat.zero_le _⟩ d_X2_passMinute_76 ?_
      refine h_iast hO d_X2_passMinute_79 (fun S4 => ?_)
      refine g_iinc (lv' := [(1, vI (x1 + 1)), (0, vA (some o))]) hO 1 d_X2_passMinute_80 (by decide) 1 rfl (by decide) rfl ?_
      refine g_goto (tgt := 56) hO d_X2_passMinute_83.1 d_X2_passMinute_83.2 ?_
      exact g_sub [1, 0] rfl (ih _ _)
set_option maxRecDepth 20000 in
theorem w_X2_passMinute_12 {Γ : GC} {E : GE} (hO : gOk Γ E cX2_passMinute RX2 3 rm_X2_passMinute none "passMinute") (o : Nat) : ∀ (n : Nat) (x1 : Int32) (S : GS), Go Γ E (gBsV Γ E) 3 (0, 0) 12 S [(0, vA (some o)), (1, vI x1)] [] (f_X2_passMinute_12 o n x1 S) := by
  intro n
  induction n with
  | zero =>
    intro x1 S
    exact g_none
  | succ n ih =>
    intro x1 S
    rw [f_X2_passMinute_12]
    refine g_iload_n hO d_X2_passMinute_12 (by rfl) 1 rfl ?_
    refine g_iconst hO 4 d_X2_passMinute_13 (by decide) ?_
    refine g_ic_ge (tgt := 54) hO d_X2_passMinute_14.1 d_X2_passMinute_14.2 (fun _ => ?_) (fun _ => ?_)
    · skip
      refine g_iconst hO 0 d_X2_passMinute_54 (by decide) ?_
      refine g_istore_n (lv' := [(1, vI 0), (0, vA (some o))]) hO d_X2_passMinute_55 (by rfl) (by decide) rfl ?_
      exact g_sub [1, 0] rfl (w_X2_passMinute_56 hO o _ _ _)
    · skip
      refine g_aload_n hO d_X2_passMinute_17 (by rfl) 0 rfl ?_
      refine h_getR hO cl_X2 1 rfl wf_X2_15 d_X2_passMinute_18 (fun v1 => ?_)
      refine g_iload_n hO d_X2_passMinute_21 (by rfl) 1 rfl ?_
      refine h_zald hO d_X2_passMinute_22 (fun v2 => ?_)
      refine g_if_eq (tgt := 48) hO d_X2_passMinute_23.1 d_X2_passMinute_23.2 (fun _ => ?_) (fun _ => ?_)
      · skip
        exact g_sub [0, 1] rfl (w_X2_passMinute_48 hO o ih _ _)
      · skip
        refine g_aload_n hO d_X2_passMinute_26 (by rfl) 0 rfl ?_
        refine h_getR hO cl_X2 0 rfl wf_X2_9 d_X2_passMinute_27 (fun v3 => ?_)
        refine g_iload_n hO d_X2_passMinute_30 (by rfl) 1 rfl ?_
        refine g_dup2 hO d_X2_passMinute_31 rfl rfl ?_
        refine h_iald hO d_X2_passMinute_32 (fun v4 => ?_)
        refine g_aload_n hO d_X2_passMinute_33 (by rfl) 0 rfl ?_
        refine h_getI hO cl_X2 10 rfl wf_X2_48 d_X2_passMinute_34 (fun v5 => ?_)
        refine g_aload_n hO d_X2_passMinute_37 (by rfl) 0 rfl ?_
        refine h_getR hO cl_X2 0 rfl wf_X2_9 d_X2_passMinute_38 (fun v6 => ?_)
        refine g_iload_n hO d_X2_passMinute_41 (by rfl) 1 rfl ?_
        refine h_iald hO d_X2_passMinute_42 (fun v7 => ?_)
        refine k_statIp hO mm_J6_compare_7cf53 lkS_X2_144 ⟨⟨Nat.le_of_ble_eq_true rfl, Nat.le_of_ble_eq_true rfl⟩, Nat.le_of_ble_eq_true rfl, Nat.le_of_ble_eq_true rfl⟩ (kn' := (0, 0)) rfl (As := [vI v5, vI v7]) rfl (Nat.le_of_ble_eq_true rfl) (t_J6_compare_7cf53 Γ.2.1 E v5 v7 S) d_X2_passMinute_43 rfl (fun v8 => ?_)
        refine g_iadd hO d_X2_passMinute_46 ?_
        refine h_iast hO d_X2_passMinute_47 (fun S10 => ?_)
        exact g_sub [0, 1] rfl (w_X2_passMinute_48 hO o ih _ _)
set_option maxRecDepth 20000 in
theorem w_X2_passMinute {Γ : GC} {E : GE} (hO : gOk Γ E cX2_passMinute RX2 3 rm_X2_passMinute none "passMinute") (o : Nat) (S : GS) : Go Γ E (gBsV Γ E) 3 (0, 0) 0 S [(0, vA (some o))] [] (f_X2_passMinute o S) := by
  unfold f_X2_passMinute
  refine g_aload_n hO d_X2_passMinute_0 (by rfl) 0 rfl ?_
  refine g_dup hO d_X2_passMinute_1 rfl ?_
  refine h_getI hO cl_X2 11 rfl wf_X2_49 d_X2_passMinute_2 (fun v1 => ?_)
  refine g_iconst hO 1 d_X2_passMinute_5 (by decide) ?_
  refine g_iadd hO d_X2_passMinute_6 ?_
  refine h_putI hO cl_X2 11 rfl rfl wf_X2_49 (Or.inl rfl) d_X2_passMinute_7 (fun S2 => ?_)
  refine g_iconst hO 0 d_X2_passMinute_10 (by decide) ?_
  refine g_istore_n (lv' := [(1, vI 0), (0, vA (some o))]) hO d_X2_passMinute_11 (by rfl) (by decide) rfl ?_
  exact g_sub [1, 0] rfl (w_X2_passMinute_12 hO o _ _ _)
theorem t_X2_passMinute (l : Launch) (E : GE) (o : Nat) (S : GS) : ∀ a, f_X2_passMinute o S = some a → Ct l E yX2_passMinute cX2_passMinute 3 none rm_X2_passMinute [vA (some o)] S none a :=
  Ct_of (val := fun _ => none) (nxt := fun b => b) (by decide) (Nat.le_of_ble_eq_true rfl) (fun Γ hl hO => w_X2_passMinute hO o S)
theorem d_X2_doDeed_0 : gD cX2_doDeed 0 (.iload_n 1) 1 1 := ⟨by decide +kernel, rfl⟩
theorem d_X2_doDeed_1 : decode cX2_doDeed 1 = .ok (.tableswitch 130 0 8 #[51, 58, 65, 72, 78, 85, 93, 100, 124], 51) ∧ ((1 : Nat) : Int) + 130 = ((131 : Nat) : Int) := ⟨by decide +kernel, by decide⟩
theorem d_X2_doDeed_52 : gD cX2_doDeed 52 (.aload_n 0) 1 53 := ⟨by decide +kernel, rfl⟩
theorem d_X2_doDeed_53 : gD cX2_doDeed 53 (.iload_n 2) 1 54 := ⟨by decide +kernel, rfl⟩
theorem d_X2_doDeed_54 : gD cX2_doDeed 54 (.putfield 48) 3 57 := ⟨by decide +kernel, rfl⟩
theorem d_X2_doDeed_57 : gD cX2_doDeed 57 (.iconst 1) 1 58 := ⟨by decide +kernel, rfl⟩
theorem d_X2_doDeed_58 : gD cX2_doDeed 58 (.ireturn) 1 59 := ⟨by decide +kernel, rfl⟩
theorem d_X2_doDeed_59 : gD cX2_doDeed 59 (.aload_n 0) 1 60 := ⟨by decide +kernel, rfl⟩
theorem d_X2_doDeed_60 : gD cX2_doDeed 60 (.iload_n 2) 1 61 := ⟨by decide +kernel, rfl⟩
theorem d_X2_doDeed_61 : gD cX2_doDeed 61 (.iconst 1) 1 62 := ⟨by decide +kernel, rfl⟩
theorem d_X2_doDeed_62 : gD cX2_doDeed 62 (.invokevirtual 94) 3 65 := ⟨by decide +kernel, rfl⟩
theorem d_X2_doDeed_65 : gD cX2_doDeed 65 (.ireturn) 1 66 := ⟨by decide +kernel, rfl⟩
theorem d_X2_doDeed_66 : gD cX2_doDeed 66 (.aload_n 0) 1 67 := ⟨by decide +kernel, rfl⟩
theorem d_X2_doDeed_67 : gD cX2_doDeed 67 (.iload_n 2) 1 68 := ⟨by decide +kernel, rfl⟩
theorem d_X2_doDeed_68 : gD cX2_doDeed 68 (.iconst 0) 1 69 := ⟨by decide +kernel, rfl⟩
theorem d_X2_doDeed_69 : gD cX2_doDeed 69 (.invokevirtual 94) 3 72 := ⟨by decide +kernel, rfl⟩
theorem d_X2_doDeed_72 : gD cX2_doDeed 72 (.ireturn) 1 73 := ⟨by decide +kernel, rfl⟩
theorem d_X2_doDeed_73 : gD cX2_doDeed 73 (.aload_n 0) 1 74 := ⟨by decide +kernel, rfl⟩
theorem d_X2_doDeed_74 : gD cX2_doDeed 74 (.iload_n 2) 1 75 := ⟨by decide +kernel, rfl⟩
theorem d_X2_doDeed_75 : gD cX2_doDeed 75 (.invokevirtual 98) 3 78 := ⟨by decide +kernel, rfl⟩
theorem d_X2_doDeed_78 : gD cX2_doDeed 78 (.ireturn) 1 79 := ⟨by decide +kernel, rfl⟩
theorem d_X2_doDeed_79 : gD cX2_doDeed 79 (.aload_n 0) 1 80 := ⟨by decide +kernel, rfl⟩
theorem d_X2_doDeed_80 : gD cX2_doDeed 80 (.iload_n 2) 1 81 := ⟨by decide +kernel, rfl⟩
theorem d_X2_doDeed_81 : gD cX2_doDeed 81 (.iload_n 3) 1 82 := ⟨by decide +kernel, rfl⟩
theorem d_X2_doDeed_82 : gD cX2_doDeed 82 (.invokevirtual 102) 3 85 := ⟨by decide +kernel, rfl⟩
theorem d_X2_doDeed_85 : gD cX2_doDeed 85 (.ireturn) 1 86 := ⟨by decide +kernel, rfl⟩
theorem d_X2_doDeed_86 : gD cX2_doDeed 86 (.aload_n 0) 1 87 := ⟨by decide +kernel, rfl⟩
theorem d_X2_doDeed_87 : gD cX2_doDeed 87 (.iload_n 2) 1 88 := ⟨by decide +kernel, rfl⟩
theorem d_X2_doDeed_88 : gD cX2_doDeed 88 (.iload_n 3) 1 89 := ⟨by decide +kernel, rfl⟩
theorem d_X2_doDeed_89 : gD cX2_doDeed 89 (.ineg) 1 90 := ⟨by decide +kernel, rfl⟩
theorem d_X2_doDeed_90 : gD cX2_doDeed 90 (.invokevirtual 102) 3 93 := ⟨by decide +kernel, rfl⟩
theorem d_X2_doDeed_93 : gD cX2_doDeed 93 (.ireturn) 1 94 := ⟨by decide +kernel, rfl⟩
theorem d_X2_doDeed_94 : gD cX2_doDeed 94 (.aload_n 0) 1 95 := ⟨by decide +kernel, rfl⟩
theorem d_X2_doDeed_95 : gD cX2_doDeed 95 (.iload_n 2) 1 96 := ⟨by decide +kernel, rfl⟩
theorem d_X2_doDeed_96 : gD cX2_doDeed 96 (.iload_n 3) 1 97 := ⟨by decide +kernel, rfl⟩
theorem d_X2_doDeed_97 : gD cX2_doDeed 97 (.invokevirtual 106) 3 100 := ⟨by decide +kernel, rfl⟩
theorem d_X2_doDeed_100 : gD cX2_doDeed 100 (.ireturn) 1 101 := ⟨by decide +kernel, rfl⟩
theorem d_X2_doDeed_101 : gD cX2_doDeed 101 (.aload_n 0) 1 102 := ⟨by decide +kernel, rfl⟩
theorem d_X2_doDeed_102 : gD cX2_doDeed 102 (.dup) 1 103 := ⟨by decide +kernel, rfl⟩
theorem d_X2_doDeed_103 : gD cX2_doDeed 103 (.getfield 58) 3 106 := ⟨by decide +kernel, rfl⟩
theorem d_X2_doDeed_106 : gD cX2_doDeed 106 (.iconst 1) 1 107 := ⟨by decide +kernel, rfl⟩
theorem d_X2_doDeed_107 : gD cX2_doDeed 107 (.iadd) 1 108 := ⟨by decide +kernel, rfl⟩
theorem d_X2_doDeed_108 : gD cX2_doDeed 108 (.putfield 58) 3 111 := ⟨by decide +kernel, rfl⟩
theorem d_X2_doDeed_111 : gD cX2_doDeed 111 (.aload_n 0) 1 112 := ⟨by decide +kernel, rfl⟩
theorem d_X2_doDeed_112 : gD cX2_doDeed 112 (.aload_n 0) 1 113 := ⟨by decide +kernel, rfl⟩
theorem d_X2_doDeed_113 : gD cX2_doDeed 113 (.iconst 0) 1 114 := ⟨by decide +kernel, rfl⟩
theorem d_X2_doDeed_114 : gD cX2_doDeed 114 (.invokevirtual 109) 3 117 := ⟨by decide +kernel, rfl⟩
theorem d_X2_doDeed_117 : gD cX2_doDeed 117 (.invokestatic 113) 3 120 := ⟨by decide +kernel, rfl⟩
theorem d_X2_doDeed_120 : gD cX2_doDeed 120 (.putfield 61) 3 123 := ⟨by decide +kernel, rfl⟩
theorem d_X2_doDeed_123 : gD cX2_doDeed 123 (.iconst 1) 1 124 := ⟨by decide +kernel, rfl⟩
theorem d_X2_doDeed_124 : gD cX2_doDeed 124 (.ireturn) 1 125 := ⟨by decide +kernel, rfl⟩
theorem d_X2_doDeed_125 : gD cX2_doDeed 125 (.aload_n 0) 1 126 := ⟨by decide +kernel, rfl⟩
theorem d_X2_doDeed_126 : gD cX2_doDeed 126 (.invokevirtual 118) 3 129 := ⟨by decide +kernel, rfl⟩
theorem d_X2_doDeed_129 : gD cX2_doDeed 129 (.iconst 1) 1 130 := ⟨by decide +kernel, rfl⟩
theorem d_X2_doDeed_130 : gD cX2_doDeed 130 (.ireturn) 1 131 := ⟨by decide +kernel, rfl⟩
theorem d_X2_doDeed_131 : gD cX2_doDeed 131 (.iconst 0) 1 132 := ⟨by decide +kernel, rfl⟩
theorem d_X2_doDeed_132 : gD cX2_doDeed 132 (.ireturn) 1 133 := ⟨by decide +kernel, rfl⟩
abbrev rm_X2_doDeed : Room := { frames := 4, cells := 0, slots := 0, locals := 89 }
set_option maxRecDepth 20000 in
theorem w_X2_doDeed {Γ : GC} {E : GE} (hO : gOk Γ E cX2_doDeed RX2 4 rm_X2_doDeed (some .boolean) "doDeed") (o : Nat) (x1 : Int32) (x2 : Int32) (x3 : Int32) (S : GS) : Go Γ E (gBsI Γ E) 4 (0, 0) 0 S [(0, vA (some o)), (1, vI x1), (2, vI x2), (3, vI x3)] [] (f_X2_doDeed o x1 x2 x3 S) := by
  unfold f_X2_doDeed
  refine g_iload_n hO d_X2_doDeed_0 (by rfl) 1 rfl ?_
  refine h_tsw (c := 0) (dt := 131) hO d_X2_doDeed_1.1 9 (by decide) (by rfl) rfl (by decide) (by decide) d_X2_doDeed_1.2 ⟨⟨52, by decide, ?_⟩, ⟨59, by decide, ?_⟩, ⟨66, by decide, ?_⟩, ⟨73, by decide, ?_⟩, ⟨79, by decide, ?_⟩, ⟨86, by decide, ?_⟩, ⟨94, by decide, ?_⟩, ⟨101, by decide, ?_⟩, ⟨125, by decide, ?_⟩, trivial⟩ ?_
  · skip
    refine g_aload_n hO d_X2_doDeed_52 (by rfl) 0 rfl ?_
    refine g_iload_n hO d_X2_doDeed_53 (by rfl) 2 rfl ?_
    refine h_putI hO cl_X2 10 rfl rfl wf_X2_48 (Or.inl rfl) d_X2_doDeed_54 (fun S1 => ?_)
    refine g_iconst hO 1 d_X2_doDeed_57 (by decide) ?_
    exact g_ret hO rfl rfl ⟨Nat.le_of_ble_eq_true rfl, Nat.le_of_ble_eq_true rfl⟩ rfl rfl d_X2_doDeed_58.1
  · skip
    refine g_aload_n hO d_X2_doDeed_59 (by rfl) 0 rfl ?_
    refine g_iload_n hO d_X2_doDeed_60 (by rfl) 2 rfl ?_
    refine g_iconst hO 1 d_X2_doDeed_61 (by decide) ?_
    refine k_virtIs hO cl_X2 mm_X2_turnDoor lkV_X2_94 ⟨⟨Nat.le_of_ble_eq_true rfl, Nat.le_of_ble_eq_true rfl⟩, Nat.le_of_ble_eq_true rfl, Nat.le_of_ble_eq_true rfl⟩ (kn' := (0, 0)) rfl (As := [vI x2, vI 1]) rfl (Nat.le_of_ble_eq_true rfl) (fun o' _ => t_X2_turnDoor Γ.2.1 E o' x2 1 S) d_X2_doDeed_62 rfl (fun v2 S3 => ?_)
    exact g_zret hO rfl ⟨Nat.le_of_ble_eq_true rfl, Nat.le_of_ble_eq_true rfl⟩ rfl rfl d_X2_doDeed_65.1
  · skip
    refine g_aload_n hO d_X2_doDeed_66 (by rfl) 0 rfl ?_
    refine g_iload_n hO d_X2_doDeed_67 (by rfl) 2 rfl ?_
    refine g_iconst hO 0 d_X2_doDeed_68 (by decide) ?_
    refine k_virtIs hO cl_X2 mm_X2_turnDoor lkV_X2_94 ⟨⟨Nat.le_of_ble_eq_true rfl, Nat.le_of_ble_eq_true rfl⟩, Nat.le_of_ble_eq_true rfl, Nat.le_of_ble_eq_true rfl⟩ (kn' := (0, 0)) rfl (As := [vI x2, vI 0]) rfl (Nat.le_of_ble_eq_true rfl) (fun o' _ => t_X2_turnDoor Γ.2.1 E o' x2 0 S) d_X2_doDeed_69 rfl (fun v4 S5 => ?_)
    exact g_zret hO rfl ⟨Nat.le_of_ble_eq_true rfl, Nat.le_of_ble_eq_true rfl⟩ rfl rfl d_X2_doDeed_72.1
  · skip
    refine g_aload_n hO d_X2_doDeed_73 (by rfl) 0 rfl ?_
    refine g_iload_n hO d_X2_doDeed_74 (by rfl) 2 rfl ?_
    refine k_virtIs hO cl_X2 mm_X2_sighs lkV_X2_98 ⟨⟨Nat.le_of_ble_eq_true rfl, Nat.le_of_ble_eq_true rfl⟩, Nat.le_of_ble_eq_true rfl, Nat.le_of_ble_eq_true rfl⟩ (kn' := (0, 0)) rfl (As := [vI x2]) rfl (Nat.le_of_ble_eq_true rfl) (fun o' _ => t_X2_sighs Γ.2.1 E o' x2 S) d_X2_doDeed_75 rfl (fun v6 S7 => ?_)
    exact g_zret hO rfl ⟨Nat.le_of_ble_eq_true rfl, Nat.le_of_ble_eq_true rfl⟩ rfl rfl d_X2_doDeed_78.1
  · skip
    refine g_aload_n hO d_X2_doDeed_79 (by rfl) 0 rfl ?_
    refine g_iload_n hO d_X2_doDeed_80 (by rfl) 2 rfl ?_
    refine g_iload_n hO d_X2_doDeed_81 (by rfl) 3 rfl ?_
    refine k_virtIs hO cl_X2 mm_X2_knot lkV_X2_102 ⟨⟨Nat.le_of_ble_eq_true rfl, Nat.le_of_ble_eq_true rfl⟩, Nat.le_of_ble_eq_true rfl, Nat.le_of_ble_eq_true rfl⟩ (kn' := (0, 0)) rfl (As := [vI x2, vI x3]) rfl (Nat.le_of_ble_eq_true rfl) (fun o' _ => t_X2_knot Γ.2.1 E o' x2 x3 S) d_X2_doDeed_82 rfl (fun v8 S9 => ?_)
    exact g_zret hO rfl ⟨Nat.le_of_ble_eq_true rfl, Nat.le_of_ble_eq_true rfl⟩ rfl rfl d_X2_doDeed_85.1
  · skip
    refine g_aload_n hO d_X2_doDeed_86 (by rfl) 0 rfl ?_
    refine g_iload_n hO d_X2_doDeed_87 (by rfl) 2 rfl ?_
    refine g_iload_n hO d_X2_doDeed_88 (by rfl) 3 rfl ?_
    refine g_ineg hO d_X2_doDeed_89 ?_
    refine k_virtIs hO cl_X2 mm_X2_knot lkV_X2_102 ⟨⟨Nat.le_of_ble_eq_true rfl, Nat.le_of_ble_eq_true rfl⟩, Nat.le_of_ble_eq_true rfl, Nat.le_of_ble_eq_true rfl⟩ (kn' := (0, 0)) rfl (As := [vI x2, vI (-x3)]) rfl (Nat.le_of_ble_eq_true rfl) (fun o' _ => t_X2_knot Γ.2.1 E o' x2 (-x3) S) d_X2_doDeed_90 rfl (fun v10 S11 => ?_)
    exact g_zret hO rfl ⟨Nat.le_of_ble_eq_true rfl, Nat.le_of_ble_eq_true rfl⟩ rfl rfl d_X2_doDeed_93.1
  · skip
    refine g_aload_n hO d_X2_doDeed_94 (by rfl) 0 rfl ?_
    refine g_iload_n hO d_X2_doDeed_95 (by rfl) 2 rfl ?_
    refine g_iload_n hO d_X2_doDeed_96 (by rfl) 3 rfl ?_
    refine k_virtIs hO cl_X2 mm_X2_goTo lkV_X2_106 ⟨⟨Nat.le_of_ble_eq_true rfl, Nat.le_of_ble_eq_true rfl⟩, Nat.le_of_ble_eq_true rfl, Nat.le_of_ble_eq_true rfl⟩ (kn' := (0, 0)) rfl (As := [vI x2, vI x3]) rfl (Nat.le_of_ble_eq_true rfl) (fun o' _ => t_X2_goTo Γ.2.1 E o' x2 x3 S) d_X2_doDeed_97 rfl (fun v12 S13 => ?_)
    exact g_zret hO rfl ⟨Nat.le_of_ble_eq_true rfl, Nat.le_of_ble_eq_true rfl⟩ rfl rfl d_X2_doDeed_100.1
  · skip
    refine g_aload_n hO d_X2_doDeed_101 (by rfl) 0 rfl ?_
    refine g_dup hO d_X2_doDeed_102 rfl ?_
    refine h_getI hO cl_X2 14 rfl wf_X2_58 d_X2_doDeed_103 (fun v14 => ?_)
    refine g_iconst hO 1 d_X2_doDeed_106 (by decide) ?_
    refine g_iadd hO d_X2_doDeed_107 ?_
    refine h_putI hO cl_X2 14 rfl rfl wf_X2_58 (Or.inl rfl) d_X2_doDeed_108 (fun S15 => ?_)
    refine g_aload_n hO d_X2_doDeed_111 (by rfl) 0 rfl ?_
    refine g_aload_n hO d_X2_doDeed_112 (by rfl) 0 rfl ?_
    refine g_iconst hO 0 d_X2_doDeed_113 (by decide) ?_
    refine k_virtIp hO cl_X2 mm_X2_ladiesWho lkV_X2_109 ⟨⟨Nat.le_of_ble_eq_true rfl, Nat.le_of_ble_eq_true rfl⟩, Nat.le_of_ble_eq_true rfl, Nat.le_of_ble_eq_true rfl⟩ (kn' := (0, 0)) rfl (As := [vI 0]) rfl (Nat.le_of_ble_eq_true rfl) (fun o' _ => t_X2_ladiesWho Γ.2.1 E o' 0 S15) d_X2_doDeed_114 rfl (fun v16 => ?_)
    refine k_statIp hO mm_J6_bitCount_0f7a4 lkS_X2_113 ⟨⟨Nat.le_of_ble_eq_true rfl, Nat.le_of_ble_eq_true rfl⟩, Nat.le_of_ble_eq_true rfl, Nat.le_of_ble_eq_true rfl⟩ (kn' := (0, 0)) rfl (As := [vI v16]) rfl (Nat.le_of_ble_eq_true rfl) (t_J6_bitCount_0f7a4 Γ.2.1 E v16 S15) d_X2_doDeed_117 rfl (fun v18 => ?_)
    refine h_putI hO cl_X2 15 rfl rfl wf_X2_61 (Or.inl rfl) d_X2_doDeed_120 (fun S20 => ?_)
    refine g_iconst hO 1 d_X2_doDeed_123 (by decide) ?_
    exact g_ret hO rfl rfl ⟨Nat.le_of_ble_eq_true rfl, Nat.le_of_ble_eq_true rfl⟩ rfl rfl d_X2_doDeed_124.1
  · skip
    refine g_aload_n hO d_X2_doDeed_125 (by rfl) 0 rfl ?_
    refine k_virtVs hO cl_X2 mm_X2_passMinute lkV_X2_118 ⟨⟨Nat.le_of_ble_eq_true rfl, Nat.le_of_ble_eq_true rfl⟩, Nat.le_of_ble_eq_true rfl, Nat.le_of_ble_eq_true rfl⟩ (kn' := (0, 0)) rfl (As := []) rfl (Nat.le_of_ble_eq_true rfl) (fun o' _ => t_X2_passMinute Γ.2.1 E o' S) d_X2_doDeed_126 rfl (fun S22 => ?_)
    refine g_iconst hO 1 d_X2_doDeed_129 (by decide) ?_
    exact g_ret hO rfl rfl ⟨Nat.le_of_ble_eq_true rfl, Nat.le_of_ble_eq_true rfl⟩ rfl rfl d_X2_doDeed_130.1
  · skip
    refine g_iconst hO 0 d_X2_doDeed_131 (by decide) ?_
    exact g_ret hO rfl rfl ⟨Nat.le_of_ble_eq_true rfl, Nat.le_of_ble_eq_true rfl⟩ rfl rfl d_X2_doDeed_132.1
theorem t_X2_doDeed (l : Launch) (E : GE) (o : Nat) (x1 : Int32) (x2 : Int32) (x3 : Int32) (S : GS) : ∀ a, f_X2_doDeed o x1 x2 x3 S = some a → Ct l E yX2_doDeed cX2_doDeed 4 (some .boolean) rm_X2_doDeed [vA (some o), vI x1, vI x2, vI x3] S (some (vI a.1)) a.2 :=
  Ct_of (val := fun (b : Int32 × GS) => some (vI b.1)) (nxt := fun (b : Int32 × GS) => b.2) (by decide) (Nat.le_of_ble_eq_true rfl) (fun Γ hl hO => w_X2_doDeed hO o x1 x2 x3 S)
theorem d_X2_play_0 : gD cX2_play 0 (.aload_n 1) 1 1 := ⟨by decide +kernel, rfl⟩
theorem d_X2_play_1 : gD cX2_play 1 (.ifnull 19) 3 4 ∧ ((1 : Nat) : Int) + 19 = ((20 : Nat) : Int) := ⟨⟨by decide +kernel, rfl⟩, by decide⟩
theorem d_X2_play_4 : gD cX2_play 4 (.aload_n 2) 1 5 := ⟨by decide +kernel, rfl⟩
theorem d_X2_play_5 : gD cX2_play 5 (.ifnull 15) 3 8 ∧ ((5 : Nat) : Int) + 15 = ((20 : Nat) : Int) := ⟨⟨by decide +kernel, rfl⟩, by decide⟩
theorem d_X2_play_8 : gD cX2_play 8 (.iload_n 3) 1 9 := ⟨by decide +kernel, rfl⟩
theorem d_X2_play_9 : gD cX2_play 9 (.ifCond .lt 11) 3 12 ∧ ((9 : Nat) : Int) + 11 = ((20 : Nat) : Int) := ⟨⟨by decide +kernel, rfl⟩, by decide⟩
theorem d_X2_play_12 : gD cX2_play 12 (.iload_n 3) 1 13 := ⟨by decide +kernel, rfl⟩
theorem d_X2_play_13 : gD cX2_play 13 (.aload_n 2) 1 14 := ⟨by decide +kernel, rfl⟩
theorem d_X2_play_14 : gD cX2_play 14 (.getfield 80) 3 17 := ⟨by decide +kernel, rfl⟩
theorem d_X2_play_17 : gD cX2_play 17 (.if_icmp .le 5) 3 20 ∧ ((17 : Nat) : Int) + 5 = ((22 : Nat) : Int) := ⟨⟨by decide +kernel, rfl⟩, by decide⟩
theorem d_X2_play_20 : gD cX2_play 20 (.iconst 0) 1 21 := ⟨by decide +kernel, rfl⟩
theorem d_X2_play_21 : gD cX2_play 21 (.ireturn) 1 22 := ⟨by decide +kernel, rfl⟩
theorem d_X2_play_22 : gD cX2_play 22 (.aload_n 0) 1 23 := ⟨by decide +kernel, rfl⟩
theorem d_X2_play_23 : gD cX2_play 23 (.aload_n 1) 1 24 := ⟨by decide +kernel, rfl⟩
theorem d_X2_play_24 : gD cX2_play 24 (.invokevirtual 83) 3 27 := ⟨by decide +kernel, rfl⟩
theorem d_X2_play_27 : gD cX2_play 27 (.aload_n 0) 1 28 := ⟨by decide +kernel, rfl⟩
theorem d_X2_play_28 : gD cX2_play 28 (.iconst 0) 1 29 := ⟨by decide +kernel, rfl⟩
theorem d_X2_play_29 : gD cX2_play 29 (.putfield 87) 3 32 := ⟨by decide +kernel, rfl⟩
theorem d_X2_play_32 : gD cX2_play 32 (.aload_n 0) 1 33 := ⟨by decide +kernel, rfl⟩
theorem d_X2_play_33 : gD cX2_play 33 (.getfield 87) 3 36 := ⟨by decide +kernel, rfl⟩
theorem d_X2_play_36 : gD cX2_play 36 (.iload_n 3) 1 37 := ⟨by decide +kernel, rfl⟩
theorem d_X2_play_37 : gD cX2_play 37 (.if_icmp .ge 50) 3 40 ∧ ((37 : Nat) : Int) + 50 = ((87 : Nat) : Int) := ⟨⟨by decide +kernel, rfl⟩, by decide⟩
theorem d_X2_play_40 : gD cX2_play 40 (.aload_n 0) 1 41 := ⟨by decide +kernel, rfl⟩
theorem d_X2_play_41 : gD cX2_play 41 (.aload_n 2) 1 42 := ⟨by decide +kernel, rfl⟩
theorem d_X2_play_42 : gD cX2_play 42 (.aload_n 0) 1 43 := ⟨by decide +kernel, rfl⟩
theorem d_X2_play_43 : gD cX2_play 43 (.getfield 87) 3 46 := ⟨by decide +kernel, rfl⟩
theorem d_X2_play_46 : gD cX2_play 46 (.iconst 0) 1 47 := ⟨by decide +kernel, rfl⟩
theorem d_X2_play_47 : gD cX2_play 47 (.invokevirtual 74) 3 50 := ⟨by decide +kernel, rfl⟩
theorem d_X2_play_50 : gD cX2_play 50 (.aload_n 2) 1 51 := ⟨by decide +kernel, rfl⟩
theorem d_X2_play_51 : gD cX2_play 51 (.aload_n 0) 1 52 := ⟨by decide +kernel, rfl⟩
theorem d_X2_play_52 : gD cX2_play 52 (.getfield 87) 3 55 := ⟨by decide +kernel, rfl⟩
theorem d_X2_play_55 : gD cX2_play 55 (.iconst 1) 1 56 := ⟨by decide +kernel, rfl⟩
theorem d_X2_play_56 : gD cX2_play 56 (.invokevirtual 74) 3 59 := ⟨by decide +kernel, rfl⟩
theorem d_X2_play_59 : gD cX2_play 59 (.aload_n 2) 1 60 := ⟨by decide +kernel, rfl⟩
theorem d_X2_play_60 : gD cX2_play 60 (.aload_n 0) 1 61 := ⟨by decide +kernel, rfl⟩
theorem d_X2_play_61 : gD cX2_play 61 (.getfield 87) 3 64 := ⟨by decide +kernel, rfl⟩
theorem d_X2_play_64 : gD cX2_play 64 (.iconst 2) 1 65 := ⟨by decide +kernel, rfl⟩
theorem d_X2_play_65 : gD cX2_play 65 (.invokevirtual 74) 3 68 := ⟨by decide +kernel, rfl⟩
theorem d_X2_play_68 : gD cX2_play 68 (.invokevirtual 90) 3 71 := ⟨by decide +kernel, rfl⟩
theorem d_X2_play_71 : gD cX2_play 71 (.ifCond .eq 16) 3 74 ∧ ((71 : Nat) : Int) + 16 = ((87 : Nat) : Int) := ⟨⟨by decide +kernel, rfl⟩, by decide⟩
theorem d_X2_play_74 : gD cX2_play 74 (.aload_n 0) 1 75 := ⟨by decide +kernel, rfl⟩
theorem d_X2_play_75 : gD cX2_play 75 (.dup) 1 76 := ⟨by decide +kernel, rfl⟩
theorem d_X2_play_76 : gD cX2_play 76 (.getfield 87) 3 79 := ⟨by decide +kernel, rfl⟩
theorem d_X2_play_79 : gD cX2_play 79 (.iconst 1) 1 80 := ⟨by decide +kernel, rfl⟩
theorem d_X2_play_80 : gD cX2_play 80 (.iadd) 1 81 := ⟨by decide +kernel, rfl⟩
theorem d_X2_play_81 : gD cX2_play 81 (.putfield 87) 3 84 := ⟨by decide +kernel, rfl⟩
theorem d_X2_play_84 : decode cX2_play 84 = .ok (.goto (-52), 3) ∧ ((84 : Nat) : Int) + (-52) = ((32 : Nat) : Int) := ⟨by decide +kernel, by decide⟩
theorem d_X2_play_87 : gD cX2_play 87 (.aload_n 0) 1 88 := ⟨by decide +kernel, rfl⟩
theorem d_X2_play_88 : gD cX2_play 88 (.getfield 87) 3 91 := ⟨by decide +kernel, rfl⟩
theorem d_X2_play_91 : gD cX2_play 91 (.iload_n 3) 1 92 := ⟨by decide +kernel, rfl⟩
theorem d_X2_play_92 : gD cX2_play 92 (.if_icmp .ne 7) 3 95 ∧ ((92 : Nat) : Int) + 7 = ((99 : Nat) : Int) := ⟨⟨by decide +kernel, rfl⟩, by decide⟩
theorem d_X2_play_95 : gD cX2_play 95 (.iconst 1) 1 96 := ⟨by decide +kernel, rfl⟩
theorem d_X2_play_96 : decode cX2_play 96 = .ok (.goto 4, 3) ∧ ((96 : Nat) : Int) + 4 = ((100 : Nat) : Int) := ⟨by decide +kernel, by decide⟩
theorem d_X2_play_99 : gD cX2_play 99 (.iconst 0) 1 100 := ⟨by decide +kernel, rfl⟩
theorem d_X2_play_100 : gD cX2_play 100 (.ireturn) 1 101 := ⟨by decide +kernel, rfl⟩
abbrev rm_X2_play : Room := { frames := 5, cells := 0, slots := 0, locals := 112 }
set_option maxRecDepth 20000 in
theorem w_X2_play_87 {Γ : GC} {E : GE} (hO : gOk Γ E cX2_play RX2 4 rm_X2_play (some .boolean) "play") (o : Nat) (x3 : Int32) (S : GS) : Go Γ E (gBsI Γ E) 4 (0, 0) 87 S [(0, vA (some o)), (3, vI x3)] [] (f_X2_play_87 o x3 S) := by
  unfold f_X2_play_87
  refine g_aload_n hO d_X2_play_87 (by rfl) 0 rfl ?_
  refine h_getI hO cl_X2 9 rfl wf_X2_87 d_X2_play_88 (fun v1 => ?_)
  refine g_iload_n hO d_X2_play_91 (by rfl) 1 rfl ?_
  refine g_ic_ne (tgt := 99) hO d_X2_play_92.1 d_X2_play_92.2 (fun _ => ?_) (fun _ => ?_)
  · skip
    refine g_iconst hO 1 d_X2_play_95 (by decide) ?_
    refine g_goto (tgt := 100) hO d_X2_play_96.1 d_X2_play_96.2 ?_
    exact g_ret hO rfl rfl ⟨Nat.le_of_ble_eq_true rfl, Nat.le_of_ble_eq_true rfl⟩ rfl rfl d_X2_play_100.1
  · skip
    refine g_iconst hO 0 d_X2_play_99 (by decide) ?_
    exact g_ret hO rfl rfl ⟨Nat.le_of_ble_eq_true rfl, Nat.le_of_ble_eq_true rfl⟩ rfl rfl d_X2_play_100.1
set_option maxRecDepth 20000 in
theorem w_X2_play_32 {Γ : GC} {E : GE} (hO : gOk Γ E cX2_play RX2 4 rm_X2_play (some .boolean) "play") (o : Nat) : ∀ (n : Nat) (x2 : Option Nat) (x3 : Int32) (S : GS), Go Γ E (gBsI Γ E) 4 (0, 0) 32 S [(0, vA (some o)), (2, vA x2), (3, vI x3)] [] (f_X2_play_32 o n x2 x3 S) := by
  intro n
  induction n with
  | zero =>
    intro x2 x3 S
    exact g_none
  | succ n ih =>
    intro x2 x3 S
    rw [f_X2_play_32]
    refine g_aload_n hO d_X2_play_32 (by rfl) 0 rfl ?_
    refine h_getI hO cl_X2 9 rfl wf_X2_87 d_X2_play_33 (fun v1 => ?_)
    refine g_iload_n hO d_X2_play_36 (by rfl) 2 rfl ?_
    refine g_ic_ge (tgt := 87) hO d_X2_play_37.1 d_X2_play_37.2 (fun _ => ?_) (fun _ => ?_)
    · skip
      exact g_sub [0, 2] rfl (w_X2_play_87 hO o _ _)
    · skip
      refine g_aload_n hO d_X2_play_40 (by rfl) 0 rfl ?_
      refine g_aload_n hO d_X2_play_41 (by rfl) 1 rfl ?_
      refine g_aload_n hO d_X2_play_42 (by rfl) 0 rfl ?_
      refine h_getI hO cl_X2 9 rfl wf_X2_87 d_X2_play_43 (fun v2 => ?_)
      refine g_iconst hO 0 d_X2_play_46 (by decide) ?_
      refine k_virtIp hO cl_X7 mm_X7_cell lkV_X2_74 ⟨⟨Nat.le_of_ble_eq_true rfl, Nat.le_of_ble_eq_true rfl⟩, Nat.le_of_ble_eq_true rfl, Nat.le_of_ble_eq_true rfl⟩ (kn' := (0, 0)) rfl (As := [vI v2, vI 0]) rfl (Nat.le_of_ble_eq_true rfl) (fun o' _ => t_X7_cell Γ.2.1 E o' v2 0 S) d_X2_play_47 rfl (fun v3 => ?_)
      refine g_aload_n hO d_X2_play_50 (by rfl) 1 rfl ?_
      refine g_aload_n hO d_X2_play_51 (by rfl) 0 rfl ?_
      refine h_getI hO cl_X2 9 rfl wf_X2_87 d_X2_play_52 (fun v5 => ?_)
      refine g_iconst hO 1 d_X2_play_55 (by decide) ?_
      refine k_virtIp hO cl_X7 mm_X7_cell lkV_X2_74 ⟨⟨Nat.le_of_ble_eq_true rfl, Nat.le_of_ble_eq_true rfl⟩, Nat.le_of_ble_eq_true rfl, Nat.le_of_ble_eq_true rfl⟩ (kn' := (0, 0)) rfl (As := [vI v5, vI 1]) rfl (Nat.le_of_ble_eq_true rfl) (fun o' _ => t_X7_cell Γ.2.1 E o' v5 1 S) d_X2_play_56 rfl (fun v6 => ?_)
      refine g_aload_n hO d_X2_play_59 (by rfl) 1 rfl ?_
      refine g_aload_n hO d_X2_play_60 (by rfl) 0 rfl ?_
      refine h_getI hO cl_X2 9 rfl wf_X2_87 d_X2_play_61 (fun v8 => ?_)
      refine g_iconst hO 2 d_X2_play_64 (by decide) ?_
      refine k_virtIp hO cl_X7 mm_X7_cell lkV_X2_74 ⟨⟨Nat.le_of_ble_eq_true rfl, Nat.le_of_ble_eq_true rfl⟩, Nat.le_of_ble_eq_true rfl, Nat.le_of_ble_eq_true rfl⟩ (kn' := (0, 0)) rfl (As := [vI v8, vI 2]) rfl (Nat.le_of_ble_eq_true rfl) (fun o' _ => t_X7_cell Γ.2.1 E o' v8 2 S) d_X2_play_65 rfl (fun v9 => ?_)
      refine k_virtIs hO cl_X2 mm_X2_doDeed lkV_X2_90 ⟨⟨Nat.le_of_ble_eq_true rfl, Nat.le_of_ble_eq_true rfl⟩, Nat.le_of_ble_eq_true rfl, Nat.le_of_ble_eq_true rfl⟩ (kn' := (0, 0)) rfl (As := [vI v3, vI v6, vI v9]) rfl (Nat.le_of_ble_eq_true rfl) (fun o' _ => t_X2_doDeed Γ.2.1 E o' v3 v6 v9 S) d_X2_play_68 rfl (fun v11 S12 => ?_)
      refine g_if_eq (tgt := 87) hO d_X2_play_71.1 d_X2_play_71.2 (fun _ => ?_) (fun _ => ?_)
      · skip
        exact g_sub [0, 2] rfl (w_X2_play_87 hO o _ _)
      · skip
        refine g_aload_n hO d_X2_play_74 (by rfl) 0 rfl ?_
        refine g_dup hO d_X2_play_75 rfl ?_
        refine h_getI hO cl_X2 9 rfl wf_X2_87 d_X2_play_76 (fun v13 => ?_)
        refine g_iconst hO 1 d_X2_play_79 (by decide) ?_
        refine g_iadd hO d_X2_play_80 ?_
        refine h_putI hO cl_X2 9 rfl rfl wf_X2_87 (Or.inl rfl) d_X2_play_81 (fun S14 => ?_)
        refine g_goto (tgt := 32) hO d_X2_play_84.1 d_X2_play_84.2 ?_
        exact g_sub [0, 1, 2] rfl (ih _ _ _)
set_option maxRecDepth 20000 in
theorem w_X2_play {Γ : GC} {E : GE} (hO : gOk Γ E cX2_play RX2 4 rm_X2_play (some .boolean) "play") (o : Nat) (x1 : Option Nat) (x2 : Option Nat) (x3 : Int32) (S : GS) : Go Γ E (gBsI Γ E) 4 (0, 0) 0 S [(0, vA (some o)), (1, vA x1), (2, vA x2), (3, vI x3)] [] (f_X2_play o x1 x2 x3 S) := by
  unfold f_X2_play
  refine g_aload_n hO d_X2_play_0 (by rfl) 1 rfl ?_
  refine g_ifnull (tgt := 20) hO d_X2_play_1.1 d_X2_play_1.2 ?_ ?_
  · skip
    refine g_iconst hO 0 d_X2_play_20 (by decide) ?_
    exact g_ret hO rfl rfl ⟨Nat.le_of_ble_eq_true rfl, Nat.le_of_ble_eq_true rfl⟩ rfl rfl d_X2_play_21.1
  · skip
    refine g_aload_n hO d_X2_play_4 (by rfl) 2 rfl ?_
    refine g_ifnull (tgt := 20) hO d_X2_play_5.1 d_X2_play_5.2 ?_ ?_
    · skip
      refine g_iconst hO 0 d_X2_play_20 (by decide) ?_
      exact g_ret hO rfl rfl ⟨Nat.le_of_ble_eq_true rfl, Nat.le_of_ble_eq_true rfl⟩ rfl rfl d_X2_play_21.1
    · skip
      refine g_iload_n hO d_X2_play_8 (by rfl) 3 rfl ?_
      refine g_if_lt (tgt := 20) hO d_X2_play_9.1 d_X2_play_9.2 (fun _ => ?_) (fun _ => ?_)
      · skip
        refine g_iconst hO 0 d_X2_play_20 (by decide) ?_
        exact g_ret hO rfl rfl ⟨Nat.le_of_ble_eq_true rfl, Nat.le_of_ble_eq_true rfl⟩ rfl rfl d_X2_play_21.1
      · skip
        refine g_iload_n hO d_X2_play_12 (by rfl) 3 rfl ?_
        refine g_aload_n hO d_X2_play_13 (by rfl) 2 rfl ?_
        refine h_getI hO cl_X7 3 rfl wf_X2_80 d_X2_play_14 (fun v1 => ?_)
        refine g_ic_le (tgt := 22) hO d_X2_play_17.1 d_X2_play_17.2 (fun _ => ?_) (fun _ => ?_)
        · skip
          refine g_aload_n hO d_X2_play_22 (by rfl) 0 rfl ?_
          refine g_aload_n hO d_X2_play_23 (by rfl) 1 rfl ?_
          refine k_virtVs hO cl_X2 mm_X2_begin lkV_X2_83 ⟨⟨Nat.le_of_ble_eq_true rfl, Nat.le_of_ble_eq_true rfl⟩, Nat.le_of_ble_eq_true rfl, Nat.le_of_ble_eq_true rfl⟩ (kn' := (0, 0)) rfl (As := [vA x1]) rfl (Nat.le_of_ble_eq_true rfl) (fun o' _ => t_X2_begin Γ.2.1 E o' x1 S) d_X2_play_24 rfl (fun S3 => ?_)
          refine g_aload_n hO d_X2_play_27 (by rfl) 0 rfl ?_
          refine g_iconst hO 0 d_X2_play_28 (by decide) ?_
          refine h_putI hO cl_X2 9 rfl rfl wf_X2_87 (Or.inl rfl) d_X2_play_29 (fun S4 => ?_)
          exact g_sub [0, 2, 3] rfl (w_X2_play_32 hO o _ _ _ _)
        · skip
          refine g_iconst hO 0 d_X2_play_20 (by decide) ?_
          exact g_ret hO rfl rfl ⟨Nat.le_of_ble_eq_true rfl, Nat.le_of_ble_eq_true rfl⟩ rfl rfl d_X2_play_21.1
theorem t_X2_play (l : Launch) (E : GE) (o : Nat) (x1 : Option Nat) (x2 : Option Nat) (x3 : Int32) (S : GS) : ∀ a, f_X2_play o x1 x2 x3 S = some a → Ct l E yX2_play cX2_play 4 (some .boolean) rm_X2_play [vA (some o), vA x1, vA x2, vI x3] S (some (vI a.1)) a.2 :=
  Ct_of (val := fun (b : Int32 × GS) => some (vI b.1)) (nxt := fun (b : Int32 × GS) => b.2) (by decide) (Nat.le_of_ble_eq_true rfl) (fun Γ hl hO => w_X2_play hO o x1 x2 x3 S)
theorem d_X2_improper_0 : gD cX2_improper 0 (.iconst 0) 1 1 := ⟨by decide +kernel, rfl⟩
theorem d_X2_improper_1 : gD cX2_improper 1 (.istore_n 1) 1 2 := ⟨by decide +kernel, rfl⟩
theorem d_X2_improper_2 : gD cX2_improper 2 (.aload_n 0) 1 3 := ⟨by decide +kernel, rfl⟩
theorem d_X2_improper_3 : gD cX2_improper 3 (.getfield 40) 3 6 := ⟨by decide +kernel, rfl⟩
theorem d_X2_improper_6 : gD cX2_improper 6 (.aload_n 0) 1 7 := ⟨by decide +kernel, rfl⟩
theorem d_X2_improper_7 : gD cX2_improper 7 (.getfield 48) 3 10 := ⟨by decide +kernel, rfl⟩
theorem d_X2_improper_10 : gD cX2_improper 10 (.invokevirtual 170) 3 13 := ⟨by decide +kernel, rfl⟩
theorem d_X2_improper_13 : gD cX2_improper 13 (.istore_n 2) 1 14 := ⟨by decide +kernel, rfl⟩
theorem d_X2_improper_14 : gD cX2_improper 14 (.iconst 0) 1 15 := ⟨by decide +kernel, rfl⟩
theorem d_X2_improper_15 : gD cX2_improper 15 (.istore_n 3) 1 16 := ⟨by decide +kernel, rfl⟩
theorem d_X2_improper_16 : gD cX2_improper 16 (.iload_n 3) 1 17 := ⟨by decide +kernel, rfl⟩
theorem d_X2_improper_17 : gD cX2_improper 17 (.bipush 8) 2 19 := ⟨by decide +kernel, rfl⟩
theorem d_X2_improper_19 : gD cX2_improper 19 (.if_icmp .ge 48) 3 22 ∧ ((19 : Nat) : Int) + 48 = ((67 : Nat) : Int) := ⟨⟨by decide +kernel, rfl⟩, by decide⟩
theorem d_X2_improper_22 : gD cX2_improper 22 (.aload_n 0) 1 23 := ⟨by decide +kernel, rfl⟩
theorem d_X2_improper_23 : gD cX2_improper 23 (.iload_n 3) 1 24 := ⟨by decide +kernel, rfl⟩
theorem d_X2_improper_24 : gD cX2_improper 24 (.invokevirtual 127) 3 27 := ⟨by decide +kernel, rfl⟩
theorem d_X2_improper_27 : gD cX2_improper 27 (.ifCond .eq 34) 3 30 ∧ ((27 : Nat) : Int) + 34 = ((61 : Nat) : Int) := ⟨⟨by decide +kernel, rfl⟩, by decide⟩
theorem d_X2_improper_30 : gD cX2_improper 30 (.aload_n 0) 1 31 := ⟨by decide +kernel, rfl⟩
theorem d_X2_improper_31 : gD cX2_improper 31 (.iload_n 3) 1 32 := ⟨by decide +kernel, rfl⟩
theorem d_X2_improper_32 : gD cX2_improper 32 (.invokevirtual 130) 3 35 := ⟨by decide +kernel, rfl⟩
theorem d_X2_improper_35 : gD cX2_improper 35 (.ifCond .eq 26) 3 38 ∧ ((35 : Nat) : Int) + 26 = ((61 : Nat) : Int) := ⟨⟨by decide +kernel, rfl⟩, by decide⟩
theorem d_X2_improper_38 : gD cX2_improper 38 (.aload_n 0) 1 39 := ⟨by decide +kernel, rfl⟩
theorem d_X2_improper_39 : gD cX2_improper 39 (.getfield 40) 3 42 := ⟨by decide +kernel, rfl⟩
theorem d_X2_improper_42 : gD cX2_improper 42 (.aload_n 0) 1 43 := ⟨by decide +kernel, rfl⟩
theorem d_X2_improper_43 : gD cX2_improper 43 (.getfield 22) 3 46 := ⟨by decide +kernel, rfl⟩
theorem d_X2_improper_46 : gD cX2_improper 46 (.iload_n 3) 1 47 := ⟨by decide +kernel, rfl⟩
theorem d_X2_improper_47 : gD cX2_improper 47 (.iaload) 1 48 := ⟨by decide +kernel, rfl⟩
theorem d_X2_improper_48 : gD cX2_improper 48 (.iload_n 2) 1 49 := ⟨by decide +kernel, rfl⟩
theorem d_X2_improper_49 : gD cX2_improper 49 (.invokevirtual 173) 3 52 := ⟨by decide +kernel, rfl⟩
theorem d_X2_improper_52 : gD cX2_improper 52 (.ifCond .ne 9) 3 55 ∧ ((52 : Nat) : Int) + 9 = ((61 : Nat) : Int) := ⟨⟨by decide +kernel, rfl⟩, by decide⟩
theorem d_X2_improper_55 : gD cX2_improper 55 (.iload_n 1) 1 56 := ⟨by decide +kernel, rfl⟩
theorem d_X2_improper_56 : gD cX2_improper 56 (.iconst 1) 1 57 := ⟨by decide +kernel, rfl⟩
theorem d_X2_improper_57 : gD cX2_improper 57 (.iload_n 3) 1 58 := ⟨by decide +kernel, rfl⟩
theorem d_X2_improper_58 : gD cX2_improper 58 (.ishl) 1 59 := ⟨by decide +kernel, rfl⟩
theorem d_X2_improper_59 : gD cX2_improper 59 (.ior) 1 60 := ⟨by decide +kernel, rfl⟩
theorem d_X2_improper_60 : gD cX2_improper 60 (.istore_n 1) 1 61 := ⟨by decide +kernel, rfl⟩
theorem d_X2_improper_61 : gD cX2_improper 61 (.iinc 3 1) 3 64 := ⟨by decide +kernel, rfl⟩
theorem d_X2_improper_64 : decode cX2_improper 64 = .ok (.goto (-48), 3) ∧ ((64 : Nat) : Int) + (-48) = ((16 : Nat) : Int) := ⟨by decide +kernel, by decide⟩
theorem d_X2_improper_67 : gD cX2_improper 67 (.iload_n 1) 1 68 := ⟨by decide +kernel, rfl⟩
theorem d_X2_improper_68 : gD cX2_improper 68 (.ireturn) 1 69 := ⟨by decide +kernel, rfl⟩
abbrev rm_X2_improper : Room := { frames := 2, cells := 0, slots := 0, locals := 47 }
set_option maxRecDepth 20000 in
theorem w_X2_improper_61 {Γ : GC} {E : GE} (hO : gOk Γ E cX2_improper RX2 4 rm_X2_improper (some .int) "improper") (o : Nat) (S : GS) {k16 : (Int32 → Int32 → Int32 → Option Int32)} (hk16 : ∀ (z1 : Int32) (z2 : Int32) (z3 : Int32), Go Γ E (gBpI Γ E S) 4 (0, 0) 16 S [(0, vA (some o)), (1, vI z1), (2, vI z2), (3, vI z3)] [] (k16 z1 z2 z3)) (x1 : Int32) (x2 : Int32) (x3 : Int32) : Go Γ E (gBpI Γ E S) 4 (0, 0) 61 S [(0, vA (some o)), (1, vI x1), (2, vI x2), (3, vI x3)] [] (f_X2_improper_61 k16 o S x1 x2 x3) := by
  unfold f_X2_improper_61
  refine g_iinc (lv' := [(3, vI (x3 + 1)), (0, vA (some o)), (1, vI x1), (2, vI x2)]) hO 1 d_X2_improper_61 (by decide) 3 rfl (by decide) rfl ?_
  refine g_goto (tgt := 16) hO d_X2_improper_64.1 d_X2_improper_64.2 ?_
  exact g_sub [1, 2, 3, 0] rfl (hk16 _ _ _)
set_option maxRecDepth 20000 in
theorem w_X2_improper_16 {Γ : GC} {E : GE} (hO : gOk Γ E cX2_improper RX2 4 rm_X2_improper (some .int) "improper") (o : Nat) (S : GS) : ∀ (n : Nat) (x1 : Int32) (x2 : Int32) (x3 : Int32), Go Γ E (gBpI Γ E S) 4 (0, 0) 16 S [(0, vA (some o)), (1, vI x1), (2, vI x2), (3, vI x3)] [] (f_X2_improper_16 o S n x1 x2 x3) := by
  intro n
  induction n with
  | zero =>
    intro x1 x2 x3
    exact g_none
  | succ n ih =>
    intro x1 x2 x3
    rw [f_X2_improper_16]
    refine g_iload_n hO d_X2_improper_16 (by rfl) 3 rfl ?_
    refine g_bipush hO 8 d_X2_improper_17 (by decide) ?_
    refine g_ic_ge (tgt := 67) hO d_X2_improper_19.1 d_X2_improper_19.2 (fun _ => ?_) (fun _ => ?_)
    · skip
      refine g_iload_n hO d_X2_improper_67 (by rfl) 1 rfl ?_
      exact g_ret hO rfl rfl ⟨Nat.le_of_ble_eq_true rfl, Nat.le_of_ble_eq_true rfl⟩ rfl rfl d_X2_improper_68.1
    · skip
      refine g_aload_n hO d_X2_improper_22 (by rfl) 0 rfl ?_
      refine g_iload_n hO d_X2_improper_23 (by rfl) 3 rfl ?_
      refine k_virtIp hO cl_X2 mm_X2_hasLady lkV_X2_127 ⟨⟨Nat.le_of_ble_eq_true rfl, Nat.le_of_ble_eq_true rfl⟩, Nat.le_of_ble_eq_true rfl, Nat.le_of_ble_eq_true rfl⟩ (kn' := (0, 0)) rfl (As := [vI x3]) rfl (Nat.le_of_ble_eq_true rfl) (fun o' _ => t_X2_hasLady Γ.2.1 E o' x3 S) d_X2_improper_24 rfl (fun v1 => ?_)
      refine g_if_eq (tgt := 61) hO d_X2_improper_27.1 d_X2_improper_27.2 (fun _ => ?_) (fun _ => ?_)
      · skip
        exact g_sub [0, 1, 2, 3] rfl (w_X2_improper_61 hO o _ ih _ _ _)
      · skip
        refine g_aload_n hO d_X2_improper_30 (by rfl) 0 rfl ?_
        refine g_iload_n hO d_X2_improper_31 (by rfl) 3 rfl ?_
        refine k_virtIp hO cl_X2 mm_X2_isUp lkV_X2_130 ⟨⟨Nat.le_of_ble_eq_true rfl, Nat.le_of_ble_eq_true rfl⟩, Nat.le_of_ble_eq_true rfl, Nat.le_of_ble_eq_true rfl⟩ (kn' := (0, 0)) rfl (As := [vI x3]) rfl (Nat.le_of_ble_eq_true rfl) (fun o' _ => t_X2_isUp Γ.2.1 E o' x3 S) d_X2_improper_32 rfl (fun v3 => ?_)
        refine g_if_eq (tgt := 61) hO d_X2_improper_35.1 d_X2_improper_35.2 (fun _ => ?_) (fun _ => ?_)
        · skip
          exact g_sub [0, 1, 2, 3] rfl (w_X2_improper_61 hO o _ ih _ _ _)
        · skip
          refine g_aload_n hO d_X2_improper_38 (by rfl) 0 rfl ?_
          refine h_getR hO cl_X2 8 rfl wf_X2_40 d_X2_improper_39 (fun v5 => ?_)
          refine g_aload_n hO d_X2_improper_42 (by rfl) 0 rfl ?_
          refine h_getR hO cl_X2 3 rfl wf_X2_22 d_X2_improper_43 (fun v6 => ?_)
          refine g_iload_n hO d_X2_improper_46 (by rfl) 3 rfl ?_
          refine h_iald hO d_X2_improper_47 (fun v7 => ?_)
          refine g_iload_n hO d_X2_improper_48 (by rfl) 2 rfl ?_
          refine k_virtIp hO cl_X0 mm_X0_isNear lkV_X2_173 ⟨⟨Nat.le_of_ble_eq_true rfl, Nat.le_of_ble_eq_true rfl⟩, Nat.le_of_ble_eq_true rfl, Nat.le_of_ble_eq_true rfl⟩ (kn' := (0, 0)) rfl (As := [vI v7, vI x2]) rfl (Nat.le_of_ble_eq_true rfl) (fun o' _ => t_X0_isNear Γ.2.1 E o' v7 x2 S) d_X2_improper_49 rfl (fun v8 => ?_)
          refine g_if_ne (tgt := 61) hO d_X2_improper_52.1 d_X2_improper_52.2 (fun _ => ?_) (fun _ => ?_)
          · skip
            refine g_iload_n hO d_X2_improper_55 (by rfl) 1 rfl ?_
            refine g_iconst hO 1 d_X2_improper_56 (by decide) ?_
            refine g_iload_n hO d_X2_improper_57 (by rfl) 3 rfl ?_
            refine g_ishl hO d_X2_improper_58 ?_
            refine g_ior hO d_X2_improper_59 ?_
            refine g_istore_n (lv' := [(1, vI (x1 ||| (jshl 1 x3))), (0, vA (some o)), (2, vI x2), (3, vI x3)]) hO d_X2_improper_60 (by rfl) (by decide) rfl ?_
            exact g_sub [1, 0, 2, 3] rfl (w_X2_improper_61 hO o _ ih _ _ _)
          · skip
            exact g_sub [0, 1, 2, 3] rfl (w_X2_improper_61 hO o _ ih _ _ _)
set_option maxRecDepth 20000 in
theorem w_X2_improper {Γ : GC} {E : GE} (hO : gOk Γ E cX2_improper RX2 4 rm_X2_improper (some .int) "improper") (o : Nat) (S : GS) : Go Γ E (gBpI Γ E S) 4 (0, 0) 0 S [(0, vA (some o))] [] (f_X2_improper o S) := by
  unfold f_X2_improper
  refine g_iconst hO 0 d_X2_improper_0 (by decide) ?_
  refine g_istore_n (lv' := [(1, vI 0), (0, vA (some o))]) hO d_X2_improper_1 (by rfl) (by decide) rfl ?_
  refine g_aload_n hO d_X2_improper_2 (by rfl) 1 rfl ?_
  refine h_getR hO cl_X2 8 rfl wf_X2_40 d_X2_improper_3 (fun v1 => ?_)
  refine g_aload_n hO d_X2_improper_6 (by rfl) 1 rfl ?_
  refine h_getI hO cl_X2 10 rfl wf_X2_48 d_X2_improper_7 (fun v2 => ?_)
  refine k_virtIp hO cl_X0 mm_X0_properAt lkV_X2_170 ⟨⟨Nat.le_of_ble_eq_true rfl, Nat.le_of_ble_eq_true rfl⟩, Nat.le_of_ble_eq_true rfl, Nat.le_of_ble_eq_true rfl⟩ (kn' := (0, 0)) rfl (As := [vI v2]) rfl (Nat.le_of_ble_eq_true rfl) (fun o' _ => t_X0_properAt Γ.2.1 E o' v2 S) d_X2_improper_10 rfl (fun v3 => ?_)
  refine g_istore_n (lv' := [(2, vI v3), (1, vI 0), (0, vA (some o))]) hO d_X2_improper_13 (by rfl) (by decide) rfl ?_
  refine g_iconst hO 0 d_X2_improper_14 (by decide) ?_
  refine g_istore_n (lv' := [(3, vI 0), (2, vI v3), (1, vI 0), (0, vA (some o))]) hO d_X2_improper_15 (by rfl) (by decide) rfl ?_
  exact g_sub [3, 2, 1, 0] rfl (w_X2_improper_16 hO o _ _ _ _ _)
theorem t_X2_improper (l : Launch) (E : GE) (o : Nat) (S : GS) : ∀ a, f_X2_improper o S = some a → Ct l E yX2_improper cX2_improper 4 (some .int) rm_X2_improper [vA (some o)] S (some (vI a)) S :=
  Ct_of (val := fun b => some (vI b)) (nxt := fun _ => S) (by decide) (Nat.le_of_ble_eq_true rfl) (fun Γ hl hO => w_X2_improper hO o S)
theorem d_X2_openRooms_0 : gD cX2_openRooms 0 (.iconst 0) 1 1 := ⟨by decide +kernel, rfl⟩
theorem d_X2_openRooms_1 : gD cX2_openRooms 1 (.istore_n 1) 1 2 := ⟨by decide +kernel, rfl⟩
theorem d_X2_openRooms_2 : gD cX2_openRooms 2 (.iconst 0) 1 3 := ⟨by decide +kernel, rfl⟩
theorem d_X2_openRooms_3 : gD cX2_openRooms 3 (.istore_n 2) 1 4 := ⟨by decide +kernel, rfl⟩
theorem d_X2_openRooms_4 : gD cX2_openRooms 4 (.iload_n 2) 1 5 := ⟨by decide +kernel, rfl⟩
theorem d_X2_openRooms_5 : gD cX2_openRooms 5 (.iconst 4) 1 6 := ⟨by decide +kernel, rfl⟩
theorem d_X2_openRooms_6 : gD cX2_openRooms 6 (.if_icmp .ge 32) 3 9 ∧ ((6 : Nat) : Int) + 32 = ((38 : Nat) : Int) := ⟨⟨by decide +kernel, rfl⟩, by decide⟩
theorem d_X2_openRooms_9 : gD cX2_openRooms 9 (.aload_n 0) 1 10 := ⟨by decide +kernel, rfl⟩
theorem d_X2_openRooms_10 : gD cX2_openRooms 10 (.iload_n 2) 1 11 := ⟨by decide +kernel, rfl⟩
theorem d_X2_openRooms_11 : gD cX2_openRooms 11 (.invokevirtual 124) 3 14 := ⟨by decide +kernel, rfl⟩
theorem d_X2_openRooms_14 : gD cX2_openRooms 14 (.ifCond .eq 18) 3 17 ∧ ((14 : Nat) : Int) + 18 = ((32 : Nat) : Int) := ⟨⟨by decide +kernel, rfl⟩, by decide⟩
theorem d_X2_openRooms_17 : gD cX2_openRooms 17 (.aload_n 0) 1 18 := ⟨by decide +kernel, rfl⟩
theorem d_X2_openRooms_18 : gD cX2_openRooms 18 (.getfield 15) 3 21 := ⟨by decide +kernel, rfl⟩
theorem d_X2_openRooms_21 : gD cX2_openRooms 21 (.iload_n 2) 1 22 := ⟨by decide +kernel, rfl⟩
theorem d_X2_openRooms_22 : gD cX2_openRooms 22 (.baload) 1 23 := ⟨by decide +kernel, rfl⟩
theorem d_X2_openRooms_23 : gD cX2_openRooms 23 (.ifCond .ne 9) 3 26 ∧ ((23 : Nat) : Int) + 9 = ((32 : Nat) : Int) := ⟨⟨by decide +kernel, rfl⟩, by decide⟩
theorem d_X2_openRooms_26 : gD cX2_openRooms 26 (.iload_n 1) 1 27 := ⟨by decide +kernel, rfl⟩
theorem d_X2_openRooms_27 : gD cX2_openRooms 27 (.iconst 1) 1 28 := ⟨by decide +kernel, rfl⟩
theorem d_X2_openRooms_28 : gD cX2_openRooms 28 (.iload_n 2) 1 29 := ⟨by decide +kernel, rfl⟩
theorem d_X2_openRooms_29 : gD cX2_openRooms 29 (.ishl) 1 30 := ⟨by decide +kernel, rfl⟩
theorem d_X2_openRooms_30 : gD cX2_openRooms 30 (.ior) 1 31 := ⟨by decide +kernel, rfl⟩
theorem d_X2_openRooms_31 : gD cX2_openRooms 31 (.istore_n 1) 1 32 := ⟨by decide +kernel, rfl⟩
theorem d_X2_openRooms_32 : gD cX2_openRooms 32 (.iinc 2 1) 3 35 := ⟨by decide +kernel, rfl⟩
theorem d_X2_openRooms_35 : decode cX2_openRooms 35 = .ok (.goto (-31), 3) ∧ ((35 : Nat) : Int) + (-31) = ((4 : Nat) : Int) := ⟨by decide +kernel, by decide⟩
theorem d_X2_openRooms_38 : gD cX2_openRooms 38 (.iload_n 1) 1 39 := ⟨by decide +kernel, rfl⟩
theorem d_X2_openRooms_39 : gD cX2_openRooms 39 (.ireturn) 1 40 := ⟨by decide +kernel, rfl⟩
abbrev rm_X2_openRooms : Room := { frames := 1, cells := 0, slots := 0, locals := 21 }
set_option maxRecDepth 20000 in
theorem w_X2_openRooms_32 {Γ : GC} {E : GE} (hO : gOk Γ E cX2_openRooms RX2 3 rm_X2_openRooms (some .int) "openRooms") (o : Nat) (S : GS) {k4 : (Int32 → Int32 → Option Int32)} (hk4 : ∀ (z1 : Int32) (z2 : Int32), Go Γ E (gBpI Γ E S) 3 (0, 0) 4 S [(0, vA (some o)), (1, vI z1), (2, vI z2)] [] (k4 z1 z2)) (x1 : Int32) (x2 : Int32) : Go Γ E (gBpI Γ E S) 3 (0, 0) 32 S [(0, vA (some o)), (1, vI x1), (2, vI x2)] [] (f_X2_openRooms_32 k4 o S x1 x2) := by
  unfold f_X2_openRooms_32
  refine g_iinc (lv' := [(2, vI (x2 + 1)), (0, vA (some o)), (1, vI x1)]) hO 1 d_X2_openRooms_32 (by decide) 2 rfl (by decide) rfl ?_
  refine g_goto (tgt := 4) hO d_X2_openRooms_35.1 d_X2_openRooms_35.2 ?_
  exact g_sub [1, 2, 0] rfl (hk4 _ _)
set_option maxRecDepth 20000 in
theorem w_X2_openRooms_4 {Γ : GC} {E : GE} (hO : gOk Γ E cX2_openRooms RX2 3 rm_X2_openRooms (some .int) "openRooms") (o : Nat) (S : GS) : ∀ (n : Nat) (x1 : Int32) (x2 : Int32), Go Γ E (gBpI Γ E S) 3 (0, 0) 4 S [(0, vA (some o)), (1, vI x1), (2, vI x2)] [] (f_X2_openRooms_4 o S n x1 x2) := by
  intro n
  induction n with
  | zero =>
    intro x1 x2
    exact g_none
  | succ n ih =>
    intro x1 x2
    rw [f_X2_openRooms_4]
    refine g_iload_n hO d_X2_openRooms_4 (by rfl) 2 rfl ?_
    refine g_iconst hO 4 d_X2_openRooms_5 (by decide) ?_
    refine g_ic_ge (tgt := 38) hO d_X2_openRooms_6.1 d_X2_openRooms_6.2 (fun _ => ?_) (fun _ => ?_)
    · skip
      refine g_iload_n hO d_X2_openRooms_38 (by rfl) 1 rfl ?_
      exact g_ret hO rfl rfl ⟨Nat.le_of_ble_eq_true rfl, Nat.le_of_ble_eq_true rfl⟩ rfl rfl d_X2_openRooms_39.1
    · skip
      refine g_aload_n hO d_X2_openRooms_9 (by rfl) 0 rfl ?_
      refine g_iload_n hO d_X2_openRooms_10 (by rfl) 2 rfl ?_
      refine k_virtIp hO cl_X2 mm_X2_hasRoom lkV_X2_124 ⟨⟨Nat.le_of_ble_eq_true rfl, Nat.le_of_ble_eq_true rfl⟩, Nat.le_of_ble_eq_true rfl, Nat.le_of_ble_eq_true rfl⟩ (kn' := (0, 0)) rfl (As := [vI x2]) rfl (Nat.le_of_ble_eq_true rfl) (fun o' _ => t_X2_hasRoom Γ.2.1 E o' x2 S) d_X2_openRooms_11 rfl (fun v1 => ?_)
      refine g_if_eq (tgt := 32) hO d_X2_openRooms_14.1 d_X2_openRooms_14.2 (fun _ => ?_) (fun _ => ?_)
      · skip
        exact g_sub [0, 1, 2] rfl (w_X2_openRooms_32 hO o _ ih _ _)
      · skip
        refine g_aload_n hO d_X2_openRooms_17 (by rfl) 0 rfl ?_
        refine h_getR hO cl_X2 1 rfl wf_X2_15 d_X2_openRooms_18 (fun v3 => ?_)
        refine g_iload_n hO d_X2_openRooms_21 (by rfl) 2 rfl ?_
        refine h_zald hO d_X2_openRooms_22 (fun v4 => ?_)
        refine g_if_ne (tgt := 32) hO d_X2_openRooms_23.1 d_X2_openRooms_23.2 (fun _ => ?_) (fun _ => ?_)
        · skip
          refine g_iload_n hO d_X2_openRooms_26 (by rfl) 1 rfl ?_
          refine g_iconst hO 1 d_X2_openRooms_27 (by decide) ?_
          refine g_iload_n hO d_X2_openRooms_28 (by rfl) 2 rfl ?_
          refine g_ishl hO d_X2_openRooms_29 ?_
          refine g_ior hO d_X2_openRooms_30 ?_
          refine g_istore_n (lv' := [(1, vI (x1 ||| (jshl 1 x2))), (0, vA (some o)), (2, vI x2)]) hO d_X2_openRooms_31 (by rfl) (by decide) rfl ?_
          exact g_sub [1, 0, 2] rfl (w_X2_openRooms_32 hO o _ ih _ _)
        · skip
          exact g_sub [0, 1, 2] rfl (w_X2_openRooms_32 hO o _ ih _ _)
set_option maxRecDepth 20000 in
theorem w_X2_openRooms {Γ : GC} {E : GE} (hO : gOk Γ E cX2_openRooms RX2 3 rm_X2_openRooms (some .int) "openRooms") (o : Nat) (S : GS) : Go Γ E (gBpI Γ E S) 3 (0, 0) 0 S [(0, vA (some o))] [] (f_X2_openRooms o S) := by
  unfold f_X2_openRooms
  refine g_iconst hO 0 d_X2_openRooms_0 (by decide) ?_
  refine g_istore_n (lv' := [(1, vI 0), (0, vA (some o))]) hO d_X2_openRooms_1 (by rfl) (by decide) rfl ?_
  refine g_iconst hO 0 d_X2_openRooms_2 (by decide) ?_
  refine g_istore_n (lv' := [(2, vI 0), (1, vI 0), (0, vA (some o))]) hO d_X2_openRooms_3 (by rfl) (by decide) rfl ?_
  exact g_sub [2, 1, 0] rfl (w_X2_openRooms_4 hO o _ _ _ _)
theorem t_X2_openRooms (l : Launch) (E : GE) (o : Nat) (S : GS) : ∀ a, f_X2_openRooms o S = some a → Ct l E yX2_openRooms cX2_openRooms 3 (some .int) rm_X2_openRooms [vA (some o)] S (some (vI a)) S :=
  Ct_of (val := fun b => some (vI b)) (nxt := fun _ => S) (by decide) (Nat.le_of_ble_eq_true rfl) (fun Γ hl hO => w_X2_openRooms hO o S)
theorem d_X2_tell_0 : gD cX2_tell 0 (.iload_n 1) 1 1 := ⟨by decide +kernel, rfl⟩
theorem d_X2_tell_1 : decode cX2_tell 1 = .ok (.tableswitch 117 0 10 #[59, 64, 69, 75, 81, 87, 92, 97, 102, 107, 112], 59) ∧ ((1 : Nat) : Int) + 117 = ((118 : Nat) : Int) := ⟨by decide +kernel, by decide⟩
theorem d_X2_tell_60 : gD cX2_tell 60 (.aload_n 0) 1 61 := ⟨by decide +kernel, rfl⟩
theorem d_X2_tell_61 : gD cX2_tell 61 (.getfield 49) 3 64 := ⟨by decide +kernel, rfl⟩
theorem d_X2_tell_64 : gD cX2_tell 64 (.ireturn) 1 65 := ⟨by decide +kernel, rfl⟩
theorem d_X2_tell_65 : gD cX2_tell 65 (.aload_n 0) 1 66 := ⟨by decide +kernel, rfl⟩
theorem d_X2_tell_66 : gD cX2_tell 66 (.getfield 48) 3 69 := ⟨by decide +kernel, rfl⟩
theorem d_X2_tell_69 : gD cX2_tell 69 (.ireturn) 1 70 := ⟨by decide +kernel, rfl⟩
theorem d_X2_tell_70 : gD cX2_tell 70 (.aload_n 0) 1 71 := ⟨by decide +kernel, rfl⟩
theorem d_X2_tell_71 : gD cX2_tell 71 (.iconst 0) 1 72 := ⟨by decide +kernel, rfl⟩
theorem d_X2_tell_72 : gD cX2_tell 72 (.invokevirtual 109) 3 75 := ⟨by decide +kernel, rfl⟩
theorem d_X2_tell_75 : gD cX2_tell 75 (.ireturn) 1 76 := ⟨by decide +kernel, rfl⟩
theorem d_X2_tell_76 : gD cX2_tell 76 (.aload_n 0) 1 77 := ⟨by decide +kernel, rfl⟩
theorem d_X2_tell_77 : gD cX2_tell 77 (.iconst 1) 1 78 := ⟨by decide +kernel, rfl⟩
theorem d_X2_tell_78 : gD cX2_tell 78 (.invokevirtual 109) 3 81 := ⟨by decide +kernel, rfl⟩
theorem d_X2_tell_81 : gD cX2_tell 81 (.ireturn) 1 82 := ⟨by decide +kernel, rfl⟩
theorem d_X2_tell_82 : gD cX2_tell 82 (.aload_n 0) 1 83 := ⟨by decide +kernel, rfl⟩
theorem d_X2_tell_83 : gD cX2_tell 83 (.iconst 2) 1 84 := ⟨by decide +kernel, rfl⟩
theorem d_X2_tell_84 : gD cX2_tell 84 (.invokevirtual 109) 3 87 := ⟨by decide +kernel, rfl⟩
theorem d_X2_tell_87 : gD cX2_tell 87 (.ireturn) 1 88 := ⟨by decide +kernel, rfl⟩
theorem d_X2_tell_88 : gD cX2_tell 88 (.aload_n 0) 1 89 := ⟨by decide +kernel, rfl⟩
theorem d_X2_tell_89 : gD cX2_tell 89 (.getfield 52) 3 92 := ⟨by decide +kernel, rfl⟩
theorem d_X2_tell_92 : gD cX2_tell 92 (.ireturn) 1 93 := ⟨by decide +kernel, rfl⟩
theorem d_X2_tell_93 : gD cX2_tell 93 (.aload_n 0) 1 94 := ⟨by decide +kernel, rfl⟩
theorem d_X2_tell_94 : gD cX2_tell 94 (.getfield 55) 3 97 := ⟨by decide +kernel, rfl⟩
theorem d_X2_tell_97 : gD cX2_tell 97 (.ireturn) 1 98 := ⟨by decide +kernel, rfl⟩
theorem d_X2_tell_98 : gD cX2_tell 98 (.aload_n 0) 1 99 := ⟨by decide +kernel, rfl⟩
theorem d_X2_tell_99 : gD cX2_tell 99 (.invokevirtual 176) 3 102 := ⟨by decide +kernel, rfl⟩
theorem d_X2_tell_102 : gD cX2_tell 102 (.ireturn) 1 103 := ⟨by decide +kernel, rfl⟩
theorem d_X2_tell_103 : gD cX2_tell 103 (.aload_n 0) 1 104 := ⟨by decide +kernel, rfl⟩
theorem d_X2_tell_104 : gD cX2_tell 104 (.getfield 58) 3 107 := ⟨by decide +kernel, rfl⟩
theorem d_X2_tell_107 : gD cX2_tell 107 (.ireturn) 1 108 := ⟨by decide +kernel, rfl⟩
theorem d_X2_tell_108 : gD cX2_tell 108 (.aload_n 0) 1 109 := ⟨by decide +kernel, rfl⟩
theorem d_X2_tell_109 : gD cX2_tell 109 (.getfield 61) 3 112 := ⟨by decide +kernel, rfl⟩
theorem d_X2_tell_112 : gD cX2_tell 112 (.ireturn) 1 113 := ⟨by decide +kernel, rfl⟩
theorem d_X2_tell_113 : gD cX2_tell 113 (.aload_n 0) 1 114 := ⟨by decide +kernel, rfl⟩
theorem d_X2_tell_114 : gD cX2_tell 114 (.invokevirtual 180) 3 117 := ⟨by decide +kernel, rfl⟩
theorem d_X2_tell_117 : gD cX2_tell 117 (.ireturn) 1 118 := ⟨by decide +kernel, rfl⟩
theorem d_X2_tell_118 : gD cX2_tell 118 (.iload_n 1) 1 119 := ⟨by decide +kernel, rfl⟩
theorem d_X2_tell_119 : gD cX2_tell 119 (.bipush 20) 2 121 := ⟨by decide +kernel, rfl⟩
theorem d_X2_tell_121 : gD cX2_tell 121 (.if_icmp .lt 25) 3 124 ∧ ((121 : Nat) : Int) + 25 = ((146 : Nat) : Int) := ⟨⟨by decide +kernel, rfl⟩, by decide⟩
theorem d_X2_tell_124 : gD cX2_tell 124 (.aload_n 0) 1 125 := ⟨by decide +kernel, rfl⟩
theorem d_X2_tell_125 : gD cX2_tell 125 (.iload_n 1) 1 126 := ⟨by decide +kernel, rfl⟩
theorem d_X2_tell_126 : gD cX2_tell 126 (.bipush 20) 2 128 := ⟨by decide +kernel, rfl⟩
theorem d_X2_tell_128 : gD cX2_tell 128 (.isub) 1 129 := ⟨by decide +kernel, rfl⟩
theorem d_X2_tell_129 : gD cX2_tell 129 (.invokevirtual 124) 3 132 := ⟨by decide +kernel, rfl⟩
theorem d_X2_tell_132 : gD cX2_tell 132 (.ifCond .eq 14) 3 135 ∧ ((132 : Nat) : Int) + 14 = ((146 : Nat) : Int) := ⟨⟨by decide +kernel, rfl⟩, by decide⟩
theorem d_X2_tell_135 : gD cX2_tell 135 (.aload_n 0) 1 136 := ⟨by decide +kernel, rfl⟩
theorem d_X2_tell_136 : gD cX2_tell 136 (.iload_n 1) 1 137 := ⟨by decide +kernel, rfl⟩
theorem d_X2_tell_137 : gD cX2_tell 137 (.bipush 20) 2 139 := ⟨by decide +kernel, rfl⟩
theorem d_X2_tell_139 : gD cX2_tell 139 (.isub) 1 140 := ⟨by decide +kernel, rfl⟩
theorem d_X2_tell_140 : gD cX2_tell 140 (.invokevirtual 157) 3 143 := ⟨by decide +kernel, rfl⟩
theorem d_X2_tell_143 : decode cX2_tell 143 = .ok (.goto 5, 3) ∧ ((143 : Nat) : Int) + 5 = ((148 : Nat) : Int) := ⟨by decide +kernel, by decide⟩
theorem d_X2_tell_146 : gD cX2_tell 146 (.bipush (-100)) 2 148 := ⟨by decide +kernel, rfl⟩
theorem d_X2_tell_148 : gD cX2_tell 148 (.ireturn) 1 149 := ⟨by decide +kernel, rfl⟩
abbrev rm_X2_tell : Room := { frames := 3, cells := 0, slots := 0, locals := 70 }
set_option maxRecDepth 20000 in
theorem w_X2_tell {Γ : GC} {E : GE} (hO : gOk Γ E cX2_tell RX2 2 rm_X2_tell (some .int) "tell") (o : Nat) (x1 : Int32) (S : GS) : Go Γ E (gBpI Γ E S) 2 (0, 0) 0 S [(0, vA (some o)), (1, vI x1)] [] (f_X2_tell o x1 S) := by
  unfold f_X2_tell
  refine g_iload_n hO d_X2_tell_0 (by rfl) 1 rfl ?_
  refine h_tsw (c := 0) (dt := 118) hO d_X2_tell_1.1 11 (by decide) (by rfl) rfl (by decide) (by decide) d_X2_tell_1.2 ⟨⟨60, by decide, ?_⟩, ⟨65, by decide, ?_⟩, ⟨70, by decide, ?_⟩, ⟨76, by decide, ?_⟩, ⟨82, by decide, ?_⟩, ⟨88, by decide, ?_⟩, ⟨93, by decide, ?_⟩, ⟨98, by decide, ?_⟩, ⟨103, by decide, ?_⟩, ⟨108, by decide, ?_⟩, ⟨113, by decide, ?_⟩, trivial⟩ ?_
  · skip
    refine g_aload_n hO d_X2_tell_60 (by rfl) 0 rfl ?_
    refine h_getI hO cl_X2 11 rfl wf_X2_49 d_X2_tell_61 (fun v1 => ?_)
    exact g_ret hO rfl rfl ⟨Nat.le_of_ble_eq_true rfl, Nat.le_of_ble_eq_true rfl⟩ rfl rfl d_X2_tell_64.1
  · skip
    refine g_aload_n hO d_X2_tell_65 (by rfl) 0 rfl ?_
    refine h_getI hO cl_X2 10 rfl wf_X2_48 d_X2_tell_66 (fun v2 => ?_)
    exact g_ret hO rfl rfl ⟨Nat.le_of_ble_eq_true rfl, Nat.le_of_ble_eq_true rfl⟩ rfl rfl d_X2_tell_69.1
  · skip
    refine g_aload_n hO d_X2_tell_70 (by rfl) 0 rfl ?_
    refine g_iconst hO 0 d_X2_tell_71 (by decide) ?_
    refine k_virtIp hO cl_X2 mm_X2_ladiesWho lkV_X2_109 ⟨⟨Nat.le_of_ble_eq_true rfl, Nat.le_of_ble_eq_true rfl⟩, Nat.le_of_ble_eq_true rfl, Nat.le_of_ble_eq_true rfl⟩ (kn' := (0, 0)) rfl (As := [vI 0]) rfl (Nat.le_of_ble_eq_true rfl) (fun o' _ => t_X2_ladiesWho Γ.2.1 E o' 0 S) d_X2_tell_72 rfl (fun v3 => ?_)
    exact g_ret hO rfl rfl ⟨Nat.le_of_ble_eq_true rfl, Nat.le_of_ble_eq_true rfl⟩ rfl rfl d_X2_tell_75.1
  · skip
    refine g_aload_n hO d_X2_tell_76 (by rfl) 0 rfl ?_
    refine g_iconst hO 1 d_X2_tell_77 (by decide) ?_
    refine k_virtIp hO cl_X2 mm_X2_ladiesWho lkV_X2_109 ⟨⟨Nat.le_of_ble_eq_true rfl, Nat.le_of_ble_eq_true rfl⟩, Nat.le_of_ble_eq_true rfl, Nat.le_of_ble_eq_true rfl⟩ (kn' := (0, 0)) rfl (As := [vI 1]) rfl (Nat.le_of_ble_eq_true rfl) (fun o' _ => t_X2_ladiesWho Γ.2.1 E o' 1 S) d_X2_tell_78 rfl (fun v5 => ?_)
    exact g_ret hO rfl rfl ⟨Nat.le_of_ble_eq_true rfl, Nat.le_of_ble_eq_true rfl⟩ rfl rfl d_X2_tell_81.1
  · skip
    refine g_aload_n hO d_X2_tell_82 (by rfl) 0 rfl ?_
    refine g_iconst hO 2 d_X2_tell_83 (by decide) ?_
    refine k_virtIp hO cl_X2 mm_X2_ladiesWho lkV_X2_109 ⟨⟨Nat.le_of_ble_eq_true rfl, Nat.le_of_ble_eq_true rfl⟩, Nat.le_of_ble_eq_true rfl, Nat.le_of_ble_eq_true rfl⟩ (kn' := (0, 0)) rfl (As := [vI 2]) rfl (Nat.le_of_ble_eq_true rfl) (fun o' _ => t_X2_ladiesWho Γ.2.1 E o' 2 S) d_X2_tell_84 rfl (fun v7 => ?_)
    exact g_ret hO rfl rfl ⟨Nat.le_of_ble_eq_true rfl, Nat.le_of_ble_eq_true rfl⟩ rfl rfl d_X2_tell_87.1
  · skip
    refine g_aload_n hO d_X2_tell_88 (by rfl) 0 rfl ?_
    refine h_getI hO cl_X2 12 rfl wf_X2_52 d_X2_tell_89 (fun v9 => ?_)
    exact g_ret hO rfl rfl ⟨Nat.le_of_ble_eq_true rfl, Nat.le_of_ble_eq_true rfl⟩ rfl rfl d_X2_tell_92.1
  · skip
    refine g_aload_n hO d_X2_tell_93 (by rfl) 0 rfl ?_
    refine h_getI hO cl_X2 13 rfl wf_X2_55 d_X2_tell_94 (fun v10 => ?_)
    exact g_ret hO rfl rfl ⟨Nat.le_of_ble_eq_true rfl, Nat.le_of_ble_eq_true rfl⟩ rfl rfl d_X2_tell_97.1
  · skip
    refine g_aload_n hO d_X2_tell_98 (by rfl) 0 rfl ?_
    refine k_virtIp hO cl_X2 mm_X2_improper lkV_X2_176 ⟨⟨Nat.le_of_ble_eq_true rfl, Nat.le_of_ble_eq_true rfl⟩, Nat.le_of_ble_eq_true rfl, Nat.le_of_ble_eq_true rfl⟩ (kn' := (0, 0)) rfl (As := []) rfl (Nat.le_of_ble_eq_true rfl) (fun o' _ => t_X2_improper Γ.2.1 E o' S) d_X2_tell_99 rfl (fun v11 => ?_)
    exact g_ret hO rfl rfl ⟨Nat.le_of_ble_eq_true rfl, Nat.le_of_ble_eq_true rfl⟩ rfl rfl d_X2_tell_102.1
  · skip
    refine g_aload_n hO d_X2_tell_103 (by rfl) 0 rfl ?_
    refine h_getI hO cl_X2 14 rfl wf_X2_58 d_X2_tell_104 (fun v13 => ?_)
    exact g_ret hO rfl rfl ⟨Nat.le_of_ble_eq_true rfl, Nat.le_of_ble_eq_true rfl⟩ rfl rfl d_X2_tell_107.1
  · skip
    refine g_aload_n hO d_X2_tell_108 (by rfl) 0 rfl ?_
    refine h_getI hO cl_X2 15 rfl wf_X2_61 d_X2_tell_109 (fun v14 => ?_)
    exact g_ret hO rfl rfl ⟨Nat.le_of_ble_eq_true rfl, Nat.le_of_ble_eq_true rfl⟩ rfl rfl d_X2_tell_112.1
  · skip
    refine g_aload_n hO d_X2_tell_113 (by rfl) 0 rfl ?_
    refine k_virtIp hO cl_X2 mm_X2_openRooms lkV_X2_180 ⟨⟨Nat.le_of_ble_eq_true rfl, Nat.le_of_ble_eq_true rfl⟩, Nat.le_of_ble_eq_true rfl, Nat.le_of_ble_eq_true rfl⟩ (kn' := (0, 0)) rfl (As := []) rfl (Nat.le_of_ble_eq_true rfl) (fun o' _ => t_X2_openRooms Γ.2.1 E o' S) d_X2_tell_114 rfl (fun v15 => ?_)
    exact g_ret hO rfl rfl ⟨Nat.le_of_ble_eq_true rfl, Nat.le_of_ble_eq_true rfl⟩ rfl rfl d_X2_tell_117.1
  · skip
    refine g_iload_n hO d_X2_tell_118 (by rfl) 1 rfl ?_
    refine g_bipush hO 20 d_X2_tell_119 (by decide) ?_
    refine g_ic_lt (tgt := 146) hO d_X2_tell_121.1 d_X2_tell_121.2 (fun _ => ?_) (fun _ => ?_)
    · skip
      refine g_bipush hO (-100) d_X2_tell_146 (by decide) ?_
      exact g_ret hO rfl rfl ⟨Nat.le_of_ble_eq_true rfl, Nat.le_of_ble_eq_true rfl⟩ rfl rfl d_X2_tell_148.1
    · skip
      refine g_aload_n hO d_X2_tell_124 (by rfl) 0 rfl ?_
      refine g_iload_n hO d_X2_tell_125 (by rfl) 1 rfl ?_
      refine g_bipush hO 20 d_X2_tell_126 (by decide) ?_
      refine g_isub hO d_X2_tell_128 ?_
      refine k_virtIp hO cl_X2 mm_X2_hasRoom lkV_X2_124 ⟨⟨Nat.le_of_ble_eq_true rfl, Nat.le_of_ble_eq_true rfl⟩, Nat.le_of_ble_eq_true rfl, Nat.le_of_ble_eq_true rfl⟩ (kn' := (0, 0)) rfl (As := [vI (x1 - 20)]) rfl (Nat.le_of_ble_eq_true rfl) (fun o' _ => t_X2_hasRoom Γ.2.1 E o' (x1 - 20) S) d_X2_tell_129 rfl (fun v17 => ?_)
      refine g_if_eq (tgt := 146) hO d_X2_tell_132.1 d_X2_tell_132.2 (fun _ => ?_) (fun _ => ?_)
      · skip
        refine g_bipush hO (-100) d_X2_tell_146 (by decide) ?_
        exact g_ret hO rfl rfl ⟨Nat.le_of_ble_eq_true rfl, Nat.le_of_ble_eq_true rfl⟩ rfl rfl d_X2_tell_148.1
      · skip
        refine g_aload_n hO d_X2_tell_135 (by rfl) 0 rfl ?_
        refine g_iload_n hO d_X2_tell_136 (by rfl) 1 rfl ?_
        refine g_bipush hO 20 d_X2_tell_137 (by decide) ?_
        refine g_isub hO d_X2_tell_139 ?_
        refine k_virtIp hO cl_X2 mm_X2_pressureIn lkV_X2_157 ⟨⟨Nat.le_of_ble_eq_true rfl, Nat.le_of_ble_eq_true rfl⟩, Nat.le_of_ble_eq_true rfl, Nat.le_of_ble_eq_true rfl⟩ (kn' := (0, 0)) rfl (As := [vI (x1 - 20)]) rfl (Nat.le_of_ble_eq_true rfl) (fun o' _ => t_X2_pressureIn Γ.2.1 E o' (x1 - 20) S) d_X2_tell_140 rfl (fun v19 => ?_)
        refine g_goto (tgt := 148) hO d_X2_tell_143.1 d_X2_tell_143.2 ?_
        exact g_ret hO rfl rfl ⟨Nat.le_of_ble_eq_true rfl, Nat.le_of_ble_eq_true rfl⟩ rfl rfl d_X2_tell_148.1
theorem t_X2_tell (l : Launch) (E : GE) (o : Nat) (x1 : Int32) (S : GS) : ∀ a, f_X2_tell o x1 S = some a → Ct l E yX2_tell cX2_tell 2 (some .int) rm_X2_tell [vA (some o), vI x1] S (some (vI a)) S :=
  Ct_of (val := fun b => some (vI b)) (nxt := fun _ => S) (by decide) (Nat.le_of_ble_eq_true rfl) (fun Γ hl hO => w_X2_tell hO o x1 S)
theorem d_X2_tellOf_0 : gD cX2_tellOf 0 (.aload_n 0) 1 1 := ⟨by decide +kernel, rfl⟩
theorem d_X2_tellOf_1 : gD cX2_tellOf 1 (.iload_n 1) 1 2 := ⟨by decide +kernel, rfl⟩
theorem d_X2_tellOf_2 : gD cX2_tellOf 2 (.invokevirtual 127) 3 5 := ⟨by decide +kernel, rfl⟩
theorem d_X2_tellOf_5 : gD cX2_tellOf 5 (.ifCond .ne 6) 3 8 ∧ ((5 : Nat) : Int) + 6 = ((11 : Nat) : Int) := ⟨⟨by decide +kernel, rfl⟩, by decide⟩
theorem d_X2_tellOf_8 : gD cX2_tellOf 8 (.bipush (-2)) 2 10 := ⟨by decide +kernel, rfl⟩
theorem d_X2_tellOf_10 : gD cX2_tellOf 10 (.ireturn) 1 11 := ⟨by decide +kernel, rfl⟩
theorem d_X2_tellOf_11 : gD cX2_tellOf 11 (.iload_n 2) 1 12 := ⟨by decide +kernel, rfl⟩
theorem d_X2_tellOf_12 : decode cX2_tellOf 12 = .ok (.tableswitch 71 0 4 #[36, 43, 50, 57, 64], 36) ∧ ((12 : Nat) : Int) + 71 = ((83 : Nat) : Int) := ⟨by decide +kernel, by decide⟩
theorem d_X2_tellOf_48 : gD cX2_tellOf 48 (.aload_n 0) 1 49 := ⟨by decide +kernel, rfl⟩
theorem d_X2_tellOf_49 : gD cX2_tellOf 49 (.getfield 19) 3 52 := ⟨by decide +kernel, rfl⟩
theorem d_X2_tellOf_52 : gD cX2_tellOf 52 (.iload_n 1) 1 53 := ⟨by decide +kernel, rfl⟩
theorem d_X2_tellOf_53 : gD cX2_tellOf 53 (.iaload) 1 54 := ⟨by decide +kernel, rfl⟩
theorem d_X2_tellOf_54 : gD cX2_tellOf 54 (.ireturn) 1 55 := ⟨by decide +kernel, rfl⟩
theorem d_X2_tellOf_55 : gD cX2_tellOf 55 (.aload_n 0) 1 56 := ⟨by decide +kernel, rfl⟩
theorem d_X2_tellOf_56 : gD cX2_tellOf 56 (.getfield 22) 3 59 := ⟨by decide +kernel, rfl⟩
theorem d_X2_tellOf_59 : gD cX2_tellOf 59 (.iload_n 1) 1 60 := ⟨by decide +kernel, rfl⟩
theorem d_X2_tellOf_60 : gD cX2_tellOf 60 (.iaload) 1 61 := ⟨by decide +kernel, rfl⟩
theorem d_X2_tellOf_61 : gD cX2_tellOf 61 (.ireturn) 1 62 := ⟨by decide +kernel, rfl⟩
theorem d_X2_tellOf_62 : gD cX2_tellOf 62 (.aload_n 0) 1 63 := ⟨by decide +kernel, rfl⟩
theorem d_X2_tellOf_63 : gD cX2_tellOf 63 (.getfield 25) 3 66 := ⟨by decide +kernel, rfl⟩
theorem d_X2_tellOf_66 : gD cX2_tellOf 66 (.iload_n 1) 1 67 := ⟨by decide +kernel, rfl⟩
theorem d_X2_tellOf_67 : gD cX2_tellOf 67 (.iaload) 1 68 := ⟨by decide +kernel, rfl⟩
theorem d_X2_tellOf_68 : gD cX2_tellOf 68 (.ireturn) 1 69 := ⟨by decide +kernel, rfl⟩
theorem d_X2_tellOf_69 : gD cX2_tellOf 69 (.aload_n 0) 1 70 := ⟨by decide +kernel, rfl⟩
theorem d_X2_tellOf_70 : gD cX2_tellOf 70 (.getfield 31) 3 73 := ⟨by decide +kernel, rfl⟩
theorem d_X2_tellOf_73 : gD cX2_tellOf 73 (.iload_n 1) 1 74 := ⟨by decide +kernel, rfl⟩
theorem d_X2_tellOf_74 : gD cX2_tellOf 74 (.iaload) 1 75 := ⟨by decide +kernel, rfl⟩
theorem d_X2_tellOf_75 : gD cX2_tellOf 75 (.ireturn) 1 76 := ⟨by decide +kernel, rfl⟩
theorem d_X2_tellOf_76 : gD cX2_tellOf 76 (.aload_n 0) 1 77 := ⟨by decide +kernel, rfl⟩
theorem d_X2_tellOf_77 : gD cX2_tellOf 77 (.getfield 34) 3 80 := ⟨by decide +kernel, rfl⟩
theorem d_X2_tellOf_80 : gD cX2_tellOf 80 (.iload_n 1) 1 81 := ⟨by decide +kernel, rfl⟩
theorem d_X2_tellOf_81 : gD cX2_tellOf 81 (.iaload) 1 82 := ⟨by decide +kernel, rfl⟩
theorem d_X2_tellOf_82 : gD cX2_tellOf 82 (.ireturn) 1 83 := ⟨by decide +kernel, rfl⟩
theorem d_X2_tellOf_83 : gD cX2_tellOf 83 (.bipush (-2)) 2 85 := ⟨by decide +kernel, rfl⟩
theorem d_X2_tellOf_85 : gD cX2_tellOf 85 (.ireturn) 1 86 := ⟨by decide +kernel, rfl⟩
abbrev rm_X2_tellOf : Room := { frames := 1, cells := 0, slots := 0, locals := 21 }
set_option maxRecDepth 20000 in
theorem w_X2_tellOf {Γ : GC} {E : GE} (hO : gOk Γ E cX2_tellOf RX2 3 rm_X2_tellOf (some .int) "tellOf") (o : Nat) (x1 : Int32) (x2 : Int32) (S : GS) : Go Γ E (gBpI Γ E S) 3 (0, 0) 0 S [(0, vA (some o)), (1, vI x1), (2, vI x2)] [] (f_X2_tellOf o x1 x2 S) := by
  unfold f_X2_tellOf
  refine g_aload_n hO d_X2_tellOf_0 (by rfl) 0 rfl ?_
  refine g_iload_n hO d_X2_tellOf_1 (by rfl) 1 rfl ?_
  refine k_virtIp hO cl_X2 mm_X2_hasLady lkV_X2_127 ⟨⟨Nat.le_of_ble_eq_true rfl, Nat.le_of_ble_eq_true rfl⟩, Nat.le_of_ble_eq_true rfl, Nat.le_of_ble_eq_true rfl⟩ (kn' := (0, 0)) rfl (As := [vI x1]) rfl (Nat.le_of_ble_eq_true rfl) (fun o' _ => t_X2_hasLady Γ.2.1 E o' x1 S) d_X2_tellOf_2 rfl (fun v1 => ?_)
  refine g_if_ne (tgt := 11) hO d_X2_tellOf_5.1 d_X2_tellOf_5.2 (fun _ => ?_) (fun _ => ?_)
  · skip
    refine g_bipush hO (-2) d_X2_tellOf_8 (by decide) ?_
    exact g_ret hO rfl rfl ⟨Nat.le_of_ble_eq_true rfl, Nat.le_of_ble_eq_true rfl⟩ rfl rfl d_X2_tellOf_10.1
  · skip
    refine g_iload_n hO d_X2_tellOf_11 (by rfl) 2 rfl ?_
    refine h_tsw (c := 0) (dt := 83) hO d_X2_tellOf_12.1 5 (by decide) (by rfl) rfl (by decide) (by decide) d_X2_tellOf_12.2 ⟨⟨48, by decide, ?_⟩, ⟨55, by decide, ?_⟩, ⟨62, by decide, ?_⟩, ⟨69, by decide, ?_⟩, ⟨76, by decide, ?_⟩, trivial⟩ ?_
    · skip
      refine g_aload_n hO d_X2_tellOf_48 (by rfl) 0 rfl ?_
      refine h_getR hO cl_X2 2 rfl wf_X2_19 d_X2_tellOf_49 (fun v3 => ?_)
      refine g_iload_n hO d_X2_tellOf_52 (by rfl) 1 rfl ?_
      refine h_iald hO d_X2_tellOf_53 (fun v4 => ?_)
      exact g_ret hO rfl rfl ⟨Nat.le_of_ble_eq_true rfl, Nat.le_of_ble_eq_true rfl⟩ rfl rfl d_X2_tellOf_54.1
    · skip
      refine g_aload_n hO d_X2_tellOf_55 (by rfl) 0 rfl ?_
      refine h_getR hO cl_X2 3 rfl wf_X2_22 d_X2_tellOf_56 (fun v5 => ?_)
      refine g_iload_n hO d_X2_tellOf_59 (by rfl) 1 rfl ?_
      refine h_iald hO d_X2_tellOf_60 (fun v6 => ?_)
      exact g_ret hO rfl rfl ⟨Nat.le_of_ble_eq_true rfl, Nat.le_of_ble_eq_true rfl⟩ rfl rfl d_X2_tellOf_61.1
    · skip
      refine g_aload_n hO d_X2_tellOf_62 (by rfl) 0 rfl ?_
      refine h_getR hO cl_X2 4 rfl wf_X2_25 d_X2_tellOf_63 (fun v7 => ?_)
      refine g_iload_n hO d_X2_tellOf_66 (by rfl) 1 rfl ?_
      refine h_iald hO d_X2_tellOf_67 (fun v8 => ?_)
      exact g_ret hO rfl rfl ⟨Nat.le_of_ble_eq_true rfl, Nat.le_of_ble_eq_true rfl⟩ rfl rfl d_X2_tellOf_68.1
    · skip
      refine g_aload_n hO d_X2_tellOf_69 (by rfl) 0 rfl ?_
      refine h_getR hO cl_X2 6 rfl wf_X2_31 d_X2_tellOf_70 (fun v9 => ?_)
      refine g_iload_n hO d_X2_tellOf_73 (by rfl) 1 rfl ?_
      refine h_iald hO d_X2_tellOf_74 (fun v10 => ?_)
      exact g_ret hO rfl rfl ⟨Nat.le_of_ble_eq_true rfl, Nat.le_of_ble_eq_true rfl⟩ rfl rfl d_X2_tellOf_75.1
    · skip
      refine g_aload_n hO d_X2_tellOf_76 (by rfl) 0 rfl ?_
      refine h_getR hO cl_X2 7 rfl wf_X2_34 d_X2_tellOf_77 (fun v11 => ?_)
      refine g_iload_n hO d_X2_tellOf_80 (by rfl) 1 rfl ?_
      refine h_iald hO d_X2_tellOf_81 (fun v12 => ?_)
      exact g_ret hO rfl rfl ⟨Nat.le_of_ble_eq_true rfl, Nat.le_of_ble_eq_true rfl⟩ rfl rfl d_X2_tellOf_82.1
    · skip
      refine g_bipush hO (-2) d_X2_tellOf_83 (by decide) ?_
      exact g_ret hO rfl rfl ⟨Nat.le_of_ble_eq_true rfl, Nat.le_of_ble_eq_true rfl⟩ rfl rfl d_X2_tellOf_85.1
theorem t_X2_tellOf (l : Launch) (E : GE) (o : Nat) (x1 : Int32) (x2 : Int32) (S : GS) : ∀ a, f_X2_tellOf o x1 x2 S = some a → Ct l E yX2_tellOf cX2_tellOf 3 (some .int) rm_X2_tellOf [vA (some o), vI x1, vI x2] S (some (vI a)) S :=
  Ct_of (val := fun b => some (vI b)) (nxt := fun _ => S) (by decide) (Nat.le_of_ble_eq_true rfl) (fun Γ hl hO => w_X2_tellOf hO o x1 x2 S)
theorem d_X2_gustOf_0 : gD cX2_gustOf 0 (.aload_n 0) 1 1 := ⟨by decide +kernel, rfl⟩
theorem d_X2_gustOf_1 : gD cX2_gustOf 1 (.getfield 40) 3 4 := ⟨by decide +kernel, rfl⟩
theorem d_X2_gustOf_4 : gD cX2_gustOf 4 (.invokevirtual 190) 3 7 := ⟨by decide +kernel, rfl⟩
theorem d_X2_gustOf_7 : gD cX2_gustOf 7 (.istore_n 2) 1 8 := ⟨by decide +kernel, rfl⟩
theorem d_X2_gustOf_8 : gD cX2_gustOf 8 (.iload_n 2) 1 9 := ⟨by decide +kernel, rfl⟩
theorem d_X2_gustOf_9 : gD cX2_gustOf 9 (.ifCond .le 9) 3 12 ∧ ((9 : Nat) : Int) + 9 = ((18 : Nat) : Int) := ⟨⟨by decide +kernel, rfl⟩, by decide⟩
theorem d_X2_gustOf_12 : gD cX2_gustOf 12 (.iload_n 1) 1 13 := ⟨by decide +kernel, rfl⟩
theorem d_X2_gustOf_13 : gD cX2_gustOf 13 (.iload_n 2) 1 14 := ⟨by decide +kernel, rfl⟩
theorem d_X2_gustOf_14 : gD cX2_gustOf 14 (.irem) 1 15 := ⟨by decide +kernel, rfl⟩
theorem d_X2_gustOf_15 : decode cX2_gustOf 15 = .ok (.goto 4, 3) ∧ ((15 : Nat) : Int) + 4 = ((19 : Nat) : Int) := ⟨by decide +kernel, by decide⟩
theorem d_X2_gustOf_18 : gD cX2_gustOf 18 (.iconst 0) 1 19 := ⟨by decide +kernel, rfl⟩
theorem d_X2_gustOf_19 : gD cX2_gustOf 19 (.istore_n 3) 1 20 := ⟨by decide +kernel, rfl⟩
theorem d_X2_gustOf_20 : gD cX2_gustOf 20 (.iload_n 3) 1 21 := ⟨by decide +kernel, rfl⟩
theorem d_X2_gustOf_21 : gD cX2_gustOf 21 (.aload_n 0) 1 22 := ⟨by decide +kernel, rfl⟩
theorem d_X2_gustOf_22 : gD cX2_gustOf 22 (.getfield 40) 3 25 := ⟨by decide +kernel, rfl⟩
theorem d_X2_gustOf_25 : gD cX2_gustOf 25 (.getfield 193) 3 28 := ⟨by decide +kernel, rfl⟩
theorem d_X2_gustOf_28 : gD cX2_gustOf 28 (.iconst 0) 1 29 := ⟨by decide +kernel, rfl⟩
theorem d_X2_gustOf_29 : gD cX2_gustOf 29 (.iaload) 1 30 := ⟨by decide +kernel, rfl⟩
theorem d_X2_gustOf_30 : gD cX2_gustOf 30 (.if_icmp .ge 5) 3 33 ∧ ((30 : Nat) : Int) + 5 = ((35 : Nat) : Int) := ⟨⟨by decide +kernel, rfl⟩, by decide⟩
theorem d_X2_gustOf_33 : gD cX2_gustOf 33 (.iconst 0) 1 34 := ⟨by decide +kernel, rfl⟩
theorem d_X2_gustOf_34 : gD cX2_gustOf 34 (.ireturn) 1 35 := ⟨by decide +kernel, rfl⟩
theorem d_X2_gustOf_35 : gD cX2_gustOf 35 (.iload_n 3) 1 36 := ⟨by decide +kernel, rfl⟩
theorem d_X2_gustOf_36 : gD cX2_gustOf 36 (.aload_n 0) 1 37 := ⟨by decide +kernel, rfl⟩
theorem d_X2_gustOf_37 : gD cX2_gustOf 37 (.getfield 40) 3 40 := ⟨by decide +kernel, rfl⟩
theorem d_X2_gustOf_40 : gD cX2_gustOf 40 (.getfield 193) 3 43 := ⟨by decide +kernel, rfl⟩
theorem d_X2_gustOf_43 : gD cX2_gustOf 43 (.iconst 0) 1 44 := ⟨by decide +kernel, rfl⟩
theorem d_X2_gustOf_44 : gD cX2_gustOf 44 (.iaload) 1 45 := ⟨by decide +kernel, rfl⟩
theorem d_X2_gustOf_45 : gD cX2_gustOf 45 (.aload_n 0) 1 46 := ⟨by decide +kernel, rfl⟩
theorem d_X2_gustOf_46 : gD cX2_gustOf 46 (.getfield 40) 3 49 := ⟨by decide +kernel, rfl⟩
theorem d_X2_gustOf_49 : gD cX2_gustOf 49 (.getfield 193) 3 52 := ⟨by decide +kernel, rfl⟩
theorem d_X2_gustOf_52 : gD cX2_gustOf 52 (.iconst 1) 1 53 := ⟨by decide +kernel, rfl⟩
theorem d_X2_gustOf_53 : gD cX2_gustOf 53 (.iaload) 1 54 := ⟨by decide +kernel, rfl⟩
theorem d_X2_gustOf_54 : gD cX2_gustOf 54 (.iadd) 1 55 := ⟨by decide +kernel, rfl⟩
theorem d_X2_gustOf_55 : gD cX2_gustOf 55 (.if_icmp .ge 7) 3 58 ∧ ((55 : Nat) : Int) + 7 = ((62 : Nat) : Int) := ⟨⟨by decide +kernel, rfl⟩, by decide⟩
theorem d_X2_gustOf_58 : gD cX2_gustOf 58 (.iconst 1) 1 59 := ⟨by decide +kernel, rfl⟩
theorem d_X2_gustOf_59 : decode cX2_gustOf 59 = .ok (.goto 4, 3) ∧ ((59 : Nat) : Int) + 4 = ((63 : Nat) : Int) := ⟨by decide +kernel, by decide⟩
theorem d_X2_gustOf_62 : gD cX2_gustOf 62 (.iconst 2) 1 63 := ⟨by decide +kernel, rfl⟩
theorem d_X2_gustOf_63 : gD cX2_gustOf 63 (.ireturn) 1 64 := ⟨by decide +kernel, rfl⟩
abbrev rm_X2_gustOf : Room := { frames := 1, cells := 0, slots := 0, locals := 20 }
set_option maxRecDepth 20000 in
theorem w_X2_gustOf_19 {Γ : GC} {E : GE} (hO : gOk Γ E cX2_gustOf RX2 4 rm_X2_gustOf (some .int) "gustOf") (o : Nat) (S : GS) (y0 : Int32) : Go Γ E (gBpI Γ E S) 4 (0, 0) 19 S [(0, vA (some o))] [vI y0] (f_X2_gustOf_19 o S y0) := by
  unfold f_X2_gustOf_19
  refine g_istore_n (lv' := [(3, vI y0), (0, vA (some o))]) hO d_X2_gustOf_19 (by rfl) (by decide) rfl ?_
  refine g_iload_n hO d_X2_gustOf_20 (by rfl) 0 rfl ?_
  refine g_aload_n hO d_X2_gustOf_21 (by rfl) 1 rfl ?_
  refine h_getR hO cl_X2 8 rfl wf_X2_40 d_X2_gustOf_22 (fun v1 => ?_)
  refine h_getR hO cl_X0 3 rfl wf_X2_193 d_X2_gustOf_25 (fun v2 => ?_)
  refine g_iconst hO 0 d_X2_gustOf_28 (by decide) ?_
  refine h_iald hO d_X2_gustOf_29 (fun v3 => ?_)
  refine g_ic_ge (tgt := 35) hO d_X2_gustOf_30.1 d_X2_gustOf_30.2 (fun _ => ?_) (fun _ => ?_)
  · skip
    refine g_iload_n hO d_X2_gustOf_35 (by rfl) 0 rfl ?_
    refine g_aload_n hO d_X2_gustOf_36 (by rfl) 1 rfl ?_
    refine h_getR hO cl_X2 8 rfl wf_X2_40 d_X2_gustOf_37 (fun v4 => ?_)
    refine h_getR hO cl_X0 3 rfl wf_X2_193 d_X2_gustOf_40 (fun v5 => ?_)
    refine g_iconst hO 0 d_X2_gustOf_43 (by decide) ?_
    refine h_iald hO d_X2_gustOf_44 (fun v6 => ?_)
    refine g_aload_n hO d_X2_gustOf_45 (by rfl) 1 rfl ?_
    refine h_getR hO cl_X2 8 rfl wf_X2_40 d_X2_gustOf_46 (fun v7 => ?_)
    refine h_getR hO cl_X0 3 rfl wf_X2_193 d_X2_gustOf_49 (fun v8 => ?_)
    refine g_iconst hO 1 d_X2_gustOf_52 (by decide) ?_
    refine h_iald hO d_X2_gustOf_53 (fun v9 => ?_)
    refine g_iadd hO d_X2_gustOf_54 ?_
    refine g_ic_ge (tgt := 62) hO d_X2_gustOf_55.1 d_X2_gustOf_55.2 (fun _ => ?_) (fun _ => ?_)
    · skip
      refine g_iconst hO 2 d_X2_gustOf_62 (by decide) ?_
      exact g_ret hO rfl rfl ⟨Nat.le_of_ble_eq_true rfl, Nat.le_of_ble_eq_true rfl⟩ rfl rfl d_X2_gustOf_63.1
    · skip
      refine g_iconst hO 1 d_X2_gustOf_58 (by decide) ?_
      refine g_goto (tgt := 63) hO d_X2_gustOf_59.1 d_X2_gustOf_59.2 ?_
      exact g_ret hO rfl rfl ⟨Nat.le_of_ble_eq_true rfl, Nat.le_of_ble_eq_true rfl⟩ rfl rfl d_X2_gustOf_63.1
  · skip
    refine g_iconst hO 0 d_X2_gustOf_33 (by decide) ?_
    exact g_ret hO rfl rfl ⟨Nat.le_of_ble_eq_true rfl, Nat.le_of_ble_eq_true rfl⟩ rfl rfl d_X2_gustOf_34.1
set_option maxRecDepth 20000 in
theorem w_X2_gustOf {Γ : GC} {E : GE} (hO : gOk Γ E cX2_gustOf RX2 4 rm_X2_gustOf (some .int) "gustOf") (o : Nat) (x1 : Int32) (S : GS) : Go Γ E (gBpI Γ E S) 4 (0, 0) 0 S [(0, vA (some o)), (1, vI x1)] [] (f_X2_gustOf o x1 S) := by
  unfold f_X2_gustOf
  refine g_aload_n hO d_X2_gustOf_0 (by rfl) 0 rfl ?_
  refine h_getR hO cl_X2 8 rfl wf_X2_40 d_X2_gustOf_1 (fun v1 => ?_)
  refine k_virtIp hO cl_X0 mm_X0_allWeights lkV_X2_190 ⟨⟨Nat.le_of_ble_eq_true rfl, Nat.le_of_ble_eq_true rfl⟩, Nat.le_of_ble_eq_true rfl, Nat.le_of_ble_eq_true rfl⟩ (kn' := (0, 0)) rfl (As := []) rfl (Nat.le_of_ble_eq_true rfl) (fun o' _ => t_X0_allWeights Γ.2.1 E o' S) d_X2_gustOf_4 rfl (fun v2 => ?_)
  refine g_istore_n (lv' := [(2, vI v2), (0, vA (some o)), (1, vI x1)]) hO d_X2_gustOf_7 (by rfl) (by decide) rfl ?_
  refine g_iload_n hO d_X2_gustOf_8 (by rfl) 0 rfl ?_
  refine g_if_le (tgt := 18) hO d_X2_gustOf_9.1 d_X2_gustOf_9.2 (fun _ => ?_) (fun _ => ?_)
  · skip
    refine g_iconst hO 0 d_X2_gustOf_18 (by decide) ?_
    exact g_sub [1] rfl (w_X2_gustOf_19 hO o _ _)
  · skip
    refine g_iload_n hO d_X2_gustOf_12 (by rfl) 2 rfl ?_
    refine g_iload_n hO d_X2_gustOf_13 (by rfl) 0 rfl ?_
    refine g_irem hO d_X2_gustOf_14 ?_
    refine g_goto (tgt := 19) hO d_X2_gustOf_15.1 d_X2_gustOf_15.2 ?_
    exact g_sub [1] rfl (w_X2_gustOf_19 hO o _ _)
theorem t_X2_gustOf (l : Launch) (E : GE) (o : Nat) (x1 : Int32) (S : GS) : ∀ a, f_X2_gustOf o x1 S = some a → Ct l E yX2_gustOf cX2_gustOf 4 (some .int) rm_X2_gustOf [vA (some o), vI x1] S (some (vI a)) S :=
  Ct_of (val := fun b => some (vI b)) (nxt := fun _ => S) (by decide) (Nat.le_of_ble_eq_true rfl) (fun Γ hl hO => w_X2_gustOf hO o x1 S)
theorem d_X2_tellWeather_0 : gD cX2_tellWeather 0 (.aload_n 0) 1 1 := ⟨by decide +kernel, rfl⟩
theorem d_X2_tellWeather_1 : gD cX2_tellWeather 1 (.aload_n 1) 1 2 := ⟨by decide +kernel, rfl⟩
theorem d_X2_tellWeather_2 : gD cX2_tellWeather 2 (.invokevirtual 83) 3 5 := ⟨by decide +kernel, rfl⟩
theorem d_X2_tellWeather_5 : gD cX2_tellWeather 5 (.iload_n 2) 1 6 := ⟨by decide +kernel, rfl⟩
theorem d_X2_tellWeather_6 : gD cX2_tellWeather 6 (.istore 5) 2 8 := ⟨by decide +kernel, rfl⟩
theorem d_X2_tellWeather_8 : gD cX2_tellWeather 8 (.aload_n 0) 1 9 := ⟨by decide +kernel, rfl⟩
theorem d_X2_tellWeather_9 : gD cX2_tellWeather 9 (.getfield 48) 3 12 := ⟨by decide +kernel, rfl⟩
theorem d_X2_tellWeather_12 : gD cX2_tellWeather 12 (.istore 6) 2 14 := ⟨by decide +kernel, rfl⟩
theorem d_X2_tellWeather_14 : gD cX2_tellWeather 14 (.aload_n 0) 1 15 := ⟨by decide +kernel, rfl⟩
theorem d_X2_tellWeather_15 : gD cX2_tellWeather 15 (.getfield 48) 3 18 := ⟨by decide +kernel, rfl⟩
theorem d_X2_tellWeather_18 : gD cX2_tellWeather 18 (.istore 7) 2 20 := ⟨by decide +kernel, rfl⟩
theorem d_X2_tellWeather_20 : gD cX2_tellWeather 20 (.iconst 0) 1 21 := ⟨by decide +kernel, rfl⟩
theorem d_X2_tellWeather_21 : gD cX2_tellWeather 21 (.istore 8) 2 23 := ⟨by decide +kernel, rfl⟩
theorem d_X2_tellWeather_23 : gD cX2_tellWeather 23 (.iload 8) 2 25 := ⟨by decide +kernel, rfl⟩
theorem d_X2_tellWeather_25 : gD cX2_tellWeather 25 (.iload_n 3) 1 26 := ⟨by decide +kernel, rfl⟩
theorem d_X2_tellWeather_26 : gD cX2_tellWeather 26 (.if_icmp .ge 67) 3 29 ∧ ((26 : Nat) : Int) + 67 = ((93 : Nat) : Int) := ⟨⟨by decide +kernel, rfl⟩, by decide⟩
theorem d_X2_tellWeather_29 : gD cX2_tellWeather 29 (.iload 5) 2 31 := ⟨by decide +kernel, rfl⟩
theorem d_X2_tellWeather_31 : gD cX2_tellWeather 31 (.ldc 183) 2 33 := ⟨by decide +kernel, rfl⟩
theorem d_X2_tellWeather_33 : gD cX2_tellWeather 33 (.imul) 1 34 := ⟨by decide +kernel, rfl⟩
theorem d_X2_tellWeather_34 : gD cX2_tellWeather 34 (.sipush 12345) 3 37 := ⟨by decide +kernel, rfl⟩
theorem d_X2_tellWeather_37 : gD cX2_tellWeather 37 (.iadd) 1 38 := ⟨by decide +kernel, rfl⟩
theorem d_X2_tellWeather_38 : gD cX2_tellWeather 38 (.istore 5) 2 40 := ⟨by decide +kernel, rfl⟩
theorem d_X2_tellWeather_40 : gD cX2_tellWeather 40 (.aload_n 0) 1 41 := ⟨by decide +kernel, rfl⟩
theorem d_X2_tellWeather_41 : gD cX2_tellWeather 41 (.aload_n 1) 1 42 := ⟨by decide +kernel, rfl⟩
theorem d_X2_tellWeather_42 : gD cX2_tellWeather 42 (.aload_n 0) 1 43 := ⟨by decide +kernel, rfl⟩
theorem d_X2_tellWeather_43 : gD cX2_tellWeather 43 (.getfield 48) 3 46 := ⟨by decide +kernel, rfl⟩
theorem d_X2_tellWeather_46 : gD cX2_tellWeather 46 (.aload_n 0) 1 47 := ⟨by decide +kernel, rfl⟩
theorem d_X2_tellWeather_47 : gD cX2_tellWeather 47 (.iload 5) 2 49 := ⟨by decide +kernel, rfl⟩
theorem d_X2_tellWeather_49 : gD cX2_tellWeather 49 (.bipush 16) 2 51 := ⟨by decide +kernel, rfl⟩
theorem d_X2_tellWeather_51 : gD cX2_tellWeather 51 (.iushr) 1 52 := ⟨by decide +kernel, rfl⟩
theorem d_X2_tellWeather_52 : gD cX2_tellWeather 52 (.invokevirtual 184) 3 55 := ⟨by decide +kernel, rfl⟩
theorem d_X2_tellWeather_55 : gD cX2_tellWeather 55 (.invokevirtual 187) 3 58 := ⟨by decide +kernel, rfl⟩
theorem d_X2_tellWeather_58 : gD cX2_tellWeather 58 (.putfield 48) 3 61 := ⟨by decide +kernel, rfl⟩
theorem d_X2_tellWeather_61 : gD cX2_tellWeather 61 (.iload 6) 2 63 := ⟨by decide +kernel, rfl⟩
theorem d_X2_tellWeather_63 : gD cX2_tellWeather 63 (.aload_n 0) 1 64 := ⟨by decide +kernel, rfl⟩
theorem d_X2_tellWeather_64 : gD cX2_tellWeather 64 (.getfield 48) 3 67 := ⟨by decide +kernel, rfl⟩
theorem d_X2_tellWeather_67 : gD cX2_tellWeather 67 (.invokestatic 133) 3 70 := ⟨by decide +kernel, rfl⟩
theorem d_X2_tellWeather_70 : gD cX2_tellWeather 70 (.istore 6) 2 72 := ⟨by decide +kernel, rfl⟩
theorem d_X2_tellWeather_72 : gD cX2_tellWeather 72 (.iload 7) 2 74 := ⟨by decide +kernel, rfl⟩
theorem d_X2_tellWeather_74 : gD cX2_tellWeather 74 (.aload_n 0) 1 75 := ⟨by decide +kernel, rfl⟩
theorem d_X2_tellWeather_75 : gD cX2_tellWeather 75 (.getfield 48) 3 78 := ⟨by decide +kernel, rfl⟩
theorem d_X2_tellWeather_78 : gD cX2_tellWeather 78 (.invokestatic 147) 3 81 := ⟨by decide +kernel, rfl⟩
theorem d_X2_tellWeather_81 : gD cX2_tellWeather 81 (.istore 7) 2 83 := ⟨by decide +kernel, rfl⟩
theorem d_X2_tellWeather_83 : gD cX2_tellWeather 83 (.aload_n 0) 1 84 := ⟨by decide +kernel, rfl⟩
theorem d_X2_tellWeather_84 : gD cX2_tellWeather 84 (.invokevirtual 118) 3 87 := ⟨by decide +kernel, rfl⟩
theorem d_X2_tellWeather_87 : gD cX2_tellWeather 87 (.iinc 8 1) 3 90 := ⟨by decide +kernel, rfl⟩
theorem d_X2_tellWeather_90 : decode cX2_tellWeather 90 = .ok (.goto (-67), 3) ∧ ((90 : Nat) : Int) + (-67) = ((23 : Nat) : Int) := ⟨by decide +kernel, by decide⟩
theorem d_X2_tellWeather_93 : gD cX2_tellWeather 93 (.iload 4) 2 95 := ⟨by decide +kernel, rfl⟩
theorem d_X2_tellWeather_95 : decode cX2_tellWeather 95 = .ok (.tableswitch 75 0 6 #[41, 46, 52, 58, 64, 69, 72], 41) ∧ ((95 : Nat) : Int) + 75 = ((170 : Nat) : Int) := ⟨by decide +kernel, by decide⟩
theorem d_X2_tellWeather_136 : gD cX2_tellWeather 136 (.aload_n 0) 1 137 := ⟨by decide +kernel, rfl⟩
theorem d_X2_tellWeather_137 : gD cX2_tellWeather 137 (.getfield 48) 3 140 := ⟨by decide +kernel, rfl⟩
theorem d_X2_tellWeather_140 : gD cX2_tellWeather 140 (.ireturn) 1 141 := ⟨by decide +kernel, rfl⟩
theorem d_X2_tellWeather_141 : gD cX2_tellWeather 141 (.aload_n 0) 1 142 := ⟨by decide +kernel, rfl⟩
theorem d_X2_tellWeather_142 : gD cX2_tellWeather 142 (.iconst 0) 1 143 := ⟨by decide +kernel, rfl⟩
theorem d_X2_tellWeather_143 : gD cX2_tellWeather 143 (.invokevirtual 109) 3 146 := ⟨by decide +kernel, rfl⟩
theorem d_X2_tellWeather_146 : gD cX2_tellWeather 146 (.ireturn) 1 147 := ⟨by decide +kernel, rfl⟩
theorem d_X2_tellWeather_147 : gD cX2_tellWeather 147 (.aload_n 0) 1 148 := ⟨by decide +kernel, rfl⟩
theorem d_X2_tellWeather_148 : gD cX2_tellWeather 148 (.iconst 1) 1 149 := ⟨by decide +kernel, rfl⟩
theorem d_X2_tellWeather_149 : gD cX2_tellWeather 149 (.invokevirtual 109) 3 152 := ⟨by decide +kernel, rfl⟩
theorem d_X2_tellWeather_152 : gD cX2_tellWeather 152 (.ireturn) 1 153 := ⟨by decide +kernel, rfl⟩
theorem d_X2_tellWeather_153 : gD cX2_tellWeather 153 (.aload_n 0) 1 154 := ⟨by decide +kernel, rfl⟩
theorem d_X2_tellWeather_154 : gD cX2_tellWeather 154 (.iconst 2) 1 155 := ⟨by decide +kernel, rfl⟩
theorem d_X2_tellWeather_155 : gD cX2_tellWeather 155 (.invokevirtual 109) 3 158 := ⟨by decide +kernel, rfl⟩
theorem d_X2_tellWeather_158 : gD cX2_tellWeather 158 (.ireturn) 1 159 := ⟨by decide +kernel, rfl⟩
theorem d_X2_tellWeather_159 : gD cX2_tellWeather 159 (.aload_n 0) 1 160 := ⟨by decide +kernel, rfl⟩
theorem d_X2_tellWeather_160 : gD cX2_tellWeather 160 (.getfield 55) 3 163 := ⟨by decide +kernel, rfl⟩
theorem d_X2_tellWeather_163 : gD cX2_tellWeather 163 (.ireturn) 1 164 := ⟨by decide +kernel, rfl⟩
theorem d_X2_tellWeather_164 : gD cX2_tellWeather 164 (.iload 6) 2 166 := ⟨by decide +kernel, rfl⟩
theorem d_X2_tellWeather_166 : gD cX2_tellWeather 166 (.ireturn) 1 167 := ⟨by decide +kernel, rfl⟩
theorem d_X2_tellWeather_167 : gD cX2_tellWeather 167 (.iload 7) 2 169 := ⟨by decide +kernel, rfl⟩
theorem d_X2_tellWeather_169 : gD cX2_tellWeather 169 (.ireturn) 1 170 := ⟨by decide +kernel, rfl⟩
theorem d_X2_tellWeather_170 : gD cX2_tellWeather 170 (.iload 4) 2 172 := ⟨by decide +kernel, rfl⟩
theorem d_X2_tellWeather_172 : gD cX2_tellWeather 172 (.bipush 10) 2 174 := ⟨by decide +kernel, rfl⟩
theorem d_X2_tellWeather_174 : gD cX2_tellWeather 174 (.if_icmp .lt 28) 3 177 ∧ ((174 : Nat) : Int) + 28 = ((202 : Nat) : Int) := ⟨⟨by decide +kernel, rfl⟩, by decide⟩
theorem d_X2_tellWeather_177 : gD cX2_tellWeather 177 (.aload_n 0) 1 178 := ⟨by decide +kernel, rfl⟩
theorem d_X2_tellWeather_178 : gD cX2_tellWeather 178 (.iload 4) 2 180 := ⟨by decide +kernel, rfl⟩
theorem d_X2_tellWeather_180 : gD cX2_tellWeather 180 (.bipush 10) 2 182 := ⟨by decide +kernel, rfl⟩
theorem d_X2_tellWeather_182 : gD cX2_tellWeather 182 (.isub) 1 183 := ⟨by decide +kernel, rfl⟩
theorem d_X2_tellWeather_183 : gD cX2_tellWeather 183 (.invokevirtual 127) 3 186 := ⟨by decide +kernel, rfl⟩
theorem d_X2_tellWeather_186 : gD cX2_tellWeather 186 (.ifCond .eq 16) 3 189 ∧ ((186 : Nat) : Int) + 16 = ((202 : Nat) : Int) := ⟨⟨by decide +kernel, rfl⟩, by decide⟩
theorem d_X2_tellWeather_189 : gD cX2_tellWeather 189 (.aload_n 0) 1 190 := ⟨by decide +kernel, rfl⟩
theorem d_X2_tellWeather_190 : gD cX2_tellWeather 190 (.getfield 31) 3 193 := ⟨by decide +kernel, rfl⟩
theorem d_X2_tellWeather_193 : gD cX2_tellWeather 193 (.iload 4) 2 195 := ⟨by decide +kernel, rfl⟩
theorem d_X2_tellWeather_195 : gD cX2_tellWeather 195 (.bipush 10) 2 197 := ⟨by decide +kernel, rfl⟩
theorem d_X2_tellWeather_197 : gD cX2_tellWeather 197 (.isub) 1 198 := ⟨by decide +kernel, rfl⟩
theorem d_X2_tellWeather_198 : gD cX2_tellWeather 198 (.iaload) 1 199 := ⟨by decide +kernel, rfl⟩
theorem d_X2_tellWeather_199 : decode cX2_tellWeather 199 = .ok (.goto 4, 3) ∧ ((199 : Nat) : Int) + 4 = ((203 : Nat) : Int) := ⟨by decide +kernel, by decide⟩
theorem d_X2_tellWeather_202 : gD cX2_tellWeather 202 (.iconst (-1)) 1 203 := ⟨by decide +kernel, rfl⟩
theorem d_X2_tellWeather_203 : gD cX2_tellWeather 203 (.ireturn) 1 204 := ⟨by decide +kernel, rfl⟩
abbrev rm_X2_tellWeather : Room := { frames := 4, cells := 0, slots := 0, locals := 89 }
set_option maxRecDepth 20000 in
theorem w_X2_tellWeather_23 {Γ : GC} {E : GE} (hO : gOk Γ E cX2_tellWeather RX2 9 rm_X2_tellWeather (some .int) "tellWeather") (o : Nat) : ∀ (n : Nat) (x1 : Option Nat) (x3 : Int32) (x4 : Int32) (x5 : Int32) (x6 : Int32) (x7 : Int32) (x8 : Int32) (S : GS), Go Γ E (gBsI Γ E) 9 (0, 0) 23 S [(0, vA (some o)), (1, vA x1), (3, vI x3), (4, vI x4), (5, vI x5), (6, vI x6), (7, vI x7), (8, vI x8)] [] (f_X2_tellWeather_23 o n x1 x3 x4 x5 x6 x7 x8 S) := by
  intro n
  induction n with
  | zero =>
    intro x1 x3 x4 x5 x6 x7 x8 S
    exact g_none
  | succ n ih =>
    intro x1 x3 x4 x5 x6 x7 x8 S
    rw [f_X2_tellWeather_23]
    refine g_iload hO d_X2_tellWeather_23 7 rfl ?_
    refine g_iload_n hO d_X2_tellWeather_25 (by rfl) 2 rfl ?_
    refine g_ic_ge (tgt := 93) hO d_X2_tellWeather_26.1 d_X2_tellWeather_26.2 (fun _ => ?_) (fun _ => ?_)
    · skip
      refine g_iload hO d_X2_tellWeather_93 3 rfl ?_
      refine h_tsw (c := 0) (dt := 170) hO d_X2_tellWeather_95.1 7 (by decide) (by rfl) rfl (by decide) (by decide) d_X2_tellWeather_95.2 ⟨⟨136, by decide, ?_⟩, ⟨141, by decide, ?_⟩, ⟨147, by decide, ?_⟩, ⟨153, by decide, ?_⟩, ⟨159, by decide, ?_⟩, ⟨164, by decide, ?_⟩, ⟨167, by decide, ?_⟩, trivial⟩ ?_
      · skip
        refine g_aload_n hO d_X2_tellWeather_136 (by rfl) 0 rfl ?_
        refine h_getI hO cl_X2 10 rfl wf_X2_48 d_X2_tellWeather_137 (fun v1 => ?_)
        exact g_ret hO rfl rfl ⟨Nat.le_of_ble_eq_true rfl, Nat.le_of_ble_eq_true rfl⟩ rfl rfl d_X2_tellWeather_140.1
      · skip
        refine g_aload_n hO d_X2_tellWeather_141 (by rfl) 0 rfl ?_
        refine g_iconst hO 0 d_X2_tellWeather_142 (by decide) ?_
        refine k_virtIp hO cl_X2 mm_X2_ladiesWho lkV_X2_109 ⟨⟨Nat.le_of_ble_eq_true rfl, Nat.le_of_ble_eq_true rfl⟩, Nat.le_of_ble_eq_true rfl, Nat.le_of_ble_eq_true rfl⟩ (kn' := (0, 0)) rfl (As := [vI 0]) rfl (Nat.le_of_ble_eq_true rfl) (fun o' _ => t_X2_ladiesWho Γ.2.1 E o' 0 S) d_X2_tellWeather_143 rfl (fun v2 => ?_)
        exact g_ret hO rfl rfl ⟨Nat.le_of_ble_eq_true rfl, Nat.le_of_ble_eq_true rfl⟩ rfl rfl d_X2_tellWeather_146.1
      · skip
        refine g_aload_n hO d_X2_tellWeather_147 (by rfl) 0 rfl ?_
        refine g_iconst hO 1 d_X2_tellWeather_148 (by decide) ?_
        refine k_virtIp hO cl_X2 mm_X2_ladiesWho lkV_X2_109 ⟨⟨Nat.le_of_ble_eq_true rfl, Nat.le_of_ble_eq_true rfl⟩, Nat.le_of_ble_eq_true rfl, Nat.le_of_ble_eq_true rfl⟩ (kn' := (0, 0)) rfl (As := [vI 1]) rfl (Nat.le_of_ble_eq_true rfl) (fun o' _ => t_X2_ladiesWho Γ.2.1 E o' 1 S) d_X2_tellWeather_149 rfl (fun v4 => ?_)
        exact g_ret hO rfl rfl ⟨Nat.le_of_ble_eq_true rfl, Nat.le_of_ble_eq_true rfl⟩ rfl rfl d_X2_tellWeather_152.1
      · skip
        refine g_aload_n hO d_X2_tellWeather_153 (by rfl) 0 rfl ?_
        refine g_iconst hO 2 d_X2_tellWeather_154 (by decide) ?_
        refine k_virtIp hO cl_X2 mm_X2_ladiesWho lkV_X2_109 ⟨⟨Nat.le_of_ble_eq_true rfl, Nat.le_of_ble_eq_true rfl⟩, Nat.le_of_ble_eq_true rfl, Nat.le_of_ble_eq_true rfl⟩ (kn' := (0, 0)) rfl (As := [vI 2]) rfl (Nat.le_of_ble_eq_true rfl) (fun o' _ => t_X2_ladiesWho Γ.2.1 E o' 2 S) d_X2_tellWeather_155 rfl (fun v6 => ?_)
        exact g_ret hO rfl rfl ⟨Nat.le_of_ble_eq_true rfl, Nat.le_of_ble_eq_true rfl⟩ rfl rfl d_X2_tellWeather_158.1
      · skip
        refine g_aload_n hO d_X2_tellWeather_159 (by rfl) 0 rfl ?_
        refine h_getI hO cl_X2 13 rfl wf_X2_55 d_X2_tellWeather_160 (fun v8 => ?_)
        exact g_ret hO rfl rfl ⟨Nat.le_of_ble_eq_true rfl, Nat.le_of_ble_eq_true rfl⟩ rfl rfl d_X2_tellWeather_163.1
      · skip
        refine g_iload hO d_X2_tellWeather_164 5 rfl ?_
        exact g_ret hO rfl rfl ⟨Nat.le_of_ble_eq_true rfl, Nat.le_of_ble_eq_true rfl⟩ rfl rfl d_X2_tellWeather_166.1
      · skip
        refine g_iload hO d_X2_tellWeather_167 6 rfl ?_
        exact g_ret hO rfl rfl ⟨Nat.le_of_ble_eq_true rfl, Nat.le_of_ble_eq_true rfl⟩ rfl rfl d_X2_tellWeather_169.1
      · skip
        refine g_iload hO d_X2_tellWeather_170 3 rfl ?_
        refine g_bipush hO 10 d_X2_tellWeather_172 (by decide) ?_
        refine g_ic_lt (tgt := 202) hO d_X2_tellWeather_174.1 d_X2_tellWeather_174.2 (fun _ => ?_) (fun _ => ?_)
        · skip
          refine g_iconst hO (-1) d_X2_tellWeather_202 (by decide) ?_
          exact g_ret hO rfl rfl ⟨Nat.le_of_ble_eq_true rfl, Nat.le_of_ble_eq_true rfl⟩ rfl rfl d_X2_tellWeather_203.1
        · skip
          refine g_aload_n hO d_X2_tellWeather_177 (by rfl) 0 rfl ?_
          refine g_iload hO d_X2_tellWeather_178 3 rfl ?_
          refine g_bipush hO 10 d_X2_tellWeather_180 (by decide) ?_
          refine g_isub hO d_X2_tellWeather_182 ?_
          refine k_virtIp hO cl_X2 mm_X2_hasLady lkV_X2_127 ⟨⟨Nat.le_of_ble_eq_true rfl, Nat.le_of_ble_eq_true rfl⟩, Nat.le_of_ble_eq_true rfl, Nat.le_of_ble_eq_true rfl⟩ (kn' := (0, 0)) rfl (As := [vI (x4 - 10)]) rfl (Nat.le_of_ble_eq_true rfl) (fun o' _ => t_X2_hasLady Γ.2.1 E o' (x4 - 10) S) d_X2_tellWeather_183 rfl (fun v9 => ?_)
          refine g_if_eq (tgt := 202) hO d_X2_tellWeather_186.1 d_X2_tellWeather_186.2 (fun _ => ?_) (fun _ => ?_)
          · skip
            refine g_iconst hO (-1) d_X2_tellWeather_202 (by decide) ?_
            exact g_ret hO rfl rfl ⟨Nat.le_of_ble_eq_true rfl, Nat.le_of_ble_eq_true rfl⟩ rfl rfl d_X2_tellWeather_203.1
          · skip
            refine g_aload_n hO d_X2_tellWeather_189 (by rfl) 0 rfl ?_
            refine h_getR hO cl_X2 6 rfl wf_X2_31 d_X2_tellWeather_190 (fun v11 => ?_)
            refine g_iload hO d_X2_tellWeather_193 3 rfl ?_
            refine g_bipush hO 10 d_X2_tellWeather_195 (by decide) ?_
            refine g_isub hO d_X2_tellWeather_197 ?_
            refine h_iald hO d_X2_tellWeather_198 (fun v12 => ?_)
            refine g_goto (tgt := 203) hO d_X2_tellWeather_199.1 d_X2_tellWeather_199.2 ?_
            exact g_ret hO rfl rfl ⟨Nat.le_of_ble_eq_true rfl, Nat.le_of_ble_eq_true rfl⟩ rfl rfl d_X2_tellWeather_203.1
    · skip
      refine g_iload hO d_X2_tellWeather_29 4 rfl ?_
      refine g_ldc hO 1103515245 d_X2_tellWeather_31 wk_X2_183 ?_
      refine g_imul hO d_X2_tellWeather_33 ?_
      refine g_sipush hO 12345 d_X2_tellWeather_34 (by decide) ?_
      refine g_iadd hO d_X2_tellWeather_37 ?_
      refine g_istore (lv' := [(5, vI ((x5 * 1103515245) + 12345)), (0, vA (some o)), (1, vA x1), (3, vI x3), (4, vI x4), (6, vI x6), (7, vI x7), (8, vI x8)]) hO d_X2_tellWeather_38 (by decide) rfl ?_
      refine g_aload_n hO d_X2_tellWeather_40 (by rfl) 1 rfl ?_
      refine g_aload_n hO d_X2_tellWeather_41 (by rfl) 2 rfl ?_
      refine g_aload_n hO d_X2_tellWeather_42 (by rfl) 1 rfl ?_
      refine h_getI hO cl_X2 10 rfl wf_X2_48 d_X2_tellWeather_43 (fun v13 => ?_)
      refine g_aload_n hO d_X2_tellWeather_46 (by rfl) 1 rfl ?_
      refine g_iload hO d_X2_tellWeather_47 0 rfl ?_
      refine g_bipush hO 16 d_X2_tellWeather_49 (by decide) ?_
      refine g_iushr hO d_X2_tellWeather_51 ?_
      refine k_virtIp hO cl_X2 mm_X2_gustOf lkV_X2_184 ⟨⟨Nat.le_of_ble_eq_true rfl, Nat.le_of_ble_eq_true rfl⟩, Nat.le_of_ble_eq_true rfl, Nat.le_of_ble_eq_true rfl⟩ (kn' := (0, 0)) rfl (As := [vI (jushr ((x5 * 1103515245) + 12345) 16)]) rfl (Nat.le_of_ble_eq_true rfl) (fun o' _ => t_X2_gustOf Γ.2.1 E o' (jushr ((x5 * 1103515245) + 12345) 16) S) d_X2_tellWeather_52 rfl (fun v14 => ?_)
      refine k_virtIp hO cl_X0 mm_X0_markAfter lkV_X2_187 ⟨⟨Nat.le_of_ble_eq_true rfl, Nat.le_of_ble_eq_true rfl⟩, Nat.le_of_ble_eq_true rfl, Nat.le_of_ble_eq_true rfl⟩ (kn' := (0, 0)) rfl (As := [vI v13, vI v14]) rfl (Nat.le_of_ble_eq_true rfl) (fun o' _ => t_X0_markAfter Γ.2.1 E o' v13 v14 S) d_X2_tellWeather_55 rfl (fun v16 => ?_)
      refine h_putI hO cl_X2 10 rfl rfl wf_X2_48 (Or.inl rfl) d_X2_tellWeather_58 (fun S18 => ?_)
      refine g_iload hO d_X2_tellWeather_61 5 rfl ?_
      refine g_aload_n hO d_X2_tellWeather_63 (by rfl) 1 rfl ?_
      refine h_getI hO cl_X2 10 rfl wf_X2_48 d_X2_tellWeather_64 (fun v19 => ?_)
      refine g_mmin hO wm_X2_133 wt_min wi_Math wc_min ⟨by decide, Nat.le_of_ble_eq_true rfl, Nat.zero_le _, Nat.zero_le _⟩ d_X2_tellWeather_67 ?_
      refine g_istore (lv' := [(6, vI (jmin x6 v19)), (5, vI ((x5 * 1103515245) + 12345)), (0, vA (some o)), (1, vA x1), (3, vI x3), (4, vI x4), (7, vI x7), (8, vI x8)]) hO d_X2_tellWeather_70 (by decide) rfl ?_
      refine g_iload hO d_X2_tellWeather_72 6 rfl ?_
      refine g_aload_n hO d_X2_tellWeather_74 (by rfl) 2 rfl ?_
      refine h_getI hO cl_X2 10 rfl wf_X2_48 d_X2_tellWeather_75 (fun v20 => ?_)
      refine g_mmax hO wm_X2_147 wt_max wi_Math wc_max ⟨by decide, Nat.le_of_ble_eq_true rfl, Nat.zero_le _, Nat.zero_le _⟩ d_X2_tellWeather_78 ?_
      refine g_istore (lv' := [(7, vI (jmax x7 v20)), (6, vI (jmin x6 v19)), (5, vI ((x5 * 1103515245) + 12345)), (0, vA (some o)), (1, vA x1), (3, vI x3), (4, vI x4), (8, vI x8)]) hO d_X2_tellWeather_81 (by decide) rfl ?_
      refine g_aload_n hO d_X2_tellWeather_83 (by rfl) 3 rfl ?_
      refine k_virtVs hO cl_X2 mm_X2_passMinute lkV_X2_118 ⟨⟨Nat.le_of_ble_eq_true rfl, Nat.le_of_ble_eq_true rfl⟩, Nat.le_of_ble_eq_true rfl, Nat.le_of_ble_eq_true rfl⟩ (kn' := (0, 0)) rfl (As := []) rfl (Nat.le_of_ble_eq_true rfl) (fun o' _ => t_X2_passMinute Γ.2.1 E o' S18) d_X2_tellWeather_84 rfl (fun S22 => ?_)
      refine g_iinc (lv' := [(8, vI (x8 + 1)), (7, vI (jmax x7 v20)), (6, vI (jmin x6 v19)), (5, vI ((x5 * 1103515245) + 12345)), (0, vA (some o)), (1, vA x1), (3, vI x3), (4, vI x4)]) hO 1 d_X2_tellWeather_87 (by decide) 7 rfl (by decide) rfl ?_
      refine g_goto (tgt := 23) hO d_X2_tellWeather_90.1 d_X2_tellWeather_90.2 ?_
      exact g_sub [4, 5, 6, 7, 3, 2, 1, 0] rfl (ih _ _ _ _ _ _ _ _)
set_option maxRecDepth 20000 in
theorem w_X2_tellWeather {Γ : GC} {E : GE} (hO : gOk Γ E cX2_tellWeather RX2 9 rm_X2_tellWeather (some .int) "tellWeather") (o : Nat) (x1 : Option Nat) (x2 : Int32) (x3 : Int32) (x4 : Int32) (S : GS) : Go Γ E (gBsI Γ E) 9 (0, 0) 0 S [(0, vA (some o)), (1, vA x1), (2, vI x2), (3, vI x3), (4, vI x4)] [] (f_X2_tellWeather o x1 x2 x3 x4 S) := by
  unfold f_X2_tellWeather
  refine g_aload_n hO d_X2_tellWeather_0 (by rfl) 0 rfl ?_
  refine g_aload_n hO d_X2_tellWeather_1 (by rfl) 1 rfl ?_
  refine k_virtVs hO cl_X2 mm_X2_begin lkV_X2_83 ⟨⟨Nat.le_of_ble_eq_true rfl, Nat.le_of_ble_eq_true rfl⟩, Nat.le_of_ble_eq_true rfl, Nat.le_of_ble_eq_true rfl⟩ (kn' := (0, 0)) rfl (As := [vA x1]) rfl (Nat.le_of_ble_eq_true rfl) (fun o' _ => t_X2_begin Γ.2.1 E o' x1 S) d_X2_tellWeather_2 rfl (fun S2 => ?_)
  refine g_iload_n hO d_X2_tellWeather_5 (by rfl) 2 rfl ?_
  refine g_istore (lv' := [(5, vI x2), (0, vA (some o)), (1, vA x1), (2, vI x2), (3, vI x3), (4, vI x4)]) hO d_X2_tellWeather_6 (by decide) rfl ?_
  refine g_aload_n hO d_X2_tellWeather_8 (by rfl) 1 rfl ?_
  refine h_getI hO cl_X2 10 rfl wf_X2_48 d_X2_tellWeather_9 (fun v3 => ?_)
  refine g_istore (lv' := [(6, vI v3), (5, vI x2), (0, vA (some o)), (1, vA x1), (2, vI x2), (3, vI x3), (4, vI x4)]) hO d_X2_tellWeather_12 (by decide) rfl ?_
  refine g_aload_n hO d_X2_tellWeather_14 (by rfl) 2 rfl ?_
  refine h_getI hO cl_X2 10 rfl wf_X2_48 d_X2_tellWeather_15 (fun v4 => ?_)
  refine g_istore (lv' := [(7, vI v4), (6, vI v3), (5, vI x2), (0, vA (some o)), (1, vA x1), (2, vI x2), (3, vI x3), (4, vI x4)]) hO d_X2_tellWeather_18 (by decide) rfl ?_
  refine g_iconst hO 0 d_X2_tellWeather_20 (by decide) ?_
  refine g_istore (lv' := [(8, vI 0), (7, vI v4), (6, vI v3), (5, vI x2), (0, vA (some o)), (1, vA x1), (2, vI x2), (3, vI x3), (4, vI x4)]) hO d_X2_tellWeather_21 (by decide) rfl ?_
  exact g_sub [4, 5, 7, 8, 3, 2, 1, 0] rfl (w_X2_tellWeather_23 hO o _ _ _ _ _ _ _ _ _)
theorem t_X2_tellWeather (l : Launch) (E : GE) (o : Nat) (x1 : Option Nat) (x2 : Int32) (x3 : Int32) (x4 : Int32) (S : GS) : ∀ a, f_X2_tellWeather o x1 x2 x3 x4 S = some a → Ct l E yX2_tellWeather cX2_tellWeather 9 (some .int) rm_X2_tellWeather [vA (some o), vA x1, vI x2, vI x3, vI x4] S (some (vI a.1)) a.2 :=
  Ct_of (val := fun (b : Int32 × GS) => some (vI b.1)) (nxt := fun (b : Int32 × GS) => b.2) (by decide) (Nat.le_of_ble_eq_true rfl) (fun Γ hl hO => w_X2_tellWeather hO o x1 x2 x3 x4 S)
