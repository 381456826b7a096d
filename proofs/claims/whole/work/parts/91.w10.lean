theorem d_X12_worth_0 : gD cX12_worth 0 (.aload_n 0) 1 1 := ⟨by decide +kernel, rfl⟩
theorem d_X12_worth_1 : gD cX12_worth 1 (.iconst 0) 1 2 := ⟨by decide +kernel, rfl⟩
theorem d_X12_worth_2 : gD cX12_worth 2 (.putfield 100) 3 5 := ⟨by decide +kernel, rfl⟩
theorem d_X12_worth_5 : gD cX12_worth 5 (.iload_n 3) 1 6 := ⟨by decide +kernel, rfl⟩
theorem d_X12_worth_6 : gD cX12_worth 6 (.iconst 0) 1 7 := ⟨by decide +kernel, rfl⟩
theorem d_X12_worth_7 : gD cX12_worth 7 (.bipush 99) 2 9 := ⟨by decide +kernel, rfl⟩
theorem d_X12_worth_9 : gD cX12_worth 9 (.invokestatic 112) 3 12 := ⟨by decide +kernel, rfl⟩
theorem d_X12_worth_12 : gD cX12_worth 12 (.ifCond .eq 29) 3 15 ∧ ((12 : Nat) : Int) + 29 = ((41 : Nat) : Int) := ⟨⟨by decide +kernel, rfl⟩, by decide⟩
theorem d_X12_worth_15 : gD cX12_worth 15 (.iload 4) 2 17 := ⟨by decide +kernel, rfl⟩
theorem d_X12_worth_17 : gD cX12_worth 17 (.iconst 0) 1 18 := ⟨by decide +kernel, rfl⟩
theorem d_X12_worth_18 : gD cX12_worth 18 (.iconst 2) 1 19 := ⟨by decide +kernel, rfl⟩
theorem d_X12_worth_19 : gD cX12_worth 19 (.invokestatic 112) 3 22 := ⟨by decide +kernel, rfl⟩
theorem d_X12_worth_22 : gD cX12_worth 22 (.ifCond .eq 19) 3 25 ∧ ((22 : Nat) : Int) + 19 = ((41 : Nat) : Int) := ⟨⟨by decide +kernel, rfl⟩, by decide⟩
theorem d_X12_worth_25 : gD cX12_worth 25 (.aload_n 0) 1 26 := ⟨by decide +kernel, rfl⟩
theorem d_X12_worth_26 : gD cX12_worth 26 (.iload_n 1) 1 27 := ⟨by decide +kernel, rfl⟩
theorem d_X12_worth_27 : gD cX12_worth 27 (.invokevirtual 297) 3 30 := ⟨by decide +kernel, rfl⟩
theorem d_X12_worth_30 : gD cX12_worth 30 (.ifCond .eq 11) 3 33 ∧ ((30 : Nat) : Int) + 11 = ((41 : Nat) : Int) := ⟨⟨by decide +kernel, rfl⟩, by decide⟩
theorem d_X12_worth_33 : gD cX12_worth 33 (.aload_n 0) 1 34 := ⟨by decide +kernel, rfl⟩
theorem d_X12_worth_34 : gD cX12_worth 34 (.iload_n 2) 1 35 := ⟨by decide +kernel, rfl⟩
theorem d_X12_worth_35 : gD cX12_worth 35 (.invokevirtual 303) 3 38 := ⟨by decide +kernel, rfl⟩
theorem d_X12_worth_38 : gD cX12_worth 38 (.ifCond .ne 5) 3 41 ∧ ((38 : Nat) : Int) + 5 = ((43 : Nat) : Int) := ⟨⟨by decide +kernel, rfl⟩, by decide⟩
theorem d_X12_worth_41 : gD cX12_worth 41 (.iconst (-1)) 1 42 := ⟨by decide +kernel, rfl⟩
theorem d_X12_worth_42 : gD cX12_worth 42 (.ireturn) 1 43 := ⟨by decide +kernel, rfl⟩
theorem d_X12_worth_43 : gD cX12_worth 43 (.aload_n 0) 1 44 := ⟨by decide +kernel, rfl⟩
theorem d_X12_worth_44 : gD cX12_worth 44 (.invokevirtual 459) 3 47 := ⟨by decide +kernel, rfl⟩
theorem d_X12_worth_47 : gD cX12_worth 47 (.aload_n 0) 1 48 := ⟨by decide +kernel, rfl⟩
theorem d_X12_worth_48 : gD cX12_worth 48 (.iload_n 2) 1 49 := ⟨by decide +kernel, rfl⟩
theorem d_X12_worth_49 : gD cX12_worth 49 (.iload_n 3) 1 50 := ⟨by decide +kernel, rfl⟩
theorem d_X12_worth_50 : gD cX12_worth 50 (.bipush 7) 2 52 := ⟨by decide +kernel, rfl⟩
theorem d_X12_worth_52 : gD cX12_worth 52 (.invokevirtual 473) 3 55 := ⟨by decide +kernel, rfl⟩
theorem d_X12_worth_55 : gD cX12_worth 55 (.istore 5) 2 57 := ⟨by decide +kernel, rfl⟩
theorem d_X12_worth_57 : gD cX12_worth 57 (.iload 4) 2 59 := ⟨by decide +kernel, rfl⟩
theorem d_X12_worth_59 : gD cX12_worth 59 (.iconst 2) 1 60 := ⟨by decide +kernel, rfl⟩
theorem d_X12_worth_60 : gD cX12_worth 60 (.if_icmp .ne 6) 3 63 ∧ ((60 : Nat) : Int) + 6 = ((66 : Nat) : Int) := ⟨⟨by decide +kernel, rfl⟩, by decide⟩
theorem d_X12_worth_63 : gD cX12_worth 63 (.iload 5) 2 65 := ⟨by decide +kernel, rfl⟩
theorem d_X12_worth_65 : gD cX12_worth 65 (.ireturn) 1 66 := ⟨by decide +kernel, rfl⟩
theorem d_X12_worth_66 : gD cX12_worth 66 (.aload_n 0) 1 67 := ⟨by decide +kernel, rfl⟩
theorem d_X12_worth_67 : gD cX12_worth 67 (.iload_n 2) 1 68 := ⟨by decide +kernel, rfl⟩
theorem d_X12_worth_68 : gD cX12_worth 68 (.iload 5) 2 70 := ⟨by decide +kernel, rfl⟩
theorem d_X12_worth_70 : gD cX12_worth 70 (.iload_n 3) 1 71 := ⟨by decide +kernel, rfl⟩
theorem d_X12_worth_71 : gD cX12_worth 71 (.bipush 7) 2 73 := ⟨by decide +kernel, rfl⟩
theorem d_X12_worth_73 : gD cX12_worth 73 (.invokevirtual 469) 3 76 := ⟨by decide +kernel, rfl⟩
theorem d_X12_worth_76 : gD cX12_worth 76 (.istore 6) 2 78 := ⟨by decide +kernel, rfl⟩
theorem d_X12_worth_78 : gD cX12_worth 78 (.iconst 0) 1 79 := ⟨by decide +kernel, rfl⟩
theorem d_X12_worth_79 : gD cX12_worth 79 (.istore 7) 2 81 := ⟨by decide +kernel, rfl⟩
theorem d_X12_worth_81 : gD cX12_worth 81 (.iload 7) 2 83 := ⟨by decide +kernel, rfl⟩
theorem d_X12_worth_83 : gD cX12_worth 83 (.iconst 3) 1 84 := ⟨by decide +kernel, rfl⟩
theorem d_X12_worth_84 : gD cX12_worth 84 (.if_icmp .ge 34) 3 87 ∧ ((84 : Nat) : Int) + 34 = ((118 : Nat) : Int) := ⟨⟨by decide +kernel, rfl⟩, by decide⟩
theorem d_X12_worth_87 : gD cX12_worth 87 (.iload 6) 2 89 := ⟨by decide +kernel, rfl⟩
theorem d_X12_worth_89 : gD cX12_worth 89 (.aload_n 0) 1 90 := ⟨by decide +kernel, rfl⟩
theorem d_X12_worth_90 : gD cX12_worth 90 (.iload_n 2) 1 91 := ⟨by decide +kernel, rfl⟩
theorem d_X12_worth_91 : gD cX12_worth 91 (.aload_n 0) 1 92 := ⟨by decide +kernel, rfl⟩
theorem d_X12_worth_92 : gD cX12_worth 92 (.iload_n 2) 1 93 := ⟨by decide +kernel, rfl⟩
theorem d_X12_worth_93 : gD cX12_worth 93 (.iload_n 3) 1 94 := ⟨by decide +kernel, rfl⟩
theorem d_X12_worth_94 : gD cX12_worth 94 (.iconst 1) 1 95 := ⟨by decide +kernel, rfl⟩
theorem d_X12_worth_95 : gD cX12_worth 95 (.iload 7) 2 97 := ⟨by decide +kernel, rfl⟩
theorem d_X12_worth_97 : gD cX12_worth 97 (.ishl) 1 98 := ⟨by decide +kernel, rfl⟩
theorem d_X12_worth_98 : gD cX12_worth 98 (.invokevirtual 473) 3 101 := ⟨by decide +kernel, rfl⟩
theorem d_X12_worth_101 : gD cX12_worth 101 (.iload_n 3) 1 102 := ⟨by decide +kernel, rfl⟩
theorem d_X12_worth_102 : gD cX12_worth 102 (.iconst 1) 1 103 := ⟨by decide +kernel, rfl⟩
theorem d_X12_worth_103 : gD cX12_worth 103 (.iload 7) 2 105 := ⟨by decide +kernel, rfl⟩
theorem d_X12_worth_105 : gD cX12_worth 105 (.ishl) 1 106 := ⟨by decide +kernel, rfl⟩
theorem d_X12_worth_106 : gD cX12_worth 106 (.invokevirtual 469) 3 109 := ⟨by decide +kernel, rfl⟩
theorem d_X12_worth_109 : gD cX12_worth 109 (.isub) 1 110 := ⟨by decide +kernel, rfl⟩
theorem d_X12_worth_110 : gD cX12_worth 110 (.istore 6) 2 112 := ⟨by decide +kernel, rfl⟩
theorem d_X12_worth_112 : gD cX12_worth 112 (.iinc 7 1) 3 115 := ⟨by decide +kernel, rfl⟩
theorem d_X12_worth_115 : decode cX12_worth 115 = .ok (.goto (-34), 3) ∧ ((115 : Nat) : Int) + (-34) = ((81 : Nat) : Int) := ⟨by decide +kernel, by decide⟩
theorem d_X12_worth_118 : gD cX12_worth 118 (.iload 6) 2 120 := ⟨by decide +kernel, rfl⟩
theorem d_X12_worth_120 : gD cX12_worth 120 (.i2l) 1 121 := ⟨by decide +kernel, rfl⟩
theorem d_X12_worth_121 : gD cX12_worth 121 (.aload_n 0) 1 122 := ⟨by decide +kernel, rfl⟩
theorem d_X12_worth_122 : gD cX12_worth 122 (.getfield 447) 3 125 := ⟨by decide +kernel, rfl⟩
theorem d_X12_worth_125 : gD cX12_worth 125 (.i2l) 1 126 := ⟨by decide +kernel, rfl⟩
theorem d_X12_worth_126 : gD cX12_worth 126 (.iload 4) 2 128 := ⟨by decide +kernel, rfl⟩
theorem d_X12_worth_128 : gD cX12_worth 128 (.iconst 1) 1 129 := ⟨by decide +kernel, rfl⟩
theorem d_X12_worth_129 : gD cX12_worth 129 (.if_icmp .ne 7) 3 132 ∧ ((129 : Nat) : Int) + 7 = ((136 : Nat) : Int) := ⟨⟨by decide +kernel, rfl⟩, by decide⟩
theorem d_X12_worth_132 : gD cX12_worth 132 (.iconst 1) 1 133 := ⟨by decide +kernel, rfl⟩
theorem d_X12_worth_133 : decode cX12_worth 133 = .ok (.goto 4, 3) ∧ ((133 : Nat) : Int) + 4 = ((137 : Nat) : Int) := ⟨by decide +kernel, by decide⟩
theorem d_X12_worth_136 : gD cX12_worth 136 (.iconst 0) 1 137 := ⟨by decide +kernel, rfl⟩
theorem d_X12_worth_137 : gD cX12_worth 137 (.invokestatic 465) 3 140 := ⟨by decide +kernel, rfl⟩
theorem d_X12_worth_140 : gD cX12_worth 140 (.l2i) 1 141 := ⟨by decide +kernel, rfl⟩
theorem d_X12_worth_141 : gD cX12_worth 141 (.ireturn) 1 142 := ⟨by decide +kernel, rfl⟩
abbrev rm_X12_worth : Room := { frames := 6, cells := 0, slots := 0, locals := 141 }
set_option maxRecDepth 20000 in
theorem w_X12_worth_137 {Γ : GC} {E : GE} (hO : gOk Γ E cX12_worth RX12 8 rm_X12_worth (some .int) "worth") (o : Nat) (y0 : Int64) (y1 : Int64) (y2 : Int32) (S : GS) : Go Γ E (gBsI Γ E) 8 (0, 0) 137 S [(0, vA (some o))] [vI y2, vJ y1, vJ y0] (f_X12_worth_137 o y0 y1 y2 S) := by
  unfold f_X12_worth_137
  refine k_statJp hO mm_X12_terms lkS_X12_465 ⟨⟨Nat.le_of_ble_eq_true rfl, Nat.le_of_ble_eq_true rfl⟩, Nat.le_of_ble_eq_true rfl, Nat.le_of_ble_eq_true rfl⟩ (kn' := (0, 0)) rfl (As := [vJ y0, vJ y1, vI y2]) rfl (Nat.le_of_ble_eq_true rfl) (t_X12_terms Γ.2.1 E y0 y1 y2 S) d_X12_worth_137 rfl (fun v1 => ?_)
  refine g_l2i hO d_X12_worth_140 ?_
  exact g_ret hO rfl rfl ⟨Nat.le_of_ble_eq_true rfl, Nat.le_of_ble_eq_true rfl⟩ rfl rfl d_X12_worth_141.1
set_option maxRecDepth 20000 in
theorem w_X12_worth_81 {Γ : GC} {E : GE} (hO : gOk Γ E cX12_worth RX12 8 rm_X12_worth (some .int) "worth") (o : Nat) : ∀ (n : Nat) (x2 : Int32) (x3 : Int32) (x4 : Int32) (x6 : Int32) (x7 : Int32) (S : GS), Go Γ E (gBsI Γ E) 8 (0, 0) 81 S [(0, vA (some o)), (2, vI x2), (3, vI x3), (4, vI x4), (6, vI x6), (7, vI x7)] [] (f_X12_worth_81 o n x2 x3 x4 x6 x7 S) := by
  intro n
  induction n with
  | zero =>
    intro x2 x3 x4 x6 x7 S
    exact g_none
  | succ n ih =>
    intro x2 x3 x4 x6 x7 S
    rw [f_X12_worth_81]
    refine g_iload hO d_X12_worth_81 5 rfl ?_
    refine g_iconst hO 3 d_X12_worth_83 (by decide) ?_
    refine g_ic_ge (tgt := 118) hO d_X12_worth_84.1 d_X12_worth_84.2 (fun _ => ?_) (fun _ => ?_)
    · skip
      refine g_iload hO d_X12_worth_118 4 rfl ?_
      refine g_i2l hO d_X12_worth_120 ?_
      refine g_aload_n hO d_X12_worth_121 (by rfl) 0 rfl ?_
      refine h_getI hO cl_X12 50 rfl wf_X12_447 d_X12_worth_122 (fun v1 => ?_)
      refine g_i2l hO d_X12_worth_125 ?_
      refine g_iload hO d_X12_worth_126 3 rfl ?_
      refine g_iconst hO 1 d_X12_worth_128 (by decide) ?_
      refine g_ic_ne (tgt := 136) hO d_X12_worth_129.1 d_X12_worth_129.2 (fun _ => ?_) (fun _ => ?_)
      · skip
        refine g_iconst hO 1 d_X12_worth_132 (by decide) ?_
        refine g_goto (tgt := 137) hO d_X12_worth_133.1 d_X12_worth_133.2 ?_
        exact g_sub [0] rfl (w_X12_worth_137 hO o _ _ _ _)
      · skip
        refine g_iconst hO 0 d_X12_worth_136 (by decide) ?_
        exact g_sub [0] rfl (w_X12_worth_137 hO o _ _ _ _)
    · skip
      refine g_iload hO d_X12_worth_87 4 rfl ?_
      refine g_aload_n hO d_X12_worth_89 (by rfl) 0 rfl ?_
      refine g_iload_n hO d_X12_worth_90 (by rfl) 1 rfl ?_
      refine g_aload_n hO d_X12_worth_91 (by rfl) 0 rfl ?_
      refine g_iload_n hO d_X12_worth_92 (by rfl) 1 rfl ?_
      refine g_iload_n hO d_X12_worth_93 (by rfl) 2 rfl ?_
      refine g_iconst hO 1 d_X12_worth_94 (by decide) ?_
      refine g_iload hO d_X12_worth_95 5 rfl ?_
      refine g_ishl hO d_X12_worth_97 ?_
      refine k_virtIp hO cl_X12 mm_X12_bestLace lkV_X12_473 ⟨⟨Nat.le_of_ble_eq_true rfl, Nat.le_of_ble_eq_true rfl⟩, Nat.le_of_ble_eq_true rfl, Nat.le_of_ble_eq_true rfl⟩ (kn' := (0, 0)) rfl (As := [vI x2, vI x3, vI (jshl 1 x7)]) rfl (Nat.le_of_ble_eq_true rfl) (fun o' _ => t_X12_bestLace Γ.2.1 E o' x2 x3 (jshl 1 x7) S) d_X12_worth_98 rfl (fun v2 => ?_)
      refine g_iload_n hO d_X12_worth_101 (by rfl) 2 rfl ?_
      refine g_iconst hO 1 d_X12_worth_102 (by decide) ?_
      refine g_iload hO d_X12_worth_103 5 rfl ?_
      refine g_ishl hO d_X12_worth_105 ?_
      refine k_virtIp hO cl_X12 mm_X12_costOf lkV_X12_469 ⟨⟨Nat.le_of_ble_eq_true rfl, Nat.le_of_ble_eq_true rfl⟩, Nat.le_of_ble_eq_true rfl, Nat.le_of_ble_eq_true rfl⟩ (kn' := (0, 0)) rfl (As := [vI x2, vI v2, vI x3, vI (jshl 1 x7)]) rfl (Nat.le_of_ble_eq_true rfl) (fun o' _ => t_X12_costOf Γ.2.1 E o' x2 v2 x3 (jshl 1 x7) S) d_X12_worth_106 rfl (fun v4 => ?_)
      refine g_isub hO d_X12_worth_109 ?_
      refine g_istore (lv' := [(6, vI (x6 - v4)), (0, vA (some o)), (2, vI x2), (3, vI x3), (4, vI x4), (7, vI x7)]) hO d_X12_worth_110 (by decide) rfl ?_
      refine g_iinc (lv' := [(7, vI (x7 + 1)), (6, vI (x6 - v4)), (0, vA (some o)), (2, vI x2), (3, vI x3), (4, vI x4)]) hO 1 d_X12_worth_112 (by decide) 5 rfl (by decide) rfl ?_
      refine g_goto (tgt := 81) hO d_X12_worth_115.1 d_X12_worth_115.2 ?_
      exact g_sub [2, 3, 4, 5, 1, 0] rfl (ih _ _ _ _ _ _)
set_option maxRecDepth 20000 in
theorem w_X12_worth {Γ : GC} {E : GE} (hO : gOk Γ E cX12_worth RX12 8 rm_X12_worth (some .int) "worth") (o : Nat) (x1 : Int32) (x2 : Int32) (x3 : Int32) (x4 : Int32) (S : GS) : Go Γ E (gBsI Γ E) 8 (0, 0) 0 S [(0, vA (some o)), (1, vI x1), (2, vI x2), (3, vI x3), (4, vI x4)] [] (f_X12_worth o x1 x2 x3 x4 S) := by
  unfold f_X12_worth
  refine g_aload_n hO d_X12_worth_0 (by rfl) 0 rfl ?_
  refine g_iconst hO 0 d_X12_worth_1 (by decide) ?_
  refine h_putI hO cl_X12 0 rfl rfl wf_X12_100 (Or.inl rfl) d_X12_worth_2 (fun S1 => ?_)
  refine g_iload_n hO d_X12_worth_5 (by rfl) 3 rfl ?_
  refine g_iconst hO 0 d_X12_worth_6 (by decide) ?_
  refine g_bipush hO 99 d_X12_worth_7 (by decide) ?_
  refine k_statIp hO mm_X12_in lkS_X12_112 ⟨⟨Nat.le_of_ble_eq_true rfl, Nat.le_of_ble_eq_true rfl⟩, Nat.le_of_ble_eq_true rfl, Nat.le_of_ble_eq_true rfl⟩ (kn' := (0, 0)) rfl (As := [vI x3, vI 0, vI 99]) rfl (Nat.le_of_ble_eq_true rfl) (t_X12_in Γ.2.1 E x3 0 99 S1) d_X12_worth_9 rfl (fun v2 => ?_)
  refine g_if_eq (tgt := 41) hO d_X12_worth_12.1 d_X12_worth_12.2 (fun _ => ?_) (fun _ => ?_)
  · skip
    refine g_iconst hO (-1) d_X12_worth_41 (by decide) ?_
    exact g_ret hO rfl rfl ⟨Nat.le_of_ble_eq_true rfl, Nat.le_of_ble_eq_true rfl⟩ rfl rfl d_X12_worth_42.1
  · skip
    refine g_iload hO d_X12_worth_15 4 rfl ?_
    refine g_iconst hO 0 d_X12_worth_17 (by decide) ?_
    refine g_iconst hO 2 d_X12_worth_18 (by decide) ?_
    refine k_statIp hO mm_X12_in lkS_X12_112 ⟨⟨Nat.le_of_ble_eq_true rfl, Nat.le_of_ble_eq_true rfl⟩, Nat.le_of_ble_eq_true rfl, Nat.le_of_ble_eq_true rfl⟩ (kn' := (0, 0)) rfl (As := [vI x4, vI 0, vI 2]) rfl (Nat.le_of_ble_eq_true rfl) (t_X12_in Γ.2.1 E x4 0 2 S1) d_X12_worth_19 rfl (fun v4 => ?_)
    refine g_if_eq (tgt := 41) hO d_X12_worth_22.1 d_X12_worth_22.2 (fun _ => ?_) (fun _ => ?_)
    · skip
      refine g_iconst hO (-1) d_X12_worth_41 (by decide) ?_
      exact g_ret hO rfl rfl ⟨Nat.le_of_ble_eq_true rfl, Nat.le_of_ble_eq_true rfl⟩ rfl rfl d_X12_worth_42.1
    · skip
      refine g_aload_n hO d_X12_worth_25 (by rfl) 0 rfl ?_
      refine g_iload_n hO d_X12_worth_26 (by rfl) 1 rfl ?_
      refine k_virtIs hO cl_X12 mm_X12_hand lkV_X12_297 ⟨⟨Nat.le_of_ble_eq_true rfl, Nat.le_of_ble_eq_true rfl⟩, Nat.le_of_ble_eq_true rfl, Nat.le_of_ble_eq_true rfl⟩ (kn' := (0, 0)) rfl (As := [vI x1]) rfl (Nat.le_of_ble_eq_true rfl) (fun o' _ => t_X12_hand Γ.2.1 E o' x1 S1) d_X12_worth_27 rfl (fun v6 S7 => ?_)
      refine g_if_eq (tgt := 41) hO d_X12_worth_30.1 d_X12_worth_30.2 (fun _ => ?_) (fun _ => ?_)
      · skip
        refine g_iconst hO (-1) d_X12_worth_41 (by decide) ?_
        exact g_ret hO rfl rfl ⟨Nat.le_of_ble_eq_true rfl, Nat.le_of_ble_eq_true rfl⟩ rfl rfl d_X12_worth_42.1
      · skip
        refine g_aload_n hO d_X12_worth_33 (by rfl) 0 rfl ?_
        refine g_iload_n hO d_X12_worth_34 (by rfl) 2 rfl ?_
        refine k_virtIp hO cl_X12 mm_X12_isLady lkV_X12_303 ⟨⟨Nat.le_of_ble_eq_true rfl, Nat.le_of_ble_eq_true rfl⟩, Nat.le_of_ble_eq_true rfl, Nat.le_of_ble_eq_true rfl⟩ (kn' := (0, 0)) rfl (As := [vI x2]) rfl (Nat.le_of_ble_eq_true rfl) (fun o' _ => t_X12_isLady Γ.2.1 E o' x2 S7) d_X12_worth_35 rfl (fun v8 => ?_)
        refine g_if_ne (tgt := 43) hO d_X12_worth_38.1 d_X12_worth_38.2 (fun _ => ?_) (fun _ => ?_)
        · skip
          refine g_iconst hO (-1) d_X12_worth_41 (by decide) ?_
          exact g_ret hO rfl rfl ⟨Nat.le_of_ble_eq_true rfl, Nat.le_of_ble_eq_true rfl⟩ rfl rfl d_X12_worth_42.1
        · skip
          refine g_aload_n hO d_X12_worth_43 (by rfl) 0 rfl ?_
          refine k_virtVs hO cl_X12 mm_X12_still lkV_X12_459 ⟨⟨Nat.le_of_ble_eq_true rfl, Nat.le_of_ble_eq_true rfl⟩, Nat.le_of_ble_eq_true rfl, Nat.le_of_ble_eq_true rfl⟩ (kn' := (0, 0)) rfl (As := []) rfl (Nat.le_of_ble_eq_true rfl) (fun o' _ => t_X12_still Γ.2.1 E o' S7) d_X12_worth_44 rfl (fun S11 => ?_)
          refine g_aload_n hO d_X12_worth_47 (by rfl) 0 rfl ?_
          refine g_iload_n hO d_X12_worth_48 (by rfl) 2 rfl ?_
          refine g_iload_n hO d_X12_worth_49 (by rfl) 3 rfl ?_
          refine g_bipush hO 7 d_X12_worth_50 (by decide) ?_
          refine k_virtIp hO cl_X12 mm_X12_bestLace lkV_X12_473 ⟨⟨Nat.le_of_ble_eq_true rfl, Nat.le_of_ble_eq_true rfl⟩, Nat.le_of_ble_eq_true rfl, Nat.le_of_ble_eq_true rfl⟩ (kn' := (0, 0)) rfl (As := [vI x2, vI x3, vI 7]) rfl (Nat.le_of_ble_eq_true rfl) (fun o' _ => t_X12_bestLace Γ.2.1 E o' x2 x3 7 S11) d_X12_worth_52 rfl (fun v12 => ?_)
          refine g_istore (lv' := [(5, vI v12), (0, vA (some o)), (1, vI x1), (2, vI x2), (3, vI x3), (4, vI x4)]) hO d_X12_worth_55 (by decide) rfl ?_
          refine g_iload hO d_X12_worth_57 5 rfl ?_
          refine g_iconst hO 2 d_X12_worth_59 (by decide) ?_
          refine g_ic_ne (tgt := 66) hO d_X12_worth_60.1 d_X12_worth_60.2 (fun _ => ?_) (fun _ => ?_)
          · skip
            refine g_iload hO d_X12_worth_63 0 rfl ?_
            exact g_ret hO rfl rfl ⟨Nat.le_of_ble_eq_true rfl, Nat.le_of_ble_eq_true rfl⟩ rfl rfl d_X12_worth_65.1
          · skip
            refine g_aload_n hO d_X12_worth_66 (by rfl) 1 rfl ?_
            refine g_iload_n hO d_X12_worth_67 (by rfl) 3 rfl ?_
            refine g_iload hO d_X12_worth_68 0 rfl ?_
            refine g_iload_n hO d_X12_worth_70 (by rfl) 4 rfl ?_
            refine g_bipush hO 7 d_X12_worth_71 (by decide) ?_
            refine k_virtIp hO cl_X12 mm_X12_costOf lkV_X12_469 ⟨⟨Nat.le_of_ble_eq_true rfl, Nat.le_of_ble_eq_true rfl⟩, Nat.le_of_ble_eq_true rfl, Nat.le_of_ble_eq_true rfl⟩ (kn' := (0, 0)) rfl (As := [vI x2, vI v12, vI x3, vI 7]) rfl (Nat.le_of_ble_eq_true rfl) (fun o' _ => t_X12_costOf Γ.2.1 E o' x2 v12 x3 7 S11) d_X12_worth_73 rfl (fun v14 => ?_)
            refine g_istore (lv' := [(6, vI v14), (5, vI v12), (0, vA (some o)), (1, vI x1), (2, vI x2), (3, vI x3), (4, vI x4)]) hO d_X12_worth_76 (by decide) rfl ?_
            refine g_iconst hO 0 d_X12_worth_78 (by decide) ?_
            refine g_istore (lv' := [(7, vI 0), (6, vI v14), (5, vI v12), (0, vA (some o)), (1, vI x1), (2, vI x2), (3, vI x3), (4, vI x4)]) hO d_X12_worth_79 (by decide) rfl ?_
            exact g_sub [3, 5, 6, 7, 1, 0] rfl (w_X12_worth_81 hO o _ _ _ _ _ _ _)
theorem t_X12_worth (l : Launch) (E : GE) (o : Nat) (x1 : Int32) (x2 : Int32) (x3 : Int32) (x4 : Int32) (S : GS) : ∀ a, f_X12_worth o x1 x2 x3 x4 S = some a → Ct l E yX12_worth cX12_worth 8 (some .int) rm_X12_worth [vA (some o), vI x1, vI x2, vI x3, vI x4] S (some (vI a.1)) a.2 :=
  Ct_of (val := fun (b : Int32 × GS) => some (vI b.1)) (nxt := fun (b : Int32 × GS) => b.2) (by decide) (Nat.le_of_ble_eq_true rfl) (fun Γ hl hO => w_X12_worth hO o x1 x2 x3 x4 S)
theorem d_X12_seenOf_0 : gD cX12_seenOf 0 (.aload_n 0) 1 1 := ⟨by decide +kernel, rfl⟩
theorem d_X12_seenOf_1 : gD cX12_seenOf 1 (.getfield 35) 3 4 := ⟨by decide +kernel, rfl⟩
theorem d_X12_seenOf_4 : gD cX12_seenOf 4 (.bipush 122) 2 6 := ⟨by decide +kernel, rfl⟩
theorem d_X12_seenOf_6 : gD cX12_seenOf 6 (.aload_n 0) 1 7 := ⟨by decide +kernel, rfl⟩
theorem d_X12_seenOf_7 : gD cX12_seenOf 7 (.getfield 476) 3 10 := ⟨by decide +kernel, rfl⟩
theorem d_X12_seenOf_10 : gD cX12_seenOf 10 (.imul) 1 11 := ⟨by decide +kernel, rfl⟩
theorem d_X12_seenOf_11 : gD cX12_seenOf 11 (.iconst 2) 1 12 := ⟨by decide +kernel, rfl⟩
theorem d_X12_seenOf_12 : gD cX12_seenOf 12 (.iadd) 1 13 := ⟨by decide +kernel, rfl⟩
theorem d_X12_seenOf_13 : gD cX12_seenOf 13 (.iconst 3) 1 14 := ⟨by decide +kernel, rfl⟩
theorem d_X12_seenOf_14 : gD cX12_seenOf 14 (.iload_n 1) 1 15 := ⟨by decide +kernel, rfl⟩
theorem d_X12_seenOf_15 : gD cX12_seenOf 15 (.imul) 1 16 := ⟨by decide +kernel, rfl⟩
theorem d_X12_seenOf_16 : gD cX12_seenOf 16 (.iadd) 1 17 := ⟨by decide +kernel, rfl⟩
theorem d_X12_seenOf_17 : gD cX12_seenOf 17 (.iload_n 2) 1 18 := ⟨by decide +kernel, rfl⟩
theorem d_X12_seenOf_18 : gD cX12_seenOf 18 (.iadd) 1 19 := ⟨by decide +kernel, rfl⟩
theorem d_X12_seenOf_19 : gD cX12_seenOf 19 (.iaload) 1 20 := ⟨by decide +kernel, rfl⟩
theorem d_X12_seenOf_20 : gD cX12_seenOf 20 (.ireturn) 1 21 := ⟨by decide +kernel, rfl⟩
abbrev rm_X12_seenOf : Room := { frames := 0, cells := 0, slots := 0, locals := 0 }
set_option maxRecDepth 20000 in
theorem w_X12_seenOf {Γ : GC} {E : GE} (hO : gOk Γ E cX12_seenOf RX12 3 rm_X12_seenOf (some .int) "seenOf") (o : Nat) (x1 : Int32) (x2 : Int32) (S : GS) : Go Γ E (gBpI Γ E S) 3 (0, 0) 0 S [(0, vA (some o)), (1, vI x1), (2, vI x2)] [] (f_X12_seenOf o x1 x2 S) := by
  unfold f_X12_seenOf
  refine g_aload_n hO d_X12_seenOf_0 (by rfl) 0 rfl ?_
  refine h_getR hO cl_X12 9 rfl wf_X12_35 d_X12_seenOf_1 (fun v1 => ?_)
  refine g_bipush hO 122 d_X12_seenOf_4 (by decide) ?_
  refine g_aload_n hO d_X12_seenOf_6 (by rfl) 0 rfl ?_
  refine h_getI hO cl_X12 51 rfl wf_X12_476 d_X12_seenOf_7 (fun v2 => ?_)
  refine g_imul hO d_X12_seenOf_10 ?_
  refine g_iconst hO 2 d_X12_seenOf_11 (by decide) ?_
  refine g_iadd hO d_X12_seenOf_12 ?_
  refine g_iconst hO 3 d_X12_seenOf_13 (by decide) ?_
  refine g_iload_n hO d_X12_seenOf_14 (by rfl) 1 rfl ?_
  refine g_imul hO d_X12_seenOf_15 ?_
  refine g_iadd hO d_X12_seenOf_16 ?_
  refine g_iload_n hO d_X12_seenOf_17 (by rfl) 2 rfl ?_
  refine g_iadd hO d_X12_seenOf_18 ?_
  refine h_iald hO d_X12_seenOf_19 (fun v3 => ?_)
  exact g_ret hO rfl rfl ⟨Nat.le_of_ble_eq_true rfl, Nat.le_of_ble_eq_true rfl⟩ rfl rfl d_X12_seenOf_20.1
theorem t_X12_seenOf (l : Launch) (E : GE) (o : Nat) (x1 : Int32) (x2 : Int32) (S : GS) : ∀ a, f_X12_seenOf o x1 x2 S = some a → Ct l E yX12_seenOf cX12_seenOf 3 (some .int) rm_X12_seenOf [vA (some o), vI x1, vI x2] S (some (vI a)) S :=
  Ct_of (val := fun b => some (vI b)) (nxt := fun _ => S) (by decide) (Nat.le_of_ble_eq_true rfl) (fun Γ hl hO => w_X12_seenOf hO o x1 x2 S)
theorem d_X12_shotOf_0 : gD cX12_shotOf 0 (.aload_n 0) 1 1 := ⟨by decide +kernel, rfl⟩
theorem d_X12_shotOf_1 : gD cX12_shotOf 1 (.getfield 35) 3 4 := ⟨by decide +kernel, rfl⟩
theorem d_X12_shotOf_4 : gD cX12_shotOf 4 (.bipush 122) 2 6 := ⟨by decide +kernel, rfl⟩
theorem d_X12_shotOf_6 : gD cX12_shotOf 6 (.aload_n 0) 1 7 := ⟨by decide +kernel, rfl⟩
theorem d_X12_shotOf_7 : gD cX12_shotOf 7 (.getfield 476) 3 10 := ⟨by decide +kernel, rfl⟩
theorem d_X12_shotOf_10 : gD cX12_shotOf 10 (.imul) 1 11 := ⟨by decide +kernel, rfl⟩
theorem d_X12_shotOf_11 : gD cX12_shotOf 11 (.bipush 62) 2 13 := ⟨by decide +kernel, rfl⟩
theorem d_X12_shotOf_13 : gD cX12_shotOf 13 (.iadd) 1 14 := ⟨by decide +kernel, rfl⟩
theorem d_X12_shotOf_14 : gD cX12_shotOf 14 (.iconst 3) 1 15 := ⟨by decide +kernel, rfl⟩
theorem d_X12_shotOf_15 : gD cX12_shotOf 15 (.iload_n 1) 1 16 := ⟨by decide +kernel, rfl⟩
theorem d_X12_shotOf_16 : gD cX12_shotOf 16 (.imul) 1 17 := ⟨by decide +kernel, rfl⟩
theorem d_X12_shotOf_17 : gD cX12_shotOf 17 (.iadd) 1 18 := ⟨by decide +kernel, rfl⟩
theorem d_X12_shotOf_18 : gD cX12_shotOf 18 (.iload_n 2) 1 19 := ⟨by decide +kernel, rfl⟩
theorem d_X12_shotOf_19 : gD cX12_shotOf 19 (.iadd) 1 20 := ⟨by decide +kernel, rfl⟩
theorem d_X12_shotOf_20 : gD cX12_shotOf 20 (.iaload) 1 21 := ⟨by decide +kernel, rfl⟩
theorem d_X12_shotOf_21 : gD cX12_shotOf 21 (.ireturn) 1 22 := ⟨by decide +kernel, rfl⟩
abbrev rm_X12_shotOf : Room := { frames := 0, cells := 0, slots := 0, locals := 0 }
set_option maxRecDepth 20000 in
theorem w_X12_shotOf {Γ : GC} {E : GE} (hO : gOk Γ E cX12_shotOf RX12 3 rm_X12_shotOf (some .int) "shotOf") (o : Nat) (x1 : Int32) (x2 : Int32) (S : GS) : Go Γ E (gBpI Γ E S) 3 (0, 0) 0 S [(0, vA (some o)), (1, vI x1), (2, vI x2)] [] (f_X12_shotOf o x1 x2 S) := by
  unfold f_X12_shotOf
  refine g_aload_n hO d_X12_shotOf_0 (by rfl) 0 rfl ?_
  refine h_getR hO cl_X12 9 rfl wf_X12_35 d_X12_shotOf_1 (fun v1 => ?_)
  refine g_bipush hO 122 d_X12_shotOf_4 (by decide) ?_
  refine g_aload_n hO d_X12_shotOf_6 (by rfl) 0 rfl ?_
  refine h_getI hO cl_X12 51 rfl wf_X12_476 d_X12_shotOf_7 (fun v2 => ?_)
  refine g_imul hO d_X12_shotOf_10 ?_
  refine g_bipush hO 62 d_X12_shotOf_11 (by decide) ?_
  refine g_iadd hO d_X12_shotOf_13 ?_
  refine g_iconst hO 3 d_X12_shotOf_14 (by decide) ?_
  refine g_iload_n hO d_X12_shotOf_15 (by rfl) 1 rfl ?_
  refine g_imul hO d_X12_shotOf_16 ?_
  refine g_iadd hO d_X12_shotOf_17 ?_
  refine g_iload_n hO d_X12_shotOf_18 (by rfl) 2 rfl ?_
  refine g_iadd hO d_X12_shotOf_19 ?_
  refine h_iald hO d_X12_shotOf_20 (fun v3 => ?_)
  exact g_ret hO rfl rfl ⟨Nat.le_of_ble_eq_true rfl, Nat.le_of_ble_eq_true rfl⟩ rfl rfl d_X12_shotOf_21.1
theorem t_X12_shotOf (l : Launch) (E : GE) (o : Nat) (x1 : Int32) (x2 : Int32) (S : GS) : ∀ a, f_X12_shotOf o x1 x2 S = some a → Ct l E yX12_shotOf cX12_shotOf 3 (some .int) rm_X12_shotOf [vA (some o), vI x1, vI x2] S (some (vI a)) S :=
  Ct_of (val := fun b => some (vI b)) (nxt := fun _ => S) (by decide) (Nat.le_of_ble_eq_true rfl) (fun Γ hl hO => w_X12_shotOf hO o x1 x2 S)
theorem d_X12_seenMany_0 : gD cX12_seenMany 0 (.aload_n 0) 1 1 := ⟨by decide +kernel, rfl⟩
theorem d_X12_seenMany_1 : gD cX12_seenMany 1 (.getfield 35) 3 4 := ⟨by decide +kernel, rfl⟩
theorem d_X12_seenMany_4 : gD cX12_seenMany 4 (.bipush 122) 2 6 := ⟨by decide +kernel, rfl⟩
theorem d_X12_seenMany_6 : gD cX12_seenMany 6 (.aload_n 0) 1 7 := ⟨by decide +kernel, rfl⟩
theorem d_X12_seenMany_7 : gD cX12_seenMany 7 (.getfield 476) 3 10 := ⟨by decide +kernel, rfl⟩
theorem d_X12_seenMany_10 : gD cX12_seenMany 10 (.imul) 1 11 := ⟨by decide +kernel, rfl⟩
theorem d_X12_seenMany_11 : gD cX12_seenMany 11 (.iaload) 1 12 := ⟨by decide +kernel, rfl⟩
theorem d_X12_seenMany_12 : gD cX12_seenMany 12 (.ireturn) 1 13 := ⟨by decide +kernel, rfl⟩
abbrev rm_X12_seenMany : Room := { frames := 0, cells := 0, slots := 0, locals := 0 }
set_option maxRecDepth 20000 in
theorem w_X12_seenMany {Γ : GC} {E : GE} (hO : gOk Γ E cX12_seenMany RX12 1 rm_X12_seenMany (some .int) "seenMany") (o : Nat) (S : GS) : Go Γ E (gBpI Γ E S) 1 (0, 0) 0 S [(0, vA (some o))] [] (f_X12_seenMany o S) := by
  unfold f_X12_seenMany
  refine g_aload_n hO d_X12_seenMany_0 (by rfl) 0 rfl ?_
  refine h_getR hO cl_X12 9 rfl wf_X12_35 d_X12_seenMany_1 (fun v1 => ?_)
  refine g_bipush hO 122 d_X12_seenMany_4 (by decide) ?_
  refine g_aload_n hO d_X12_seenMany_6 (by rfl) 0 rfl ?_
  refine h_getI hO cl_X12 51 rfl wf_X12_476 d_X12_seenMany_7 (fun v2 => ?_)
  refine g_imul hO d_X12_seenMany_10 ?_
  refine h_iald hO d_X12_seenMany_11 (fun v3 => ?_)
  exact g_ret hO rfl rfl ⟨Nat.le_of_ble_eq_true rfl, Nat.le_of_ble_eq_true rfl⟩ rfl rfl d_X12_seenMany_12.1
theorem t_X12_seenMany (l : Launch) (E : GE) (o : Nat) (S : GS) : ∀ a, f_X12_seenMany o S = some a → Ct l E yX12_seenMany cX12_seenMany 1 (some .int) rm_X12_seenMany [vA (some o)] S (some (vI a)) S :=
  Ct_of (val := fun b => some (vI b)) (nxt := fun _ => S) (by decide) (Nat.le_of_ble_eq_true rfl) (fun Γ hl hO => w_X12_seenMany hO o S)
theorem d_X12_shotMany_0 : gD cX12_shotMany 0 (.aload_n 0) 1 1 := ⟨by decide +kernel, rfl⟩
theorem d_X12_shotMany_1 : gD cX12_shotMany 1 (.getfield 35) 3 4 := ⟨by decide +kernel, rfl⟩
theorem d_X12_shotMany_4 : gD cX12_shotMany 4 (.bipush 122) 2 6 := ⟨by decide +kernel, rfl⟩
theorem d_X12_shotMany_6 : gD cX12_shotMany 6 (.aload_n 0) 1 7 := ⟨by decide +kernel, rfl⟩
theorem d_X12_shotMany_7 : gD cX12_shotMany 7 (.getfield 476) 3 10 := ⟨by decide +kernel, rfl⟩
theorem d_X12_shotMany_10 : gD cX12_shotMany 10 (.imul) 1 11 := ⟨by decide +kernel, rfl⟩
theorem d_X12_shotMany_11 : gD cX12_shotMany 11 (.iconst 1) 1 12 := ⟨by decide +kernel, rfl⟩
theorem d_X12_shotMany_12 : gD cX12_shotMany 12 (.iadd) 1 13 := ⟨by decide +kernel, rfl⟩
theorem d_X12_shotMany_13 : gD cX12_shotMany 13 (.iaload) 1 14 := ⟨by decide +kernel, rfl⟩
theorem d_X12_shotMany_14 : gD cX12_shotMany 14 (.ireturn) 1 15 := ⟨by decide +kernel, rfl⟩
abbrev rm_X12_shotMany : Room := { frames := 0, cells := 0, slots := 0, locals := 0 }
set_option maxRecDepth 20000 in
theorem w_X12_shotMany {Γ : GC} {E : GE} (hO : gOk Γ E cX12_shotMany RX12 1 rm_X12_shotMany (some .int) "shotMany") (o : Nat) (S : GS) : Go Γ E (gBpI Γ E S) 1 (0, 0) 0 S [(0, vA (some o))] [] (f_X12_shotMany o S) := by
  unfold f_X12_shotMany
  refine g_aload_n hO d_X12_shotMany_0 (by rfl) 0 rfl ?_
  refine h_getR hO cl_X12 9 rfl wf_X12_35 d_X12_shotMany_1 (fun v1 => ?_)
  refine g_bipush hO 122 d_X12_shotMany_4 (by decide) ?_
  refine g_aload_n hO d_X12_shotMany_6 (by rfl) 0 rfl ?_
  refine h_getI hO cl_X12 51 rfl wf_X12_476 d_X12_shotMany_7 (fun v2 => ?_)
  refine g_imul hO d_X12_shotMany_10 ?_
  refine g_iconst hO 1 d_X12_shotMany_11 (by decide) ?_
  refine g_iadd hO d_X12_shotMany_12 ?_
  refine h_iald hO d_X12_shotMany_13 (fun v3 => ?_)
  exact g_ret hO rfl rfl ⟨Nat.le_of_ble_eq_true rfl, Nat.le_of_ble_eq_true rfl⟩ rfl rfl d_X12_shotMany_14.1
theorem t_X12_shotMany (l : Launch) (E : GE) (o : Nat) (S : GS) : ∀ a, f_X12_shotMany o S = some a → Ct l E yX12_shotMany cX12_shotMany 1 (some .int) rm_X12_shotMany [vA (some o)] S (some (vI a)) S :=
  Ct_of (val := fun b => some (vI b)) (nxt := fun _ => S) (by decide) (Nat.le_of_ble_eq_true rfl) (fun Γ hl hO => w_X12_shotMany hO o S)
theorem d_X12_hasSight_0 : gD cX12_hasSight 0 (.aload_n 0) 1 1 := ⟨by decide +kernel, rfl⟩
theorem d_X12_hasSight_1 : gD cX12_hasSight 1 (.iload_n 1) 1 2 := ⟨by decide +kernel, rfl⟩
theorem d_X12_hasSight_2 : gD cX12_hasSight 2 (.putfield 476) 3 5 := ⟨by decide +kernel, rfl⟩
theorem d_X12_hasSight_5 : gD cX12_hasSight 5 (.aload_n 0) 1 6 := ⟨by decide +kernel, rfl⟩
theorem d_X12_hasSight_6 : gD cX12_hasSight 6 (.iconst 3) 1 7 := ⟨by decide +kernel, rfl⟩
theorem d_X12_hasSight_7 : gD cX12_hasSight 7 (.iload_n 1) 1 8 := ⟨by decide +kernel, rfl⟩
theorem d_X12_hasSight_8 : gD cX12_hasSight 8 (.invokevirtual 275) 3 11 := ⟨by decide +kernel, rfl⟩
theorem d_X12_hasSight_11 : gD cX12_hasSight 11 (.ireturn) 1 12 := ⟨by decide +kernel, rfl⟩
abbrev rm_X12_hasSight : Room := { frames := 2, cells := 0, slots := 0, locals := 44 }
set_option maxRecDepth 20000 in
theorem w_X12_hasSight {Γ : GC} {E : GE} (hO : gOk Γ E cX12_hasSight RX12 2 rm_X12_hasSight (some .boolean) "hasSight") (o : Nat) (x1 : Int32) (S : GS) : Go Γ E (gBsI Γ E) 2 (0, 0) 0 S [(0, vA (some o)), (1, vI x1)] [] (f_X12_hasSight o x1 S) := by
  unfold f_X12_hasSight
  refine g_aload_n hO d_X12_hasSight_0 (by rfl) 0 rfl ?_
  refine g_iload_n hO d_X12_hasSight_1 (by rfl) 1 rfl ?_
  refine h_putI hO cl_X12 51 rfl rfl wf_X12_476 (Or.inl rfl) d_X12_hasSight_2 (fun S1 => ?_)
  refine g_aload_n hO d_X12_hasSight_5 (by rfl) 0 rfl ?_
  refine g_iconst hO 3 d_X12_hasSight_6 (by decide) ?_
  refine g_iload_n hO d_X12_hasSight_7 (by rfl) 1 rfl ?_
  refine k_virtIp hO cl_X12 mm_X12_is lkV_X12_275 ⟨⟨Nat.le_of_ble_eq_true rfl, Nat.le_of_ble_eq_true rfl⟩, Nat.le_of_ble_eq_true rfl, Nat.le_of_ble_eq_true rfl⟩ (kn' := (0, 0)) rfl (As := [vI 3, vI x1]) rfl (Nat.le_of_ble_eq_true rfl) (fun o' _ => t_X12_is Γ.2.1 E o' 3 x1 S1) d_X12_hasSight_8 rfl (fun v2 => ?_)
  exact g_zret hO rfl ⟨Nat.le_of_ble_eq_true rfl, Nat.le_of_ble_eq_true rfl⟩ rfl rfl d_X12_hasSight_11.1
theorem t_X12_hasSight (l : Launch) (E : GE) (o : Nat) (x1 : Int32) (S : GS) : ∀ a, f_X12_hasSight o x1 S = some a → Ct l E yX12_hasSight cX12_hasSight 2 (some .boolean) rm_X12_hasSight [vA (some o), vI x1] S (some (vI a.1)) a.2 :=
  Ct_of (val := fun (b : Int32 × GS) => some (vI b.1)) (nxt := fun (b : Int32 × GS) => b.2) (by decide) (Nat.le_of_ble_eq_true rfl) (fun Γ hl hO => w_X12_hasSight hO o x1 S)
theorem d_X12_sight_0 : gD cX12_sight 0 (.aload_n 0) 1 1 := ⟨by decide +kernel, rfl⟩
theorem d_X12_sight_1 : gD cX12_sight 1 (.iconst 0) 1 2 := ⟨by decide +kernel, rfl⟩
theorem d_X12_sight_2 : gD cX12_sight 2 (.putfield 100) 3 5 := ⟨by decide +kernel, rfl⟩
theorem d_X12_sight_5 : gD cX12_sight 5 (.aload_n 0) 1 6 := ⟨by decide +kernel, rfl⟩
theorem d_X12_sight_6 : gD cX12_sight 6 (.iload_n 1) 1 7 := ⟨by decide +kernel, rfl⟩
theorem d_X12_sight_7 : gD cX12_sight 7 (.invokevirtual 479) 3 10 := ⟨by decide +kernel, rfl⟩
theorem d_X12_sight_10 : gD cX12_sight 10 (.ifCond .ne 5) 3 13 ∧ ((10 : Nat) : Int) + 5 = ((15 : Nat) : Int) := ⟨⟨by decide +kernel, rfl⟩, by decide⟩
theorem d_X12_sight_13 : gD cX12_sight 13 (.iconst (-1)) 1 14 := ⟨by decide +kernel, rfl⟩
theorem d_X12_sight_14 : gD cX12_sight 14 (.ireturn) 1 15 := ⟨by decide +kernel, rfl⟩
theorem d_X12_sight_15 : gD cX12_sight 15 (.iload_n 2) 1 16 := ⟨by decide +kernel, rfl⟩
theorem d_X12_sight_16 : gD cX12_sight 16 (.ifCond .eq 8) 3 19 ∧ ((16 : Nat) : Int) + 8 = ((24 : Nat) : Int) := ⟨⟨by decide +kernel, rfl⟩, by decide⟩
theorem d_X12_sight_19 : gD cX12_sight 19 (.iload_n 2) 1 20 := ⟨by decide +kernel, rfl⟩
theorem d_X12_sight_20 : gD cX12_sight 20 (.iconst 1) 1 21 := ⟨by decide +kernel, rfl⟩
theorem d_X12_sight_21 : gD cX12_sight 21 (.if_icmp .ne 19) 3 24 ∧ ((21 : Nat) : Int) + 19 = ((40 : Nat) : Int) := ⟨⟨by decide +kernel, rfl⟩, by decide⟩
theorem d_X12_sight_24 : gD cX12_sight 24 (.iload_n 2) 1 25 := ⟨by decide +kernel, rfl⟩
theorem d_X12_sight_25 : gD cX12_sight 25 (.ifCond .ne 10) 3 28 ∧ ((25 : Nat) : Int) + 10 = ((35 : Nat) : Int) := ⟨⟨by decide +kernel, rfl⟩, by decide⟩
theorem d_X12_sight_28 : gD cX12_sight 28 (.aload_n 0) 1 29 := ⟨by decide +kernel, rfl⟩
theorem d_X12_sight_29 : gD cX12_sight 29 (.invokevirtual 482) 3 32 := ⟨by decide +kernel, rfl⟩
theorem d_X12_sight_32 : decode cX12_sight 32 = .ok (.goto 7, 3) ∧ ((32 : Nat) : Int) + 7 = ((39 : Nat) : Int) := ⟨by decide +kernel, by decide⟩
theorem d_X12_sight_35 : gD cX12_sight 35 (.aload_n 0) 1 36 := ⟨by decide +kernel, rfl⟩
theorem d_X12_sight_36 : gD cX12_sight 36 (.invokevirtual 485) 3 39 := ⟨by decide +kernel, rfl⟩
theorem d_X12_sight_39 : gD cX12_sight 39 (.ireturn) 1 40 := ⟨by decide +kernel, rfl⟩
theorem d_X12_sight_40 : gD cX12_sight 40 (.iload_n 2) 1 41 := ⟨by decide +kernel, rfl⟩
theorem d_X12_sight_41 : gD cX12_sight 41 (.bipush 100) 2 43 := ⟨by decide +kernel, rfl⟩
theorem d_X12_sight_43 : gD cX12_sight 43 (.isub) 1 44 := ⟨by decide +kernel, rfl⟩
theorem d_X12_sight_44 : gD cX12_sight 44 (.bipush 10) 2 46 := ⟨by decide +kernel, rfl⟩
theorem d_X12_sight_46 : gD cX12_sight 46 (.idiv) 1 47 := ⟨by decide +kernel, rfl⟩
theorem d_X12_sight_47 : gD cX12_sight 47 (.bipush 30) 2 49 := ⟨by decide +kernel, rfl⟩
theorem d_X12_sight_49 : gD cX12_sight 49 (.irem) 1 50 := ⟨by decide +kernel, rfl⟩
theorem d_X12_sight_50 : gD cX12_sight 50 (.istore_n 3) 1 51 := ⟨by decide +kernel, rfl⟩
theorem d_X12_sight_51 : gD cX12_sight 51 (.iload_n 2) 1 52 := ⟨by decide +kernel, rfl⟩
theorem d_X12_sight_52 : gD cX12_sight 52 (.bipush 10) 2 54 := ⟨by decide +kernel, rfl⟩
theorem d_X12_sight_54 : gD cX12_sight 54 (.irem) 1 55 := ⟨by decide +kernel, rfl⟩
theorem d_X12_sight_55 : gD cX12_sight 55 (.istore 4) 2 57 := ⟨by decide +kernel, rfl⟩
theorem d_X12_sight_57 : gD cX12_sight 57 (.iload_n 2) 1 58 := ⟨by decide +kernel, rfl⟩
theorem d_X12_sight_58 : gD cX12_sight 58 (.bipush 100) 2 60 := ⟨by decide +kernel, rfl⟩
theorem d_X12_sight_60 : gD cX12_sight 60 (.if_icmp .lt 9) 3 63 ∧ ((60 : Nat) : Int) + 9 = ((69 : Nat) : Int) := ⟨⟨by decide +kernel, rfl⟩, by decide⟩
theorem d_X12_sight_63 : gD cX12_sight 63 (.iload 4) 2 65 := ⟨by decide +kernel, rfl⟩
theorem d_X12_sight_65 : gD cX12_sight 65 (.iconst 2) 1 66 := ⟨by decide +kernel, rfl⟩
theorem d_X12_sight_66 : gD cX12_sight 66 (.if_icmp .le 5) 3 69 ∧ ((66 : Nat) : Int) + 5 = ((71 : Nat) : Int) := ⟨⟨by decide +kernel, rfl⟩, by decide⟩
theorem d_X12_sight_69 : gD cX12_sight 69 (.iconst (-1)) 1 70 := ⟨by decide +kernel, rfl⟩
theorem d_X12_sight_70 : gD cX12_sight 70 (.ireturn) 1 71 := ⟨by decide +kernel, rfl⟩
theorem d_X12_sight_71 : gD cX12_sight 71 (.iload_n 2) 1 72 := ⟨by decide +kernel, rfl⟩
theorem d_X12_sight_72 : gD cX12_sight 72 (.sipush 400) 3 75 := ⟨by decide +kernel, rfl⟩
theorem d_X12_sight_75 : gD cX12_sight 75 (.if_icmp .ge 25) 3 78 ∧ ((75 : Nat) : Int) + 25 = ((100 : Nat) : Int) := ⟨⟨by decide +kernel, rfl⟩, by decide⟩
theorem d_X12_sight_78 : gD cX12_sight 78 (.iload_n 3) 1 79 := ⟨by decide +kernel, rfl⟩
theorem d_X12_sight_79 : gD cX12_sight 79 (.aload_n 0) 1 80 := ⟨by decide +kernel, rfl⟩
theorem d_X12_sight_80 : gD cX12_sight 80 (.invokevirtual 482) 3 83 := ⟨by decide +kernel, rfl⟩
theorem d_X12_sight_83 : gD cX12_sight 83 (.if_icmp .ge 13) 3 86 ∧ ((83 : Nat) : Int) + 13 = ((96 : Nat) : Int) := ⟨⟨by decide +kernel, rfl⟩, by decide⟩
theorem d_X12_sight_86 : gD cX12_sight 86 (.aload_n 0) 1 87 := ⟨by decide +kernel, rfl⟩
theorem d_X12_sight_87 : gD cX12_sight 87 (.iload_n 3) 1 88 := ⟨by decide +kernel, rfl⟩
theorem d_X12_sight_88 : gD cX12_sight 88 (.iload 4) 2 90 := ⟨by decide +kernel, rfl⟩
theorem d_X12_sight_90 : gD cX12_sight 90 (.invokevirtual 488) 3 93 := ⟨by decide +kernel, rfl⟩
theorem d_X12_sight_93 : decode cX12_sight 93 = .ok (.goto 33, 3) ∧ ((93 : Nat) : Int) + 33 = ((126 : Nat) : Int) := ⟨by decide +kernel, by decide⟩
theorem d_X12_sight_96 : gD cX12_sight 96 (.iconst (-1)) 1 97 := ⟨by decide +kernel, rfl⟩
theorem d_X12_sight_97 : decode cX12_sight 97 = .ok (.goto 29, 3) ∧ ((97 : Nat) : Int) + 29 = ((126 : Nat) : Int) := ⟨by decide +kernel, by decide⟩
theorem d_X12_sight_100 : gD cX12_sight 100 (.iload_n 2) 1 101 := ⟨by decide +kernel, rfl⟩
theorem d_X12_sight_101 : gD cX12_sight 101 (.sipush 700) 3 104 := ⟨by decide +kernel, rfl⟩
theorem d_X12_sight_104 : gD cX12_sight 104 (.if_icmp .ge 21) 3 107 ∧ ((104 : Nat) : Int) + 21 = ((125 : Nat) : Int) := ⟨⟨by decide +kernel, rfl⟩, by decide⟩
theorem d_X12_sight_107 : gD cX12_sight 107 (.iload_n 3) 1 108 := ⟨by decide +kernel, rfl⟩
theorem d_X12_sight_108 : gD cX12_sight 108 (.aload_n 0) 1 109 := ⟨by decide +kernel, rfl⟩
theorem d_X12_sight_109 : gD cX12_sight 109 (.invokevirtual 485) 3 112 := ⟨by decide +kernel, rfl⟩
theorem d_X12_sight_112 : gD cX12_sight 112 (.if_icmp .ge 13) 3 115 ∧ ((112 : Nat) : Int) + 13 = ((125 : Nat) : Int) := ⟨⟨by decide +kernel, rfl⟩, by decide⟩
theorem d_X12_sight_115 : gD cX12_sight 115 (.aload_n 0) 1 116 := ⟨by decide +kernel, rfl⟩
theorem d_X12_sight_116 : gD cX12_sight 116 (.iload_n 3) 1 117 := ⟨by decide +kernel, rfl⟩
theorem d_X12_sight_117 : gD cX12_sight 117 (.iload 4) 2 119 := ⟨by decide +kernel, rfl⟩
theorem d_X12_sight_119 : gD cX12_sight 119 (.invokevirtual 491) 3 122 := ⟨by decide +kernel, rfl⟩
theorem d_X12_sight_122 : decode cX12_sight 122 = .ok (.goto 4, 3) ∧ ((122 : Nat) : Int) + 4 = ((126 : Nat) : Int) := ⟨by decide +kernel, by decide⟩
theorem d_X12_sight_125 : gD cX12_sight 125 (.iconst (-1)) 1 126 := ⟨by decide +kernel, rfl⟩
theorem d_X12_sight_126 : gD cX12_sight 126 (.ireturn) 1 127 := ⟨by decide +kernel, rfl⟩
abbrev rm_X12_sight : Room := { frames := 3, cells := 0, slots := 0, locals := 65 }
set_option maxRecDepth 20000 in
theorem w_X12_sight_24 {Γ : GC} {E : GE} (hO : gOk Γ E cX12_sight RX12 5 rm_X12_sight (some .int) "sight") (o : Nat) (x2 : Int32) (S : GS) : Go Γ E (gBsI Γ E) 5 (0, 0) 24 S [(0, vA (some o)), (2, vI x2)] [] (f_X12_sight_24 o x2 S) := by
  unfold f_X12_sight_24
  refine g_iload_n hO d_X12_sight_24 (by rfl) 1 rfl ?_
  refine g_if_ne (tgt := 35) hO d_X12_sight_25.1 d_X12_sight_25.2 (fun _ => ?_) (fun _ => ?_)
  · skip
    refine g_aload_n hO d_X12_sight_28 (by rfl) 0 rfl ?_
    refine k_virtIp hO cl_X12 mm_X12_seenMany lkV_X12_482 ⟨⟨Nat.le_of_ble_eq_true rfl, Nat.le_of_ble_eq_true rfl⟩, Nat.le_of_ble_eq_true rfl, Nat.le_of_ble_eq_true rfl⟩ (kn' := (0, 0)) rfl (As := []) rfl (Nat.le_of_ble_eq_true rfl) (fun o' _ => t_X12_seenMany Γ.2.1 E o' S) d_X12_sight_29 rfl (fun v1 => ?_)
    refine g_goto (tgt := 39) hO d_X12_sight_32.1 d_X12_sight_32.2 ?_
    exact g_ret hO rfl rfl ⟨Nat.le_of_ble_eq_true rfl, Nat.le_of_ble_eq_true rfl⟩ rfl rfl d_X12_sight_39.1
  · skip
    refine g_aload_n hO d_X12_sight_35 (by rfl) 0 rfl ?_
    refine k_virtIp hO cl_X12 mm_X12_shotMany lkV_X12_485 ⟨⟨Nat.le_of_ble_eq_true rfl, Nat.le_of_ble_eq_true rfl⟩, Nat.le_of_ble_eq_true rfl, Nat.le_of_ble_eq_true rfl⟩ (kn' := (0, 0)) rfl (As := []) rfl (Nat.le_of_ble_eq_true rfl) (fun o' _ => t_X12_shotMany Γ.2.1 E o' S) d_X12_sight_36 rfl (fun v3 => ?_)
    exact g_ret hO rfl rfl ⟨Nat.le_of_ble_eq_true rfl, Nat.le_of_ble_eq_true rfl⟩ rfl rfl d_X12_sight_39.1
set_option maxRecDepth 20000 in
theorem w_X12_sight {Γ : GC} {E : GE} (hO : gOk Γ E cX12_sight RX12 5 rm_X12_sight (some .int) "sight") (o : Nat) (x1 : Int32) (x2 : Int32) (S : GS) : Go Γ E (gBsI Γ E) 5 (0, 0) 0 S [(0, vA (some o)), (1, vI x1), (2, vI x2)] [] (f_X12_sight o x1 x2 S) := by
  unfold f_X12_sight
  refine g_aload_n hO d_X12_sight_0 (by rfl) 0 rfl ?_
  refine g_iconst hO 0 d_X12_sight_1 (by decide) ?_
  refine h_putI hO cl_X12 0 rfl rfl wf_X12_100 (Or.inl rfl) d_X12_sight_2 (fun S1 => ?_)
  refine g_aload_n hO d_X12_sight_5 (by rfl) 0 rfl ?_
  refine g_iload_n hO d_X12_sight_6 (by rfl) 1 rfl ?_
  refine k_virtIs hO cl_X12 mm_X12_hasSight lkV_X12_479 ⟨⟨Nat.le_of_ble_eq_true rfl, Nat.le_of_ble_eq_true rfl⟩, Nat.le_of_ble_eq_true rfl, Nat.le_of_ble_eq_true rfl⟩ (kn' := (0, 0)) rfl (As := [vI x1]) rfl (Nat.le_of_ble_eq_true rfl) (fun o' _ => t_X12_hasSight Γ.2.1 E o' x1 S1) d_X12_sight_7 rfl (fun v2 S3 => ?_)
  refine g_if_ne (tgt := 15) hO d_X12_sight_10.1 d_X12_sight_10.2 (fun _ => ?_) (fun _ => ?_)
  · skip
    refine g_iconst hO (-1) d_X12_sight_13 (by decide) ?_
    exact g_ret hO rfl rfl ⟨Nat.le_of_ble_eq_true rfl, Nat.le_of_ble_eq_true rfl⟩ rfl rfl d_X12_sight_14.1
  · skip
    refine g_iload_n hO d_X12_sight_15 (by rfl) 2 rfl ?_
    refine g_if_eq (tgt := 24) hO d_X12_sight_16.1 d_X12_sight_16.2 (fun _ => ?_) (fun _ => ?_)
    · skip
      exact g_sub [0, 2] rfl (w_X12_sight_24 hO o _ _)
    · skip
      refine g_iload_n hO d_X12_sight_19 (by rfl) 2 rfl ?_
      refine g_iconst hO 1 d_X12_sight_20 (by decide) ?_
      refine g_ic_ne (tgt := 40) hO d_X12_sight_21.1 d_X12_sight_21.2 (fun _ => ?_) (fun _ => ?_)
      · skip
        exact g_sub [0, 2] rfl (w_X12_sight_24 hO o _ _)
      · skip
        refine g_iload_n hO d_X12_sight_40 (by rfl) 2 rfl ?_
        refine g_bipush hO 100 d_X12_sight_41 (by decide) ?_
        refine g_isub hO d_X12_sight_43 ?_
        refine g_bipush hO 10 d_X12_sight_44 (by decide) ?_
        refine g_idiv hO d_X12_sight_46 ?_
        refine g_bipush hO 30 d_X12_sight_47 (by decide) ?_
        refine g_irem hO d_X12_sight_49 ?_
        refine g_istore_n (lv' := [(3, vI (jrem ((x2 - 100) / 10) 30)), (0, vA (some o)), (1, vI x1), (2, vI x2)]) hO d_X12_sight_50 (by rfl) (by decide) rfl ?_
        refine g_iload_n hO d_X12_sight_51 (by rfl) 3 rfl ?_
        refine g_bipush hO 10 d_X12_sight_52 (by decide) ?_
        refine g_irem hO d_X12_sight_54 ?_
        refine g_istore (lv' := [(4, vI (jrem x2 10)), (3, vI (jrem ((x2 - 100) / 10) 30)), (0, vA (some o)), (1, vI x1), (2, vI x2)]) hO d_X12_sight_55 (by decide) rfl ?_
        refine g_iload_n hO d_X12_sight_57 (by rfl) 4 rfl ?_
        refine g_bipush hO 100 d_X12_sight_58 (by decide) ?_
        refine g_ic_lt (tgt := 69) hO d_X12_sight_60.1 d_X12_sight_60.2 (fun _ => ?_) (fun _ => ?_)
        · skip
          refine g_iconst hO (-1) d_X12_sight_69 (by decide) ?_
          exact g_ret hO rfl rfl ⟨Nat.le_of_ble_eq_true rfl, Nat.le_of_ble_eq_true rfl⟩ rfl rfl d_X12_sight_70.1
        · skip
          refine g_iload hO d_X12_sight_63 0 rfl ?_
          refine g_iconst hO 2 d_X12_sight_65 (by decide) ?_
          refine g_ic_le (tgt := 71) hO d_X12_sight_66.1 d_X12_sight_66.2 (fun _ => ?_) (fun _ => ?_)
          · skip
            refine g_iload_n hO d_X12_sight_71 (by rfl) 4 rfl ?_
            refine g_sipush hO 400 d_X12_sight_72 (by decide) ?_
            refine g_ic_ge (tgt := 100) hO d_X12_sight_75.1 d_X12_sight_75.2 (fun _ => ?_) (fun _ => ?_)
            · skip
              refine g_iload_n hO d_X12_sight_100 (by rfl) 4 rfl ?_
              refine g_sipush hO 700 d_X12_sight_101 (by decide) ?_
              refine g_ic_ge (tgt := 125) hO d_X12_sight_104.1 d_X12_sight_104.2 (fun _ => ?_) (fun _ => ?_)
              · skip
                refine g_iconst hO (-1) d_X12_sight_125 (by decide) ?_
                exact g_ret hO rfl rfl ⟨Nat.le_of_ble_eq_true rfl, Nat.le_of_ble_eq_true rfl⟩ rfl rfl d_X12_sight_126.1
              · skip
                refine g_iload_n hO d_X12_sight_107 (by rfl) 1 rfl ?_
                refine g_aload_n hO d_X12_sight_108 (by rfl) 2 rfl ?_
                refine k_virtIp hO cl_X12 mm_X12_shotMany lkV_X12_485 ⟨⟨Nat.le_of_ble_eq_true rfl, Nat.le_of_ble_eq_true rfl⟩, Nat.le_of_ble_eq_true rfl, Nat.le_of_ble_eq_true rfl⟩ (kn' := (0, 0)) rfl (As := []) rfl (Nat.le_of_ble_eq_true rfl) (fun o' _ => t_X12_shotMany Γ.2.1 E o' S3) d_X12_sight_109 rfl (fun v4 => ?_)
                refine g_ic_ge (tgt := 125) hO d_X12_sight_112.1 d_X12_sight_112.2 (fun _ => ?_) (fun _ => ?_)
                · skip
                  refine g_iconst hO (-1) d_X12_sight_125 (by decide) ?_
                  exact g_ret hO rfl rfl ⟨Nat.le_of_ble_eq_true rfl, Nat.le_of_ble_eq_true rfl⟩ rfl rfl d_X12_sight_126.1
                · skip
                  refine g_aload_n hO d_X12_sight_115 (by rfl) 2 rfl ?_
                  refine g_iload_n hO d_X12_sight_116 (by rfl) 1 rfl ?_
                  refine g_iload hO d_X12_sight_117 0 rfl ?_
                  refine k_virtIp hO cl_X12 mm_X12_shotOf lkV_X12_491 ⟨⟨Nat.le_of_ble_eq_true rfl, Nat.le_of_ble_eq_true rfl⟩, Nat.le_of_ble_eq_true rfl, Nat.le_of_ble_eq_true rfl⟩ (kn' := (0, 0)) rfl (As := [vI (jrem ((x2 - 100) / 10) 30), vI (jrem x2 10)]) rfl (Nat.le_of_ble_eq_true rfl) (fun o' _ => t_X12_shotOf Γ.2.1 E o' (jrem ((x2 - 100) / 10) 30) (jrem x2 10) S3) d_X12_sight_119 rfl (fun v6 => ?_)
                  refine g_goto (tgt := 126) hO d_X12_sight_122.1 d_X12_sight_122.2 ?_
                  exact g_ret hO rfl rfl ⟨Nat.le_of_ble_eq_true rfl, Nat.le_of_ble_eq_true rfl⟩ rfl rfl d_X12_sight_126.1
            · skip
              refine g_iload_n hO d_X12_sight_78 (by rfl) 1 rfl ?_
              refine g_aload_n hO d_X12_sight_79 (by rfl) 2 rfl ?_
              refine k_virtIp hO cl_X12 mm_X12_seenMany lkV_X12_482 ⟨⟨Nat.le_of_ble_eq_true rfl, Nat.le_of_ble_eq_true rfl⟩, Nat.le_of_ble_eq_true rfl, Nat.le_of_ble_eq_true rfl⟩ (kn' := (0, 0)) rfl (As := []) rfl (Nat.le_of_ble_eq_true rfl) (fun o' _ => t_X12_seenMany Γ.2.1 E o' S3) d_X12_sight_80 rfl (fun v8 => ?_)
              refine g_ic_ge (tgt := 96) hO d_X12_sight_83.1 d_X12_sight_83.2 (fun _ => ?_) (fun _ => ?_)
              · skip
                refine g_iconst hO (-1) d_X12_sight_96 (by decide) ?_
                refine g_goto (tgt := 126) hO d_X12_sight_97.1 d_X12_sight_97.2 ?_
                exact g_ret hO rfl rfl ⟨Nat.le_of_ble_eq_true rfl, Nat.le_of_ble_eq_true rfl⟩ rfl rfl d_X12_sight_126.1
              · skip
                refine g_aload_n hO d_X12_sight_86 (by rfl) 2 rfl ?_
                refine g_iload_n hO d_X12_sight_87 (by rfl) 1 rfl ?_
                refine g_iload hO d_X12_sight_88 0 rfl ?_
                refine k_virtIp hO cl_X12 mm_X12_seenOf lkV_X12_488 ⟨⟨Nat.le_of_ble_eq_true rfl, Nat.le_of_ble_eq_true rfl⟩, Nat.le_of_ble_eq_true rfl, Nat.le_of_ble_eq_true rfl⟩ (kn' := (0, 0)) rfl (As := [vI (jrem ((x2 - 100) / 10) 30), vI (jrem x2 10)]) rfl (Nat.le_of_ble_eq_true rfl) (fun o' _ => t_X12_seenOf Γ.2.1 E o' (jrem ((x2 - 100) / 10) 30) (jrem x2 10) S3) d_X12_sight_90 rfl (fun v10 => ?_)
                refine g_goto (tgt := 126) hO d_X12_sight_93.1 d_X12_sight_93.2 ?_
                exact g_ret hO rfl rfl ⟨Nat.le_of_ble_eq_true rfl, Nat.le_of_ble_eq_true rfl⟩ rfl rfl d_X12_sight_126.1
          · skip
            refine g_iconst hO (-1) d_X12_sight_69 (by decide) ?_
            exact g_ret hO rfl rfl ⟨Nat.le_of_ble_eq_true rfl, Nat.le_of_ble_eq_true rfl⟩ rfl rfl d_X12_sight_70.1
theorem t_X12_sight (l : Launch) (E : GE) (o : Nat) (x1 : Int32) (x2 : Int32) (S : GS) : ∀ a, f_X12_sight o x1 x2 S = some a → Ct l E yX12_sight cX12_sight 5 (some .int) rm_X12_sight [vA (some o), vI x1, vI x2] S (some (vI a.1)) a.2 :=
  Ct_of (val := fun (b : Int32 × GS) => some (vI b.1)) (nxt := fun (b : Int32 × GS) => b.2) (by decide) (Nat.le_of_ble_eq_true rfl) (fun Γ hl hO => w_X12_sight hO o x1 x2 S)
theorem d_X12_fits_0 : gD cX12_fits 0 (.iconst 1) 1 1 := ⟨by decide +kernel, rfl⟩
theorem d_X12_fits_1 : gD cX12_fits 1 (.istore_n 3) 1 2 := ⟨by decide +kernel, rfl⟩
theorem d_X12_fits_2 : gD cX12_fits 2 (.iconst 0) 1 3 := ⟨by decide +kernel, rfl⟩
theorem d_X12_fits_3 : gD cX12_fits 3 (.istore 4) 2 5 := ⟨by decide +kernel, rfl⟩
theorem d_X12_fits_5 : gD cX12_fits 5 (.iload 4) 2 7 := ⟨by decide +kernel, rfl⟩
theorem d_X12_fits_7 : gD cX12_fits 7 (.aload_n 0) 1 8 := ⟨by decide +kernel, rfl⟩
theorem d_X12_fits_8 : gD cX12_fits 8 (.invokevirtual 482) 3 11 := ⟨by decide +kernel, rfl⟩
theorem d_X12_fits_11 : gD cX12_fits 11 (.if_icmp .ge 71) 3 14 ∧ ((11 : Nat) : Int) + 71 = ((82 : Nat) : Int) := ⟨⟨by decide +kernel, rfl⟩, by decide⟩
theorem d_X12_fits_14 : gD cX12_fits 14 (.aload_n 0) 1 15 := ⟨by decide +kernel, rfl⟩
theorem d_X12_fits_15 : gD cX12_fits 15 (.iload 4) 2 17 := ⟨by decide +kernel, rfl⟩
theorem d_X12_fits_17 : gD cX12_fits 17 (.iconst 0) 1 18 := ⟨by decide +kernel, rfl⟩
theorem d_X12_fits_18 : gD cX12_fits 18 (.invokevirtual 488) 3 21 := ⟨by decide +kernel, rfl⟩
theorem d_X12_fits_21 : gD cX12_fits 21 (.istore 5) 2 23 := ⟨by decide +kernel, rfl⟩
theorem d_X12_fits_23 : gD cX12_fits 23 (.iload_n 3) 1 24 := ⟨by decide +kernel, rfl⟩
theorem d_X12_fits_24 : gD cX12_fits 24 (.ifCond .eq 50) 3 27 ∧ ((24 : Nat) : Int) + 50 = ((74 : Nat) : Int) := ⟨⟨by decide +kernel, rfl⟩, by decide⟩
theorem d_X12_fits_27 : gD cX12_fits 27 (.aload_n 0) 1 28 := ⟨by decide +kernel, rfl⟩
theorem d_X12_fits_28 : gD cX12_fits 28 (.iload 4) 2 30 := ⟨by decide +kernel, rfl⟩
theorem d_X12_fits_30 : gD cX12_fits 30 (.iconst 1) 1 31 := ⟨by decide +kernel, rfl⟩
theorem d_X12_fits_31 : gD cX12_fits 31 (.invokevirtual 488) 3 34 := ⟨by decide +kernel, rfl⟩
theorem d_X12_fits_34 : gD cX12_fits 34 (.iload_n 1) 1 35 := ⟨by decide +kernel, rfl⟩
theorem d_X12_fits_35 : gD cX12_fits 35 (.if_icmp .ne 35) 3 38 ∧ ((35 : Nat) : Int) + 35 = ((70 : Nat) : Int) := ⟨⟨by decide +kernel, rfl⟩, by decide⟩
theorem d_X12_fits_38 : gD cX12_fits 38 (.aload_n 0) 1 39 := ⟨by decide +kernel, rfl⟩
theorem d_X12_fits_39 : gD cX12_fits 39 (.iload 5) 2 41 := ⟨by decide +kernel, rfl⟩
theorem d_X12_fits_41 : gD cX12_fits 41 (.aload_n 0) 1 42 := ⟨by decide +kernel, rfl⟩
theorem d_X12_fits_42 : gD cX12_fits 42 (.iload 5) 2 44 := ⟨by decide +kernel, rfl⟩
theorem d_X12_fits_44 : gD cX12_fits 44 (.iconst 1) 1 45 := ⟨by decide +kernel, rfl⟩
theorem d_X12_fits_45 : gD cX12_fits 45 (.invokevirtual 306) 3 48 := ⟨by decide +kernel, rfl⟩
theorem d_X12_fits_48 : gD cX12_fits 48 (.iload_n 2) 1 49 := ⟨by decide +kernel, rfl⟩
theorem d_X12_fits_49 : gD cX12_fits 49 (.invokevirtual 424) 3 52 := ⟨by decide +kernel, rfl⟩
theorem d_X12_fits_52 : gD cX12_fits 52 (.aload_n 0) 1 53 := ⟨by decide +kernel, rfl⟩
theorem d_X12_fits_53 : gD cX12_fits 53 (.iload 4) 2 55 := ⟨by decide +kernel, rfl⟩
theorem d_X12_fits_55 : gD cX12_fits 55 (.iconst 2) 1 56 := ⟨by decide +kernel, rfl⟩
theorem d_X12_fits_56 : gD cX12_fits 56 (.invokevirtual 488) 3 59 := ⟨by decide +kernel, rfl⟩
theorem d_X12_fits_59 : gD cX12_fits 59 (.ifCond .ne 7) 3 62 ∧ ((59 : Nat) : Int) + 7 = ((66 : Nat) : Int) := ⟨⟨by decide +kernel, rfl⟩, by decide⟩
theorem d_X12_fits_62 : gD cX12_fits 62 (.iconst 1) 1 63 := ⟨by decide +kernel, rfl⟩
theorem d_X12_fits_63 : decode cX12_fits 63 = .ok (.goto 4, 3) ∧ ((63 : Nat) : Int) + 4 = ((67 : Nat) : Int) := ⟨by decide +kernel, by decide⟩
theorem d_X12_fits_66 : gD cX12_fits 66 (.iconst 0) 1 67 := ⟨by decide +kernel, rfl⟩
theorem d_X12_fits_67 : gD cX12_fits 67 (.if_icmp .ne 7) 3 70 ∧ ((67 : Nat) : Int) + 7 = ((74 : Nat) : Int) := ⟨⟨by decide +kernel, rfl⟩, by decide⟩
theorem d_X12_fits_70 : gD cX12_fits 70 (.iconst 1) 1 71 := ⟨by decide +kernel, rfl⟩
theorem d_X12_fits_71 : decode cX12_fits 71 = .ok (.goto 4, 3) ∧ ((71 : Nat) : Int) + 4 = ((75 : Nat) : Int) := ⟨by decide +kernel, by decide⟩
theorem d_X12_fits_74 : gD cX12_fits 74 (.iconst 0) 1 75 := ⟨by decide +kernel, rfl⟩
theorem d_X12_fits_75 : gD cX12_fits 75 (.istore_n 3) 1 76 := ⟨by decide +kernel, rfl⟩
theorem d_X12_fits_76 : gD cX12_fits 76 (.iinc 4 1) 3 79 := ⟨by decide +kernel, rfl⟩
theorem d_X12_fits_79 : decode cX12_fits 79 = .ok (.goto (-74), 3) ∧ ((79 : Nat) : Int) + (-74) = ((5 : Nat) : Int) := ⟨by decide +kernel, by decide⟩
theorem d_X12_fits_82 : gD cX12_fits 82 (.iload_n 3) 1 83 := ⟨by decide +kernel, rfl⟩
theorem d_X12_fits_83 : gD cX12_fits 83 (.ireturn) 1 84 := ⟨by decide +kernel, rfl⟩
abbrev rm_X12_fits : Room := { frames := 4, cells := 0, slots := 0, locals := 89 }
set_option maxRecDepth 20000 in
theorem w_X12_fits_75 {Γ : GC} {E : GE} (hO : gOk Γ E cX12_fits RX12 6 rm_X12_fits (some .boolean) "fits") (o : Nat) (S : GS) {k5 : (Int32 → Int32 → Int32 → Int32 → Option Int32)} (hk5 : ∀ (z1 : Int32) (z2 : Int32) (z3 : Int32) (z4 : Int32), Go Γ E (gBpI Γ E S) 6 (0, 0) 5 S [(0, vA (some o)), (1, vI z1), (2, vI z2), (3, vI z3), (4, vI z4)] [] (k5 z1 z2 z3 z4)) (x1 : Int32) (x2 : Int32) (x4 : Int32) (y0 : Int32) : Go Γ E (gBpI Γ E S) 6 (0, 0) 75 S [(0, vA (some o)), (1, vI x1), (2, vI x2), (4, vI x4)] [vI y0] (f_X12_fits_75 k5 o S x1 x2 x4 y0) := by
  unfold f_X12_fits_75
  refine g_istore_n (lv' := [(3, vI y0), (0, vA (some o)), (1, vI x1), (2, vI x2), (4, vI x4)]) hO d_X12_fits_75 (by rfl) (by decide) rfl ?_
  refine g_iinc (lv' := [(4, vI (x4 + 1)), (3, vI y0), (0, vA (some o)), (1, vI x1), (2, vI x2)]) hO 1 d_X12_fits_76 (by decide) 4 rfl (by decide) rfl ?_
  refine g_goto (tgt := 5) hO d_X12_fits_79.1 d_X12_fits_79.2 ?_
  exact g_sub [2, 3, 4, 1, 0] rfl (hk5 _ _ _ _)
set_option maxRecDepth 20000 in
theorem w_X12_fits_70 {Γ : GC} {E : GE} (hO : gOk Γ E cX12_fits RX12 6 rm_X12_fits (some .boolean) "fits") (o : Nat) (S : GS) {k5 : (Int32 → Int32 → Int32 → Int32 → Option Int32)} (hk5 : ∀ (z1 : Int32) (z2 : Int32) (z3 : Int32) (z4 : Int32), Go Γ E (gBpI Γ E S) 6 (0, 0) 5 S [(0, vA (some o)), (1, vI z1), (2, vI z2), (3, vI z3), (4, vI z4)] [] (k5 z1 z2 z3 z4)) (x1 : Int32) (x2 : Int32) (x4 : Int32) : Go Γ E (gBpI Γ E S) 6 (0, 0) 70 S [(0, vA (some o)), (1, vI x1), (2, vI x2), (4, vI x4)] [] (f_X12_fits_70 k5 o S x1 x2 x4) := by
  unfold f_X12_fits_70
  refine g_iconst hO 1 d_X12_fits_70 (by decide) ?_
  refine g_goto (tgt := 75) hO d_X12_fits_71.1 d_X12_fits_71.2 ?_
  exact g_sub [0, 1, 2, 3] rfl (w_X12_fits_75 hO o _ hk5 _ _ _ _)
set_option maxRecDepth 20000 in
theorem w_X12_fits_74 {Γ : GC} {E : GE} (hO : gOk Γ E cX12_fits RX12 6 rm_X12_fits (some .boolean) "fits") (o : Nat) (S : GS) {k5 : (Int32 → Int32 → Int32 → Int32 → Option Int32)} (hk5 : ∀ (z1 : Int32) (z2 : Int32) (z3 : Int32) (z4 : Int32), Go Γ E (gBpI Γ E S) 6 (0, 0) 5 S [(0, vA (some o)), (1, vI z1), (2, vI z2), (3, vI z3), (4, vI z4)] [] (k5 z1 z2 z3 z4)) (x1 : Int32) (x2 : Int32) (x4 : Int32) : Go Γ E (gBpI Γ E S) 6 (0, 0) 74 S [(0, vA (some o)), (1, vI x1), (2, vI x2), (4, vI x4)] [] (f_X12_fits_74 k5 o S x1 x2 x4) := by
  unfold f_X12_fits_74
  refine g_iconst hO 0 d_X12_fits_74 (by decide) ?_
  exact g_sub [0, 1, 2, 3] rfl (w_X12_fits_75 hO o _ hk5 _ _ _ _)
set_option maxRecDepth 20000 in
theorem w_X12_fits_67 {Γ : GC} {E : GE} (hO : gOk Γ E cX12_fits RX12 6 rm_X12_fits (some .boolean) "fits") (o : Nat) (S : GS) {k5 : (Int32 → Int32 → Int32 → Int32 → Option Int32)} (hk5 : ∀ (z1 : Int32) (z2 : Int32) (z3 : Int32) (z4 : Int32), Go Γ E (gBpI Γ E S) 6 (0, 0) 5 S [(0, vA (some o)), (1, vI z1), (2, vI z2), (3, vI z3), (4, vI z4)] [] (k5 z1 z2 z3 z4)) (x1 : Int32) (x2 : Int32) (x4 : Int32) (y0 : Int32) (y1 : Int32) : Go Γ E (gBpI Γ E S) 6 (0, 0) 67 S [(0, vA (some o)), (1, vI x1), (2, vI x2), (4, vI x4)] [vI y1, vI y0] (f_X12_fits_67 k5 o S x1 x2 x4 y0 y1) := by
  unfold f_X12_fits_67
  refine g_ic_ne (tgt := 74) hO d_X12_fits_67.1 d_X12_fits_67.2 (fun _ => ?_) (fun _ => ?_)
  · skip
    exact g_sub [0, 1, 2, 3] rfl (w_X12_fits_70 hO o _ hk5 _ _ _)
  · skip
    exact g_sub [0, 1, 2, 3] rfl (w_X12_fits_74 hO o _ hk5 _ _ _)
set_option maxRecDepth 20000 in
theorem w_X12_fits_5 {Γ : GC} {E : GE} (hO : gOk Γ E cX12_fits RX12 6 rm_X12_fits (some .boolean) "fits") (o : Nat) (S : GS) : ∀ (n : Nat) (x1 : Int32) (x2 : Int32) (x3 : Int32) (x4 : Int32), Go Γ E (gBpI Γ E S) 6 (0, 0) 5 S [(0, vA (some o)), (1, vI x1), (2, vI x2), (3, vI x3), (4, vI x4)] [] (f_X12_fits_5 o S n x1 x2 x3 x4) := by
  intro n
  induction n with
  | zero =>
    intro x1 x2 x3 x4
    exact g_none
  | succ n ih =>
    intro x1 x2 x3 x4
    rw [f_X12_fits_5]
    refine g_iload hO d_X12_fits_5 4 rfl ?_
    refine g_aload_n hO d_X12_fits_7 (by rfl) 0 rfl ?_
    refine k_virtIp hO cl_X12 mm_X12_seenMany lkV_X12_482 ⟨⟨Nat.le_of_ble_eq_true rfl, Nat.le_of_ble_eq_true rfl⟩, Nat.le_of_ble_eq_true rfl, Nat.le_of_ble_eq_true rfl⟩ (kn' := (0, 0)) rfl (As := []) rfl (Nat.le_of_ble_eq_true rfl) (fun o' _ => t_X12_seenMany Γ.2.1 E o' S) d_X12_fits_8 rfl (fun v1 => ?_)
    refine g_ic_ge (tgt := 82) hO d_X12_fits_11.1 d_X12_fits_11.2 (fun _ => ?_) (fun _ => ?_)
    · skip
      refine g_iload_n hO d_X12_fits_82 (by rfl) 3 rfl ?_
      exact g_zret hO rfl ⟨Nat.le_of_ble_eq_true rfl, Nat.le_of_ble_eq_true rfl⟩ rfl rfl d_X12_fits_83.1
    · skip
      refine g_aload_n hO d_X12_fits_14 (by rfl) 0 rfl ?_
      refine g_iload hO d_X12_fits_15 4 rfl ?_
      refine g_iconst hO 0 d_X12_fits_17 (by decide) ?_
      refine k_virtIp hO cl_X12 mm_X12_seenOf lkV_X12_488 ⟨⟨Nat.le_of_ble_eq_true rfl, Nat.le_of_ble_eq_true rfl⟩, Nat.le_of_ble_eq_true rfl, Nat.le_of_ble_eq_true rfl⟩ (kn' := (0, 0)) rfl (As := [vI x4, vI 0]) rfl (Nat.le_of_ble_eq_true rfl) (fun o' _ => t_X12_seenOf Γ.2.1 E o' x4 0 S) d_X12_fits_18 rfl (fun v3 => ?_)
      refine g_istore (lv' := [(5, vI v3), (0, vA (some o)), (1, vI x1), (2, vI x2), (3, vI x3), (4, vI x4)]) hO d_X12_fits_21 (by decide) rfl ?_
      refine g_iload_n hO d_X12_fits_23 (by rfl) 4 rfl ?_
      refine g_if_eq (tgt := 74) hO d_X12_fits_24.1 d_X12_fits_24.2 (fun _ => ?_) (fun _ => ?_)
      · skip
        exact g_sub [1, 2, 3, 5] rfl (w_X12_fits_74 hO o _ ih _ _ _)
      · skip
        refine g_aload_n hO d_X12_fits_27 (by rfl) 1 rfl ?_
        refine g_iload hO d_X12_fits_28 5 rfl ?_
        refine g_iconst hO 1 d_X12_fits_30 (by decide) ?_
        refine k_virtIp hO cl_X12 mm_X12_seenOf lkV_X12_488 ⟨⟨Nat.le_of_ble_eq_true rfl, Nat.le_of_ble_eq_true rfl⟩, Nat.le_of_ble_eq_true rfl, Nat.le_of_ble_eq_true rfl⟩ (kn' := (0, 0)) rfl (As := [vI x4, vI 1]) rfl (Nat.le_of_ble_eq_true rfl) (fun o' _ => t_X12_seenOf Γ.2.1 E o' x4 1 S) d_X12_fits_31 rfl (fun v5 => ?_)
        refine g_iload_n hO d_X12_fits_34 (by rfl) 2 rfl ?_
        refine g_ic_ne (tgt := 70) hO d_X12_fits_35.1 d_X12_fits_35.2 (fun _ => ?_) (fun _ => ?_)
        · skip
          refine g_aload_n hO d_X12_fits_38 (by rfl) 1 rfl ?_
          refine g_iload hO d_X12_fits_39 0 rfl ?_
          refine g_aload_n hO d_X12_fits_41 (by rfl) 1 rfl ?_
          refine g_iload hO d_X12_fits_42 0 rfl ?_
          refine g_iconst hO 1 d_X12_fits_44 (by decide) ?_
          refine k_virtIp hO cl_X12 mm_X12_ofLady lkV_X12_306 ⟨⟨Nat.le_of_ble_eq_true rfl, Nat.le_of_ble_eq_true rfl⟩, Nat.le_of_ble_eq_true rfl, Nat.le_of_ble_eq_true rfl⟩ (kn' := (0, 0)) rfl (As := [vI v3, vI 1]) rfl (Nat.le_of_ble_eq_true rfl) (fun o' _ => t_X12_ofLady Γ.2.1 E o' v3 1 S) d_X12_fits_45 rfl (fun v7 => ?_)
          refine g_iload_n hO d_X12_fits_48 (by rfl) 3 rfl ?_
          refine k_virtIp hO cl_X12 mm_X12_stands lkV_X12_424 ⟨⟨Nat.le_of_ble_eq_true rfl, Nat.le_of_ble_eq_true rfl⟩, Nat.le_of_ble_eq_true rfl, Nat.le_of_ble_eq_true rfl⟩ (kn' := (0, 0)) rfl (As := [vI v3, vI v7, vI x2]) rfl (Nat.le_of_ble_eq_true rfl) (fun o' _ => t_X12_stands Γ.2.1 E o' v3 v7 x2 S) d_X12_fits_49 rfl (fun v9 => ?_)
          refine g_aload_n hO d_X12_fits_52 (by rfl) 1 rfl ?_
          refine g_iload hO d_X12_fits_53 5 rfl ?_
          refine g_iconst hO 2 d_X12_fits_55 (by decide) ?_
          refine k_virtIp hO cl_X12 mm_X12_seenOf lkV_X12_488 ⟨⟨Nat.le_of_ble_eq_true rfl, Nat.le_of_ble_eq_true rfl⟩, Nat.le_of_ble_eq_true rfl, Nat.le_of_ble_eq_true rfl⟩ (kn' := (0, 0)) rfl (As := [vI x4, vI 2]) rfl (Nat.le_of_ble_eq_true rfl) (fun o' _ => t_X12_seenOf Γ.2.1 E o' x4 2 S) d_X12_fits_56 rfl (fun v11 => ?_)
          refine g_if_ne (tgt := 66) hO d_X12_fits_59.1 d_X12_fits_59.2 (fun _ => ?_) (fun _ => ?_)
          · skip
            refine g_iconst hO 1 d_X12_fits_62 (by decide) ?_
            refine g_goto (tgt := 67) hO d_X12_fits_63.1 d_X12_fits_63.2 ?_
            exact g_sub [1, 2, 3, 5] rfl (w_X12_fits_67 hO o _ ih _ _ _ _ _)
          · skip
            refine g_iconst hO 0 d_X12_fits_66 (by decide) ?_
            exact g_sub [1, 2, 3, 5] rfl (w_X12_fits_67 hO o _ ih _ _ _ _ _)
        · skip
          exact g_sub [1, 2, 3, 5] rfl (w_X12_fits_70 hO o _ ih _ _ _)
set_option maxRecDepth 20000 in
theorem w_X12_fits {Γ : GC} {E : GE} (hO : gOk Γ E cX12_fits RX12 6 rm_X12_fits (some .boolean) "fits") (o : Nat) (x1 : Int32) (x2 : Int32) (S : GS) : Go Γ E (gBpI Γ E S) 6 (0, 0) 0 S [(0, vA (some o)), (1, vI x1), (2, vI x2)] [] (f_X12_fits o x1 x2 S) := by
  unfold f_X12_fits
  refine g_iconst hO 1 d_X12_fits_0 (by decide) ?_
  refine g_istore_n (lv' := [(3, vI 1), (0, vA (some o)), (1, vI x1), (2, vI x2)]) hO d_X12_fits_1 (by rfl) (by decide) rfl ?_
  refine g_iconst hO 0 d_X12_fits_2 (by decide) ?_
  refine g_istore (lv' := [(4, vI 0), (3, vI 1), (0, vA (some o)), (1, vI x1), (2, vI x2)]) hO d_X12_fits_3 (by decide) rfl ?_
  exact g_sub [2, 3, 4, 1, 0] rfl (w_X12_fits_5 hO o _ _ _ _ _ _)
theorem t_X12_fits (l : Launch) (E : GE) (o : Nat) (x1 : Int32) (x2 : Int32) (S : GS) : ∀ a, f_X12_fits o x1 x2 S = some a → Ct l E yX12_fits cX12_fits 6 (some .boolean) rm_X12_fits [vA (some o), vI x1, vI x2] S (some (vI a)) S :=
  Ct_of (val := fun b => some (vI b)) (nxt := fun _ => S) (by decide) (Nat.le_of_ble_eq_true rfl) (fun Γ hl hO => w_X12_fits hO o x1 x2 S)
theorem d_X12_around_0 : gD cX12_around 0 (.lconst 0) 1 1 := ⟨by decide +kernel, rfl⟩
theorem d_X12_around_1 : gD cX12_around 1 (.lstore 5) 2 3 := ⟨by decide +kernel, rfl⟩
theorem d_X12_around_3 : gD cX12_around 3 (.iconst 0) 1 4 := ⟨by decide +kernel, rfl⟩
theorem d_X12_around_4 : gD cX12_around 4 (.iload_n 3) 1 5 := ⟨by decide +kernel, rfl⟩
theorem d_X12_around_5 : gD cX12_around 5 (.iconst 1) 1 6 := ⟨by decide +kernel, rfl⟩
theorem d_X12_around_6 : gD cX12_around 6 (.isub) 1 7 := ⟨by decide +kernel, rfl⟩
theorem d_X12_around_7 : gD cX12_around 7 (.invokestatic 173) 3 10 := ⟨by decide +kernel, rfl⟩
theorem d_X12_around_10 : gD cX12_around 10 (.istore 7) 2 12 := ⟨by decide +kernel, rfl⟩
theorem d_X12_around_12 : gD cX12_around 12 (.iload 7) 2 14 := ⟨by decide +kernel, rfl⟩
theorem d_X12_around_14 : gD cX12_around 14 (.bipush 40) 2 16 := ⟨by decide +kernel, rfl⟩
theorem d_X12_around_16 : gD cX12_around 16 (.iload_n 3) 1 17 := ⟨by decide +kernel, rfl⟩
theorem d_X12_around_17 : gD cX12_around 17 (.iconst 1) 1 18 := ⟨by decide +kernel, rfl⟩
theorem d_X12_around_18 : gD cX12_around 18 (.iadd) 1 19 := ⟨by decide +kernel, rfl⟩
theorem d_X12_around_19 : gD cX12_around 19 (.invokestatic 364) 3 22 := ⟨by decide +kernel, rfl⟩
theorem d_X12_around_22 : gD cX12_around 22 (.if_icmp .gt 44) 3 25 ∧ ((22 : Nat) : Int) + 44 = ((66 : Nat) : Int) := ⟨⟨by decide +kernel, rfl⟩, by decide⟩
theorem d_X12_around_25 : gD cX12_around 25 (.lload 5) 2 27 := ⟨by decide +kernel, rfl⟩
theorem d_X12_around_27 : gD cX12_around 27 (.iload 4) 2 29 := ⟨by decide +kernel, rfl⟩
theorem d_X12_around_29 : gD cX12_around 29 (.iconst (-1)) 1 30 := ⟨by decide +kernel, rfl⟩
theorem d_X12_around_30 : gD cX12_around 30 (.if_icmp .eq 14) 3 33 ∧ ((30 : Nat) : Int) + 14 = ((44 : Nat) : Int) := ⟨⟨by decide +kernel, rfl⟩, by decide⟩
theorem d_X12_around_33 : gD cX12_around 33 (.aload_n 0) 1 34 := ⟨by decide +kernel, rfl⟩
theorem d_X12_around_34 : gD cX12_around 34 (.iload 4) 2 36 := ⟨by decide +kernel, rfl⟩
theorem d_X12_around_36 : gD cX12_around 36 (.iload 7) 2 38 := ⟨by decide +kernel, rfl⟩
theorem d_X12_around_38 : gD cX12_around 38 (.invokevirtual 497) 3 41 := ⟨by decide +kernel, rfl⟩
theorem d_X12_around_41 : gD cX12_around 41 (.ifCond .eq 15) 3 44 ∧ ((41 : Nat) : Int) + 15 = ((56 : Nat) : Int) := ⟨⟨by decide +kernel, rfl⟩, by decide⟩
theorem d_X12_around_44 : gD cX12_around 44 (.aload_n 1) 1 45 := ⟨by decide +kernel, rfl⟩
theorem d_X12_around_45 : gD cX12_around 45 (.bipush 41) 2 47 := ⟨by decide +kernel, rfl⟩
theorem d_X12_around_47 : gD cX12_around 47 (.iload_n 2) 1 48 := ⟨by decide +kernel, rfl⟩
theorem d_X12_around_48 : gD cX12_around 48 (.imul) 1 49 := ⟨by decide +kernel, rfl⟩
theorem d_X12_around_49 : gD cX12_around 49 (.iload 7) 2 51 := ⟨by decide +kernel, rfl⟩
theorem d_X12_around_51 : gD cX12_around 51 (.iadd) 1 52 := ⟨by decide +kernel, rfl⟩
theorem d_X12_around_52 : gD cX12_around 52 (.laload) 1 53 := ⟨by decide +kernel, rfl⟩
theorem d_X12_around_53 : decode cX12_around 53 = .ok (.goto 4, 3) ∧ ((53 : Nat) : Int) + 4 = ((57 : Nat) : Int) := ⟨by decide +kernel, by decide⟩
theorem d_X12_around_56 : gD cX12_around 56 (.lconst 0) 1 57 := ⟨by decide +kernel, rfl⟩
theorem d_X12_around_57 : gD cX12_around 57 (.ladd) 1 58 := ⟨by decide +kernel, rfl⟩
theorem d_X12_around_58 : gD cX12_around 58 (.lstore 5) 2 60 := ⟨by decide +kernel, rfl⟩
theorem d_X12_around_60 : gD cX12_around 60 (.iinc 7 1) 3 63 := ⟨by decide +kernel, rfl⟩
theorem d_X12_around_63 : decode cX12_around 63 = .ok (.goto (-51), 3) ∧ ((63 : Nat) : Int) + (-51) = ((12 : Nat) : Int) := ⟨by decide +kernel, by decide⟩
theorem d_X12_around_66 : gD cX12_around 66 (.lload 5) 2 68 := ⟨by decide +kernel, rfl⟩
theorem d_X12_around_68 : gD cX12_around 68 (.lreturn) 1 69 := ⟨by decide +kernel, rfl⟩
abbrev rm_X12_around : Room := { frames := 5, cells := 0, slots := 0, locals := 114 }
set_option maxRecDepth 20000 in
theorem w_X12_around_57 {Γ : GC} {E : GE} (hO : gOk Γ E cX12_around RX12 8 rm_X12_around (some .long) "around") (o : Nat) (S : GS) {k12 : (Option Nat → Int32 → Int32 → Int32 → Int64 → Int32 → Option Int64)} (hk12 : ∀ (z1 : Option Nat) (z2 : Int32) (z3 : Int32) (z4 : Int32) (z5 : Int64) (z7 : Int32), Go Γ E (gBpJ Γ E S) 8 (0, 0) 12 S [(0, vA (some o)), (1, vA z1), (2, vI z2), (3, vI z3), (4, vI z4), (5, vJ z5), (7, vI z7)] [] (k12 z1 z2 z3 z4 z5 z7)) (x1 : Option Nat) (x2 : Int32) (x3 : Int32) (x4 : Int32) (x7 : Int32) (y0 : Int64) (y1 : Int64) : Go Γ E (gBpJ Γ E S) 8 (0, 0) 57 S [(0, vA (some o)), (1, vA x1), (2, vI x2), (3, vI x3), (4, vI x4), (7, vI x7)] [vJ y1, vJ y0] (f_X12_around_57 k12 o S x1 x2 x3 x4 x7 y0 y1) := by
  unfold f_X12_around_57
  refine g_ladd hO d_X12_around_57 ?_
  refine g_lstore (lv' := [(5, vJ (y0 + y1)), (0, vA (some o)), (1, vA x1), (2, vI x2), (3, vI x3), (4, vI x4), (7, vI x7)]) hO d_X12_around_58 (by decide) rfl ?_
  refine g_iinc (lv' := [(7, vI (x7 + 1)), (5, vJ (y0 + y1)), (0, vA (some o)), (1, vA x1), (2, vI x2), (3, vI x3), (4, vI x4)]) hO 1 d_X12_around_60 (by decide) 6 rfl (by decide) rfl ?_
  refine g_goto (tgt := 12) hO d_X12_around_63.1 d_X12_around_63.2 ?_
  exact g_sub [2, 3, 4, 5, 6, 1, 0] rfl (hk12 _ _ _ _ _ _)
set_option maxRecDepth 20000 in
theorem w_X12_around_44 {Γ : GC} {E : GE} (hO : gOk Γ E cX12_around RX12 8 rm_X12_around (some .long) "around") (o : Nat) (S : GS) {k12 : (Option Nat → Int32 → Int32 → Int32 → Int64 → Int32 → Option Int64)} (hk12 : ∀ (z1 : Option Nat) (z2 : Int32) (z3 : Int32) (z4 : Int32) (z5 : Int64) (z7 : Int32), Go Γ E (gBpJ Γ E S) 8 (0, 0) 12 S [(0, vA (some o)), (1, vA z1), (2, vI z2), (3, vI z3), (4, vI z4), (5, vJ z5), (7, vI z7)] [] (k12 z1 z2 z3 z4 z5 z7)) (x1 : Option Nat) (x2 : Int32) (x3 : Int32) (x4 : Int32) (x7 : Int32) (y0 : Int64) : Go Γ E (gBpJ Γ E S) 8 (0, 0) 44 S [(0, vA (some o)), (1, vA x1), (2, vI x2), (3, vI x3), (4, vI x4), (7, vI x7)] [vJ y0] (f_X12_around_44 k12 o S x1 x2 x3 x4 x7 y0) := by
  unfold f_X12_around_44
  refine g_aload_n hO d_X12_around_44 (by rfl) 1 rfl ?_
  refine g_bipush hO 41 d_X12_around_45 (by decide) ?_
  refine g_iload_n hO d_X12_around_47 (by rfl) 2 rfl ?_
  refine g_imul hO d_X12_around_48 ?_
  refine g_iload hO d_X12_around_49 5 rfl ?_
  refine g_iadd hO d_X12_around_51 ?_
  refine h_lald hO d_X12_around_52 (fun v1 => ?_)
  refine g_goto (tgt := 57) hO d_X12_around_53.1 d_X12_around_53.2 ?_
  exact g_sub [0, 1, 2, 3, 4, 5] rfl (w_X12_around_57 hO o _ hk12 _ _ _ _ _ _ _)
set_option maxRecDepth 20000 in
theorem w_X12_around_12 {Γ : GC} {E : GE} (hO : gOk Γ E cX12_around RX12 8 rm_X12_around (some .long) "around") (o : Nat) (S : GS) : ∀ (n : Nat) (x1 : Option Nat) (x2 : Int32) (x3 : Int32) (x4 : Int32) (x5 : Int64) (x7 : Int32), Go Γ E (gBpJ Γ E S) 8 (0, 0) 12 S [(0, vA (some o)), (1, vA x1), (2, vI x2), (3, vI x3), (4, vI x4), (5, vJ x5), (7, vI x7)] [] (f_X12_around_12 o S n x1 x2 x3 x4 x5 x7) := by
  intro n
  induction n with
  | zero =>
    intro x1 x2 x3 x4 x5 x7
    exact g_none
  | succ n ih =>
    intro x1 x2 x3 x4 x5 x7
    rw [f_X12_around_12]
    refine g_iload hO d_X12_around_12 6 rfl ?_
    refine g_bipush hO 40 d_X12_around_14 (by decide) ?_
    refine g_iload_n hO d_X12_around_16 (by rfl) 3 rfl ?_
    refine g_iconst hO 1 d_X12_around_17 (by decide) ?_
    refine g_iadd hO d_X12_around_18 ?_
    refine k_statIp hO mm_X12_lesser lkS_X12_364 ⟨⟨Nat.le_of_ble_eq_true rfl, Nat.le_of_ble_eq_true rfl⟩, Nat.le_of_ble_eq_true rfl, Nat.le_of_ble_eq_true rfl⟩ (kn' := (0, 0)) rfl (As := [vI 40, vI (x3 + 1)]) rfl (Nat.le_of_ble_eq_true rfl) (t_X12_lesser Γ.2.1 E 40 (x3 + 1) S) d_X12_around_19 rfl (fun v1 => ?_)
    refine g_ic_gt (tgt := 66) hO d_X12_around_22.1 d_X12_around_22.2 (fun _ => ?_) (fun _ => ?_)
    · skip
      refine g_lload hO d_X12_around_66 5 rfl ?_
      exact g_lret hO rfl ⟨Nat.le_of_ble_eq_true rfl, Nat.le_of_ble_eq_true rfl⟩ rfl rfl d_X12_around_68.1
    · skip
      refine g_lload hO d_X12_around_25 5 rfl ?_
      refine g_iload hO d_X12_around_27 4 rfl ?_
      refine g_iconst hO (-1) d_X12_around_29 (by decide) ?_
      refine g_ic_eq (tgt := 44) hO d_X12_around_30.1 d_X12_around_30.2 (fun _ => ?_) (fun _ => ?_)
      · skip
        exact g_sub [0, 1, 2, 3, 4, 6] rfl (w_X12_around_44 hO o _ ih _ _ _ _ _ _)
      · skip
        refine g_aload_n hO d_X12_around_33 (by rfl) 0 rfl ?_
        refine g_iload hO d_X12_around_34 4 rfl ?_
        refine g_iload hO d_X12_around_36 6 rfl ?_
        refine k_virtIp hO cl_X12 mm_X12_fits lkV_X12_497 ⟨⟨Nat.le_of_ble_eq_true rfl, Nat.le_of_ble_eq_true rfl⟩, Nat.le_of_ble_eq_true rfl, Nat.le_of_ble_eq_true rfl⟩ (kn' := (0, 0)) rfl (As := [vI x4, vI x7]) rfl (Nat.le_of_ble_eq_true rfl) (fun o' _ => t_X12_fits Γ.2.1 E o' x4 x7 S) d_X12_around_38 rfl (fun v3 => ?_)
        refine g_if_eq (tgt := 56) hO d_X12_around_41.1 d_X12_around_41.2 (fun _ => ?_) (fun _ => ?_)
        · skip
          refine g_lconst hO 0 d_X12_around_56 (by decide) ?_
          exact g_sub [0, 1, 2, 3, 4, 6] rfl (w_X12_around_57 hO o _ ih _ _ _ _ _ _ _)
        · skip
          exact g_sub [0, 1, 2, 3, 4, 6] rfl (w_X12_around_44 hO o _ ih _ _ _ _ _ _)
set_option maxRecDepth 20000 in
theorem w_X12_around {Γ : GC} {E : GE} (hO : gOk Γ E cX12_around RX12 8 rm_X12_around (some .long) "around") (o : Nat) (x1 : Option Nat) (x2 : Int32) (x3 : Int32) (x4 : Int32) (S : GS) : Go Γ E (gBpJ Γ E S) 8 (0, 0) 0 S [(0, vA (some o)), (1, vA x1), (2, vI x2), (3, vI x3), (4, vI x4)] [] (f_X12_around o x1 x2 x3 x4 S) := by
  unfold f_X12_around
  refine g_lconst hO 0 d_X12_around_0 (by decide) ?_
  refine g_lstore (lv' := [(5, vJ 0), (0, vA (some o)), (1, vA x1), (2, vI x2), (3, vI x3), (4, vI x4)]) hO d_X12_around_1 (by decide) rfl ?_
  refine g_iconst hO 0 d_X12_around_3 (by decide) ?_
  refine g_iload_n hO d_X12_around_4 (by rfl) 4 rfl ?_
  refine g_iconst hO 1 d_X12_around_5 (by decide) ?_
  refine g_isub hO d_X12_around_6 ?_
  refine k_statIp hO mm_X12_greater lkS_X12_173 ⟨⟨Nat.le_of_ble_eq_true rfl, Nat.le_of_ble_eq_true rfl⟩, Nat.le_of_ble_eq_true rfl, Nat.le_of_ble_eq_true rfl⟩ (kn' := (0, 0)) rfl (As := [vI 0, vI (x3 - 1)]) rfl (Nat.le_of_ble_eq_true rfl) (t_X12_greater Γ.2.1 E 0 (x3 - 1) S) d_X12_around_7 rfl (fun v1 => ?_)
  refine g_istore (lv' := [(7, vI v1), (5, vJ 0), (0, vA (some o)), (1, vA x1), (2, vI x2), (3, vI x3), (4, vI x4)]) hO d_X12_around_10 (by decide) rfl ?_
  exact g_sub [2, 3, 4, 5, 6, 1, 0] rfl (w_X12_around_12 hO o _ _ _ _ _ _ _ _)
theorem t_X12_around (l : Launch) (E : GE) (o : Nat) (x1 : Option Nat) (x2 : Int32) (x3 : Int32) (x4 : Int32) (S : GS) : ∀ a, f_X12_around o x1 x2 x3 x4 S = some a → Ct l E yX12_around cX12_around 8 (some .long) rm_X12_around [vA (some o), vA x1, vI x2, vI x3, vI x4] S (some (vJ a)) S :=
  Ct_of (val := fun b => some (vJ b)) (nxt := fun _ => S) (by decide) (Nat.le_of_ble_eq_true rfl) (fun Γ hl hO => w_X12_around hO o x1 x2 x3 x4 S)
theorem d_X12_laySight_0 : gD cX12_laySight 0 (.aload_n 0) 1 1 := ⟨by decide +kernel, rfl⟩
theorem d_X12_laySight_1 : gD cX12_laySight 1 (.iload_n 2) 1 2 := ⟨by decide +kernel, rfl⟩
theorem d_X12_laySight_2 : gD cX12_laySight 2 (.invokevirtual 479) 3 5 := ⟨by decide +kernel, rfl⟩
theorem d_X12_laySight_5 : gD cX12_laySight 5 (.ifCond .eq 11) 3 8 ∧ ((5 : Nat) : Int) + 11 = ((16 : Nat) : Int) := ⟨⟨by decide +kernel, rfl⟩, by decide⟩
theorem d_X12_laySight_8 : gD cX12_laySight 8 (.aload_n 0) 1 9 := ⟨by decide +kernel, rfl⟩
theorem d_X12_laySight_9 : gD cX12_laySight 9 (.iload_n 1) 1 10 := ⟨by decide +kernel, rfl⟩
theorem d_X12_laySight_10 : gD cX12_laySight 10 (.invokevirtual 297) 3 13 := ⟨by decide +kernel, rfl⟩
theorem d_X12_laySight_13 : gD cX12_laySight 13 (.ifCond .ne 5) 3 16 ∧ ((13 : Nat) : Int) + 5 = ((18 : Nat) : Int) := ⟨⟨by decide +kernel, rfl⟩, by decide⟩
theorem d_X12_laySight_16 : gD cX12_laySight 16 (.iconst 0) 1 17 := ⟨by decide +kernel, rfl⟩
theorem d_X12_laySight_17 : gD cX12_laySight 17 (.ireturn) 1 18 := ⟨by decide +kernel, rfl⟩
theorem d_X12_laySight_18 : gD cX12_laySight 18 (.aload_n 0) 1 19 := ⟨by decide +kernel, rfl⟩
theorem d_X12_laySight_19 : gD cX12_laySight 19 (.iconst 0) 1 20 := ⟨by decide +kernel, rfl⟩
theorem d_X12_laySight_20 : gD cX12_laySight 20 (.putfield 494) 3 23 := ⟨by decide +kernel, rfl⟩
theorem d_X12_laySight_23 : gD cX12_laySight 23 (.iconst 0) 1 24 := ⟨by decide +kernel, rfl⟩
theorem d_X12_laySight_24 : gD cX12_laySight 24 (.istore_n 3) 1 25 := ⟨by decide +kernel, rfl⟩
theorem d_X12_laySight_25 : gD cX12_laySight 25 (.iload_n 3) 1 26 := ⟨by decide +kernel, rfl⟩
theorem d_X12_laySight_26 : gD cX12_laySight 26 (.aload_n 0) 1 27 := ⟨by decide +kernel, rfl⟩
theorem d_X12_laySight_27 : gD cX12_laySight 27 (.invokevirtual 482) 3 30 := ⟨by decide +kernel, rfl⟩
theorem d_X12_laySight_30 : gD cX12_laySight 30 (.if_icmp .ge 41) 3 33 ∧ ((30 : Nat) : Int) + 41 = ((71 : Nat) : Int) := ⟨⟨by decide +kernel, rfl⟩, by decide⟩
theorem d_X12_laySight_33 : gD cX12_laySight 33 (.aload_n 0) 1 34 := ⟨by decide +kernel, rfl⟩
theorem d_X12_laySight_34 : gD cX12_laySight 34 (.aload_n 0) 1 35 := ⟨by decide +kernel, rfl⟩
theorem d_X12_laySight_35 : gD cX12_laySight 35 (.iload_n 3) 1 36 := ⟨by decide +kernel, rfl⟩
theorem d_X12_laySight_36 : gD cX12_laySight 36 (.iconst 0) 1 37 := ⟨by decide +kernel, rfl⟩
theorem d_X12_laySight_37 : gD cX12_laySight 37 (.invokevirtual 488) 3 40 := ⟨by decide +kernel, rfl⟩
theorem d_X12_laySight_40 : gD cX12_laySight 40 (.invokevirtual 303) 3 43 := ⟨by decide +kernel, rfl⟩
theorem d_X12_laySight_43 : gD cX12_laySight 43 (.ifCond .ne 5) 3 46 ∧ ((43 : Nat) : Int) + 5 = ((48 : Nat) : Int) := ⟨⟨by decide +kernel, rfl⟩, by decide⟩
theorem d_X12_laySight_46 : gD cX12_laySight 46 (.iconst 0) 1 47 := ⟨by decide +kernel, rfl⟩
theorem d_X12_laySight_47 : gD cX12_laySight 47 (.ireturn) 1 48 := ⟨by decide +kernel, rfl⟩
theorem d_X12_laySight_48 : gD cX12_laySight 48 (.aload_n 0) 1 49 := ⟨by decide +kernel, rfl⟩
theorem d_X12_laySight_49 : gD cX12_laySight 49 (.aload_n 0) 1 50 := ⟨by decide +kernel, rfl⟩
theorem d_X12_laySight_50 : gD cX12_laySight 50 (.getfield 494) 3 53 := ⟨by decide +kernel, rfl⟩
theorem d_X12_laySight_53 : gD cX12_laySight 53 (.aload_n 0) 1 54 := ⟨by decide +kernel, rfl⟩
theorem d_X12_laySight_54 : gD cX12_laySight 54 (.iload_n 3) 1 55 := ⟨by decide +kernel, rfl⟩
theorem d_X12_laySight_55 : gD cX12_laySight 55 (.iconst 1) 1 56 := ⟨by decide +kernel, rfl⟩
theorem d_X12_laySight_56 : gD cX12_laySight 56 (.invokevirtual 488) 3 59 := ⟨by decide +kernel, rfl⟩
theorem d_X12_laySight_59 : gD cX12_laySight 59 (.invokestatic 173) 3 62 := ⟨by decide +kernel, rfl⟩
theorem d_X12_laySight_62 : gD cX12_laySight 62 (.putfield 494) 3 65 := ⟨by decide +kernel, rfl⟩
theorem d_X12_laySight_65 : gD cX12_laySight 65 (.iinc 3 1) 3 68 := ⟨by decide +kernel, rfl⟩
theorem d_X12_laySight_68 : decode cX12_laySight 68 = .ok (.goto (-43), 3) ∧ ((68 : Nat) : Int) + (-43) = ((25 : Nat) : Int) := ⟨by decide +kernel, by decide⟩
theorem d_X12_laySight_71 : gD cX12_laySight 71 (.iconst 0) 1 72 := ⟨by decide +kernel, rfl⟩
theorem d_X12_laySight_72 : gD cX12_laySight 72 (.istore_n 3) 1 73 := ⟨by decide +kernel, rfl⟩
theorem d_X12_laySight_73 : gD cX12_laySight 73 (.iload_n 3) 1 74 := ⟨by decide +kernel, rfl⟩
theorem d_X12_laySight_74 : gD cX12_laySight 74 (.bipush 40) 2 76 := ⟨by decide +kernel, rfl⟩
theorem d_X12_laySight_76 : gD cX12_laySight 76 (.if_icmp .gt 44) 3 79 ∧ ((76 : Nat) : Int) + 44 = ((120 : Nat) : Int) := ⟨⟨by decide +kernel, rfl⟩, by decide⟩
theorem d_X12_laySight_79 : gD cX12_laySight 79 (.aload_n 0) 1 80 := ⟨by decide +kernel, rfl⟩
theorem d_X12_laySight_80 : gD cX12_laySight 80 (.getfield 81) 3 83 := ⟨by decide +kernel, rfl⟩
theorem d_X12_laySight_83 : gD cX12_laySight 83 (.iload_n 3) 1 84 := ⟨by decide +kernel, rfl⟩
theorem d_X12_laySight_84 : gD cX12_laySight 84 (.iload_n 3) 1 85 := ⟨by decide +kernel, rfl⟩
theorem d_X12_laySight_85 : gD cX12_laySight 85 (.aload_n 0) 1 86 := ⟨by decide +kernel, rfl⟩
theorem d_X12_laySight_86 : gD cX12_laySight 86 (.iconst 5) 1 87 := ⟨by decide +kernel, rfl⟩
theorem d_X12_laySight_87 : gD cX12_laySight 87 (.invokevirtual 287) 3 90 := ⟨by decide +kernel, rfl⟩
theorem d_X12_laySight_90 : gD cX12_laySight 90 (.if_icmp .ne 7) 3 93 ∧ ((90 : Nat) : Int) + 7 = ((97 : Nat) : Int) := ⟨⟨by decide +kernel, rfl⟩, by decide⟩
theorem d_X12_laySight_93 : gD cX12_laySight 93 (.lconst 1) 1 94 := ⟨by decide +kernel, rfl⟩
theorem d_X12_laySight_94 : decode cX12_laySight 94 = .ok (.goto 4, 3) ∧ ((94 : Nat) : Int) + 4 = ((98 : Nat) : Int) := ⟨by decide +kernel, by decide⟩
theorem d_X12_laySight_97 : gD cX12_laySight 97 (.lconst 0) 1 98 := ⟨by decide +kernel, rfl⟩
theorem d_X12_laySight_98 : gD cX12_laySight 98 (.lastore) 1 99 := ⟨by decide +kernel, rfl⟩
theorem d_X12_laySight_99 : gD cX12_laySight 99 (.aload_n 0) 1 100 := ⟨by decide +kernel, rfl⟩
theorem d_X12_laySight_100 : gD cX12_laySight 100 (.getfield 84) 3 103 := ⟨by decide +kernel, rfl⟩
theorem d_X12_laySight_103 : gD cX12_laySight 103 (.bipush 41) 2 105 := ⟨by decide +kernel, rfl⟩
theorem d_X12_laySight_105 : gD cX12_laySight 105 (.aload_n 0) 1 106 := ⟨by decide +kernel, rfl⟩
theorem d_X12_laySight_106 : gD cX12_laySight 106 (.getfield 494) 3 109 := ⟨by decide +kernel, rfl⟩
theorem d_X12_laySight_109 : gD cX12_laySight 109 (.imul) 1 110 := ⟨by decide +kernel, rfl⟩
theorem d_X12_laySight_110 : gD cX12_laySight 110 (.iload_n 3) 1 111 := ⟨by decide +kernel, rfl⟩
theorem d_X12_laySight_111 : gD cX12_laySight 111 (.iadd) 1 112 := ⟨by decide +kernel, rfl⟩
theorem d_X12_laySight_112 : gD cX12_laySight 112 (.lconst 1) 1 113 := ⟨by decide +kernel, rfl⟩
theorem d_X12_laySight_113 : gD cX12_laySight 113 (.lastore) 1 114 := ⟨by decide +kernel, rfl⟩
theorem d_X12_laySight_114 : gD cX12_laySight 114 (.iinc 3 1) 3 117 := ⟨by decide +kernel, rfl⟩
theorem d_X12_laySight_117 : decode cX12_laySight 117 = .ok (.goto (-44), 3) ∧ ((117 : Nat) : Int) + (-44) = ((73 : Nat) : Int) := ⟨by decide +kernel, by decide⟩
theorem d_X12_laySight_120 : gD cX12_laySight 120 (.iconst 1) 1 121 := ⟨by decide +kernel, rfl⟩
theorem d_X12_laySight_121 : gD cX12_laySight 121 (.istore_n 3) 1 122 := ⟨by decide +kernel, rfl⟩
theorem d_X12_laySight_122 : gD cX12_laySight 122 (.iload_n 3) 1 123 := ⟨by decide +kernel, rfl⟩
theorem d_X12_laySight_123 : gD cX12_laySight 123 (.aload_n 0) 1 124 := ⟨by decide +kernel, rfl⟩
theorem d_X12_laySight_124 : gD cX12_laySight 124 (.getfield 494) 3 127 := ⟨by decide +kernel, rfl⟩
theorem d_X12_laySight_127 : gD cX12_laySight 127 (.if_icmp .gt 65) 3 130 ∧ ((127 : Nat) : Int) + 65 = ((192 : Nat) : Int) := ⟨⟨by decide +kernel, rfl⟩, by decide⟩
theorem d_X12_laySight_130 : gD cX12_laySight 130 (.iconst 0) 1 131 := ⟨by decide +kernel, rfl⟩
theorem d_X12_laySight_131 : gD cX12_laySight 131 (.istore 4) 2 133 := ⟨by decide +kernel, rfl⟩
theorem d_X12_laySight_133 : gD cX12_laySight 133 (.iload 4) 2 135 := ⟨by decide +kernel, rfl⟩
theorem d_X12_laySight_135 : gD cX12_laySight 135 (.bipush 40) 2 137 := ⟨by decide +kernel, rfl⟩
theorem d_X12_laySight_137 : gD cX12_laySight 137 (.if_icmp .gt 49) 3 140 ∧ ((137 : Nat) : Int) + 49 = ((186 : Nat) : Int) := ⟨⟨by decide +kernel, rfl⟩, by decide⟩
theorem d_X12_laySight_140 : gD cX12_laySight 140 (.aload_n 0) 1 141 := ⟨by decide +kernel, rfl⟩
theorem d_X12_laySight_141 : gD cX12_laySight 141 (.getfield 81) 3 144 := ⟨by decide +kernel, rfl⟩
theorem d_X12_laySight_144 : gD cX12_laySight 144 (.bipush 41) 2 146 := ⟨by decide +kernel, rfl⟩
theorem d_X12_laySight_146 : gD cX12_laySight 146 (.iload_n 3) 1 147 := ⟨by decide +kernel, rfl⟩
theorem d_X12_laySight_147 : gD cX12_laySight 147 (.imul) 1 148 := ⟨by decide +kernel, rfl⟩
theorem d_X12_laySight_148 : gD cX12_laySight 148 (.iload 4) 2 150 := ⟨by decide +kernel, rfl⟩
theorem d_X12_laySight_150 : gD cX12_laySight 150 (.iadd) 1 151 := ⟨by decide +kernel, rfl⟩
theorem d_X12_laySight_151 : gD cX12_laySight 151 (.aload_n 0) 1 152 := ⟨by decide +kernel, rfl⟩
theorem d_X12_laySight_152 : gD cX12_laySight 152 (.iload_n 3) 1 153 := ⟨by decide +kernel, rfl⟩
theorem d_X12_laySight_153 : gD cX12_laySight 153 (.iload 4) 2 155 := ⟨by decide +kernel, rfl⟩
theorem d_X12_laySight_155 : gD cX12_laySight 155 (.invokevirtual 497) 3 158 := ⟨by decide +kernel, rfl⟩
theorem d_X12_laySight_158 : gD cX12_laySight 158 (.ifCond .eq 20) 3 161 ∧ ((158 : Nat) : Int) + 20 = ((178 : Nat) : Int) := ⟨⟨by decide +kernel, rfl⟩, by decide⟩
theorem d_X12_laySight_161 : gD cX12_laySight 161 (.aload_n 0) 1 162 := ⟨by decide +kernel, rfl⟩
theorem d_X12_laySight_162 : gD cX12_laySight 162 (.aload_n 0) 1 163 := ⟨by decide +kernel, rfl⟩
theorem d_X12_laySight_163 : gD cX12_laySight 163 (.getfield 81) 3 166 := ⟨by decide +kernel, rfl⟩
theorem d_X12_laySight_166 : gD cX12_laySight 166 (.iload_n 3) 1 167 := ⟨by decide +kernel, rfl⟩
theorem d_X12_laySight_167 : gD cX12_laySight 167 (.iconst 1) 1 168 := ⟨by decide +kernel, rfl⟩
theorem d_X12_laySight_168 : gD cX12_laySight 168 (.isub) 1 169 := ⟨by decide +kernel, rfl⟩
theorem d_X12_laySight_169 : gD cX12_laySight 169 (.iload 4) 2 171 := ⟨by decide +kernel, rfl⟩
theorem d_X12_laySight_171 : gD cX12_laySight 171 (.iconst (-1)) 1 172 := ⟨by decide +kernel, rfl⟩
theorem d_X12_laySight_172 : gD cX12_laySight 172 (.invokevirtual 500) 3 175 := ⟨by decide +kernel, rfl⟩
theorem d_X12_laySight_175 : decode cX12_laySight 175 = .ok (.goto 4, 3) ∧ ((175 : Nat) : Int) + 4 = ((179 : Nat) : Int) := ⟨by decide +kernel, by decide⟩
theorem d_X12_laySight_178 : gD cX12_laySight 178 (.lconst 0) 1 179 := ⟨by decide +kernel, rfl⟩
theorem d_X12_laySight_179 : gD cX12_laySight 179 (.lastore) 1 180 := ⟨by decide +kernel, rfl⟩
theorem d_X12_laySight_180 : gD cX12_laySight 180 (.iinc 4 1) 3 183 := ⟨by decide +kernel, rfl⟩
theorem d_X12_laySight_183 : decode cX12_laySight 183 = .ok (.goto (-50), 3) ∧ ((183 : Nat) : Int) + (-50) = ((133 : Nat) : Int) := ⟨by decide +kernel, by decide⟩
theorem d_X12_laySight_186 : gD cX12_laySight 186 (.iinc 3 1) 3 189 := ⟨by decide +kernel, rfl⟩
theorem d_X12_laySight_189 : decode cX12_laySight 189 = .ok (.goto (-67), 3) ∧ ((189 : Nat) : Int) + (-67) = ((122 : Nat) : Int) := ⟨by decide +kernel, by decide⟩
theorem d_X12_laySight_192 : gD cX12_laySight 192 (.aload_n 0) 1 193 := ⟨by decide +kernel, rfl⟩
theorem d_X12_laySight_193 : gD cX12_laySight 193 (.getfield 494) 3 196 := ⟨by decide +kernel, rfl⟩
theorem d_X12_laySight_196 : gD cX12_laySight 196 (.iconst 1) 1 197 := ⟨by decide +kernel, rfl⟩
theorem d_X12_laySight_197 : gD cX12_laySight 197 (.isub) 1 198 := ⟨by decide +kernel, rfl⟩
theorem d_X12_laySight_198 : gD cX12_laySight 198 (.istore_n 3) 1 199 := ⟨by decide +kernel, rfl⟩
theorem d_X12_laySight_199 : gD cX12_laySight 199 (.iload_n 3) 1 200 := ⟨by decide +kernel, rfl⟩
theorem d_X12_laySight_200 : gD cX12_laySight 200 (.ifCond .lt 53) 3 203 ∧ ((200 : Nat) : Int) + 53 = ((253 : Nat) : Int) := ⟨⟨by decide +kernel, rfl⟩, by decide⟩
theorem d_X12_laySight_203 : gD cX12_laySight 203 (.iconst 0) 1 204 := ⟨by decide +kernel, rfl⟩
theorem d_X12_laySight_204 : gD cX12_laySight 204 (.istore 4) 2 206 := ⟨by decide +kernel, rfl⟩
theorem d_X12_laySight_206 : gD cX12_laySight 206 (.iload 4) 2 208 := ⟨by decide +kernel, rfl⟩
theorem d_X12_laySight_208 : gD cX12_laySight 208 (.bipush 40) 2 210 := ⟨by decide +kernel, rfl⟩
theorem d_X12_laySight_210 : gD cX12_laySight 210 (.if_icmp .gt 37) 3 213 ∧ ((210 : Nat) : Int) + 37 = ((247 : Nat) : Int) := ⟨⟨by decide +kernel, rfl⟩, by decide⟩
theorem d_X12_laySight_213 : gD cX12_laySight 213 (.aload_n 0) 1 214 := ⟨by decide +kernel, rfl⟩
theorem d_X12_laySight_214 : gD cX12_laySight 214 (.getfield 84) 3 217 := ⟨by decide +kernel, rfl⟩
theorem d_X12_laySight_217 : gD cX12_laySight 217 (.bipush 41) 2 219 := ⟨by decide +kernel, rfl⟩
theorem d_X12_laySight_219 : gD cX12_laySight 219 (.iload_n 3) 1 220 := ⟨by decide +kernel, rfl⟩
theorem d_X12_laySight_220 : gD cX12_laySight 220 (.imul) 1 221 := ⟨by decide +kernel, rfl⟩
theorem d_X12_laySight_221 : gD cX12_laySight 221 (.iload 4) 2 223 := ⟨by decide +kernel, rfl⟩
theorem d_X12_laySight_223 : gD cX12_laySight 223 (.iadd) 1 224 := ⟨by decide +kernel, rfl⟩
theorem d_X12_laySight_224 : gD cX12_laySight 224 (.aload_n 0) 1 225 := ⟨by decide +kernel, rfl⟩
theorem d_X12_laySight_225 : gD cX12_laySight 225 (.aload_n 0) 1 226 := ⟨by decide +kernel, rfl⟩
theorem d_X12_laySight_226 : gD cX12_laySight 226 (.getfield 84) 3 229 := ⟨by decide +kernel, rfl⟩
theorem d_X12_laySight_229 : gD cX12_laySight 229 (.iload_n 3) 1 230 := ⟨by decide +kernel, rfl⟩
theorem d_X12_laySight_230 : gD cX12_laySight 230 (.iconst 1) 1 231 := ⟨by decide +kernel, rfl⟩
theorem d_X12_laySight_231 : gD cX12_laySight 231 (.iadd) 1 232 := ⟨by decide +kernel, rfl⟩
theorem d_X12_laySight_232 : gD cX12_laySight 232 (.iload 4) 2 234 := ⟨by decide +kernel, rfl⟩
theorem d_X12_laySight_234 : gD cX12_laySight 234 (.iload_n 3) 1 235 := ⟨by decide +kernel, rfl⟩
theorem d_X12_laySight_235 : gD cX12_laySight 235 (.iconst 1) 1 236 := ⟨by decide +kernel, rfl⟩
theorem d_X12_laySight_236 : gD cX12_laySight 236 (.iadd) 1 237 := ⟨by decide +kernel, rfl⟩
theorem d_X12_laySight_237 : gD cX12_laySight 237 (.invokevirtual 500) 3 240 := ⟨by decide +kernel, rfl⟩
theorem d_X12_laySight_240 : gD cX12_laySight 240 (.lastore) 1 241 := ⟨by decide +kernel, rfl⟩
theorem d_X12_laySight_241 : gD cX12_laySight 241 (.iinc 4 1) 3 244 := ⟨by decide +kernel, rfl⟩
theorem d_X12_laySight_244 : decode cX12_laySight 244 = .ok (.goto (-38), 3) ∧ ((244 : Nat) : Int) + (-38) = ((206 : Nat) : Int) := ⟨by decide +kernel, by decide⟩
theorem d_X12_laySight_247 : gD cX12_laySight 247 (.iinc 3 (-1)) 3 250 := ⟨by decide +kernel, rfl⟩
theorem d_X12_laySight_250 : decode cX12_laySight 250 = .ok (.goto (-51), 3) ∧ ((250 : Nat) : Int) + (-51) = ((199 : Nat) : Int) := ⟨by decide +kernel, by decide⟩
theorem d_X12_laySight_253 : gD cX12_laySight 253 (.iconst 1) 1 254 := ⟨by decide +kernel, rfl⟩
theorem d_X12_laySight_254 : gD cX12_laySight 254 (.ireturn) 1 255 := ⟨by decide +kernel, rfl⟩
abbrev rm_X12_laySight : Room := { frames := 6, cells := 0, slots := 0, locals := 141 }
set_option maxRecDepth 20000 in
theorem w_X12_laySight_98 {Γ : GC} {E : GE} (hO : gOk Γ E cX12_laySight RX12 5 rm_X12_laySight (some .boolean) "laySight") (o : Nat) {k73 : (Int32 → GS → Option (Int32 × GS))} (hk73 : ∀ (z3 : Int32) (S1 : GS), Go Γ E (gBsI Γ E) 5 (0, 0) 73 S1 [(0, vA (some o)), (3, vI z3)] [] (k73 z3 S1)) (x3 : Int32) (y0 : Option Nat) (y1 : Int32) (y2 : Int64) (S : GS) : Go Γ E (gBsI Γ E) 5 (0, 0) 98 S [(0, vA (some o)), (3, vI x3)] [vJ y2, vI y1, vA y0] (f_X12_laySight_98 k73 o x3 y0 y1 y2 S) := by
  unfold f_X12_laySight_98
  refine h_last hO d_X12_laySight_98 (fun S1 => ?_)
  refine g_aload_n hO d_X12_laySight_99 (by rfl) 0 rfl ?_
  refine h_getR hO cl_X12 54 rfl wf_X12_84 d_X12_laySight_100 (fun v2 => ?_)
  refine g_bipush hO 41 d_X12_laySight_103 (by decide) ?_
  refine g_aload_n hO d_X12_laySight_105 (by rfl) 0 rfl ?_
  refine h_getI hO cl_X12 52 rfl wf_X12_494 d_X12_laySight_106 (fun v3 => ?_)
  refine g_imul hO d_X12_laySight_109 ?_
  refine g_iload_n hO d_X12_laySight_110 (by rfl) 1 rfl ?_
  refine g_iadd hO d_X12_laySight_111 ?_
  refine g_lconst hO 1 d_X12_laySight_112 (by decide) ?_
  refine h_last hO d_X12_laySight_113 (fun S4 => ?_)
  refine g_iinc (lv' := [(3, vI (x3 + 1)), (0, vA (some o))]) hO 1 d_X12_laySight_114 (by decide) 1 rfl (by decide) rfl ?_
  refine g_goto (tgt := 73) hO d_X12_laySight_117.1 d_X12_laySight_117.2 ?_
  exact g_sub [1, 0] rfl (hk73 _ _)
set_option maxRecDepth 20000 in
theorem w_X12_laySight_179 {Γ : GC} {E : GE} (hO : gOk Γ E cX12_laySight RX12 5 rm_X12_laySight (some .boolean) "laySight") (o : Nat) {k122 : (Int32 → GS → Option (Int32 × GS))} {k133 : (Int32 → Int32 → GS → Option (Int32 × GS))} (hk122 : ∀ (z3 : Int32) (S1 : GS), Go Γ E (gBsI Γ E) 5 (0, 0) 122 S1 [(0, vA (some o)), (3, vI z3)] [] (k122 z3 S1)) (hk133 : ∀ (z3 : Int32) (z4 : Int32) (S1 : GS), Go Γ E (gBsI Γ E) 5 (0, 0) 133 S1 [(0, vA (some o)), (3, vI z3), (4, vI z4)] [] (k133 z3 z4 S1)) (x3 : Int32) (x4 : Int32) (y0 : Option Nat) (y1 : Int32) (y2 : Int64) (S : GS) : Go Γ E (gBsI Γ E) 5 (0, 0) 179 S [(0, vA (some o)), (3, vI x3), (4, vI x4)] [vJ y2, vI y1, vA y0] (f_X12_laySight_179 k122 k133 o x3 x4 y0 y1 y2 S) := by
  unfold f_X12_laySight_179
  refine h_last hO d_X12_laySight_179 (fun S1 => ?_)
  refine g_iinc (lv' := [(4, vI (x4 + 1)), (0, vA (some o)), (3, vI x3)]) hO 1 d_X12_laySight_180 (by decide) 2 rfl (by decide) rfl ?_
  refine g_goto (tgt := 133) hO d_X12_laySight_183.1 d_X12_laySight_183.2 ?_
  exact g_sub [1, 2, 0] rfl (hk133 _ _ _)
set_option maxRecDepth 20000 in
theorem w_X12_laySight_133 {Γ : GC} {E : GE} (hO : gOk Γ E cX12_laySight RX12 5 rm_X12_laySight (some .boolean) "laySight") (o : Nat) {k122 : (Int32 → GS → Option (Int32 × GS))} (hk122 : ∀ (z3 : Int32) (S1 : GS), Go Γ E (gBsI Γ E) 5 (0, 0) 122 S1 [(0, vA (some o)), (3, vI z3)] [] (k122 z3 S1)) : ∀ (n : Nat) (x3 : Int32) (x4 : Int32) (S : GS), Go Γ E (gBsI Γ E) 5 (0, 0) 133 S [(0, vA (some o)), (3, vI x3), (4, vI x4)] [] (f_X12_laySight_133 k122 o n x3 x4 S) := by
  intro n
  induction n with
  | zero =>
    intro x3 x4 S
    exact g_none
  | succ n ih =>
    intro x3 x4 S
    rw [f_X12_laySight_133]
    refine g_iload hO d_X12_laySight_133 2 rfl ?_
    refine g_bipush hO 40 d_X12_laySight_135 (by decide) ?_
    refine g_ic_gt (tgt := 186) hO d_X12_laySight_137.1 d_X12_laySight_137.2 (fun _ => ?_) (fun _ => ?_)
    · skip
      refine g_iinc (lv' := [(3, vI (x3 + 1)), (0, vA (some o)), (4, vI x4)]) hO 1 d_X12_laySight_186 (by decide) 1 rfl (by decide) rfl ?_
      refine g_goto (tgt := 122) hO d_X12_laySight_189.1 d_X12_laySight_189.2 ?_
      exact g_sub [1, 0] rfl (hk122 _ _)
    · skip
      refine g_aload_n hO d_X12_laySight_140 (by rfl) 0 rfl ?_
      refine h_getR hO cl_X12 53 rfl wf_X12_81 d_X12_laySight_141 (fun v1 => ?_)
      refine g_bipush hO 41 d_X12_laySight_144 (by decide) ?_
      refine g_iload_n hO d_X12_laySight_146 (by rfl) 1 rfl ?_
      refine g_imul hO d_X12_laySight_147 ?_
      refine g_iload hO d_X12_laySight_148 2 rfl ?_
      refine g_iadd hO d_X12_laySight_150 ?_
      refine g_aload_n hO d_X12_laySight_151 (by rfl) 0 rfl ?_
      refine g_iload_n hO d_X12_laySight_152 (by rfl) 1 rfl ?_
      refine g_iload hO d_X12_laySight_153 2 rfl ?_
      refine k_virtIp hO cl_X12 mm_X12_fits lkV_X12_497 ⟨⟨Nat.le_of_ble_eq_true rfl, Nat.le_of_ble_eq_true rfl⟩, Nat.le_of_ble_eq_true rfl, Nat.le_of_ble_eq_true rfl⟩ (kn' := (0, 0)) rfl (As := [vI x3, vI x4]) rfl (Nat.le_of_ble_eq_true rfl) (fun o' _ => t_X12_fits Γ.2.1 E o' x3 x4 S) d_X12_laySight_155 rfl (fun v2 => ?_)
      refine g_if_eq (tgt := 178) hO d_X12_laySight_158.1 d_X12_laySight_158.2 (fun _ => ?_) (fun _ => ?_)
      · skip
        refine g_lconst hO 0 d_X12_laySight_178 (by decide) ?_
        exact g_sub [0, 1, 2] rfl (w_X12_laySight_179 hO o hk122 ih _ _ _ _ _ _)
      · skip
        refine g_aload_n hO d_X12_laySight_161 (by rfl) 0 rfl ?_
        refine g_aload_n hO d_X12_laySight_162 (by rfl) 0 rfl ?_
        refine h_getR hO cl_X12 53 rfl wf_X12_81 d_X12_laySight_163 (fun v4 => ?_)
        refine g_iload_n hO d_X12_laySight_166 (by rfl) 1 rfl ?_
        refine g_iconst hO 1 d_X12_laySight_167 (by decide) ?_
        refine g_isub hO d_X12_laySight_168 ?_
        refine g_iload hO d_X12_laySight_169 2 rfl ?_
        refine g_iconst hO (-1) d_X12_laySight_171 (by decide) ?_
        refine k_virtJp hO cl_X12 mm_X12_around lkV_X12_500 ⟨⟨Nat.le_of_ble_eq_true rfl, Nat.le_of_ble_eq_true rfl⟩, Nat.le_of_ble_eq_true rfl, Nat.le_of_ble_eq_true rfl⟩ (kn' := (0, 0)) rfl (As := [vA v4, vI (x3 - 1), vI x4, vI (-1)]) rfl (Nat.le_of_ble_eq_true rfl) (fun o' _ => t_X12_around Γ.2.1 E o' v4 (x3 - 1) x4 (-1) S) d_X12_laySight_172 rfl (fun v5 => ?_)
        refine g_goto (tgt := 179) hO d_X12_laySight_175.1 d_X12_laySight_175.2 ?_
        exact g_sub [0, 1, 2] rfl (w_X12_laySight_179 hO o hk122 ih _ _ _ _ _ _)
set_option maxRecDepth 20000 in
theorem w_X12_laySight_206 {Γ : GC} {E : GE} (hO : gOk Γ E cX12_laySight RX12 5 rm_X12_laySight (some .boolean) "laySight") (o : Nat) {k199 : (Int32 → GS → Option (Int32 × GS))} (hk199 : ∀ (z3 : Int32) (S1 : GS), Go Γ E (gBsI Γ E) 5 (0, 0) 199 S1 [(0, vA (some o)), (3, vI z3)] [] (k199 z3 S1)) : ∀ (n : Nat) (x3 : Int32) (x4 : Int32) (S : GS), Go Γ E (gBsI Γ E) 5 (0, 0) 206 S [(0, vA (some o)), (3, vI x3), (4, vI x4)] [] (f_X12_laySight_206 k199 o n x3 x4 S) := by
  intro n
  induction n with
  | zero =>
    intro x3 x4 S
    exact g_none
  | succ n ih =>
    intro x3 x4 S
    rw [f_X12_laySight_206]
    refine g_iload hO d_X12_laySight_206 2 rfl ?_
    refine g_bipush hO 40 d_X12_laySight_208 (by decide) ?_
    refine g_ic_gt (tgt := 247) hO d_X12_laySight_210.1 d_X12_laySight_210.2 (fun _ => ?_) (fun _ => ?_)
    · skip
      refine g_iinc (lv' := [(3, vI (x3 + (-1))), (0, vA (some o)), (4, vI x4)]) hO (-1) d_X12_laySight_247 (by decide) 1 rfl (by decide) rfl ?_
      refine g_goto (tgt := 199) hO d_X12_laySight_250.1 d_X12_laySight_250.2 ?_
      exact g_sub [1, 0] rfl (hk199 _ _)
    · skip
      refine g_aload_n hO d_X12_laySight_213 (by rfl) 0 rfl ?_
      refine h_getR hO cl_X12 54 rfl wf_X12_84 d_X12_laySight_214 (fun v1 => ?_)
      refine g_bipush hO 41 d_X12_laySight_217 (by decide) ?_
      refine g_iload_n hO d_X12_laySight_219 (by rfl) 1 rfl ?_
      refine g_imul hO d_X12_laySight_220 ?_
      refine g_iload hO d_X12_laySight_221 2 rfl ?_
      refine g_iadd hO d_X12_laySight_223 ?_
      refine g_aload_n hO d_X12_laySight_224 (by rfl) 0 rfl ?_
      refine g_aload_n hO d_X12_laySight_225 (by rfl) 0 rfl ?_
      refine h_getR hO cl_X12 54 rfl wf_X12_84 d_X12_laySight_226 (fun v2 => ?_)
      refine g_iload_n hO d_X12_laySight_229 (by rfl) 1 rfl ?_
      refine g_iconst hO 1 d_X12_laySight_230 (by decide) ?_
      refine g_iadd hO d_X12_laySight_231 ?_
      refine g_iload hO d_X12_laySight_232 2 rfl ?_
      refine g_iload_n hO d_X12_laySight_234 (by rfl) 1 rfl ?_
      refine g_iconst hO 1 d_X12_laySight_235 (by decide) ?_
      refine g_iadd hO d_X12_laySight_236 ?_
      refine k_virtJp hO cl_X12 mm_X12_around lkV_X12_500 ⟨⟨Nat.le_of_ble_eq_true rfl, Nat.le_of_ble_eq_true rfl⟩, Nat.le_of_ble_eq_true rfl, Nat.le_of_ble_eq_true rfl⟩ (kn' := (0, 0)) rfl (As := [vA v2, vI (x3 + 1), vI x4, vI (x3 + 1)]) rfl (Nat.le_of_ble_eq_true rfl) (fun o' _ => t_X12_around Γ.2.1 E o' v2 (x3 + 1) x4 (x3 + 1) S) d_X12_laySight_237 rfl (fun v3 => ?_)
      refine h_last hO d_X12_laySight_240 (fun S5 => ?_)
      refine g_iinc (lv' := [(4, vI (x4 + 1)), (0, vA (some o)), (3, vI x3)]) hO 1 d_X12_laySight_241 (by decide) 2 rfl (by decide) rfl ?_
      refine g_goto (tgt := 206) hO d_X12_laySight_244.1 d_X12_laySight_244.2 ?_
      exact g_sub [1, 2, 0] rfl (ih _ _ _)
set_option maxRecDepth 20000 in
theorem w_X12_laySight_199 {Γ : GC} {E : GE} (hO : gOk Γ E cX12_laySight RX12 5 rm_X12_laySight (some .boolean) "laySight") (o : Nat) : ∀ (n : Nat) (x3 : Int32) (S : GS), Go Γ E (gBsI Γ E) 5 (0, 0) 199 S [(0, vA (some o)), (3, vI x3)] [] (f_X12_laySight_199 o n x3 S) := by
  intro n
  induction n with
  | zero =>
    intro x3 S
    exact g_none
  | succ n ih =>
    intro x3 S
    rw [f_X12_laySight_199]
    refine g_iload_n hO d_X12_laySight_199 (by rfl) 1 rfl ?_
    refine g_if_lt (tgt := 253) hO d_X12_laySight_200.1 d_X12_laySight_200.2 (fun _ => ?_) (fun _ => ?_)
    · skip
      refine g_iconst hO 1 d_X12_laySight_253 (by decide) ?_
      exact g_ret hO rfl rfl ⟨Nat.le_of_ble_eq_true rfl, Nat.le_of_ble_eq_true rfl⟩ rfl rfl d_X12_laySight_254.1
    · skip
      refine g_iconst hO 0 d_X12_laySight_203 (by decide) ?_
      refine g_istore (lv' := [(4, vI 0), (0, vA (some o)), (3, vI x3)]) hO d_X12_laySight_204 (by decide) rfl ?_
      exact g_sub [1, 2, 0] rfl (w_X12_laySight_206 hO o ih _ _ _ _)
set_option maxRecDepth 20000 in
theorem w_X12_laySight_122 {Γ : GC} {E : GE} (hO : gOk Γ E cX12_laySight RX12 5 rm_X12_laySight (some .boolean) "laySight") (o : Nat) : ∀ (n : Nat) (x3 : Int32) (S : GS), Go Γ E (gBsI Γ E) 5 (0, 0) 122 S [(0, vA (some o)), (3, vI x3)] [] (f_X12_laySight_122 o n x3 S) := by
  intro n
  induction n with
  | zero =>
    intro x3 S
    exact g_none
  | succ n ih =>
    intro x3 S
    rw [f_X12_laySight_122]
    refine g_iload_n hO d_X12_laySight_122 (by rfl) 1 rfl ?_
    refine g_aload_n hO d_X12_laySight_123 (by rfl) 0 rfl ?_
    refine h_getI hO cl_X12 52 rfl wf_X12_494 d_X12_laySight_124 (fun v1 => ?_)
    refine g_ic_gt (tgt := 192) hO d_X12_laySight_127.1 d_X12_laySight_127.2 (fun _ => ?_) (fun _ => ?_)
    · skip
      refine g_aload_n hO d_X12_laySight_192 (by rfl) 0 rfl ?_
      refine h_getI hO cl_X12 52 rfl wf_X12_494 d_X12_laySight_193 (fun v2 => ?_)
      refine g_iconst hO 1 d_X12_laySight_196 (by decide) ?_
      refine g_isub hO d_X12_laySight_197 ?_
      refine g_istore_n (lv' := [(3, vI (v2 - 1)), (0, vA (some o))]) hO d_X12_laySight_198 (by rfl) (by decide) rfl ?_
      exact g_sub [1, 0] rfl (w_X12_laySight_199 hO o _ _ _)
    · skip
      refine g_iconst hO 0 d_X12_laySight_130 (by decide) ?_
      refine g_istore (lv' := [(4, vI 0), (0, vA (some o)), (3, vI x3)]) hO d_X12_laySight_131 (by decide) rfl ?_
      exact g_sub [1, 2, 0] rfl (w_X12_laySight_133 hO o ih _ _ _ _)
set_option maxRecDepth 20000 in
theorem w_X12_laySight_73 {Γ : GC} {E : GE} (hO : gOk Γ E cX12_laySight RX12 5 rm_X12_laySight (some .boolean) "laySight") (o : Nat) : ∀ (n : Nat) (x3 : Int32) (S : GS), Go Γ E (gBsI Γ E) 5 (0, 0) 73 S [(0, vA (some o)), (3, vI x3)] [] (f_X12_laySight_73 o n x3 S) := by
  intro n
  induction n with
  | zero =>
    intro x3 S
    exact g_none
  | succ n ih =>
    intro x3 S
    rw [f_X12_laySight_73]
    refine g_iload_n hO d_X12_laySight_73 (by rfl) 1 rfl ?_
    refine g_bipush hO 40 d_X12_laySight_74 (by decide) ?_
    refine g_ic_gt (tgt := 120) hO d_X12_laySight_76.1 d_X12_laySight_76.2 (fun _ => ?_) (fun _ => ?_)
    · skip
      refine g_iconst hO 1 d_X12_laySight_120 (by decide) ?_
      refine g_istore_n (lv' := [(3, vI 1), (0, vA (some o))]) hO d_X12_laySight_121 (by rfl) (by decide) rfl ?_
      exact g_sub [1, 0] rfl (w_X12_laySight_122 hO o _ _ _)
    · skip
      refine g_aload_n hO d_X12_laySight_79 (by rfl) 0 rfl ?_
      refine h_getR hO cl_X12 53 rfl wf_X12_81 d_X12_laySight_80 (fun v1 => ?_)
      refine g_iload_n hO d_X12_laySight_83 (by rfl) 1 rfl ?_
      refine g_iload_n hO d_X12_laySight_84 (by rfl) 1 rfl ?_
      refine g_aload_n hO d_X12_laySight_85 (by rfl) 0 rfl ?_
      refine g_iconst hO 5 d_X12_laySight_86 (by decide) ?_
      refine k_virtIp hO cl_X12 mm_X12_ofCourt lkV_X12_287 ⟨⟨Nat.le_of_ble_eq_true rfl, Nat.le_of_ble_eq_true rfl⟩, Nat.le_of_ble_eq_true rfl, Nat.le_of_ble_eq_true rfl⟩ (kn' := (0, 0)) rfl (As := [vI 5]) rfl (Nat.le_of_ble_eq_true rfl) (fun o' _ => t_X12_ofCourt Γ.2.1 E o' 5 S) d_X12_laySight_87 rfl (fun v2 => ?_)
      refine g_ic_ne (tgt := 97) hO d_X12_laySight_90.1 d_X12_laySight_90.2 (fun _ => ?_) (fun _ => ?_)
      · skip
        refine g_lconst hO 1 d_X12_laySight_93 (by decide) ?_
        refine g_goto (tgt := 98) hO d_X12_laySight_94.1 d_X12_laySight_94.2 ?_
        exact g_sub [0, 1] rfl (w_X12_laySight_98 hO o ih _ _ _ _ _)
      · skip
        refine g_lconst hO 0 d_X12_laySight_97 (by decide) ?_
        exact g_sub [0, 1] rfl (w_X12_laySight_98 hO o ih _ _ _ _ _)
set_option maxRecDepth 20000 in
theorem w_X12_laySight_25 {Γ : GC} {E : GE} (hO : gOk Γ E cX12_laySight RX12 5 rm_X12_laySight (some .boolean) "laySight") (o : Nat) : ∀ (n : Nat) (x3 : Int32) (S : GS), Go Γ E (gBsI Γ E) 5 (0, 0) 25 S [(0, vA (some o)), (3, vI x3)] [] (f_X12_laySight_25 o n x3 S) := by
  intro n
  induction n with
  | zero =>
    intro x3 S
    exact g_none
  | succ n ih =>
    intro x3 S
    rw [f_X12_laySight_25]
    refine g_iload_n hO d_X12_laySight_25 (by rfl) 1 rfl ?_
    refine g_aload_n hO d_X12_laySight_26 (by rfl) 0 rfl ?_
    refine k_virtIp hO cl_X12 mm_X12_seenMany lkV_X12_482 ⟨⟨Nat.le_of_ble_eq_true rfl, Nat.le_of_ble_eq_true rfl⟩, Nat.le_of_ble_eq_true rfl, Nat.le_of_ble_eq_true rfl⟩ (kn' := (0, 0)) rfl (As := []) rfl (Nat.le_of_ble_eq_true rfl) (fun o' _ => t_X12_seenMany Γ.2.1 E o' S) d_X12_laySight_27 rfl (fun v1 => ?_)
    refine g_ic_ge (tgt := 71) hO d_X12_laySight_30.1 d_X12_laySight_30.2 (fun _ => ?_) (fun _ => ?_)
    · skip
      refine g_iconst hO 0 d_X12_laySight_71 (by decide) ?_
      refine g_istore_n (lv' := [(3, vI 0), (0, vA (some o))]) hO d_X12_laySight_72 (by rfl) (by decide) rfl ?_
      exact g_sub [1, 0] rfl (w_X12_laySight_73 hO o _ _ _)
    · skip
      refine g_aload_n hO d_X12_laySight_33 (by rfl) 0 rfl ?_
      refine g_aload_n hO d_X12_laySight_34 (by rfl) 0 rfl ?_
      refine g_iload_n hO d_X12_laySight_35 (by rfl) 1 rfl ?_
      refine g_iconst hO 0 d_X12_laySight_36 (by decide) ?_
      refine k_virtIp hO cl_X12 mm_X12_seenOf lkV_X12_488 ⟨⟨Nat.le_of_ble_eq_true rfl, Nat.le_of_ble_eq_true rfl⟩, Nat.le_of_ble_eq_true rfl, Nat.le_of_ble_eq_true rfl⟩ (kn' := (0, 0)) rfl (As := [vI x3, vI 0]) rfl (Nat.le_of_ble_eq_true rfl) (fun o' _ => t_X12_seenOf Γ.2.1 E o' x3 0 S) d_X12_laySight_37 rfl (fun v3 => ?_)
      refine k_virtIp hO cl_X12 mm_X12_isLady lkV_X12_303 ⟨⟨Nat.le_of_ble_eq_true rfl, Nat.le_of_ble_eq_true rfl⟩, Nat.le_of_ble_eq_true rfl, Nat.le_of_ble_eq_true rfl⟩ (kn' := (0, 0)) rfl (As := [vI v3]) rfl (Nat.le_of_ble_eq_true rfl) (fun o' _ => t_X12_isLady Γ.2.1 E o' v3 S) d_X12_laySight_40 rfl (fun v5 => ?_)
      refine g_if_ne (tgt := 48) hO d_X12_laySight_43.1 d_X12_laySight_43.2 (fun _ => ?_) (fun _ => ?_)
      · skip
        refine g_iconst hO 0 d_X12_laySight_46 (by decide) ?_
        exact g_ret hO rfl rfl ⟨Nat.le_of_ble_eq_true rfl, Nat.le_of_ble_eq_true rfl⟩ rfl rfl d_X12_laySight_47.1
      · skip
        refine g_aload_n hO d_X12_laySight_48 (by rfl) 0 rfl ?_
        refine g_aload_n hO d_X12_laySight_49 (by rfl) 0 rfl ?_
        refine h_getI hO cl_X12 52 rfl wf_X12_494 d_X12_laySight_50 (fun v7 => ?_)
        refine g_aload_n hO d_X12_laySight_53 (by rfl) 0 rfl ?_
        refine g_iload_n hO d_X12_laySight_54 (by rfl) 1 rfl ?_
        refine g_iconst hO 1 d_X12_laySight_55 (by decide) ?_
        refine k_virtIp hO cl_X12 mm_X12_seenOf lkV_X12_488 ⟨⟨Nat.le_of_ble_eq_true rfl, Nat.le_of_ble_eq_true rfl⟩, Nat.le_of_ble_eq_true rfl, Nat.le_of_ble_eq_true rfl⟩ (kn' := (0, 0)) rfl (As := [vI x3, vI 1]) rfl (Nat.le_of_ble_eq_true rfl) (fun o' _ => t_X12_seenOf Γ.2.1 E o' x3 1 S) d_X12_laySight_56 rfl (fun v8 => ?_)
        refine k_statIp hO mm_X12_greater lkS_X12_173 ⟨⟨Nat.le_of_ble_eq_true rfl, Nat.le_of_ble_eq_true rfl⟩, Nat.le_of_ble_eq_true rfl, Nat.le_of_ble_eq_true rfl⟩ (kn' := (0, 0)) rfl (As := [vI v7, vI v8]) rfl (Nat.le_of_ble_eq_true rfl) (t_X12_greater Γ.2.1 E v7 v8 S) d_X12_laySight_59 rfl (fun v10 => ?_)
        refine h_putI hO cl_X12 52 rfl rfl wf_X12_494 (Or.inl rfl) d_X12_laySight_62 (fun S12 => ?_)
        refine g_iinc (lv' := [(3, vI (x3 + 1)), (0, vA (some o))]) hO 1 d_X12_laySight_65 (by decide) 1 rfl (by decide) rfl ?_
        refine g_goto (tgt := 25) hO d_X12_laySight_68.1 d_X12_laySight_68.2 ?_
        exact g_sub [1, 0] rfl (ih _ _)
set_option maxRecDepth 20000 in
theorem w_X12_laySight {Γ : GC} {E : GE} (hO : gOk Γ E cX12_laySight RX12 5 rm_X12_laySight (some .boolean) "laySight") (o : Nat) (x1 : Int32) (x2 : Int32) (S : GS) : Go Γ E (gBsI Γ E) 5 (0, 0) 0 S [(0, vA (some o)), (1, vI x1), (2, vI x2)] [] (f_X12_laySight o x1 x2 S) := by
  unfold f_X12_laySight
  refine g_aload_n hO d_X12_laySight_0 (by rfl) 0 rfl ?_
  refine g_iload_n hO d_X12_laySight_1 (by rfl) 2 rfl ?_
  refine k_virtIs hO cl_X12 mm_X12_hasSight lkV_X12_479 ⟨⟨Nat.le_of_ble_eq_true rfl, Nat.le_of_ble_eq_true rfl⟩, Nat.le_of_ble_eq_true rfl, Nat.le_of_ble_eq_true rfl⟩ (kn' := (0, 0)) rfl (As := [vI x2]) rfl (Nat.le_of_ble_eq_true rfl) (fun o' _ => t_X12_hasSight Γ.2.1 E o' x2 S) d_X12_laySight_2 rfl (fun v1 S2 => ?_)
  refine g_if_eq (tgt := 16) hO d_X12_laySight_5.1 d_X12_laySight_5.2 (fun _ => ?_) (fun _ => ?_)
  · skip
    refine g_iconst hO 0 d_X12_laySight_16 (by decide) ?_
    exact g_ret hO rfl rfl ⟨Nat.le_of_ble_eq_true rfl, Nat.le_of_ble_eq_true rfl⟩ rfl rfl d_X12_laySight_17.1
  · skip
    refine g_aload_n hO d_X12_laySight_8 (by rfl) 0 rfl ?_
    refine g_iload_n hO d_X12_laySight_9 (by rfl) 1 rfl ?_
    refine k_virtIs hO cl_X12 mm_X12_hand lkV_X12_297 ⟨⟨Nat.le_of_ble_eq_true rfl, Nat.le_of_ble_eq_true rfl⟩, Nat.le_of_ble_eq_true rfl, Nat.le_of_ble_eq_true rfl⟩ (kn' := (0, 0)) rfl (As := [vI x1]) rfl (Nat.le_of_ble_eq_true rfl) (fun o' _ => t_X12_hand Γ.2.1 E o' x1 S2) d_X12_laySight_10 rfl (fun v3 S4 => ?_)
    refine g_if_ne (tgt := 18) hO d_X12_laySight_13.1 d_X12_laySight_13.2 (fun _ => ?_) (fun _ => ?_)
    · skip
      refine g_iconst hO 0 d_X12_laySight_16 (by decide) ?_
      exact g_ret hO rfl rfl ⟨Nat.le_of_ble_eq_true rfl, Nat.le_of_ble_eq_true rfl⟩ rfl rfl d_X12_laySight_17.1
    · skip
      refine g_aload_n hO d_X12_laySight_18 (by rfl) 0 rfl ?_
      refine g_iconst hO 0 d_X12_laySight_19 (by decide) ?_
      refine h_putI hO cl_X12 52 rfl rfl wf_X12_494 (Or.inl rfl) d_X12_laySight_20 (fun S5 => ?_)
      refine g_iconst hO 0 d_X12_laySight_23 (by decide) ?_
      refine g_istore_n (lv' := [(3, vI 0), (0, vA (some o)), (1, vI x1), (2, vI x2)]) hO d_X12_laySight_24 (by rfl) (by decide) rfl ?_
      exact g_sub [1, 0] rfl (w_X12_laySight_25 hO o _ _ _)
theorem t_X12_laySight (l : Launch) (E : GE) (o : Nat) (x1 : Int32) (x2 : Int32) (S : GS) : ∀ a, f_X12_laySight o x1 x2 S = some a → Ct l E yX12_laySight cX12_laySight 5 (some .boolean) rm_X12_laySight [vA (some o), vI x1, vI x2] S (some (vI a.1)) a.2 :=
  Ct_of (val := fun (b : Int32 × GS) => some (vI b.1)) (nxt := fun (b : Int32 × GS) => b.2) (by decide) (Nat.le_of_ble_eq_true rfl) (fun Γ hl hO => w_X12_laySight hO o x1 x2 S)
theorem d_X12_ways_0 : gD cX12_ways 0 (.aload_n 0) 1 1 := ⟨by decide +kernel, rfl⟩
theorem d_X12_ways_1 : gD cX12_ways 1 (.iconst 0) 1 2 := ⟨by decide +kernel, rfl⟩
theorem d_X12_ways_2 : gD cX12_ways 2 (.putfield 100) 3 5 := ⟨by decide +kernel, rfl⟩
theorem d_X12_ways_5 : gD cX12_ways 5 (.aload_n 0) 1 6 := ⟨by decide +kernel, rfl⟩
theorem d_X12_ways_6 : gD cX12_ways 6 (.iload_n 1) 1 7 := ⟨by decide +kernel, rfl⟩
theorem d_X12_ways_7 : gD cX12_ways 7 (.iload_n 2) 1 8 := ⟨by decide +kernel, rfl⟩
theorem d_X12_ways_8 : gD cX12_ways 8 (.invokevirtual 504) 3 11 := ⟨by decide +kernel, rfl⟩
theorem d_X12_ways_11 : gD cX12_ways 11 (.ifCond .eq 16) 3 14 ∧ ((11 : Nat) : Int) + 16 = ((27 : Nat) : Int) := ⟨⟨by decide +kernel, rfl⟩, by decide⟩
theorem d_X12_ways_14 : gD cX12_ways 14 (.aload_n 0) 1 15 := ⟨by decide +kernel, rfl⟩
theorem d_X12_ways_15 : gD cX12_ways 15 (.getfield 84) 3 18 := ⟨by decide +kernel, rfl⟩
theorem d_X12_ways_18 : gD cX12_ways 18 (.aload_n 0) 1 19 := ⟨by decide +kernel, rfl⟩
theorem d_X12_ways_19 : gD cX12_ways 19 (.iconst 5) 1 20 := ⟨by decide +kernel, rfl⟩
theorem d_X12_ways_20 : gD cX12_ways 20 (.invokevirtual 287) 3 23 := ⟨by decide +kernel, rfl⟩
theorem d_X12_ways_23 : gD cX12_ways 23 (.laload) 1 24 := ⟨by decide +kernel, rfl⟩
theorem d_X12_ways_24 : decode cX12_ways 24 = .ok (.goto 6, 3) ∧ ((24 : Nat) : Int) + 6 = ((30 : Nat) : Int) := ⟨by decide +kernel, by decide⟩
theorem d_X12_ways_27 : gD cX12_ways 27 (.ldc2_w 457) 3 30 := ⟨by decide +kernel, rfl⟩
theorem d_X12_ways_30 : gD cX12_ways 30 (.lreturn) 1 31 := ⟨by decide +kernel, rfl⟩
abbrev rm_X12_ways : Room := { frames := 7, cells := 0, slots := 0, locals := 165 }
set_option maxRecDepth 20000 in
theorem w_X12_ways {Γ : GC} {E : GE} (hO : gOk Γ E cX12_ways RX12 3 rm_X12_ways (some .long) "ways") (o : Nat) (x1 : Int32) (x2 : Int32) (S : GS) : Go Γ E (gBsJ Γ E) 3 (0, 0) 0 S [(0, vA (some o)), (1, vI x1), (2, vI x2)] [] (f_X12_ways o x1 x2 S) := by
  unfold f_X12_ways
  refine g_aload_n hO d_X12_ways_0 (by rfl) 0 rfl ?_
  refine g_iconst hO 0 d_X12_ways_1 (by decide) ?_
  refine h_putI hO cl_X12 0 rfl rfl wf_X12_100 (Or.inl rfl) d_X12_ways_2 (fun S1 => ?_)
  refine g_aload_n hO d_X12_ways_5 (by rfl) 0 rfl ?_
  refine g_iload_n hO d_X12_ways_6 (by rfl) 1 rfl ?_
  refine g_iload_n hO d_X12_ways_7 (by rfl) 2 rfl ?_
  refine k_virtIs hO cl_X12 mm_X12_laySight lkV_X12_504 ⟨⟨Nat.le_of_ble_eq_true rfl, Nat.le_of_ble_eq_true rfl⟩, Nat.le_of_ble_eq_true rfl, Nat.le_of_ble_eq_true rfl⟩ (kn' := (0, 0)) rfl (As := [vI x1, vI x2]) rfl (Nat.le_of_ble_eq_true rfl) (fun o' _ => t_X12_laySight Γ.2.1 E o' x1 x2 S1) d_X12_ways_8 rfl (fun v2 S3 => ?_)
  refine g_if_eq (tgt := 27) hO d_X12_ways_11.1 d_X12_ways_11.2 (fun _ => ?_) (fun _ => ?_)
  · skip
    refine g_ldc2 hO (-1) d_X12_ways_27 wk_X12_457 ?_
    exact g_lret hO rfl ⟨Nat.le_of_ble_eq_true rfl, Nat.le_of_ble_eq_true rfl⟩ rfl rfl d_X12_ways_30.1
  · skip
    refine g_aload_n hO d_X12_ways_14 (by rfl) 0 rfl ?_
    refine h_getR hO cl_X12 54 rfl wf_X12_84 d_X12_ways_15 (fun v4 => ?_)
    refine g_aload_n hO d_X12_ways_18 (by rfl) 0 rfl ?_
    refine g_iconst hO 5 d_X12_ways_19 (by decide) ?_
    refine k_virtIp hO cl_X12 mm_X12_ofCourt lkV_X12_287 ⟨⟨Nat.le_of_ble_eq_true rfl, Nat.le_of_ble_eq_true rfl⟩, Nat.le_of_ble_eq_true rfl, Nat.le_of_ble_eq_true rfl⟩ (kn' := (0, 0)) rfl (As := [vI 5]) rfl (Nat.le_of_ble_eq_true rfl) (fun o' _ => t_X12_ofCourt Γ.2.1 E o' 5 S3) d_X12_ways_20 rfl (fun v5 => ?_)
    refine h_lald hO d_X12_ways_23 (fun v7 => ?_)
    refine g_goto (tgt := 30) hO d_X12_ways_24.1 d_X12_ways_24.2 ?_
    exact g_lret hO rfl ⟨Nat.le_of_ble_eq_true rfl, Nat.le_of_ble_eq_true rfl⟩ rfl rfl d_X12_ways_30.1
theorem t_X12_ways (l : Launch) (E : GE) (o : Nat) (x1 : Int32) (x2 : Int32) (S : GS) : ∀ a, f_X12_ways o x1 x2 S = some a → Ct l E yX12_ways cX12_ways 3 (some .long) rm_X12_ways [vA (some o), vI x1, vI x2] S (some (vJ a.1)) a.2 :=
  Ct_of (val := fun (b : Int64 × GS) => some (vJ b.1)) (nxt := fun (b : Int64 × GS) => b.2) (by decide) (Nat.le_of_ble_eq_true rfl) (fun Γ hl hO => w_X12_ways hO o x1 x2 S)
theorem d_X12_may_0 : gD cX12_may 0 (.aload_n 0) 1 1 := ⟨by decide +kernel, rfl⟩
theorem d_X12_may_1 : gD cX12_may 1 (.iconst 0) 1 2 := ⟨by decide +kernel, rfl⟩
theorem d_X12_may_2 : gD cX12_may 2 (.putfield 100) 3 5 := ⟨by decide +kernel, rfl⟩
theorem d_X12_may_5 : gD cX12_may 5 (.iload 4) 2 7 := ⟨by decide +kernel, rfl⟩
theorem d_X12_may_7 : gD cX12_may 7 (.iconst 0) 1 8 := ⟨by decide +kernel, rfl⟩
theorem d_X12_may_8 : gD cX12_may 8 (.iconst 2) 1 9 := ⟨by decide +kernel, rfl⟩
theorem d_X12_may_9 : gD cX12_may 9 (.invokestatic 112) 3 12 := ⟨by decide +kernel, rfl⟩
theorem d_X12_may_12 : gD cX12_may 12 (.ifCond .eq 24) 3 15 ∧ ((12 : Nat) : Int) + 24 = ((36 : Nat) : Int) := ⟨⟨by decide +kernel, rfl⟩, by decide⟩
theorem d_X12_may_15 : gD cX12_may 15 (.aload_n 0) 1 16 := ⟨by decide +kernel, rfl⟩
theorem d_X12_may_16 : gD cX12_may 16 (.iload_n 1) 1 17 := ⟨by decide +kernel, rfl⟩
theorem d_X12_may_17 : gD cX12_may 17 (.iload_n 2) 1 18 := ⟨by decide +kernel, rfl⟩
theorem d_X12_may_18 : gD cX12_may 18 (.invokevirtual 504) 3 21 := ⟨by decide +kernel, rfl⟩
theorem d_X12_may_21 : gD cX12_may 21 (.ifCond .eq 15) 3 24 ∧ ((21 : Nat) : Int) + 15 = ((36 : Nat) : Int) := ⟨⟨by decide +kernel, rfl⟩, by decide⟩
theorem d_X12_may_24 : gD cX12_may 24 (.iload_n 3) 1 25 := ⟨by decide +kernel, rfl⟩
theorem d_X12_may_25 : gD cX12_may 25 (.iconst 0) 1 26 := ⟨by decide +kernel, rfl⟩
theorem d_X12_may_26 : gD cX12_may 26 (.aload_n 0) 1 27 := ⟨by decide +kernel, rfl⟩
theorem d_X12_may_27 : gD cX12_may 27 (.getfield 494) 3 30 := ⟨by decide +kernel, rfl⟩
theorem d_X12_may_30 : gD cX12_may 30 (.invokestatic 112) 3 33 := ⟨by decide +kernel, rfl⟩
theorem d_X12_may_33 : gD cX12_may 33 (.ifCond .ne 5) 3 36 ∧ ((33 : Nat) : Int) + 5 = ((38 : Nat) : Int) := ⟨⟨by decide +kernel, rfl⟩, by decide⟩
theorem d_X12_may_36 : gD cX12_may 36 (.iconst (-1)) 1 37 := ⟨by decide +kernel, rfl⟩
theorem d_X12_may_37 : gD cX12_may 37 (.ireturn) 1 38 := ⟨by decide +kernel, rfl⟩
theorem d_X12_may_38 : gD cX12_may 38 (.iconst (-1)) 1 39 := ⟨by decide +kernel, rfl⟩
theorem d_X12_may_39 : gD cX12_may 39 (.istore 5) 2 41 := ⟨by decide +kernel, rfl⟩
theorem d_X12_may_41 : gD cX12_may 41 (.iconst (-1)) 1 42 := ⟨by decide +kernel, rfl⟩
theorem d_X12_may_42 : gD cX12_may 42 (.istore 6) 2 44 := ⟨by decide +kernel, rfl⟩
theorem d_X12_may_44 : gD cX12_may 44 (.iconst 0) 1 45 := ⟨by decide +kernel, rfl⟩
theorem d_X12_may_45 : gD cX12_may 45 (.istore 7) 2 47 := ⟨by decide +kernel, rfl⟩
theorem d_X12_may_47 : gD cX12_may 47 (.iconst 0) 1 48 := ⟨by decide +kernel, rfl⟩
theorem d_X12_may_48 : gD cX12_may 48 (.istore 8) 2 50 := ⟨by decide +kernel, rfl⟩
theorem d_X12_may_50 : gD cX12_may 50 (.iload 8) 2 52 := ⟨by decide +kernel, rfl⟩
theorem d_X12_may_52 : gD cX12_may 52 (.bipush 40) 2 54 := ⟨by decide +kernel, rfl⟩
theorem d_X12_may_54 : gD cX12_may 54 (.if_icmp .gt 65) 3 57 ∧ ((54 : Nat) : Int) + 65 = ((119 : Nat) : Int) := ⟨⟨by decide +kernel, rfl⟩, by decide⟩
theorem d_X12_may_57 : gD cX12_may 57 (.aload_n 0) 1 58 := ⟨by decide +kernel, rfl⟩
theorem d_X12_may_58 : gD cX12_may 58 (.getfield 81) 3 61 := ⟨by decide +kernel, rfl⟩
theorem d_X12_may_61 : gD cX12_may 61 (.bipush 41) 2 63 := ⟨by decide +kernel, rfl⟩
theorem d_X12_may_63 : gD cX12_may 63 (.iload_n 3) 1 64 := ⟨by decide +kernel, rfl⟩
theorem d_X12_may_64 : gD cX12_may 64 (.imul) 1 65 := ⟨by decide +kernel, rfl⟩
theorem d_X12_may_65 : gD cX12_may 65 (.iload 8) 2 67 := ⟨by decide +kernel, rfl⟩
theorem d_X12_may_67 : gD cX12_may 67 (.iadd) 1 68 := ⟨by decide +kernel, rfl⟩
theorem d_X12_may_68 : gD cX12_may 68 (.laload) 1 69 := ⟨by decide +kernel, rfl⟩
theorem d_X12_may_69 : gD cX12_may 69 (.lconst 0) 1 70 := ⟨by decide +kernel, rfl⟩
theorem d_X12_may_70 : gD cX12_may 70 (.lcmp) 1 71 := ⟨by decide +kernel, rfl⟩
theorem d_X12_may_71 : gD cX12_may 71 (.ifCond .le 42) 3 74 ∧ ((71 : Nat) : Int) + 42 = ((113 : Nat) : Int) := ⟨⟨by decide +kernel, rfl⟩, by decide⟩
theorem d_X12_may_74 : gD cX12_may 74 (.aload_n 0) 1 75 := ⟨by decide +kernel, rfl⟩
theorem d_X12_may_75 : gD cX12_may 75 (.getfield 84) 3 78 := ⟨by decide +kernel, rfl⟩
theorem d_X12_may_78 : gD cX12_may 78 (.bipush 41) 2 80 := ⟨by decide +kernel, rfl⟩
theorem d_X12_may_80 : gD cX12_may 80 (.iload_n 3) 1 81 := ⟨by decide +kernel, rfl⟩
theorem d_X12_may_81 : gD cX12_may 81 (.imul) 1 82 := ⟨by decide +kernel, rfl⟩
theorem d_X12_may_82 : gD cX12_may 82 (.iload 8) 2 84 := ⟨by decide +kernel, rfl⟩
theorem d_X12_may_84 : gD cX12_may 84 (.iadd) 1 85 := ⟨by decide +kernel, rfl⟩
theorem d_X12_may_85 : gD cX12_may 85 (.laload) 1 86 := ⟨by decide +kernel, rfl⟩
theorem d_X12_may_86 : gD cX12_may 86 (.lconst 0) 1 87 := ⟨by decide +kernel, rfl⟩
theorem d_X12_may_87 : gD cX12_may 87 (.lcmp) 1 88 := ⟨by decide +kernel, rfl⟩
theorem d_X12_may_88 : gD cX12_may 88 (.ifCond .le 25) 3 91 ∧ ((88 : Nat) : Int) + 25 = ((113 : Nat) : Int) := ⟨⟨by decide +kernel, rfl⟩, by decide⟩
theorem d_X12_may_91 : gD cX12_may 91 (.iload 5) 2 93 := ⟨by decide +kernel, rfl⟩
theorem d_X12_may_93 : gD cX12_may 93 (.iconst (-1)) 1 94 := ⟨by decide +kernel, rfl⟩
theorem d_X12_may_94 : gD cX12_may 94 (.if_icmp .ne 8) 3 97 ∧ ((94 : Nat) : Int) + 8 = ((102 : Nat) : Int) := ⟨⟨by decide +kernel, rfl⟩, by decide⟩
theorem d_X12_may_97 : gD cX12_may 97 (.iload 8) 2 99 := ⟨by decide +kernel, rfl⟩
theorem d_X12_may_99 : decode cX12_may 99 = .ok (.goto 5, 3) ∧ ((99 : Nat) : Int) + 5 = ((104 : Nat) : Int) := ⟨by decide +kernel, by decide⟩
theorem d_X12_may_102 : gD cX12_may 102 (.iload 5) 2 104 := ⟨by decide +kernel, rfl⟩
theorem d_X12_may_104 : gD cX12_may 104 (.istore 5) 2 106 := ⟨by decide +kernel, rfl⟩
theorem d_X12_may_106 : gD cX12_may 106 (.iload 8) 2 108 := ⟨by decide +kernel, rfl⟩
theorem d_X12_may_108 : gD cX12_may 108 (.istore 6) 2 110 := ⟨by decide +kernel, rfl⟩
theorem d_X12_may_110 : gD cX12_may 110 (.iinc 7 1) 3 113 := ⟨by decide +kernel, rfl⟩
theorem d_X12_may_113 : gD cX12_may 113 (.iinc 8 1) 3 116 := ⟨by decide +kernel, rfl⟩
theorem d_X12_may_116 : decode cX12_may 116 = .ok (.goto (-66), 3) ∧ ((116 : Nat) : Int) + (-66) = ((50 : Nat) : Int) := ⟨by decide +kernel, by decide⟩
theorem d_X12_may_119 : gD cX12_may 119 (.iload 4) 2 121 := ⟨by decide +kernel, rfl⟩
theorem d_X12_may_121 : gD cX12_may 121 (.ifCond .ne 8) 3 124 ∧ ((121 : Nat) : Int) + 8 = ((129 : Nat) : Int) := ⟨⟨by decide +kernel, rfl⟩, by decide⟩
theorem d_X12_may_124 : gD cX12_may 124 (.iload 5) 2 126 := ⟨by decide +kernel, rfl⟩
theorem d_X12_may_126 : decode cX12_may 126 = .ok (.goto 26, 3) ∧ ((126 : Nat) : Int) + 26 = ((152 : Nat) : Int) := ⟨by decide +kernel, by decide⟩
theorem d_X12_may_129 : gD cX12_may 129 (.iload 4) 2 131 := ⟨by decide +kernel, rfl⟩
theorem d_X12_may_131 : gD cX12_may 131 (.iconst 1) 1 132 := ⟨by decide +kernel, rfl⟩
theorem d_X12_may_132 : gD cX12_may 132 (.if_icmp .ne 8) 3 135 ∧ ((132 : Nat) : Int) + 8 = ((140 : Nat) : Int) := ⟨⟨by decide +kernel, rfl⟩, by decide⟩
theorem d_X12_may_135 : gD cX12_may 135 (.iload 6) 2 137 := ⟨by decide +kernel, rfl⟩
theorem d_X12_may_137 : decode cX12_may 137 = .ok (.goto 15, 3) ∧ ((137 : Nat) : Int) + 15 = ((152 : Nat) : Int) := ⟨by decide +kernel, by decide⟩
theorem d_X12_may_140 : gD cX12_may 140 (.iload 7) 2 142 := ⟨by decide +kernel, rfl⟩
theorem d_X12_may_142 : gD cX12_may 142 (.iconst 1) 1 143 := ⟨by decide +kernel, rfl⟩
theorem d_X12_may_143 : gD cX12_may 143 (.if_icmp .ne 8) 3 146 ∧ ((143 : Nat) : Int) + 8 = ((151 : Nat) : Int) := ⟨⟨by decide +kernel, rfl⟩, by decide⟩
theorem d_X12_may_146 : gD cX12_may 146 (.iload 5) 2 148 := ⟨by decide +kernel, rfl⟩
theorem d_X12_may_148 : decode cX12_may 148 = .ok (.goto 4, 3) ∧ ((148 : Nat) : Int) + 4 = ((152 : Nat) : Int) := ⟨by decide +kernel, by decide⟩
theorem d_X12_may_151 : gD cX12_may 151 (.iconst (-1)) 1 152 := ⟨by decide +kernel, rfl⟩
theorem d_X12_may_152 : gD cX12_may 152 (.ireturn) 1 153 := ⟨by decide +kernel, rfl⟩
abbrev rm_X12_may : Room := { frames := 7, cells := 0, slots := 0, locals := 165 }
set_option maxRecDepth 20000 in
theorem w_X12_may_113 {Γ : GC} {E : GE} (hO : gOk Γ E cX12_may RX12 9 rm_X12_may (some .int) "may") (o : Nat) {k50 : (Int32 → Int32 → Int32 → Int32 → Int32 → Int32 → GS → Option (Int32 × GS))} (hk50 : ∀ (z3 : Int32) (z4 : Int32) (z5 : Int32) (z6 : Int32) (z7 : Int32) (z8 : Int32) (S1 : GS), Go Γ E (gBsI Γ E) 9 (0, 0) 50 S1 [(0, vA (some o)), (3, vI z3), (4, vI z4), (5, vI z5), (6, vI z6), (7, vI z7), (8, vI z8)] [] (k50 z3 z4 z5 z6 z7 z8 S1)) (x3 : Int32) (x4 : Int32) (x5 : Int32) (x6 : Int32) (x7 : Int32) (x8 : Int32) (S : GS) : Go Γ E (gBsI Γ E) 9 (0, 0) 113 S [(0, vA (some o)), (3, vI x3), (4, vI x4), (5, vI x5), (6, vI x6), (7, vI x7), (8, vI x8)] [] (f_X12_may_113 k50 o x3 x4 x5 x6 x7 x8 S) := by
  unfold f_X12_may_113
  refine g_iinc (lv' := [(8, vI (x8 + 1)), (0, vA (some o)), (3, vI x3), (4, vI x4), (5, vI x5), (6, vI x6), (7, vI x7)]) hO 1 d_X12_may_113 (by decide) 6 rfl (by decide) rfl ?_
  refine g_goto (tgt := 50) hO d_X12_may_116.1 d_X12_may_116.2 ?_
  exact g_sub [1, 2, 3, 4, 5, 6, 0] rfl (hk50 _ _ _ _ _ _ _)
set_option maxRecDepth 20000 in
theorem w_X12_may_104 {Γ : GC} {E : GE} (hO : gOk Γ E cX12_may RX12 9 rm_X12_may (some .int) "may") (o : Nat) {k50 : (Int32 → Int32 → Int32 → Int32 → Int32 → Int32 → GS → Option (Int32 × GS))} (hk50 : ∀ (z3 : Int32) (z4 : Int32) (z5 : Int32) (z6 : Int32) (z7 : Int32) (z8 : Int32) (S1 : GS), Go Γ E (gBsI Γ E) 9 (0, 0) 50 S1 [(0, vA (some o)), (3, vI z3), (4, vI z4), (5, vI z5), (6, vI z6), (7, vI z7), (8, vI z8)] [] (k50 z3 z4 z5 z6 z7 z8 S1)) (x3 : Int32) (x4 : Int32) (x7 : Int32) (x8 : Int32) (y0 : Int32) (S : GS) : Go Γ E (gBsI Γ E) 9 (0, 0) 104 S [(0, vA (some o)), (3, vI x3), (4, vI x4), (7, vI x7), (8, vI x8)] [vI y0] (f_X12_may_104 k50 o x3 x4 x7 x8 y0 S) := by
  unfold f_X12_may_104
  refine g_istore (lv' := [(5, vI y0), (0, vA (some o)), (3, vI x3), (4, vI x4), (7, vI x7), (8, vI x8)]) hO d_X12_may_104 (by decide) rfl ?_
  refine g_iload hO d_X12_may_106 5 rfl ?_
  refine g_istore (lv' := [(6, vI x8), (5, vI y0), (0, vA (some o)), (3, vI x3), (4, vI x4), (7, vI x7), (8, vI x8)]) hO d_X12_may_108 (by decide) rfl ?_
  refine g_iinc (lv' := [(7, vI (x7 + 1)), (6, vI x8), (5, vI y0), (0, vA (some o)), (3, vI x3), (4, vI x4), (8, vI x8)]) hO 1 d_X12_may_110 (by decide) 5 rfl (by decide) rfl ?_
  exact g_sub [3, 4, 5, 2, 1, 0, 6] rfl (w_X12_may_113 hO o hk50 _ _ _ _ _ _ _)
set_option maxRecDepth 20000 in
theorem w_X12_may_50 {Γ : GC} {E : GE} (hO : gOk Γ E cX12_may RX12 9 rm_X12_may (some .int) "may") (o : Nat) : ∀ (n : Nat) (x3 : Int32) (x4 : Int32) (x5 : Int32) (x6 : Int32) (x7 : Int32) (x8 : Int32) (S : GS), Go Γ E (gBsI Γ E) 9 (0, 0) 50 S [(0, vA (some o)), (3, vI x3), (4, vI x4), (5, vI x5), (6, vI x6), (7, vI x7), (8, vI x8)] [] (f_X12_may_50 o n x3 x4 x5 x6 x7 x8 S) := by
  intro n
  induction n with
  | zero =>
    intro x3 x4 x5 x6 x7 x8 S
    exact g_none
  | succ n ih =>
    intro x3 x4 x5 x6 x7 x8 S
    rw [f_X12_may_50]
    refine g_iload hO d_X12_may_50 6 rfl ?_
    refine g_bipush hO 40 d_X12_may_52 (by decide) ?_
    refine g_ic_gt (tgt := 119) hO d_X12_may_54.1 d_X12_may_54.2 (fun _ => ?_) (fun _ => ?_)
    · skip
      refine g_iload hO d_X12_may_119 2 rfl ?_
      refine g_if_ne (tgt := 129) hO d_X12_may_121.1 d_X12_may_121.2 (fun _ => ?_) (fun _ => ?_)
      · skip
        refine g_iload hO d_X12_may_124 3 rfl ?_
        refine g_goto (tgt := 152) hO d_X12_may_126.1 d_X12_may_126.2 ?_
        exact g_ret hO rfl rfl ⟨Nat.le_of_ble_eq_true rfl, Nat.le_of_ble_eq_true rfl⟩ rfl rfl d_X12_may_152.1
      · skip
        refine g_iload hO d_X12_may_129 2 rfl ?_
        refine g_iconst hO 1 d_X12_may_131 (by decide) ?_
        refine g_ic_ne (tgt := 140) hO d_X12_may_132.1 d_X12_may_132.2 (fun _ => ?_) (fun _ => ?_)
        · skip
          refine g_iload hO d_X12_may_135 4 rfl ?_
          refine g_goto (tgt := 152) hO d_X12_may_137.1 d_X12_may_137.2 ?_
          exact g_ret hO rfl rfl ⟨Nat.le_of_ble_eq_true rfl, Nat.le_of_ble_eq_true rfl⟩ rfl rfl d_X12_may_152.1
        · skip
          refine g_iload hO d_X12_may_140 5 rfl ?_
          refine g_iconst hO 1 d_X12_may_142 (by decide) ?_
          refine g_ic_ne (tgt := 151) hO d_X12_may_143.1 d_X12_may_143.2 (fun _ => ?_) (fun _ => ?_)
          · skip
            refine g_iload hO d_X12_may_146 3 rfl ?_
            refine g_goto (tgt := 152) hO d_X12_may_148.1 d_X12_may_148.2 ?_
            exact g_ret hO rfl rfl ⟨Nat.le_of_ble_eq_true rfl, Nat.le_of_ble_eq_true rfl⟩ rfl rfl d_X12_may_152.1
          · skip
            refine g_iconst hO (-1) d_X12_may_151 (by decide) ?_
            exact g_ret hO rfl rfl ⟨Nat.le_of_ble_eq_true rfl, Nat.le_of_ble_eq_true rfl⟩ rfl rfl d_X12_may_152.1
    · skip
      refine g_aload_n hO d_X12_may_57 (by rfl) 0 rfl ?_
      refine h_getR hO cl_X12 53 rfl wf_X12_81 d_X12_may_58 (fun v1 => ?_)
      refine g_bipush hO 41 d_X12_may_61 (by decide) ?_
      refine g_iload_n hO d_X12_may_63 (by rfl) 1 rfl ?_
      refine g_imul hO d_X12_may_64 ?_
      refine g_iload hO d_X12_may_65 6 rfl ?_
      refine g_iadd hO d_X12_may_67 ?_
      refine h_lald hO d_X12_may_68 (fun v2 => ?_)
      refine g_lconst hO 0 d_X12_may_69 (by decide) ?_
      refine g_lcmp hO d_X12_may_70 ?_
      refine g_if_le (tgt := 113) hO d_X12_may_71.1 d_X12_may_71.2 (fun _ => ?_) (fun _ => ?_)
      · skip
        exact g_sub [0, 1, 2, 3, 4, 5, 6] rfl (w_X12_may_113 hO o ih _ _ _ _ _ _ _)
      · skip
        refine g_aload_n hO d_X12_may_74 (by rfl) 0 rfl ?_
        refine h_getR hO cl_X12 54 rfl wf_X12_84 d_X12_may_75 (fun v3 => ?_)
        refine g_bipush hO 41 d_X12_may_78 (by decide) ?_
        refine g_iload_n hO d_X12_may_80 (by rfl) 1 rfl ?_
        refine g_imul hO d_X12_may_81 ?_
        refine g_iload hO d_X12_may_82 6 rfl ?_
        refine g_iadd hO d_X12_may_84 ?_
        refine h_lald hO d_X12_may_85 (fun v4 => ?_)
        refine g_lconst hO 0 d_X12_may_86 (by decide) ?_
        refine g_lcmp hO d_X12_may_87 ?_
        refine g_if_le (tgt := 113) hO d_X12_may_88.1 d_X12_may_88.2 (fun _ => ?_) (fun _ => ?_)
        · skip
          exact g_sub [0, 1, 2, 3, 4, 5, 6] rfl (w_X12_may_113 hO o ih _ _ _ _ _ _ _)
        · skip
          refine g_iload hO d_X12_may_91 3 rfl ?_
          refine g_iconst hO (-1) d_X12_may_93 (by decide) ?_
          refine g_ic_ne (tgt := 102) hO d_X12_may_94.1 d_X12_may_94.2 (fun _ => ?_) (fun _ => ?_)
          · skip
            refine g_iload hO d_X12_may_97 6 rfl ?_
            refine g_goto (tgt := 104) hO d_X12_may_99.1 d_X12_may_99.2 ?_
            exact g_sub [0, 1, 2, 5, 6] rfl (w_X12_may_104 hO o ih _ _ _ _ _ _)
          · skip
            refine g_iload hO d_X12_may_102 3 rfl ?_
            exact g_sub [0, 1, 2, 5, 6] rfl (w_X12_may_104 hO o ih _ _ _ _ _ _)
set_option maxRecDepth 20000 in
theorem w_X12_may {Γ : GC} {E : GE} (hO : gOk Γ E cX12_may RX12 9 rm_X12_may (some .int) "may") (o : Nat) (x1 : Int32) (x2 : Int32) (x3 : Int32) (x4 : Int32) (S : GS) : Go Γ E (gBsI Γ E) 9 (0, 0) 0 S [(0, vA (some o)), (1, vI x1), (2, vI x2), (3, vI x3), (4, vI x4)] [] (f_X12_may o x1 x2 x3 x4 S) := by
  unfold f_X12_may
  refine g_aload_n hO d_X12_may_0 (by rfl) 0 rfl ?_
  refine g_iconst hO 0 d_X12_may_1 (by decide) ?_
  refine h_putI hO cl_X12 0 rfl rfl wf_X12_100 (Or.inl rfl) d_X12_may_2 (fun S1 => ?_)
  refine g_iload hO d_X12_may_5 4 rfl ?_
  refine g_iconst hO 0 d_X12_may_7 (by decide) ?_
  refine g_iconst hO 2 d_X12_may_8 (by decide) ?_
  refine k_statIp hO mm_X12_in lkS_X12_112 ⟨⟨Nat.le_of_ble_eq_true rfl, Nat.le_of_ble_eq_true rfl⟩, Nat.le_of_ble_eq_true rfl, Nat.le_of_ble_eq_true rfl⟩ (kn' := (0, 0)) rfl (As := [vI x4, vI 0, vI 2]) rfl (Nat.le_of_ble_eq_true rfl) (t_X12_in Γ.2.1 E x4 0 2 S1) d_X12_may_9 rfl (fun v2 => ?_)
  refine g_if_eq (tgt := 36) hO d_X12_may_12.1 d_X12_may_12.2 (fun _ => ?_) (fun _ => ?_)
  · skip
    refine g_iconst hO (-1) d_X12_may_36 (by decide) ?_
    exact g_ret hO rfl rfl ⟨Nat.le_of_ble_eq_true rfl, Nat.le_of_ble_eq_true rfl⟩ rfl rfl d_X12_may_37.1
  · skip
    refine g_aload_n hO d_X12_may_15 (by rfl) 0 rfl ?_
    refine g_iload_n hO d_X12_may_16 (by rfl) 1 rfl ?_
    refine g_iload_n hO d_X12_may_17 (by rfl) 2 rfl ?_
    refine k_virtIs hO cl_X12 mm_X12_laySight lkV_X12_504 ⟨⟨Nat.le_of_ble_eq_true rfl, Nat.le_of_ble_eq_true rfl⟩, Nat.le_of_ble_eq_true rfl, Nat.le_of_ble_eq_true rfl⟩ (kn' := (0, 0)) rfl (As := [vI x1, vI x2]) rfl (Nat.le_of_ble_eq_true rfl) (fun o' _ => t_X12_laySight Γ.2.1 E o' x1 x2 S1) d_X12_may_18 rfl (fun v4 S5 => ?_)
    refine g_if_eq (tgt := 36) hO d_X12_may_21.1 d_X12_may_21.2 (fun _ => ?_) (fun _ => ?_)
    · skip
      refine g_iconst hO (-1) d_X12_may_36 (by decide) ?_
      exact g_ret hO rfl rfl ⟨Nat.le_of_ble_eq_true rfl, Nat.le_of_ble_eq_true rfl⟩ rfl rfl d_X12_may_37.1
    · skip
      refine g_iload_n hO d_X12_may_24 (by rfl) 3 rfl ?_
      refine g_iconst hO 0 d_X12_may_25 (by decide) ?_
      refine g_aload_n hO d_X12_may_26 (by rfl) 0 rfl ?_
      refine h_getI hO cl_X12 52 rfl wf_X12_494 d_X12_may_27 (fun v6 => ?_)
      refine k_statIp hO mm_X12_in lkS_X12_112 ⟨⟨Nat.le_of_ble_eq_true rfl, Nat.le_of_ble_eq_true rfl⟩, Nat.le_of_ble_eq_true rfl, Nat.le_of_ble_eq_true rfl⟩ (kn' := (0, 0)) rfl (As := [vI x3, vI 0, vI v6]) rfl (Nat.le_of_ble_eq_true rfl) (t_X12_in Γ.2.1 E x3 0 v6 S5) d_X12_may_30 rfl (fun v7 => ?_)
      refine g_if_ne (tgt := 38) hO d_X12_may_33.1 d_X12_may_33.2 (fun _ => ?_) (fun _ => ?_)
      · skip
        refine g_iconst hO (-1) d_X12_may_36 (by decide) ?_
        exact g_ret hO rfl rfl ⟨Nat.le_of_ble_eq_true rfl, Nat.le_of_ble_eq_true rfl⟩ rfl rfl d_X12_may_37.1
      · skip
        refine g_iconst hO (-1) d_X12_may_38 (by decide) ?_
        refine g_istore (lv' := [(5, vI (-1)), (0, vA (some o)), (1, vI x1), (2, vI x2), (3, vI x3), (4, vI x4)]) hO d_X12_may_39 (by decide) rfl ?_
        refine g_iconst hO (-1) d_X12_may_41 (by decide) ?_
        refine g_istore (lv' := [(6, vI (-1)), (5, vI (-1)), (0, vA (some o)), (1, vI x1), (2, vI x2), (3, vI x3), (4, vI x4)]) hO d_X12_may_42 (by decide) rfl ?_
        refine g_iconst hO 0 d_X12_may_44 (by decide) ?_
        refine g_istore (lv' := [(7, vI 0), (6, vI (-1)), (5, vI (-1)), (0, vA (some o)), (1, vI x1), (2, vI x2), (3, vI x3), (4, vI x4)]) hO d_X12_may_45 (by decide) rfl ?_
        refine g_iconst hO 0 d_X12_may_47 (by decide) ?_
        refine g_istore (lv' := [(8, vI 0), (7, vI 0), (6, vI (-1)), (5, vI (-1)), (0, vA (some o)), (1, vI x1), (2, vI x2), (3, vI x3), (4, vI x4)]) hO d_X12_may_48 (by decide) rfl ?_
        exact g_sub [4, 7, 8, 3, 2, 1, 0] rfl (w_X12_may_50 hO o _ _ _ _ _ _ _ _)
theorem t_X12_may (l : Launch) (E : GE) (o : Nat) (x1 : Int32) (x2 : Int32) (x3 : Int32) (x4 : Int32) (S : GS) : ∀ a, f_X12_may o x1 x2 x3 x4 S = some a → Ct l E yX12_may cX12_may 9 (some .int) rm_X12_may [vA (some o), vI x1, vI x2, vI x3, vI x4] S (some (vI a.1)) a.2 :=
  Ct_of (val := fun (b : Int32 × GS) => some (vI b.1)) (nxt := fun (b : Int32 × GS) => b.2) (by decide) (Nat.le_of_ble_eq_true rfl) (fun Γ hl hO => w_X12_may hO o x1 x2 x3 x4 S)
theorem d_X12_spy_0 : gD cX12_spy 0 (.aload_n 0) 1 1 := ⟨by decide +kernel, rfl⟩
theorem d_X12_spy_1 : gD cX12_spy 1 (.iconst 0) 1 2 := ⟨by decide +kernel, rfl⟩
theorem d_X12_spy_2 : gD cX12_spy 2 (.putfield 100) 3 5 := ⟨by decide +kernel, rfl⟩
theorem d_X12_spy_5 : gD cX12_spy 5 (.aload_n 0) 1 6 := ⟨by decide +kernel, rfl⟩
theorem d_X12_spy_6 : gD cX12_spy 6 (.iload_n 2) 1 7 := ⟨by decide +kernel, rfl⟩
theorem d_X12_spy_7 : gD cX12_spy 7 (.invokevirtual 479) 3 10 := ⟨by decide +kernel, rfl⟩
theorem d_X12_spy_10 : gD cX12_spy 10 (.ifCond .eq 19) 3 13 ∧ ((10 : Nat) : Int) + 19 = ((29 : Nat) : Int) := ⟨⟨by decide +kernel, rfl⟩, by decide⟩
theorem d_X12_spy_13 : gD cX12_spy 13 (.aload_n 0) 1 14 := ⟨by decide +kernel, rfl⟩
theorem d_X12_spy_14 : gD cX12_spy 14 (.iload_n 1) 1 15 := ⟨by decide +kernel, rfl⟩
theorem d_X12_spy_15 : gD cX12_spy 15 (.invokevirtual 297) 3 18 := ⟨by decide +kernel, rfl⟩
theorem d_X12_spy_18 : gD cX12_spy 18 (.ifCond .eq 11) 3 21 ∧ ((18 : Nat) : Int) + 11 = ((29 : Nat) : Int) := ⟨⟨by decide +kernel, rfl⟩, by decide⟩
theorem d_X12_spy_21 : gD cX12_spy 21 (.aload_n 0) 1 22 := ⟨by decide +kernel, rfl⟩
theorem d_X12_spy_22 : gD cX12_spy 22 (.iload_n 3) 1 23 := ⟨by decide +kernel, rfl⟩
theorem d_X12_spy_23 : gD cX12_spy 23 (.invokevirtual 303) 3 26 := ⟨by decide +kernel, rfl⟩
theorem d_X12_spy_26 : gD cX12_spy 26 (.ifCond .ne 5) 3 29 ∧ ((26 : Nat) : Int) + 5 = ((31 : Nat) : Int) := ⟨⟨by decide +kernel, rfl⟩, by decide⟩
theorem d_X12_spy_29 : gD cX12_spy 29 (.iconst (-1)) 1 30 := ⟨by decide +kernel, rfl⟩
theorem d_X12_spy_30 : gD cX12_spy 30 (.ireturn) 1 31 := ⟨by decide +kernel, rfl⟩
theorem d_X12_spy_31 : gD cX12_spy 31 (.iconst 0) 1 32 := ⟨by decide +kernel, rfl⟩
theorem d_X12_spy_32 : gD cX12_spy 32 (.istore 4) 2 34 := ⟨by decide +kernel, rfl⟩
theorem d_X12_spy_34 : gD cX12_spy 34 (.iconst 0) 1 35 := ⟨by decide +kernel, rfl⟩
theorem d_X12_spy_35 : gD cX12_spy 35 (.istore 5) 2 37 := ⟨by decide +kernel, rfl⟩
theorem d_X12_spy_37 : gD cX12_spy 37 (.iload 5) 2 39 := ⟨by decide +kernel, rfl⟩
theorem d_X12_spy_39 : gD cX12_spy 39 (.bipush 31) 2 41 := ⟨by decide +kernel, rfl⟩
theorem d_X12_spy_41 : gD cX12_spy 41 (.if_icmp .ge 111) 3 44 ∧ ((41 : Nat) : Int) + 111 = ((152 : Nat) : Int) := ⟨⟨by decide +kernel, rfl⟩, by decide⟩
theorem d_X12_spy_44 : gD cX12_spy 44 (.iconst 1) 1 45 := ⟨by decide +kernel, rfl⟩
theorem d_X12_spy_45 : gD cX12_spy 45 (.istore 6) 2 47 := ⟨by decide +kernel, rfl⟩
theorem d_X12_spy_47 : gD cX12_spy 47 (.iconst 0) 1 48 := ⟨by decide +kernel, rfl⟩
theorem d_X12_spy_48 : gD cX12_spy 48 (.istore 7) 2 50 := ⟨by decide +kernel, rfl⟩
theorem d_X12_spy_50 : gD cX12_spy 50 (.iload 7) 2 52 := ⟨by decide +kernel, rfl⟩
theorem d_X12_spy_52 : gD cX12_spy 52 (.aload_n 0) 1 53 := ⟨by decide +kernel, rfl⟩
theorem d_X12_spy_53 : gD cX12_spy 53 (.invokevirtual 485) 3 56 := ⟨by decide +kernel, rfl⟩
theorem d_X12_spy_56 : gD cX12_spy 56 (.if_icmp .ge 72) 3 59 ∧ ((56 : Nat) : Int) + 72 = ((128 : Nat) : Int) := ⟨⟨by decide +kernel, rfl⟩, by decide⟩
theorem d_X12_spy_59 : gD cX12_spy 59 (.iload 6) 2 61 := ⟨by decide +kernel, rfl⟩
theorem d_X12_spy_61 : gD cX12_spy 61 (.ifCond .eq 58) 3 64 ∧ ((61 : Nat) : Int) + 58 = ((119 : Nat) : Int) := ⟨⟨by decide +kernel, rfl⟩, by decide⟩
theorem d_X12_spy_64 : gD cX12_spy 64 (.aload_n 0) 1 65 := ⟨by decide +kernel, rfl⟩
theorem d_X12_spy_65 : gD cX12_spy 65 (.iload 7) 2 67 := ⟨by decide +kernel, rfl⟩
theorem d_X12_spy_67 : gD cX12_spy 67 (.iconst 0) 1 68 := ⟨by decide +kernel, rfl⟩
theorem d_X12_spy_68 : gD cX12_spy 68 (.invokevirtual 491) 3 71 := ⟨by decide +kernel, rfl⟩
theorem d_X12_spy_71 : gD cX12_spy 71 (.iload_n 3) 1 72 := ⟨by decide +kernel, rfl⟩
theorem d_X12_spy_72 : gD cX12_spy 72 (.if_icmp .ne 43) 3 75 ∧ ((72 : Nat) : Int) + 43 = ((115 : Nat) : Int) := ⟨⟨by decide +kernel, rfl⟩, by decide⟩
theorem d_X12_spy_75 : gD cX12_spy 75 (.aload_n 0) 1 76 := ⟨by decide +kernel, rfl⟩
theorem d_X12_spy_76 : gD cX12_spy 76 (.iload_n 3) 1 77 := ⟨by decide +kernel, rfl⟩
theorem d_X12_spy_77 : gD cX12_spy 77 (.iload 5) 2 79 := ⟨by decide +kernel, rfl⟩
theorem d_X12_spy_79 : gD cX12_spy 79 (.aload_n 0) 1 80 := ⟨by decide +kernel, rfl⟩
theorem d_X12_spy_80 : gD cX12_spy 80 (.iload 7) 2 82 := ⟨by decide +kernel, rfl⟩
theorem d_X12_spy_82 : gD cX12_spy 82 (.iconst 1) 1 83 := ⟨by decide +kernel, rfl⟩
theorem d_X12_spy_83 : gD cX12_spy 83 (.invokevirtual 491) 3 86 := ⟨by decide +kernel, rfl⟩
theorem d_X12_spy_86 : gD cX12_spy 86 (.invokevirtual 309) 3 89 := ⟨by decide +kernel, rfl⟩
theorem d_X12_spy_89 : gD cX12_spy 89 (.ifCond .ne 7) 3 92 ∧ ((89 : Nat) : Int) + 7 = ((96 : Nat) : Int) := ⟨⟨by decide +kernel, rfl⟩, by decide⟩
theorem d_X12_spy_92 : gD cX12_spy 92 (.iconst 1) 1 93 := ⟨by decide +kernel, rfl⟩
theorem d_X12_spy_93 : decode cX12_spy 93 = .ok (.goto 4, 3) ∧ ((93 : Nat) : Int) + 4 = ((97 : Nat) : Int) := ⟨by decide +kernel, by decide⟩
theorem d_X12_spy_96 : gD cX12_spy 96 (.iconst 0) 1 97 := ⟨by decide +kernel, rfl⟩
theorem d_X12_spy_97 : gD cX12_spy 97 (.aload_n 0) 1 98 := ⟨by decide +kernel, rfl⟩
theorem d_X12_spy_98 : gD cX12_spy 98 (.iload 7) 2 100 := ⟨by decide +kernel, rfl⟩
theorem d_X12_spy_100 : gD cX12_spy 100 (.iconst 2) 1 101 := ⟨by decide +kernel, rfl⟩
theorem d_X12_spy_101 : gD cX12_spy 101 (.invokevirtual 491) 3 104 := ⟨by decide +kernel, rfl⟩
theorem d_X12_spy_104 : gD cX12_spy 104 (.ifCond .ne 7) 3 107 ∧ ((104 : Nat) : Int) + 7 = ((111 : Nat) : Int) := ⟨⟨by decide +kernel, rfl⟩, by decide⟩
theorem d_X12_spy_107 : gD cX12_spy 107 (.iconst 1) 1 108 := ⟨by decide +kernel, rfl⟩
theorem d_X12_spy_108 : decode cX12_spy 108 = .ok (.goto 4, 3) ∧ ((108 : Nat) : Int) + 4 = ((112 : Nat) : Int) := ⟨by decide +kernel, by decide⟩
theorem d_X12_spy_111 : gD cX12_spy 111 (.iconst 0) 1 112 := ⟨by decide +kernel, rfl⟩
theorem d_X12_spy_112 : gD cX12_spy 112 (.if_icmp .ne 7) 3 115 ∧ ((112 : Nat) : Int) + 7 = ((119 : Nat) : Int) := ⟨⟨by decide +kernel, rfl⟩, by decide⟩
theorem d_X12_spy_115 : gD cX12_spy 115 (.iconst 1) 1 116 := ⟨by decide +kernel, rfl⟩
theorem d_X12_spy_116 : decode cX12_spy 116 = .ok (.goto 4, 3) ∧ ((116 : Nat) : Int) + 4 = ((120 : Nat) : Int) := ⟨by decide +kernel, by decide⟩
theorem d_X12_spy_119 : gD cX12_spy 119 (.iconst 0) 1 120 := ⟨by decide +kernel, rfl⟩
theorem d_X12_spy_120 : gD cX12_spy 120 (.istore 6) 2 122 := ⟨by decide +kernel, rfl⟩
theorem d_X12_spy_122 : gD cX12_spy 122 (.iinc 7 1) 3 125 := ⟨by decide +kernel, rfl⟩
theorem d_X12_spy_125 : decode cX12_spy 125 = .ok (.goto (-75), 3) ∧ ((125 : Nat) : Int) + (-75) = ((50 : Nat) : Int) := ⟨by decide +kernel, by decide⟩
theorem d_X12_spy_128 : gD cX12_spy 128 (.iload 4) 2 130 := ⟨by decide +kernel, rfl⟩
theorem d_X12_spy_130 : gD cX12_spy 130 (.iload 6) 2 132 := ⟨by decide +kernel, rfl⟩
theorem d_X12_spy_132 : gD cX12_spy 132 (.ifCond .eq 10) 3 135 ∧ ((132 : Nat) : Int) + 10 = ((142 : Nat) : Int) := ⟨⟨by decide +kernel, rfl⟩, by decide⟩
theorem d_X12_spy_135 : gD cX12_spy 135 (.iconst 1) 1 136 := ⟨by decide +kernel, rfl⟩
theorem d_X12_spy_136 : gD cX12_spy 136 (.iload 5) 2 138 := ⟨by decide +kernel, rfl⟩
theorem d_X12_spy_138 : gD cX12_spy 138 (.ishl) 1 139 := ⟨by decide +kernel, rfl⟩
theorem d_X12_spy_139 : decode cX12_spy 139 = .ok (.goto 4, 3) ∧ ((139 : Nat) : Int) + 4 = ((143 : Nat) : Int) := ⟨by decide +kernel, by decide⟩
theorem d_X12_spy_142 : gD cX12_spy 142 (.iconst 0) 1 143 := ⟨by decide +kernel, rfl⟩
theorem d_X12_spy_143 : gD cX12_spy 143 (.ior) 1 144 := ⟨by decide +kernel, rfl⟩
theorem d_X12_spy_144 : gD cX12_spy 144 (.istore 4) 2 146 := ⟨by decide +kernel, rfl⟩
theorem d_X12_spy_146 : gD cX12_spy 146 (.iinc 5 1) 3 149 := ⟨by decide +kernel, rfl⟩
theorem d_X12_spy_149 : decode cX12_spy 149 = .ok (.goto (-112), 3) ∧ ((149 : Nat) : Int) + (-112) = ((37 : Nat) : Int) := ⟨by decide +kernel, by decide⟩
theorem d_X12_spy_152 : gD cX12_spy 152 (.iload 4) 2 154 := ⟨by decide +kernel, rfl⟩
theorem d_X12_spy_154 : gD cX12_spy 154 (.ireturn) 1 155 := ⟨by decide +kernel, rfl⟩
abbrev rm_X12_spy : Room := { frames := 3, cells := 0, slots := 0, locals := 66 }
set_option maxRecDepth 20000 in
theorem w_X12_spy_120 {Γ : GC} {E : GE} (hO : gOk Γ E cX12_spy RX12 8 rm_X12_spy (some .int) "spy") (o : Nat) {k37 : (Int32 → Int32 → Int32 → GS → Option (Int32 × GS))} {k50 : (Int32 → Int32 → Int32 → Int32 → Int32 → GS → Option (Int32 × GS))} (hk37 : ∀ (z3 : Int32) (z4 : Int32) (z5 : Int32) (S1 : GS), Go Γ E (gBsI Γ E) 8 (0, 0) 37 S1 [(0, vA (some o)), (3, vI z3), (4, vI z4), (5, vI z5)] [] (k37 z3 z4 z5 S1)) (hk50 : ∀ (z3 : Int32) (z4 : Int32) (z5 : Int32) (z6 : Int32) (z7 : Int32) (S1 : GS), Go Γ E (gBsI Γ E) 8 (0, 0) 50 S1 [(0, vA (some o)), (3, vI z3), (4, vI z4), (5, vI z5), (6, vI z6), (7, vI z7)] [] (k50 z3 z4 z5 z6 z7 S1)) (x3 : Int32) (x4 : Int32) (x5 : Int32) (x7 : Int32) (y0 : Int32) (S : GS) : Go Γ E (gBsI Γ E) 8 (0, 0) 120 S [(0, vA (some o)), (3, vI x3), (4, vI x4), (5, vI x5), (7, vI x7)] [vI y0] (f_X12_spy_120 k37 k50 o x3 x4 x5 x7 y0 S) := by
  unfold f_X12_spy_120
  refine g_istore (lv' := [(6, vI y0), (0, vA (some o)), (3, vI x3), (4, vI x4), (5, vI x5), (7, vI x7)]) hO d_X12_spy_120 (by decide) rfl ?_
  refine g_iinc (lv' := [(7, vI (x7 + 1)), (6, vI y0), (0, vA (some o)), (3, vI x3), (4, vI x4), (5, vI x5)]) hO 1 d_X12_spy_122 (by decide) 5 rfl (by decide) rfl ?_
  refine g_goto (tgt := 50) hO d_X12_spy_125.1 d_X12_spy_125.2 ?_
  exact g_sub [2, 3, 4, 5, 1, 0] rfl (hk50 _ _ _ _ _ _)
set_option maxRecDepth 20000 in
theorem w_X12_spy_115 {Γ : GC} {E : GE} (hO : gOk Γ E cX12_spy RX12 8 rm_X12_spy (some .int) "spy") (o : Nat) {k37 : (Int32 → Int32 → Int32 → GS → Option (Int32 × GS))} {k50 : (Int32 → Int32 → Int32 → Int32 → Int32 → GS → Option (Int32 × GS))} (hk37 : ∀ (z3 : Int32) (z4 : Int32) (z5 : Int32) (S1 : GS), Go Γ E (gBsI Γ E) 8 (0, 0) 37 S1 [(0, vA (some o)), (3, vI z3), (4, vI z4), (5, vI z5)] [] (k37 z3 z4 z5 S1)) (hk50 : ∀ (z3 : Int32) (z4 : Int32) (z5 : Int32) (z6 : Int32) (z7 : Int32) (S1 : GS), Go Γ E (gBsI Γ E) 8 (0, 0) 50 S1 [(0, vA (some o)), (3, vI z3), (4, vI z4), (5, vI z5), (6, vI z6), (7, vI z7)] [] (k50 z3 z4 z5 z6 z7 S1)) (x3 : Int32) (x4 : Int32) (x5 : Int32) (x7 : Int32) (S : GS) : Go Γ E (gBsI Γ E) 8 (0, 0) 115 S [(0, vA (some o)), (3, vI x3), (4, vI x4), (5, vI x5), (7, vI x7)] [] (f_X12_spy_115 k37 k50 o x3 x4 x5 x7 S) := by
  unfold f_X12_spy_115
  refine g_iconst hO 1 d_X12_spy_115 (by decide) ?_
  refine g_goto (tgt := 120) hO d_X12_spy_116.1 d_X12_spy_116.2 ?_
  exact g_sub [0, 1, 2, 3, 4] rfl (w_X12_spy_120 hO o hk37 hk50 _ _ _ _ _ _)
set_option maxRecDepth 20000 in
theorem w_X12_spy_119 {Γ : GC} {E : GE} (hO : gOk Γ E cX12_spy RX12 8 rm_X12_spy (some .int) "spy") (o : Nat) {k37 : (Int32 → Int32 → Int32 → GS → Option (Int32 × GS))} {k50 : (Int32 → Int32 → Int32 → Int32 → Int32 → GS → Option (Int32 × GS))} (hk37 : ∀ (z3 : Int32) (z4 : Int32) (z5 : Int32) (S1 : GS), Go Γ E (gBsI Γ E) 8 (0, 0) 37 S1 [(0, vA (some o)), (3, vI z3), (4, vI z4), (5, vI z5)] [] (k37 z3 z4 z5 S1)) (hk50 : ∀ (z3 : Int32) (z4 : Int32) (z5 : Int32) (z6 : Int32) (z7 : Int32) (S1 : GS), Go Γ E (gBsI Γ E) 8 (0, 0) 50 S1 [(0, vA (some o)), (3, vI z3), (4, vI z4), (5, vI z5), (6, vI z6), (7, vI z7)] [] (k50 z3 z4 z5 z6 z7 S1)) (x3 : Int32) (x4 : Int32) (x5 : Int32) (x7 : Int32) (S : GS) : Go Γ E (gBsI Γ E) 8 (0, 0) 119 S [(0, vA (some o)), (3, vI x3), (4, vI x4), (5, vI x5), (7, vI x7)] [] (f_X12_spy_119 k37 k50 o x3 x4 x5 x7 S) := by
  unfold f_X12_spy_119
  refine g_iconst hO 0 d_X12_spy_119 (by decide) ?_
  exact g_sub [0, 1, 2, 3, 4] rfl (w_X12_spy_120 hO o hk37 hk50 _ _ _ _ _ _)
set_option maxRecDepth 20000 in
theorem w_X12_spy_112 {Γ : GC} {E : GE} (hO : gOk Γ E cX12_spy RX12 8 rm_X12_spy (some .int) "spy") (o : Nat) {k37 : (Int32 → Int32 → Int32 → GS → Option (Int32 × GS))} {k50 : (Int32 → Int32 → Int32 → Int32 → Int32 → GS → Option (Int32 × GS))} (hk37 : ∀ (z3 : Int32) (z4 : Int32) (z5 : Int32) (S1 : GS), Go Γ E (gBsI Γ E) 8 (0, 0) 37 S1 [(0, vA (some o)), (3, vI z3), (4, vI z4), (5, vI z5)] [] (k37 z3 z4 z5 S1)) (hk50 : ∀ (z3 : Int32) (z4 : Int32) (z5 : Int32) (z6 : Int32) (z7 : Int32) (S1 : GS), Go Γ E (gBsI Γ E) 8 (0, 0) 50 S1 [(0, vA (some o)), (3, vI z3), (4, vI z4), (5, vI z5), (6, vI z6), (7, vI z7)] [] (k50 z3 z4 z5 z6 z7 S1)) (x3 : Int32) (x4 : Int32) (x5 : Int32) (x7 : Int32) (y0 : Int32) (y1 : Int32) (S : GS) : Go Γ E (gBsI Γ E) 8 (0, 0) 112 S [(0, vA (some o)), (3, vI x3), (4, vI x4), (5, vI x5), (7, vI x7)] [vI y1, vI y0] (f_X12_spy_112 k37 k50 o x3 x4 x5 x7 y0 y1 S) := by
  unfold f_X12_spy_112
  refine g_ic_ne (tgt := 119) hO d_X12_spy_112.1 d_X12_spy_112.2 (fun _ => ?_) (fun _ => ?_)
  · skip
    exact g_sub [0, 1, 2, 3, 4] rfl (w_X12_spy_115 hO o hk37 hk50 _ _ _ _ _)
  · skip
    exact g_sub [0, 1, 2, 3, 4] rfl (w_X12_spy_119 hO o hk37 hk50 _ _ _ _ _)
set_option maxRecDepth 20000 in
theorem w_X12_spy_97 {Γ : GC} {E : GE} (hO : gOk Γ E cX12_spy RX12 8 rm_X12_spy (some .int) "spy") (o : Nat) {k37 : (Int32 → Int32 → Int32 → GS → Option (Int32 × GS))} {k50 : (Int32 → Int32 → Int32 → Int32 → Int32 → GS → Option (Int32 × GS))} (hk37 : ∀ (z3 : Int32) (z4 : Int32) (z5 : Int32) (S1 : GS), Go Γ E (gBsI Γ E) 8 (0, 0) 37 S1 [(0, vA (some o)), (3, vI z3), (4, vI z4), (5, vI z5)] [] (k37 z3 z4 z5 S1)) (hk50 : ∀ (z3 : Int32) (z4 : Int32) (z5 : Int32) (z6 : Int32) (z7 : Int32) (S1 : GS), Go Γ E (gBsI Γ E) 8 (0, 0) 50 S1 [(0, vA (some o)), (3, vI z3), (4, vI z4), (5, vI z5), (6, vI z6), (7, vI z7)] [] (k50 z3 z4 z5 z6 z7 S1)) (x3 : Int32) (x4 : Int32) (x5 : Int32) (x7 : Int32) (y0 : Int32) (S : GS) : Go Γ E (gBsI Γ E) 8 (0, 0) 97 S [(0, vA (some o)), (3, vI x3), (4, vI x4), (5, vI x5), (7, vI x7)] [vI y0] (f_X12_spy_97 k37 k50 o x3 x4 x5 x7 y0 S) := by
  unfold f_X12_spy_97
  refine g_aload_n hO d_X12_spy_97 (by rfl) 0 rfl ?_
  refine g_iload hO d_X12_spy_98 4 rfl ?_
  refine g_iconst hO 2 d_X12_spy_100 (by decide) ?_
  refine k_virtIp hO cl_X12 mm_X12_shotOf lkV_X12_491 ⟨⟨Nat.le_of_ble_eq_true rfl, Nat.le_of_ble_eq_true rfl⟩, Nat.le_of_ble_eq_true rfl, Nat.le_of_ble_eq_true rfl⟩ (kn' := (0, 0)) rfl (As := [vI x7, vI 2]) rfl (Nat.le_of_ble_eq_true rfl) (fun o' _ => t_X12_shotOf Γ.2.1 E o' x7 2 S) d_X12_spy_101 rfl (fun v1 => ?_)
  refine g_if_ne (tgt := 111) hO d_X12_spy_104.1 d_X12_spy_104.2 (fun _ => ?_) (fun _ => ?_)
  · skip
    refine g_iconst hO 1 d_X12_spy_107 (by decide) ?_
    refine g_goto (tgt := 112) hO d_X12_spy_108.1 d_X12_spy_108.2 ?_
    exact g_sub [0, 1, 2, 3, 4] rfl (w_X12_spy_112 hO o hk37 hk50 _ _ _ _ _ _ _)
  · skip
    refine g_iconst hO 0 d_X12_spy_111 (by decide) ?_
    exact g_sub [0, 1, 2, 3, 4] rfl (w_X12_spy_112 hO o hk37 hk50 _ _ _ _ _ _ _)
set_option maxRecDepth 20000 in
theorem w_X12_spy_143 {Γ : GC} {E : GE} (hO : gOk Γ E cX12_spy RX12 8 rm_X12_spy (some .int) "spy") (o : Nat) {k37 : (Int32 → Int32 → Int32 → GS → Option (Int32 × GS))} (hk37 : ∀ (z3 : Int32) (z4 : Int32) (z5 : Int32) (S1 : GS), Go Γ E (gBsI Γ E) 8 (0, 0) 37 S1 [(0, vA (some o)), (3, vI z3), (4, vI z4), (5, vI z5)] [] (k37 z3 z4 z5 S1)) (x3 : Int32) (x5 : Int32) (y0 : Int32) (y1 : Int32) (S : GS) : Go Γ E (gBsI Γ E) 8 (0, 0) 143 S [(0, vA (some o)), (3, vI x3), (5, vI x5)] [vI y1, vI y0] (f_X12_spy_143 k37 o x3 x5 y0 y1 S) := by
  unfold f_X12_spy_143
  refine g_ior hO d_X12_spy_143 ?_
  refine g_istore (lv' := [(4, vI (y0 ||| y1)), (0, vA (some o)), (3, vI x3), (5, vI x5)]) hO d_X12_spy_144 (by decide) rfl ?_
  refine g_iinc (lv' := [(5, vI (x5 + 1)), (4, vI (y0 ||| y1)), (0, vA (some o)), (3, vI x3)]) hO 1 d_X12_spy_146 (by decide) 3 rfl (by decide) rfl ?_
  refine g_goto (tgt := 37) hO d_X12_spy_149.1 d_X12_spy_149.2 ?_
  exact g_sub [2, 3, 1, 0] rfl (hk37 _ _ _ _)
set_option maxRecDepth 20000 in
theorem w_X12_spy_50 {Γ : GC} {E : GE} (hO : gOk Γ E cX12_spy RX12 8 rm_X12_spy (some .int) "spy") (o : Nat) {k37 : (Int32 → Int32 → Int32 → GS → Option (Int32 × GS))} (hk37 : ∀ (z3 : Int32) (z4 : Int32) (z5 : Int32) (S1 : GS), Go Γ E (gBsI Γ E) 8 (0, 0) 37 S1 [(0, vA (some o)), (3, vI z3), (4, vI z4), (5, vI z5)] [] (k37 z3 z4 z5 S1)) : ∀ (n : Nat) (x3 : Int32) (x4 : Int32) (x5 : Int32) (x6 : Int32) (x7 : Int32) (S : GS), Go Γ E (gBsI Γ E) 8 (0, 0) 50 S [(0, vA (some o)), (3, vI x3), (4, vI x4), (5, vI x5), (6, vI x6), (7, vI x7)] [] (f_X12_spy_50 k37 o n x3 x4 x5 x6 x7 S) := by
  intro n
  induction n with
  | zero =>
    intro x3 x4 x5 x6 x7 S
    exact g_none
  | succ n ih =>
    intro x3 x4 x5 x6 x7 S
    rw [f_X12_spy_50]
    refine g_iload hO d_X12_spy_50 5 rfl ?_
    refine g_aload_n hO d_X12_spy_52 (by rfl) 0 rfl ?_
    refine k_virtIp hO cl_X12 mm_X12_shotMany lkV_X12_485 ⟨⟨Nat.le_of_ble_eq_true rfl, Nat.le_of_ble_eq_true rfl⟩, Nat.le_of_ble_eq_true rfl, Nat.le_of_ble_eq_true rfl⟩ (kn' := (0, 0)) rfl (As := []) rfl (Nat.le_of_ble_eq_true rfl) (fun o' _ => t_X12_shotMany Γ.2.1 E o' S) d_X12_spy_53 rfl (fun v1 => ?_)
    refine g_ic_ge (tgt := 128) hO d_X12_spy_56.1 d_X12_spy_56.2 (fun _ => ?_) (fun _ => ?_)
    · skip
      refine g_iload hO d_X12_spy_128 2 rfl ?_
      refine g_iload hO d_X12_spy_130 4 rfl ?_
      refine g_if_eq (tgt := 142) hO d_X12_spy_132.1 d_X12_spy_132.2 (fun _ => ?_) (fun _ => ?_)
      · skip
        refine g_iconst hO 0 d_X12_spy_142 (by decide) ?_
        exact g_sub [0, 1, 3] rfl (w_X12_spy_143 hO o hk37 _ _ _ _ _)
      · skip
        refine g_iconst hO 1 d_X12_spy_135 (by decide) ?_
        refine g_iload hO d_X12_spy_136 3 rfl ?_
        refine g_ishl hO d_X12_spy_138 ?_
        refine g_goto (tgt := 143) hO d_X12_spy_139.1 d_X12_spy_139.2 ?_
        exact g_sub [0, 1, 3] rfl (w_X12_spy_143 hO o hk37 _ _ _ _ _)
    · skip
      refine g_iload hO d_X12_spy_59 4 rfl ?_
      refine g_if_eq (tgt := 119) hO d_X12_spy_61.1 d_X12_spy_61.2 (fun _ => ?_) (fun _ => ?_)
      · skip
        exact g_sub [0, 1, 2, 3, 5] rfl (w_X12_spy_119 hO o hk37 ih _ _ _ _ _)
      · skip
        refine g_aload_n hO d_X12_spy_64 (by rfl) 0 rfl ?_
        refine g_iload hO d_X12_spy_65 5 rfl ?_
        refine g_iconst hO 0 d_X12_spy_67 (by decide) ?_
        refine k_virtIp hO cl_X12 mm_X12_shotOf lkV_X12_491 ⟨⟨Nat.le_of_ble_eq_true rfl, Nat.le_of_ble_eq_true rfl⟩, Nat.le_of_ble_eq_true rfl, Nat.le_of_ble_eq_true rfl⟩ (kn' := (0, 0)) rfl (As := [vI x7, vI 0]) rfl (Nat.le_of_ble_eq_true rfl) (fun o' _ => t_X12_shotOf Γ.2.1 E o' x7 0 S) d_X12_spy_68 rfl (fun v3 => ?_)
        refine g_iload_n hO d_X12_spy_71 (by rfl) 1 rfl ?_
        refine g_ic_ne (tgt := 115) hO d_X12_spy_72.1 d_X12_spy_72.2 (fun _ => ?_) (fun _ => ?_)
        · skip
          refine g_aload_n hO d_X12_spy_75 (by rfl) 0 rfl ?_
          refine g_iload_n hO d_X12_spy_76 (by rfl) 1 rfl ?_
          refine g_iload hO d_X12_spy_77 3 rfl ?_
          refine g_aload_n hO d_X12_spy_79 (by rfl) 0 rfl ?_
          refine g_iload hO d_X12_spy_80 5 rfl ?_
          refine g_iconst hO 1 d_X12_spy_82 (by decide) ?_
          refine k_virtIp hO cl_X12 mm_X12_shotOf lkV_X12_491 ⟨⟨Nat.le_of_ble_eq_true rfl, Nat.le_of_ble_eq_true rfl⟩, Nat.le_of_ble_eq_true rfl, Nat.le_of_ble_eq_true rfl⟩ (kn' := (0, 0)) rfl (As := [vI x7, vI 1]) rfl (Nat.le_of_ble_eq_true rfl) (fun o' _ => t_X12_shotOf Γ.2.1 E o' x7 1 S) d_X12_spy_83 rfl (fun v5 => ?_)
          refine k_virtIp hO cl_X12 mm_X12_does lkV_X12_309 ⟨⟨Nat.le_of_ble_eq_true rfl, Nat.le_of_ble_eq_true rfl⟩, Nat.le_of_ble_eq_true rfl, Nat.le_of_ble_eq_true rfl⟩ (kn' := (0, 0)) rfl (As := [vI x3, vI x5, vI v5]) rfl (Nat.le_of_ble_eq_true rfl) (fun o' _ => t_X12_does Γ.2.1 E o' x3 x5 v5 S) d_X12_spy_86 rfl (fun v7 => ?_)
          refine g_if_ne (tgt := 96) hO d_X12_spy_89.1 d_X12_spy_89.2 (fun _ => ?_) (fun _ => ?_)
          · skip
            refine g_iconst hO 1 d_X12_spy_92 (by decide) ?_
            refine g_goto (tgt := 97) hO d_X12_spy_93.1 d_X12_spy_93.2 ?_
            exact g_sub [0, 1, 2, 3, 5] rfl (w_X12_spy_97 hO o hk37 ih _ _ _ _ _ _)
          · skip
            refine g_iconst hO 0 d_X12_spy_96 (by decide) ?_
            exact g_sub [0, 1, 2, 3, 5] rfl (w_X12_spy_97 hO o hk37 ih _ _ _ _ _ _)
        · skip
          exact g_sub [0, 1, 2, 3, 5] rfl (w_X12_spy_115 hO o hk37 ih _ _ _ _ _)
set_option maxRecDepth 20000 in
theorem w_X12_spy_37 {Γ : GC} {E : GE} (hO : gOk Γ E cX12_spy RX12 8 rm_X12_spy (some .int) "spy") (o : Nat) : ∀ (n : Nat) (x3 : Int32) (x4 : Int32) (x5 : Int32) (S : GS), Go Γ E (gBsI Γ E) 8 (0, 0) 37 S [(0, vA (some o)), (3, vI x3), (4, vI x4), (5, vI x5)] [] (f_X12_spy_37 o n x3 x4 x5 S) := by
  intro n
  induction n with
  | zero =>
    intro x3 x4 x5 S
    exact g_none
  | succ n ih =>
    intro x3 x4 x5 S
    rw [f_X12_spy_37]
    refine g_iload hO d_X12_spy_37 3 rfl ?_
    refine g_bipush hO 31 d_X12_spy_39 (by decide) ?_
    refine g_ic_ge (tgt := 152) hO d_X12_spy_41.1 d_X12_spy_41.2 (fun _ => ?_) (fun _ => ?_)
    · skip
      refine g_iload hO d_X12_spy_152 2 rfl ?_
      exact g_ret hO rfl rfl ⟨Nat.le_of_ble_eq_true rfl, Nat.le_of_ble_eq_true rfl⟩ rfl rfl d_X12_spy_154.1
    · skip
      refine g_iconst hO 1 d_X12_spy_44 (by decide) ?_
      refine g_istore (lv' := [(6, vI 1), (0, vA (some o)), (3, vI x3), (4, vI x4), (5, vI x5)]) hO d_X12_spy_45 (by decide) rfl ?_
      refine g_iconst hO 0 d_X12_spy_47 (by decide) ?_
      refine g_istore (lv' := [(7, vI 0), (6, vI 1), (0, vA (some o)), (3, vI x3), (4, vI x4), (5, vI x5)]) hO d_X12_spy_48 (by decide) rfl ?_
      exact g_sub [2, 3, 4, 5, 1, 0] rfl (w_X12_spy_50 hO o ih _ _ _ _ _ _ _)
set_option maxRecDepth 20000 in
theorem w_X12_spy {Γ : GC} {E : GE} (hO : gOk Γ E cX12_spy RX12 8 rm_X12_spy (some .int) "spy") (o : Nat) (x1 : Int32) (x2 : Int32) (x3 : Int32) (S : GS) : Go Γ E (gBsI Γ E) 8 (0, 0) 0 S [(0, vA (some o)), (1, vI x1), (2, vI x2), (3, vI x3)] [] (f_X12_spy o x1 x2 x3 S) := by
  unfold f_X12_spy
  refine g_aload_n hO d_X12_spy_0 (by rfl) 0 rfl ?_
  refine g_iconst hO 0 d_X12_spy_1 (by decide) ?_
  refine h_putI hO cl_X12 0 rfl rfl wf_X12_100 (Or.inl rfl) d_X12_spy_2 (fun S1 => ?_)
  refine g_aload_n hO d_X12_spy_5 (by rfl) 0 rfl ?_
  refine g_iload_n hO d_X12_spy_6 (by rfl) 2 rfl ?_
  refine k_virtIs hO cl_X12 mm_X12_hasSight lkV_X12_479 ⟨⟨Nat.le_of_ble_eq_true rfl, Nat.le_of_ble_eq_true rfl⟩, Nat.le_of_ble_eq_true rfl, Nat.le_of_ble_eq_true rfl⟩ (kn' := (0, 0)) rfl (As := [vI x2]) rfl (Nat.le_of_ble_eq_true rfl) (fun o' _ => t_X12_hasSight Γ.2.1 E o' x2 S1) d_X12_spy_7 rfl (fun v2 S3 => ?_)
  refine g_if_eq (tgt := 29) hO d_X12_spy_10.1 d_X12_spy_10.2 (fun _ => ?_) (fun _ => ?_)
  · skip
    refine g_iconst hO (-1) d_X12_spy_29 (by decide) ?_
    exact g_ret hO rfl rfl ⟨Nat.le_of_ble_eq_true rfl, Nat.le_of_ble_eq_true rfl⟩ rfl rfl d_X12_spy_30.1
  · skip
    refine g_aload_n hO d_X12_spy_13 (by rfl) 0 rfl ?_
    refine g_iload_n hO d_X12_spy_14 (by rfl) 1 rfl ?_
    refine k_virtIs hO cl_X12 mm_X12_hand lkV_X12_297 ⟨⟨Nat.le_of_ble_eq_true rfl, Nat.le_of_ble_eq_true rfl⟩, Nat.le_of_ble_eq_true rfl, Nat.le_of_ble_eq_true rfl⟩ (kn' := (0, 0)) rfl (As := [vI x1]) rfl (Nat.le_of_ble_eq_true rfl) (fun o' _ => t_X12_hand Γ.2.1 E o' x1 S3) d_X12_spy_15 rfl (fun v4 S5 => ?_)
    refine g_if_eq (tgt := 29) hO d_X12_spy_18.1 d_X12_spy_18.2 (fun _ => ?_) (fun _ => ?_)
    · skip
      refine g_iconst hO (-1) d_X12_spy_29 (by decide) ?_
      exact g_ret hO rfl rfl ⟨Nat.le_of_ble_eq_true rfl, Nat.le_of_ble_eq_true rfl⟩ rfl rfl d_X12_spy_30.1
    · skip
      refine g_aload_n hO d_X12_spy_21 (by rfl) 0 rfl ?_
      refine g_iload_n hO d_X12_spy_22 (by rfl) 3 rfl ?_
      refine k_virtIp hO cl_X12 mm_X12_isLady lkV_X12_303 ⟨⟨Nat.le_of_ble_eq_true rfl, Nat.le_of_ble_eq_true rfl⟩, Nat.le_of_ble_eq_true rfl, Nat.le_of_ble_eq_true rfl⟩ (kn' := (0, 0)) rfl (As := [vI x3]) rfl (Nat.le_of_ble_eq_true rfl) (fun o' _ => t_X12_isLady Γ.2.1 E o' x3 S5) d_X12_spy_23 rfl (fun v6 => ?_)
      refine g_if_ne (tgt := 31) hO d_X12_spy_26.1 d_X12_spy_26.2 (fun _ => ?_) (fun _ => ?_)
      · skip
        refine g_iconst hO (-1) d_X12_spy_29 (by decide) ?_
        exact g_ret hO rfl rfl ⟨Nat.le_of_ble_eq_true rfl, Nat.le_of_ble_eq_true rfl⟩ rfl rfl d_X12_spy_30.1
      · skip
        refine g_iconst hO 0 d_X12_spy_31 (by decide) ?_
        refine g_istore (lv' := [(4, vI 0), (0, vA (some o)), (1, vI x1), (2, vI x2), (3, vI x3)]) hO d_X12_spy_32 (by decide) rfl ?_
        refine g_iconst hO 0 d_X12_spy_34 (by decide) ?_
        refine g_istore (lv' := [(5, vI 0), (4, vI 0), (0, vA (some o)), (1, vI x1), (2, vI x2), (3, vI x3)]) hO d_X12_spy_35 (by decide) rfl ?_
        exact g_sub [2, 5, 1, 0] rfl (w_X12_spy_37 hO o _ _ _ _ _)
theorem t_X12_spy (l : Launch) (E : GE) (o : Nat) (x1 : Int32) (x2 : Int32) (x3 : Int32) (S : GS) : ∀ a, f_X12_spy o x1 x2 x3 S = some a → Ct l E yX12_spy cX12_spy 8 (some .int) rm_X12_spy [vA (some o), vI x1, vI x2, vI x3] S (some (vI a.1)) a.2 :=
  Ct_of (val := fun (b : Int32 × GS) => some (vI b.1)) (nxt := fun (b : Int32 × GS) => b.2) (by decide) (Nat.le_of_ble_eq_true rfl) (fun Γ hl hO => w_X12_spy hO o x1 x2 x3 S)
theorem d_X12_pawns_0 : gD cX12_pawns 0 (.aload_n 0) 1 1 := ⟨by decide +kernel, rfl⟩
theorem d_X12_pawns_1 : gD cX12_pawns 1 (.getfield 38) 3 4 := ⟨by decide +kernel, rfl⟩
theorem d_X12_pawns_4 : gD cX12_pawns 4 (.bipush 91) 2 6 := ⟨by decide +kernel, rfl⟩
theorem d_X12_pawns_6 : gD cX12_pawns 6 (.aload_n 0) 1 7 := ⟨by decide +kernel, rfl⟩
theorem d_X12_pawns_7 : gD cX12_pawns 7 (.getfield 507) 3 10 := ⟨by decide +kernel, rfl⟩
theorem d_X12_pawns_10 : gD cX12_pawns 10 (.imul) 1 11 := ⟨by decide +kernel, rfl⟩
theorem d_X12_pawns_11 : gD cX12_pawns 11 (.iaload) 1 12 := ⟨by decide +kernel, rfl⟩
theorem d_X12_pawns_12 : gD cX12_pawns 12 (.ireturn) 1 13 := ⟨by decide +kernel, rfl⟩
abbrev rm_X12_pawns : Room := { frames := 0, cells := 0, slots := 0, locals := 0 }
set_option maxRecDepth 20000 in
theorem w_X12_pawns {Γ : GC} {E : GE} (hO : gOk Γ E cX12_pawns RX12 1 rm_X12_pawns (some .int) "pawns") (o : Nat) (S : GS) : Go Γ E (gBpI Γ E S) 1 (0, 0) 0 S [(0, vA (some o))] [] (f_X12_pawns o S) := by
  unfold f_X12_pawns
  refine g_aload_n hO d_X12_pawns_0 (by rfl) 0 rfl ?_
  refine h_getR hO cl_X12 10 rfl wf_X12_38 d_X12_pawns_1 (fun v1 => ?_)
  refine g_bipush hO 91 d_X12_pawns_4 (by decide) ?_
  refine g_aload_n hO d_X12_pawns_6 (by rfl) 0 rfl ?_
  refine h_getI hO cl_X12 55 rfl wf_X12_507 d_X12_pawns_7 (fun v2 => ?_)
  refine g_imul hO d_X12_pawns_10 ?_
  refine h_iald hO d_X12_pawns_11 (fun v3 => ?_)
  exact g_ret hO rfl rfl ⟨Nat.le_of_ble_eq_true rfl, Nat.le_of_ble_eq_true rfl⟩ rfl rfl d_X12_pawns_12.1
theorem t_X12_pawns (l : Launch) (E : GE) (o : Nat) (S : GS) : ∀ a, f_X12_pawns o S = some a → Ct l E yX12_pawns cX12_pawns 1 (some .int) rm_X12_pawns [vA (some o)] S (some (vI a)) S :=
  Ct_of (val := fun b => some (vI b)) (nxt := fun _ => S) (by decide) (Nat.le_of_ble_eq_true rfl) (fun Γ hl hO => w_X12_pawns hO o S)
theorem d_X12_pawnOf_0 : gD cX12_pawnOf 0 (.aload_n 0) 1 1 := ⟨by decide +kernel, rfl⟩
theorem d_X12_pawnOf_1 : gD cX12_pawnOf 1 (.getfield 38) 3 4 := ⟨by decide +kernel, rfl⟩
theorem d_X12_pawnOf_4 : gD cX12_pawnOf 4 (.bipush 91) 2 6 := ⟨by decide +kernel, rfl⟩
theorem d_X12_pawnOf_6 : gD cX12_pawnOf 6 (.aload_n 0) 1 7 := ⟨by decide +kernel, rfl⟩
theorem d_X12_pawnOf_7 : gD cX12_pawnOf 7 (.getfield 507) 3 10 := ⟨by decide +kernel, rfl⟩
theorem d_X12_pawnOf_10 : gD cX12_pawnOf 10 (.imul) 1 11 := ⟨by decide +kernel, rfl⟩
theorem d_X12_pawnOf_11 : gD cX12_pawnOf 11 (.iconst 1) 1 12 := ⟨by decide +kernel, rfl⟩
theorem d_X12_pawnOf_12 : gD cX12_pawnOf 12 (.iadd) 1 13 := ⟨by decide +kernel, rfl⟩
theorem d_X12_pawnOf_13 : gD cX12_pawnOf 13 (.iconst 3) 1 14 := ⟨by decide +kernel, rfl⟩
theorem d_X12_pawnOf_14 : gD cX12_pawnOf 14 (.iload_n 1) 1 15 := ⟨by decide +kernel, rfl⟩
theorem d_X12_pawnOf_15 : gD cX12_pawnOf 15 (.imul) 1 16 := ⟨by decide +kernel, rfl⟩
theorem d_X12_pawnOf_16 : gD cX12_pawnOf 16 (.iadd) 1 17 := ⟨by decide +kernel, rfl⟩
theorem d_X12_pawnOf_17 : gD cX12_pawnOf 17 (.iload_n 2) 1 18 := ⟨by decide +kernel, rfl⟩
theorem d_X12_pawnOf_18 : gD cX12_pawnOf 18 (.iadd) 1 19 := ⟨by decide +kernel, rfl⟩
theorem d_X12_pawnOf_19 : gD cX12_pawnOf 19 (.iaload) 1 20 := ⟨by decide +kernel, rfl⟩
theorem d_X12_pawnOf_20 : gD cX12_pawnOf 20 (.ireturn) 1 21 := ⟨by decide +kernel, rfl⟩
abbrev rm_X12_pawnOf : Room := { frames := 0, cells := 0, slots := 0, locals := 0 }
set_option maxRecDepth 20000 in
theorem w_X12_pawnOf {Γ : GC} {E : GE} (hO : gOk Γ E cX12_pawnOf RX12 3 rm_X12_pawnOf (some .int) "pawnOf") (o : Nat) (x1 : Int32) (x2 : Int32) (S : GS) : Go Γ E (gBpI Γ E S) 3 (0, 0) 0 S [(0, vA (some o)), (1, vI x1), (2, vI x2)] [] (f_X12_pawnOf o x1 x2 S) := by
  unfold f_X12_pawnOf
  refine g_aload_n hO d_X12_pawnOf_0 (by rfl) 0 rfl ?_
  refine h_getR hO cl_X12 10 rfl wf_X12_38 d_X12_pawnOf_1 (fun v1 => ?_)
  refine g_bipush hO 91 d_X12_pawnOf_4 (by decide) ?_
  refine g_aload_n hO d_X12_pawnOf_6 (by rfl) 0 rfl ?_
  refine h_getI hO cl_X12 55 rfl wf_X12_507 d_X12_pawnOf_7 (fun v2 => ?_)
  refine g_imul hO d_X12_pawnOf_10 ?_
  refine g_iconst hO 1 d_X12_pawnOf_11 (by decide) ?_
  refine g_iadd hO d_X12_pawnOf_12 ?_
  refine g_iconst hO 3 d_X12_pawnOf_13 (by decide) ?_
  refine g_iload_n hO d_X12_pawnOf_14 (by rfl) 1 rfl ?_
  refine g_imul hO d_X12_pawnOf_15 ?_
  refine g_iadd hO d_X12_pawnOf_16 ?_
  refine g_iload_n hO d_X12_pawnOf_17 (by rfl) 2 rfl ?_
  refine g_iadd hO d_X12_pawnOf_18 ?_
  refine h_iald hO d_X12_pawnOf_19 (fun v3 => ?_)
  exact g_ret hO rfl rfl ⟨Nat.le_of_ble_eq_true rfl, Nat.le_of_ble_eq_true rfl⟩ rfl rfl d_X12_pawnOf_20.1
theorem t_X12_pawnOf (l : Launch) (E : GE) (o : Nat) (x1 : Int32) (x2 : Int32) (S : GS) : ∀ a, f_X12_pawnOf o x1 x2 S = some a → Ct l E yX12_pawnOf cX12_pawnOf 3 (some .int) rm_X12_pawnOf [vA (some o), vI x1, vI x2] S (some (vI a)) S :=
  Ct_of (val := fun b => some (vI b)) (nxt := fun _ => S) (by decide) (Nat.le_of_ble_eq_true rfl) (fun Γ hl hO => w_X12_pawnOf hO o x1 x2 S)
theorem d_X12_hasLedger_0 : gD cX12_hasLedger 0 (.aload_n 0) 1 1 := ⟨by decide +kernel, rfl⟩
theorem d_X12_hasLedger_1 : gD cX12_hasLedger 1 (.iload_n 1) 1 2 := ⟨by decide +kernel, rfl⟩
theorem d_X12_hasLedger_2 : gD cX12_hasLedger 2 (.putfield 507) 3 5 := ⟨by decide +kernel, rfl⟩
theorem d_X12_hasLedger_5 : gD cX12_hasLedger 5 (.aload_n 0) 1 6 := ⟨by decide +kernel, rfl⟩
theorem d_X12_hasLedger_6 : gD cX12_hasLedger 6 (.iconst 4) 1 7 := ⟨by decide +kernel, rfl⟩
theorem d_X12_hasLedger_7 : gD cX12_hasLedger 7 (.iload_n 1) 1 8 := ⟨by decide +kernel, rfl⟩
theorem d_X12_hasLedger_8 : gD cX12_hasLedger 8 (.invokevirtual 275) 3 11 := ⟨by decide +kernel, rfl⟩
theorem d_X12_hasLedger_11 : gD cX12_hasLedger 11 (.ireturn) 1 12 := ⟨by decide +kernel, rfl⟩
abbrev rm_X12_hasLedger : Room := { frames := 2, cells := 0, slots := 0, locals := 44 }
set_option maxRecDepth 20000 in
theorem w_X12_hasLedger {Γ : GC} {E : GE} (hO : gOk Γ E cX12_hasLedger RX12 2 rm_X12_hasLedger (some .boolean) "hasLedger") (o : Nat) (x1 : Int32) (S : GS) : Go Γ E (gBsI Γ E) 2 (0, 0) 0 S [(0, vA (some o)), (1, vI x1)] [] (f_X12_hasLedger o x1 S) := by
  unfold f_X12_hasLedger
  refine g_aload_n hO d_X12_hasLedger_0 (by rfl) 0 rfl ?_
  refine g_iload_n hO d_X12_hasLedger_1 (by rfl) 1 rfl ?_
  refine h_putI hO cl_X12 55 rfl rfl wf_X12_507 (Or.inl rfl) d_X12_hasLedger_2 (fun S1 => ?_)
  refine g_aload_n hO d_X12_hasLedger_5 (by rfl) 0 rfl ?_
  refine g_iconst hO 4 d_X12_hasLedger_6 (by decide) ?_
  refine g_iload_n hO d_X12_hasLedger_7 (by rfl) 1 rfl ?_
  refine k_virtIp hO cl_X12 mm_X12_is lkV_X12_275 ⟨⟨Nat.le_of_ble_eq_true rfl, Nat.le_of_ble_eq_true rfl⟩, Nat.le_of_ble_eq_true rfl, Nat.le_of_ble_eq_true rfl⟩ (kn' := (0, 0)) rfl (As := [vI 4, vI x1]) rfl (Nat.le_of_ble_eq_true rfl) (fun o' _ => t_X12_is Γ.2.1 E o' 4 x1 S1) d_X12_hasLedger_8 rfl (fun v2 => ?_)
  exact g_zret hO rfl ⟨Nat.le_of_ble_eq_true rfl, Nat.le_of_ble_eq_true rfl⟩ rfl rfl d_X12_hasLedger_11.1
theorem t_X12_hasLedger (l : Launch) (E : GE) (o : Nat) (x1 : Int32) (S : GS) : ∀ a, f_X12_hasLedger o x1 S = some a → Ct l E yX12_hasLedger cX12_hasLedger 2 (some .boolean) rm_X12_hasLedger [vA (some o), vI x1] S (some (vI a.1)) a.2 :=
  Ct_of (val := fun (b : Int32 × GS) => some (vI b.1)) (nxt := fun (b : Int32 × GS) => b.2) (by decide) (Nat.le_of_ble_eq_true rfl) (fun Γ hl hO => w_X12_hasLedger hO o x1 S)
theorem d_X12_pawn_0 : gD cX12_pawn 0 (.aload_n 0) 1 1 := ⟨by decide +kernel, rfl⟩
theorem d_X12_pawn_1 : gD cX12_pawn 1 (.iconst 0) 1 2 := ⟨by decide +kernel, rfl⟩
theorem d_X12_pawn_2 : gD cX12_pawn 2 (.putfield 100) 3 5 := ⟨by decide +kernel, rfl⟩
theorem d_X12_pawn_5 : gD cX12_pawn 5 (.aload_n 0) 1 6 := ⟨by decide +kernel, rfl⟩
theorem d_X12_pawn_6 : gD cX12_pawn 6 (.iload_n 1) 1 7 := ⟨by decide +kernel, rfl⟩
theorem d_X12_pawn_7 : gD cX12_pawn 7 (.invokevirtual 510) 3 10 := ⟨by decide +kernel, rfl⟩
theorem d_X12_pawn_10 : gD cX12_pawn 10 (.ifCond .ne 6) 3 13 ∧ ((10 : Nat) : Int) + 6 = ((16 : Nat) : Int) := ⟨⟨by decide +kernel, rfl⟩, by decide⟩
theorem d_X12_pawn_13 : gD cX12_pawn 13 (.bipush (-2)) 2 15 := ⟨by decide +kernel, rfl⟩
theorem d_X12_pawn_15 : gD cX12_pawn 15 (.ireturn) 1 16 := ⟨by decide +kernel, rfl⟩
theorem d_X12_pawn_16 : gD cX12_pawn 16 (.iload_n 2) 1 17 := ⟨by decide +kernel, rfl⟩
theorem d_X12_pawn_17 : gD cX12_pawn 17 (.iconst (-1)) 1 18 := ⟨by decide +kernel, rfl⟩
theorem d_X12_pawn_18 : gD cX12_pawn 18 (.if_icmp .ne 17) 3 21 ∧ ((18 : Nat) : Int) + 17 = ((35 : Nat) : Int) := ⟨⟨by decide +kernel, rfl⟩, by decide⟩
theorem d_X12_pawn_21 : gD cX12_pawn 21 (.iload_n 3) 1 22 := ⟨by decide +kernel, rfl⟩
theorem d_X12_pawn_22 : gD cX12_pawn 22 (.ifCond .ne 10) 3 25 ∧ ((22 : Nat) : Int) + 10 = ((32 : Nat) : Int) := ⟨⟨by decide +kernel, rfl⟩, by decide⟩
theorem d_X12_pawn_25 : gD cX12_pawn 25 (.aload_n 0) 1 26 := ⟨by decide +kernel, rfl⟩
theorem d_X12_pawn_26 : gD cX12_pawn 26 (.invokevirtual 513) 3 29 := ⟨by decide +kernel, rfl⟩
theorem d_X12_pawn_29 : decode cX12_pawn 29 = .ok (.goto 5, 3) ∧ ((29 : Nat) : Int) + 5 = ((34 : Nat) : Int) := ⟨by decide +kernel, by decide⟩
theorem d_X12_pawn_32 : gD cX12_pawn 32 (.bipush (-2)) 2 34 := ⟨by decide +kernel, rfl⟩
theorem d_X12_pawn_34 : gD cX12_pawn 34 (.ireturn) 1 35 := ⟨by decide +kernel, rfl⟩
theorem d_X12_pawn_35 : gD cX12_pawn 35 (.iload_n 2) 1 36 := ⟨by decide +kernel, rfl⟩
theorem d_X12_pawn_36 : gD cX12_pawn 36 (.iconst 0) 1 37 := ⟨by decide +kernel, rfl⟩
theorem d_X12_pawn_37 : gD cX12_pawn 37 (.aload_n 0) 1 38 := ⟨by decide +kernel, rfl⟩
theorem d_X12_pawn_38 : gD cX12_pawn 38 (.invokevirtual 513) 3 41 := ⟨by decide +kernel, rfl⟩
theorem d_X12_pawn_41 : gD cX12_pawn 41 (.iconst 1) 1 42 := ⟨by decide +kernel, rfl⟩
theorem d_X12_pawn_42 : gD cX12_pawn 42 (.isub) 1 43 := ⟨by decide +kernel, rfl⟩
theorem d_X12_pawn_43 : gD cX12_pawn 43 (.invokestatic 112) 3 46 := ⟨by decide +kernel, rfl⟩
theorem d_X12_pawn_46 : gD cX12_pawn 46 (.ifCond .eq 21) 3 49 ∧ ((46 : Nat) : Int) + 21 = ((67 : Nat) : Int) := ⟨⟨by decide +kernel, rfl⟩, by decide⟩
theorem d_X12_pawn_49 : gD cX12_pawn 49 (.iload_n 3) 1 50 := ⟨by decide +kernel, rfl⟩
theorem d_X12_pawn_50 : gD cX12_pawn 50 (.iconst 0) 1 51 := ⟨by decide +kernel, rfl⟩
theorem d_X12_pawn_51 : gD cX12_pawn 51 (.iconst 2) 1 52 := ⟨by decide +kernel, rfl⟩
theorem d_X12_pawn_52 : gD cX12_pawn 52 (.invokestatic 112) 3 55 := ⟨by decide +kernel, rfl⟩
theorem d_X12_pawn_55 : gD cX12_pawn 55 (.ifCond .eq 12) 3 58 ∧ ((55 : Nat) : Int) + 12 = ((67 : Nat) : Int) := ⟨⟨by decide +kernel, rfl⟩, by decide⟩
theorem d_X12_pawn_58 : gD cX12_pawn 58 (.aload_n 0) 1 59 := ⟨by decide +kernel, rfl⟩
theorem d_X12_pawn_59 : gD cX12_pawn 59 (.iload_n 2) 1 60 := ⟨by decide +kernel, rfl⟩
theorem d_X12_pawn_60 : gD cX12_pawn 60 (.iload_n 3) 1 61 := ⟨by decide +kernel, rfl⟩
theorem d_X12_pawn_61 : gD cX12_pawn 61 (.invokevirtual 516) 3 64 := ⟨by decide +kernel, rfl⟩
theorem d_X12_pawn_64 : decode cX12_pawn 64 = .ok (.goto 5, 3) ∧ ((64 : Nat) : Int) + 5 = ((69 : Nat) : Int) := ⟨by decide +kernel, by decide⟩
theorem d_X12_pawn_67 : gD cX12_pawn 67 (.bipush (-2)) 2 69 := ⟨by decide +kernel, rfl⟩
theorem d_X12_pawn_69 : gD cX12_pawn 69 (.ireturn) 1 70 := ⟨by decide +kernel, rfl⟩
abbrev rm_X12_pawn : Room := { frames := 3, cells := 0, slots := 0, locals := 65 }
set_option maxRecDepth 20000 in
theorem w_X12_pawn {Γ : GC} {E : GE} (hO : gOk Γ E cX12_pawn RX12 4 rm_X12_pawn (some .int) "pawn") (o : Nat) (x1 : Int32) (x2 : Int32) (x3 : Int32) (S : GS) : Go Γ E (gBsI Γ E) 4 (0, 0) 0 S [(0, vA (some o)), (1, vI x1), (2, vI x2), (3, vI x3)] [] (f_X12_pawn o x1 x2 x3 S) := by
  unfold f_X12_pawn
  refine g_aload_n hO d_X12_pawn_0 (by rfl) 0 rfl ?_
  refine g_iconst hO 0 d_X12_pawn_1 (by decide) ?_
  refine h_putI hO cl_X12 0 rfl rfl wf_X12_100 (Or.inl rfl) d_X12_pawn_2 (fun S1 => ?_)
  refine g_aload_n hO d_X12_pawn_5 (by rfl) 0 rfl ?_
  refine g_iload_n hO d_X12_pawn_6 (by rfl) 1 rfl ?_
  refine k_virtIs hO cl_X12 mm_X12_hasLedger lkV_X12_510 ⟨⟨Nat.le_of_ble_eq_true rfl, Nat.le_of_ble_eq_true rfl⟩, Nat.le_of_ble_eq_true rfl, Nat.le_of_ble_eq_true rfl⟩ (kn' := (0, 0)) rfl (As := [vI x1]) rfl (Nat.le_of_ble_eq_true rfl) (fun o' _ => t_X12_hasLedger Γ.2.1 E o' x1 S1) d_X12_pawn_7 rfl (fun v2 S3 => ?_)
  refine g_if_ne (tgt := 16) hO d_X12_pawn_10.1 d_X12_pawn_10.2 (fun _ => ?_) (fun _ => ?_)
  · skip
    refine g_bipush hO (-2) d_X12_pawn_13 (by decide) ?_
    exact g_ret hO rfl rfl ⟨Nat.le_of_ble_eq_true rfl, Nat.le_of_ble_eq_true rfl⟩ rfl rfl d_X12_pawn_15.1
  · skip
    refine g_iload_n hO d_X12_pawn_16 (by rfl) 2 rfl ?_
    refine g_iconst hO (-1) d_X12_pawn_17 (by decide) ?_
    refine g_ic_ne (tgt := 35) hO d_X12_pawn_18.1 d_X12_pawn_18.2 (fun _ => ?_) (fun _ => ?_)
    · skip
      refine g_iload_n hO d_X12_pawn_21 (by rfl) 3 rfl ?_
      refine g_if_ne (tgt := 32) hO d_X12_pawn_22.1 d_X12_pawn_22.2 (fun _ => ?_) (fun _ => ?_)
      · skip
        refine g_aload_n hO d_X12_pawn_25 (by rfl) 0 rfl ?_
        refine k_virtIp hO cl_X12 mm_X12_pawns lkV_X12_513 ⟨⟨Nat.le_of_ble_eq_true rfl, Nat.le_of_ble_eq_true rfl⟩, Nat.le_of_ble_eq_true rfl, Nat.le_of_ble_eq_true rfl⟩ (kn' := (0, 0)) rfl (As := []) rfl (Nat.le_of_ble_eq_true rfl) (fun o' _ => t_X12_pawns Γ.2.1 E o' S3) d_X12_pawn_26 rfl (fun v4 => ?_)
        refine g_goto (tgt := 34) hO d_X12_pawn_29.1 d_X12_pawn_29.2 ?_
        exact g_ret hO rfl rfl ⟨Nat.le_of_ble_eq_true rfl, Nat.le_of_ble_eq_true rfl⟩ rfl rfl d_X12_pawn_34.1
      · skip
        refine g_bipush hO (-2) d_X12_pawn_32 (by decide) ?_
        exact g_ret hO rfl rfl ⟨Nat.le_of_ble_eq_true rfl, Nat.le_of_ble_eq_true rfl⟩ rfl rfl d_X12_pawn_34.1
    · skip
      refine g_iload_n hO d_X12_pawn_35 (by rfl) 2 rfl ?_
      refine g_iconst hO 0 d_X12_pawn_36 (by decide) ?_
      refine g_aload_n hO d_X12_pawn_37 (by rfl) 0 rfl ?_
      refine k_virtIp hO cl_X12 mm_X12_pawns lkV_X12_513 ⟨⟨Nat.le_of_ble_eq_true rfl, Nat.le_of_ble_eq_true rfl⟩, Nat.le_of_ble_eq_true rfl, Nat.le_of_ble_eq_true rfl⟩ (kn' := (0, 0)) rfl (As := []) rfl (Nat.le_of_ble_eq_true rfl) (fun o' _ => t_X12_pawns Γ.2.1 E o' S3) d_X12_pawn_38 rfl (fun v6 => ?_)
      refine g_iconst hO 1 d_X12_pawn_41 (by decide) ?_
      refine g_isub hO d_X12_pawn_42 ?_
      refine k_statIp hO mm_X12_in lkS_X12_112 ⟨⟨Nat.le_of_ble_eq_true rfl, Nat.le_of_ble_eq_true rfl⟩, Nat.le_of_ble_eq_true rfl, Nat.le_of_ble_eq_true rfl⟩ (kn' := (0, 0)) rfl (As := [vI x2, vI 0, vI (v6 - 1)]) rfl (Nat.le_of_ble_eq_true rfl) (t_X12_in Γ.2.1 E x2 0 (v6 - 1) S3) d_X12_pawn_43 rfl (fun v8 => ?_)
      refine g_if_eq (tgt := 67) hO d_X12_pawn_46.1 d_X12_pawn_46.2 (fun _ => ?_) (fun _ => ?_)
      · skip
        refine g_bipush hO (-2) d_X12_pawn_67 (by decide) ?_
        exact g_ret hO rfl rfl ⟨Nat.le_of_ble_eq_true rfl, Nat.le_of_ble_eq_true rfl⟩ rfl rfl d_X12_pawn_69.1
      · skip
        refine g_iload_n hO d_X12_pawn_49 (by rfl) 3 rfl ?_
        refine g_iconst hO 0 d_X12_pawn_50 (by decide) ?_
        refine g_iconst hO 2 d_X12_pawn_51 (by decide) ?_
        refine k_statIp hO mm_X12_in lkS_X12_112 ⟨⟨Nat.le_of_ble_eq_true rfl, Nat.le_of_ble_eq_true rfl⟩, Nat.le_of_ble_eq_true rfl, Nat.le_of_ble_eq_true rfl⟩ (kn' := (0, 0)) rfl (As := [vI x3, vI 0, vI 2]) rfl (Nat.le_of_ble_eq_true rfl) (t_X12_in Γ.2.1 E x3 0 2 S3) d_X12_pawn_52 rfl (fun v10 => ?_)
        refine g_if_eq (tgt := 67) hO d_X12_pawn_55.1 d_X12_pawn_55.2 (fun _ => ?_) (fun _ => ?_)
        · skip
          refine g_bipush hO (-2) d_X12_pawn_67 (by decide) ?_
          exact g_ret hO rfl rfl ⟨Nat.le_of_ble_eq_true rfl, Nat.le_of_ble_eq_true rfl⟩ rfl rfl d_X12_pawn_69.1
        · skip
          refine g_aload_n hO d_X12_pawn_58 (by rfl) 0 rfl ?_
          refine g_iload_n hO d_X12_pawn_59 (by rfl) 2 rfl ?_
          refine g_iload_n hO d_X12_pawn_60 (by rfl) 3 rfl ?_
          refine k_virtIp hO cl_X12 mm_X12_pawnOf lkV_X12_516 ⟨⟨Nat.le_of_ble_eq_true rfl, Nat.le_of_ble_eq_true rfl⟩, Nat.le_of_ble_eq_true rfl, Nat.le_of_ble_eq_true rfl⟩ (kn' := (0, 0)) rfl (As := [vI x2, vI x3]) rfl (Nat.le_of_ble_eq_true rfl) (fun o' _ => t_X12_pawnOf Γ.2.1 E o' x2 x3 S3) d_X12_pawn_61 rfl (fun v12 => ?_)
          refine g_goto (tgt := 69) hO d_X12_pawn_64.1 d_X12_pawn_64.2 ?_
          exact g_ret hO rfl rfl ⟨Nat.le_of_ble_eq_true rfl, Nat.le_of_ble_eq_true rfl⟩ rfl rfl d_X12_pawn_69.1
theorem t_X12_pawn (l : Launch) (E : GE) (o : Nat) (x1 : Int32) (x2 : Int32) (x3 : Int32) (S : GS) : ∀ a, f_X12_pawn o x1 x2 x3 S = some a → Ct l E yX12_pawn cX12_pawn 4 (some .int) rm_X12_pawn [vA (some o), vI x1, vI x2, vI x3] S (some (vI a.1)) a.2 :=
  Ct_of (val := fun (b : Int32 × GS) => some (vI b.1)) (nxt := fun (b : Int32 × GS) => b.2) (by decide) (Nat.le_of_ble_eq_true rfl) (fun Γ hl hO => w_X12_pawn hO o x1 x2 x3 S)
theorem d_X12_findNets_0 : gD cX12_findNets 0 (.iconst 0) 1 1 := ⟨by decide +kernel, rfl⟩
theorem d_X12_findNets_1 : gD cX12_findNets 1 (.istore_n 1) 1 2 := ⟨by decide +kernel, rfl⟩
theorem d_X12_findNets_2 : gD cX12_findNets 2 (.iload_n 1) 1 3 := ⟨by decide +kernel, rfl⟩
theorem d_X12_findNets_3 : gD cX12_findNets 3 (.bipush 8) 2 5 := ⟨by decide +kernel, rfl⟩
theorem d_X12_findNets_5 : gD cX12_findNets 5 (.if_icmp .ge 16) 3 8 ∧ ((5 : Nat) : Int) + 16 = ((21 : Nat) : Int) := ⟨⟨by decide +kernel, rfl⟩, by decide⟩
theorem d_X12_findNets_8 : gD cX12_findNets 8 (.aload_n 0) 1 9 := ⟨by decide +kernel, rfl⟩
theorem d_X12_findNets_9 : gD cX12_findNets 9 (.getfield 87) 3 12 := ⟨by decide +kernel, rfl⟩
theorem d_X12_findNets_12 : gD cX12_findNets 12 (.iload_n 1) 1 13 := ⟨by decide +kernel, rfl⟩
theorem d_X12_findNets_13 : gD cX12_findNets 13 (.iconst 0) 1 14 := ⟨by decide +kernel, rfl⟩
theorem d_X12_findNets_14 : gD cX12_findNets 14 (.iastore) 1 15 := ⟨by decide +kernel, rfl⟩
theorem d_X12_findNets_15 : gD cX12_findNets 15 (.iinc 1 1) 3 18 := ⟨by decide +kernel, rfl⟩
theorem d_X12_findNets_18 : decode cX12_findNets 18 = .ok (.goto (-16), 3) ∧ ((18 : Nat) : Int) + (-16) = ((2 : Nat) : Int) := ⟨by decide +kernel, by decide⟩
theorem d_X12_findNets_21 : gD cX12_findNets 21 (.iconst 0) 1 22 := ⟨by decide +kernel, rfl⟩
theorem d_X12_findNets_22 : gD cX12_findNets 22 (.istore_n 1) 1 23 := ⟨by decide +kernel, rfl⟩
theorem d_X12_findNets_23 : gD cX12_findNets 23 (.iload_n 1) 1 24 := ⟨by decide +kernel, rfl⟩
theorem d_X12_findNets_24 : gD cX12_findNets 24 (.aload_n 0) 1 25 := ⟨by decide +kernel, rfl⟩
theorem d_X12_findNets_25 : gD cX12_findNets 25 (.invokevirtual 513) 3 28 := ⟨by decide +kernel, rfl⟩
theorem d_X12_findNets_28 : gD cX12_findNets 28 (.if_icmp .ge 49) 3 31 ∧ ((28 : Nat) : Int) + 49 = ((77 : Nat) : Int) := ⟨⟨by decide +kernel, rfl⟩, by decide⟩
theorem d_X12_findNets_31 : gD cX12_findNets 31 (.aload_n 0) 1 32 := ⟨by decide +kernel, rfl⟩
theorem d_X12_findNets_32 : gD cX12_findNets 32 (.getfield 87) 3 35 := ⟨by decide +kernel, rfl⟩
theorem d_X12_findNets_35 : gD cX12_findNets 35 (.aload_n 0) 1 36 := ⟨by decide +kernel, rfl⟩
theorem d_X12_findNets_36 : gD cX12_findNets 36 (.iload_n 1) 1 37 := ⟨by decide +kernel, rfl⟩
theorem d_X12_findNets_37 : gD cX12_findNets 37 (.iconst 0) 1 38 := ⟨by decide +kernel, rfl⟩
theorem d_X12_findNets_38 : gD cX12_findNets 38 (.invokevirtual 516) 3 41 := ⟨by decide +kernel, rfl⟩
theorem d_X12_findNets_41 : gD cX12_findNets 41 (.dup2) 1 42 := ⟨by decide +kernel, rfl⟩
theorem d_X12_findNets_42 : gD cX12_findNets 42 (.iaload) 1 43 := ⟨by decide +kernel, rfl⟩
theorem d_X12_findNets_43 : gD cX12_findNets 43 (.aload_n 0) 1 44 := ⟨by decide +kernel, rfl⟩
theorem d_X12_findNets_44 : gD cX12_findNets 44 (.iload_n 1) 1 45 := ⟨by decide +kernel, rfl⟩
theorem d_X12_findNets_45 : gD cX12_findNets 45 (.iconst 2) 1 46 := ⟨by decide +kernel, rfl⟩
theorem d_X12_findNets_46 : gD cX12_findNets 46 (.invokevirtual 516) 3 49 := ⟨by decide +kernel, rfl⟩
theorem d_X12_findNets_49 : gD cX12_findNets 49 (.isub) 1 50 := ⟨by decide +kernel, rfl⟩
theorem d_X12_findNets_50 : gD cX12_findNets 50 (.iastore) 1 51 := ⟨by decide +kernel, rfl⟩
theorem d_X12_findNets_51 : gD cX12_findNets 51 (.aload_n 0) 1 52 := ⟨by decide +kernel, rfl⟩
theorem d_X12_findNets_52 : gD cX12_findNets 52 (.getfield 87) 3 55 := ⟨by decide +kernel, rfl⟩
theorem d_X12_findNets_55 : gD cX12_findNets 55 (.aload_n 0) 1 56 := ⟨by decide +kernel, rfl⟩
theorem d_X12_findNets_56 : gD cX12_findNets 56 (.iload_n 1) 1 57 := ⟨by decide +kernel, rfl⟩
theorem d_X12_findNets_57 : gD cX12_findNets 57 (.iconst 1) 1 58 := ⟨by decide +kernel, rfl⟩
theorem d_X12_findNets_58 : gD cX12_findNets 58 (.invokevirtual 516) 3 61 := ⟨by decide +kernel, rfl⟩
theorem d_X12_findNets_61 : gD cX12_findNets 61 (.dup2) 1 62 := ⟨by decide +kernel, rfl⟩
theorem d_X12_findNets_62 : gD cX12_findNets 62 (.iaload) 1 63 := ⟨by decide +kernel, rfl⟩
theorem d_X12_findNets_63 : gD cX12_findNets 63 (.aload_n 0) 1 64 := ⟨by decide +kernel, rfl⟩
theorem d_X12_findNets_64 : gD cX12_findNets 64 (.iload_n 1) 1 65 := ⟨by decide +kernel, rfl⟩
theorem d_X12_findNets_65 : gD cX12_findNets 65 (.iconst 2) 1 66 := ⟨by decide +kernel, rfl⟩
theorem d_X12_findNets_66 : gD cX12_findNets 66 (.invokevirtual 516) 3 69 := ⟨by decide +kernel, rfl⟩
theorem d_X12_findNets_69 : gD cX12_findNets 69 (.iadd) 1 70 := ⟨by decide +kernel, rfl⟩
theorem d_X12_findNets_70 : gD cX12_findNets 70 (.iastore) 1 71 := ⟨by decide +kernel, rfl⟩
theorem d_X12_findNets_71 : gD cX12_findNets 71 (.iinc 1 1) 3 74 := ⟨by decide +kernel, rfl⟩
theorem d_X12_findNets_74 : decode cX12_findNets 74 = .ok (.goto (-51), 3) ∧ ((74 : Nat) : Int) + (-51) = ((23 : Nat) : Int) := ⟨by decide +kernel, by decide⟩
theorem d_X12_findNets_77 : gD cX12_findNets 77 (.return_) 1 78 := ⟨by decide +kernel, rfl⟩
abbrev rm_X12_findNets : Room := { frames := 1, cells := 0, slots := 0, locals := 22 }
set_option maxRecDepth 20000 in
theorem w_X12_findNets_23 {Γ : GC} {E : GE} (hO : gOk Γ E cX12_findNets RX12 2 rm_X12_findNets none "findNets") (o : Nat) : ∀ (n : Nat) (x1 : Int32) (S : GS), Go Γ E (gBsV Γ E) 2 (0, 0) 23 S [(0, vA (some o)), (1, vI x1)] [] (f_X12_findNets_23 o n x1 S) := by
  intro n
  induction n with
  | zero =>
    intro x1 S
    exact g_none
  | succ n ih =>
    intro x1 S
    rw [f_X12_findNets_23]
    refine g_iload_n hO d_X12_findNets_23 (by rfl) 1 rfl ?_
    refine g_aload_n hO d_X12_findNets_24 (by rfl) 0 rfl ?_
    refine k_virtIp hO cl_X12 mm_X12_pawns lkV_X12_513 ⟨⟨Nat.le_of_ble_eq_true rfl, Nat.le_of_ble_eq_true rfl⟩, Nat.le_of_ble_eq_true rfl, Nat.le_of_ble_eq_true rfl⟩ (kn' := (0, 0)) rfl (As := []) rfl (Nat.le_of_ble_eq_true rfl) (fun o' _ => t_X12_pawns Γ.2.1 E o' S) d_X12_findNets_25 rfl (fun v1 => ?_)
    refine g_ic_ge (tgt := 77) hO d_X12_findNets_28.1 d_X12_findNets_28.2 (fun _ => ?_) (fun _ => ?_)
    · skip
      exact g_vret hO rfl ⟨Nat.le_of_ble_eq_true rfl, Nat.le_of_ble_eq_true rfl⟩ rfl rfl d_X12_findNets_77.1
    · skip
      refine g_aload_n hO d_X12_findNets_31 (by rfl) 0 rfl ?_
      refine h_getR hO cl_X12 56 rfl wf_X12_87 d_X12_findNets_32 (fun v3 => ?_)
      refine g_aload_n hO d_X12_findNets_35 (by rfl) 0 rfl ?_
      refine g_iload_n hO d_X12_findNets_36 (by rfl) 1 rfl ?_
      refine g_iconst hO 0 d_X12_findNets_37 (by decide) ?_
      refine k_virtIp hO cl_X12 mm_X12_pawnOf lkV_X12_516 ⟨⟨Nat.le_of_ble_eq_true rfl, Nat.le_of_ble_eq_true rfl⟩, Nat.le_of_ble_eq_true rfl, Nat.le_of_ble_eq_true rfl⟩ (kn' := (0, 0)) rfl (As := [vI x1, vI 0]) rfl (Nat.le_of_ble_eq_true rfl) (fun o' _ => t_X12_pawnOf Γ.2.1 E o' x1 0 S) d_X12_findNets_38 rfl (fun v4 => ?_)
      refine g_dup2 hO d_X12_findNets_41 rfl rfl ?_
      refine h_iald hO d_X12_findNets_42 (fun v6 => ?_)
      refine g_aload_n hO d_X12_findNets_43 (by rfl) 0 rfl ?_
      refine g_iload_n hO d_X12_findNets_44 (by rfl) 1 rfl ?_
      refine g_iconst hO 2 d_X12_findNets_45 (by decide) ?_
      refine k_virtIp hO cl_X12 mm_X12_pawnOf lkV_X12_516 ⟨⟨Nat.le_of_ble_eq_true rfl, Nat.le_of_ble_eq_true rfl⟩, Nat.le_of_ble_eq_true rfl, Nat.le_of_ble_eq_true rfl⟩ (kn' := (0, 0)) rfl (As := [vI x1, vI 2]) rfl (Nat.le_of_ble_eq_true rfl) (fun o' _ => t_X12_pawnOf Γ.2.1 E o' x1 2 S) d_X12_findNets_46 rfl (fun v7 => ?_)
      refine g_isub hO d_X12_findNets_49 ?_
      refine h_iast hO d_X12_findNets_50 (fun S9 => ?_)
      refine g_aload_n hO d_X12_findNets_51 (by rfl) 0 rfl ?_
      refine h_getR hO cl_X12 56 rfl wf_X12_87 d_X12_findNets_52 (fun v10 => ?_)
      refine g_aload_n hO d_X12_findNets_55 (by rfl) 0 rfl ?_
      refine g_iload_n hO d_X12_findNets_56 (by rfl) 1 rfl ?_
      refine g_iconst hO 1 d_X12_findNets_57 (by decide) ?_
      refine k_virtIp hO cl_X12 mm_X12_pawnOf lkV_X12_516 ⟨⟨Nat.le_of_ble_eq_true rfl, Nat.le_of_ble_eq_true rfl⟩, Nat.le_of_ble_eq_true rfl, Nat.le_of_ble_eq_true rfl⟩ (kn' := (0, 0)) rfl (As := [vI x1, vI 1]) rfl (Nat.le_of_ble_eq_true rfl) (fun o' _ => t_X12_pawnOf Γ.2.1 E o' x1 1 S9) d_X12_findNets_58 rfl (fun v11 => ?_)
      refine g_dup2 hO d_X12_findNets_61 rfl rfl ?_
      refine h_iald hO d_X12_findNets_62 (fun v13 => ?_)
      refine g_aload_n hO d_X12_findNets_63 (by rfl) 0 rfl ?_
      refine g_iload_n hO d_X12_findNets_64 (by rfl) 1 rfl ?_
      refine g_iconst hO 2 d_X12_findNets_65 (by decide) ?_
      refine k_virtIp hO cl_X12 mm_X12_pawnOf lkV_X12_516 ⟨⟨Nat.le_of_ble_eq_true rfl, Nat.le_of_ble_eq_true rfl⟩, Nat.le_of_ble_eq_true rfl, Nat.le_of_ble_eq_true rfl⟩ (kn' := (0, 0)) rfl (As := [vI x1, vI 2]) rfl (Nat.le_of_ble_eq_true rfl) (fun o' _ => t_X12_pawnOf Γ.2.1 E o' x1 2 S9) d_X12_findNets_66 rfl (fun v14 => ?_)
      refine g_iadd hO d_X12_findNets_69 ?_
      refine h_iast hO d_X12_findNets_70 (fun S16 => ?_)
      refine g_iinc (lv' := [(1, vI (x1 + 1)), (0, vA (some o))]) hO 1 d_X12_findNets_71 (by decide) 1 rfl (by decide) rfl ?_
      refine g_goto (tgt := 23) hO d_X12_findNets_74.1 d_X12_findNets_74.2 ?_
      exact g_sub [1, 0] rfl (ih _ _)
set_option maxRecDepth 20000 in
theorem w_X12_findNets_2 {Γ : GC} {E : GE} (hO : gOk Γ E cX12_findNets RX12 2 rm_X12_findNets none "findNets") (o : Nat) : ∀ (n : Nat) (x1 : Int32) (S : GS), Go Γ E (gBsV Γ E) 2 (0, 0) 2 S [(0, vA (some o)), (1, vI x1)] [] (f_X12_findNets_2 o n x1 S) := by
  intro n
  induction n with
  | zero =>
    intro x1 S
    exact g_none
  | succ n ih =>
    intro x1 S
    rw [f_X12_findNets_2]
    refine g_iload_n hO d_X12_findNets_2 (by rfl) 1 rfl ?_
    refine g_bipush hO 8 d_X12_findNets_3 (by decide) ?_
    refine g_ic_ge (tgt := 21) hO d_X12_findNets_5.1 d_X12_findNets_5.2 (fun _ => ?_) (fun _ => ?_)
    · skip
      refine g_iconst hO 0 d_X12_findNets_21 (by decide) ?_
      refine g_istore_n (lv' := [(1, vI 0), (0, vA (some o))]) hO d_X12_findNets_22 (by rfl) (by decide) rfl ?_
      exact g_sub [1, 0] rfl (w_X12_findNets_23 hO o _ _ _)
    · skip
      refine g_aload_n hO d_X12_findNets_8 (by rfl) 0 rfl ?_
      refine h_getR hO cl_X12 56 rfl wf_X12_87 d_X12_findNets_9 (fun v1 => ?_)
      refine g_iload_n hO d_X12_findNets_12 (by rfl) 1 rfl ?_
      refine g_iconst hO 0 d_X12_findNets_13 (by decide) ?_
      refine h_iast hO d_X12_findNets_14 (fun S2 => ?_)
      refine g_iinc (lv' := [(1, vI (x1 + 1)), (0, vA (some o))]) hO 1 d_X12_findNets_15 (by decide) 1 rfl (by decide) rfl ?_
      refine g_goto (tgt := 2) hO d_X12_findNets_18.1 d_X12_findNets_18.2 ?_
      exact g_sub [1, 0] rfl (ih _ _)
set_option maxRecDepth 20000 in
theorem w_X12_findNets {Γ : GC} {E : GE} (hO : gOk Γ E cX12_findNets RX12 2 rm_X12_findNets none "findNets") (o : Nat) (S : GS) : Go Γ E (gBsV Γ E) 2 (0, 0) 0 S [(0, vA (some o))] [] (f_X12_findNets o S) := by
  unfold f_X12_findNets
  refine g_iconst hO 0 d_X12_findNets_0 (by decide) ?_
  refine g_istore_n (lv' := [(1, vI 0), (0, vA (some o))]) hO d_X12_findNets_1 (by rfl) (by decide) rfl ?_
  exact g_sub [1, 0] rfl (w_X12_findNets_2 hO o _ _ _)
theorem t_X12_findNets (l : Launch) (E : GE) (o : Nat) (S : GS) : ∀ a, f_X12_findNets o S = some a → Ct l E yX12_findNets cX12_findNets 2 none rm_X12_findNets [vA (some o)] S none a :=
  Ct_of (val := fun _ => none) (nxt := fun b => b) (by decide) (Nat.le_of_ble_eq_true rfl) (fun Γ hl hO => w_X12_findNets hO o S)
theorem d_X12_net_0 : gD cX12_net 0 (.aload_n 0) 1 1 := ⟨by decide +kernel, rfl⟩
theorem d_X12_net_1 : gD cX12_net 1 (.iconst 0) 1 2 := ⟨by decide +kernel, rfl⟩
theorem d_X12_net_2 : gD cX12_net 2 (.putfield 100) 3 5 := ⟨by decide +kernel, rfl⟩
theorem d_X12_net_5 : gD cX12_net 5 (.aload_n 0) 1 6 := ⟨by decide +kernel, rfl⟩
theorem d_X12_net_6 : gD cX12_net 6 (.iload_n 1) 1 7 := ⟨by decide +kernel, rfl⟩
theorem d_X12_net_7 : gD cX12_net 7 (.invokevirtual 510) 3 10 := ⟨by decide +kernel, rfl⟩
theorem d_X12_net_10 : gD cX12_net 10 (.ifCond .eq 13) 3 13 ∧ ((10 : Nat) : Int) + 13 = ((23 : Nat) : Int) := ⟨⟨by decide +kernel, rfl⟩, by decide⟩
theorem d_X12_net_13 : gD cX12_net 13 (.iload_n 2) 1 14 := ⟨by decide +kernel, rfl⟩
theorem d_X12_net_14 : gD cX12_net 14 (.iconst 0) 1 15 := ⟨by decide +kernel, rfl⟩
theorem d_X12_net_15 : gD cX12_net 15 (.bipush 7) 2 17 := ⟨by decide +kernel, rfl⟩
theorem d_X12_net_17 : gD cX12_net 17 (.invokestatic 112) 3 20 := ⟨by decide +kernel, rfl⟩
theorem d_X12_net_20 : gD cX12_net 20 (.ifCond .ne 7) 3 23 ∧ ((20 : Nat) : Int) + 7 = ((27 : Nat) : Int) := ⟨⟨by decide +kernel, rfl⟩, by decide⟩
theorem d_X12_net_23 : gD cX12_net 23 (.sipush (-10000)) 3 26 := ⟨by decide +kernel, rfl⟩
theorem d_X12_net_26 : gD cX12_net 26 (.ireturn) 1 27 := ⟨by decide +kernel, rfl⟩
theorem d_X12_net_27 : gD cX12_net 27 (.aload_n 0) 1 28 := ⟨by decide +kernel, rfl⟩
theorem d_X12_net_28 : gD cX12_net 28 (.invokevirtual 519) 3 31 := ⟨by decide +kernel, rfl⟩
theorem d_X12_net_31 : gD cX12_net 31 (.aload_n 0) 1 32 := ⟨by decide +kernel, rfl⟩
theorem d_X12_net_32 : gD cX12_net 32 (.getfield 87) 3 35 := ⟨by decide +kernel, rfl⟩
theorem d_X12_net_35 : gD cX12_net 35 (.iload_n 2) 1 36 := ⟨by decide +kernel, rfl⟩
theorem d_X12_net_36 : gD cX12_net 36 (.iaload) 1 37 := ⟨by decide +kernel, rfl⟩
theorem d_X12_net_37 : gD cX12_net 37 (.ireturn) 1 38 := ⟨by decide +kernel, rfl⟩
abbrev rm_X12_net : Room := { frames := 3, cells := 0, slots := 0, locals := 65 }
set_option maxRecDepth 20000 in
theorem w_X12_net {Γ : GC} {E : GE} (hO : gOk Γ E cX12_net RX12 3 rm_X12_net (some .int) "net") (o : Nat) (x1 : Int32) (x2 : Int32) (S : GS) : Go Γ E (gBsI Γ E) 3 (0, 0) 0 S [(0, vA (some o)), (1, vI x1), (2, vI x2)] [] (f_X12_net o x1 x2 S) := by
  unfold f_X12_net
  refine g_aload_n hO d_X12_net_0 (by rfl) 0 rfl ?_
  refine g_iconst hO 0 d_X12_net_1 (by decide) ?_
  refine h_putI hO cl_X12 0 rfl rfl wf_X12_100 (Or.inl rfl) d_X12_net_2 (fun S1 => ?_)
  refine g_aload_n hO d_X12_net_5 (by rfl) 0 rfl ?_
  refine g_iload_n hO d_X12_net_6 (by rfl) 1 rfl ?_
  refine k_virtIs hO cl_X12 mm_X12_hasLedger lkV_X12_510 ⟨⟨Nat.le_of_ble_eq_true rfl, Nat.le_of_ble_eq_true rfl⟩, Nat.le_of_ble_eq_true rfl, Nat.le_of_ble_eq_true rfl⟩ (kn' := (0, 0)) rfl (As := [vI x1]) rfl (Nat.le_of_ble_eq_true rfl) (fun o' _ => t_X12_hasLedger Γ.2.1 E o' x1 S1) d_X12_net_7 rfl (fun v2 S3 => ?_)
  refine g_if_eq (tgt := 23) hO d_X12_net_10.1 d_X12_net_10.2 (fun _ => ?_) (fun _ => ?_)
  · skip
    refine g_sipush hO (-10000) d_X12_net_23 (by decide) ?_
    exact g_ret hO rfl rfl ⟨Nat.le_of_ble_eq_true rfl, Nat.le_of_ble_eq_true rfl⟩ rfl rfl d_X12_net_26.1
  · skip
    refine g_iload_n hO d_X12_net_13 (by rfl) 2 rfl ?_
    refine g_iconst hO 0 d_X12_net_14 (by decide) ?_
    refine g_bipush hO 7 d_X12_net_15 (by decide) ?_
    refine k_statIp hO mm_X12_in lkS_X12_112 ⟨⟨Nat.le_of_ble_eq_true rfl, Nat.le_of_ble_eq_true rfl⟩, Nat.le_of_ble_eq_true rfl, Nat.le_of_ble_eq_true rfl⟩ (kn' := (0, 0)) rfl (As := [vI x2, vI 0, vI 7]) rfl (Nat.le_of_ble_eq_true rfl) (t_X12_in Γ.2.1 E x2 0 7 S3) d_X12_net_17 rfl (fun v4 => ?_)
    refine g_if_ne (tgt := 27) hO d_X12_net_20.1 d_X12_net_20.2 (fun _ => ?_) (fun _ => ?_)
    · skip
      refine g_sipush hO (-10000) d_X12_net_23 (by decide) ?_
      exact g_ret hO rfl rfl ⟨Nat.le_of_ble_eq_true rfl, Nat.le_of_ble_eq_true rfl⟩ rfl rfl d_X12_net_26.1
    · skip
      refine g_aload_n hO d_X12_net_27 (by rfl) 0 rfl ?_
      refine k_virtVs hO cl_X12 mm_X12_findNets lkV_X12_519 ⟨⟨Nat.le_of_ble_eq_true rfl, Nat.le_of_ble_eq_true rfl⟩, Nat.le_of_ble_eq_true rfl, Nat.le_of_ble_eq_true rfl⟩ (kn' := (0, 0)) rfl (As := []) rfl (Nat.le_of_ble_eq_true rfl) (fun o' _ => t_X12_findNets Γ.2.1 E o' S3) d_X12_net_28 rfl (fun S7 => ?_)
      refine g_aload_n hO d_X12_net_31 (by rfl) 0 rfl ?_
      refine h_getR hO cl_X12 56 rfl wf_X12_87 d_X12_net_32 (fun v8 => ?_)
      refine g_iload_n hO d_X12_net_35 (by rfl) 2 rfl ?_
      refine h_iald hO d_X12_net_36 (fun v9 => ?_)
      exact g_ret hO rfl rfl ⟨Nat.le_of_ble_eq_true rfl, Nat.le_of_ble_eq_true rfl⟩ rfl rfl d_X12_net_37.1
theorem t_X12_net (l : Launch) (E : GE) (o : Nat) (x1 : Int32) (x2 : Int32) (S : GS) : ∀ a, f_X12_net o x1 x2 S = some a → Ct l E yX12_net cX12_net 3 (some .int) rm_X12_net [vA (some o), vI x1, vI x2] S (some (vI a.1)) a.2 :=
  Ct_of (val := fun (b : Int32 × GS) => some (vI b.1)) (nxt := fun (b : Int32 × GS) => b.2) (by decide) (Nat.le_of_ble_eq_true rfl) (fun Γ hl hO => w_X12_net hO o x1 x2 S)
theorem d_X12_isOwing_0 : gD cX12_isOwing 0 (.iconst 1) 1 1 := ⟨by decide +kernel, rfl⟩
theorem d_X12_isOwing_1 : gD cX12_isOwing 1 (.istore_n 2) 1 2 := ⟨by decide +kernel, rfl⟩
theorem d_X12_isOwing_2 : gD cX12_isOwing 2 (.iconst 0) 1 3 := ⟨by decide +kernel, rfl⟩
theorem d_X12_isOwing_3 : gD cX12_isOwing 3 (.istore_n 3) 1 4 := ⟨by decide +kernel, rfl⟩
theorem d_X12_isOwing_4 : gD cX12_isOwing 4 (.iload_n 3) 1 5 := ⟨by decide +kernel, rfl⟩
theorem d_X12_isOwing_5 : gD cX12_isOwing 5 (.bipush 8) 2 7 := ⟨by decide +kernel, rfl⟩
theorem d_X12_isOwing_7 : gD cX12_isOwing 7 (.if_icmp .ge 41) 3 10 ∧ ((7 : Nat) : Int) + 41 = ((48 : Nat) : Int) := ⟨⟨by decide +kernel, rfl⟩, by decide⟩
theorem d_X12_isOwing_10 : gD cX12_isOwing 10 (.iload_n 2) 1 11 := ⟨by decide +kernel, rfl⟩
theorem d_X12_isOwing_11 : gD cX12_isOwing 11 (.ifCond .eq 29) 3 14 ∧ ((11 : Nat) : Int) + 29 = ((40 : Nat) : Int) := ⟨⟨by decide +kernel, rfl⟩, by decide⟩
theorem d_X12_isOwing_14 : gD cX12_isOwing 14 (.iload_n 1) 1 15 := ⟨by decide +kernel, rfl⟩
theorem d_X12_isOwing_15 : gD cX12_isOwing 15 (.iload_n 3) 1 16 := ⟨by decide +kernel, rfl⟩
theorem d_X12_isOwing_16 : gD cX12_isOwing 16 (.invokestatic 104) 3 19 := ⟨by decide +kernel, rfl⟩
theorem d_X12_isOwing_19 : gD cX12_isOwing 19 (.aload_n 0) 1 20 := ⟨by decide +kernel, rfl⟩
theorem d_X12_isOwing_20 : gD cX12_isOwing 20 (.getfield 87) 3 23 := ⟨by decide +kernel, rfl⟩
theorem d_X12_isOwing_23 : gD cX12_isOwing 23 (.iload_n 3) 1 24 := ⟨by decide +kernel, rfl⟩
theorem d_X12_isOwing_24 : gD cX12_isOwing 24 (.iaload) 1 25 := ⟨by decide +kernel, rfl⟩
theorem d_X12_isOwing_25 : gD cX12_isOwing 25 (.ifCond .eq 7) 3 28 ∧ ((25 : Nat) : Int) + 7 = ((32 : Nat) : Int) := ⟨⟨by decide +kernel, rfl⟩, by decide⟩
theorem d_X12_isOwing_28 : gD cX12_isOwing 28 (.iconst 1) 1 29 := ⟨by decide +kernel, rfl⟩
theorem d_X12_isOwing_29 : decode cX12_isOwing 29 = .ok (.goto 4, 3) ∧ ((29 : Nat) : Int) + 4 = ((33 : Nat) : Int) := ⟨by decide +kernel, by decide⟩
theorem d_X12_isOwing_32 : gD cX12_isOwing 32 (.iconst 0) 1 33 := ⟨by decide +kernel, rfl⟩
theorem d_X12_isOwing_33 : gD cX12_isOwing 33 (.if_icmp .ne 7) 3 36 ∧ ((33 : Nat) : Int) + 7 = ((40 : Nat) : Int) := ⟨⟨by decide +kernel, rfl⟩, by decide⟩
theorem d_X12_isOwing_36 : gD cX12_isOwing 36 (.iconst 1) 1 37 := ⟨by decide +kernel, rfl⟩
theorem d_X12_isOwing_37 : decode cX12_isOwing 37 = .ok (.goto 4, 3) ∧ ((37 : Nat) : Int) + 4 = ((41 : Nat) : Int) := ⟨by decide +kernel, by decide⟩
theorem d_X12_isOwing_40 : gD cX12_isOwing 40 (.iconst 0) 1 41 := ⟨by decide +kernel, rfl⟩
theorem d_X12_isOwing_41 : gD cX12_isOwing 41 (.istore_n 2) 1 42 := ⟨by decide +kernel, rfl⟩
theorem d_X12_isOwing_42 : gD cX12_isOwing 42 (.iinc 3 1) 3 45 := ⟨by decide +kernel, rfl⟩
theorem d_X12_isOwing_45 : decode cX12_isOwing 45 = .ok (.goto (-41), 3) ∧ ((45 : Nat) : Int) + (-41) = ((4 : Nat) : Int) := ⟨by decide +kernel, by decide⟩
theorem d_X12_isOwing_48 : gD cX12_isOwing 48 (.iload_n 2) 1 49 := ⟨by decide +kernel, rfl⟩
theorem d_X12_isOwing_49 : gD cX12_isOwing 49 (.ireturn) 1 50 := ⟨by decide +kernel, rfl⟩
abbrev rm_X12_isOwing : Room := { frames := 1, cells := 0, slots := 0, locals := 21 }
set_option maxRecDepth 20000 in
theorem w_X12_isOwing_41 {Γ : GC} {E : GE} (hO : gOk Γ E cX12_isOwing RX12 4 rm_X12_isOwing (some .boolean) "isOwing") (o : Nat) (S : GS) {k4 : (Int32 → Int32 → Int32 → Option Int32)} (hk4 : ∀ (z1 : Int32) (z2 : Int32) (z3 : Int32), Go Γ E (gBpI Γ E S) 4 (0, 0) 4 S [(0, vA (some o)), (1, vI z1), (2, vI z2), (3, vI z3)] [] (k4 z1 z2 z3)) (x1 : Int32) (x3 : Int32) (y0 : Int32) : Go Γ E (gBpI Γ E S) 4 (0, 0) 41 S [(0, vA (some o)), (1, vI x1), (3, vI x3)] [vI y0] (f_X12_isOwing_41 k4 o S x1 x3 y0) := by
  unfold f_X12_isOwing_41
  refine g_istore_n (lv' := [(2, vI y0), (0, vA (some o)), (1, vI x1), (3, vI x3)]) hO d_X12_isOwing_41 (by rfl) (by decide) rfl ?_
  refine g_iinc (lv' := [(3, vI (x3 + 1)), (2, vI y0), (0, vA (some o)), (1, vI x1)]) hO 1 d_X12_isOwing_42 (by decide) 3 rfl (by decide) rfl ?_
  refine g_goto (tgt := 4) hO d_X12_isOwing_45.1 d_X12_isOwing_45.2 ?_
  exact g_sub [2, 3, 1, 0] rfl (hk4 _ _ _)
set_option maxRecDepth 20000 in
theorem w_X12_isOwing_40 {Γ : GC} {E : GE} (hO : gOk Γ E cX12_isOwing RX12 4 rm_X12_isOwing (some .boolean) "isOwing") (o : Nat) (S : GS) {k4 : (Int32 → Int32 → Int32 → Option Int32)} (hk4 : ∀ (z1 : Int32) (z2 : Int32) (z3 : Int32), Go Γ E (gBpI Γ E S) 4 (0, 0) 4 S [(0, vA (some o)), (1, vI z1), (2, vI z2), (3, vI z3)] [] (k4 z1 z2 z3)) (x1 : Int32) (x3 : Int32) : Go Γ E (gBpI Γ E S) 4 (0, 0) 40 S [(0, vA (some o)), (1, vI x1), (3, vI x3)] [] (f_X12_isOwing_40 k4 o S x1 x3) := by
  unfold f_X12_isOwing_40
  refine g_iconst hO 0 d_X12_isOwing_40 (by decide) ?_
  exact g_sub [0, 1, 2] rfl (w_X12_isOwing_41 hO o _ hk4 _ _ _)
set_option maxRecDepth 20000 in
theorem w_X12_isOwing_33 {Γ : GC} {E : GE} (hO : gOk Γ E cX12_isOwing RX12 4 rm_X12_isOwing (some .boolean) "isOwing") (o : Nat) (S : GS) {k4 : (Int32 → Int32 → Int32 → Option Int32)} (hk4 : ∀ (z1 : Int32) (z2 : Int32) (z3 : Int32), Go Γ E (gBpI Γ E S) 4 (0, 0) 4 S [(0, vA (some o)), (1, vI z1), (2, vI z2), (3, vI z3)] [] (k4 z1 z2 z3)) (x1 : Int32) (x3 : Int32) (y0 : Int32) (y1 : Int32) : Go Γ E (gBpI Γ E S) 4 (0, 0) 33 S [(0, vA (some o)), (1, vI x1), (3, vI x3)] [vI y1, vI y0] (f_X12_isOwing_33 k4 o S x1 x3 y0 y1) := by
  unfold f_X12_isOwing_33
  refine g_ic_ne (tgt := 40) hO d_X12_isOwing_33.1 d_X12_isOwing_33.2 (fun _ => ?_) (fun _ => ?_)
  · skip
    refine g_iconst hO 1 d_X12_isOwing_36 (by decide) ?_
    refine g_goto (tgt := 41) hO d_X12_isOwing_37.1 d_X12_isOwing_37.2 ?_
    exact g_sub [0, 1, 2] rfl (w_X12_isOwing_41 hO o _ hk4 _ _ _)
  · skip
    exact g_sub [0, 1, 2] rfl (w_X12_isOwing_40 hO o _ hk4 _ _)
set_option maxRecDepth 20000 in
theorem w_X12_isOwing_4 {Γ : GC} {E : GE} (hO : gOk Γ E cX12_isOwing RX12 4 rm_X12_isOwing (some .boolean) "isOwing") (o : Nat) (S : GS) : ∀ (n : Nat) (x1 : Int32) (x2 : Int32) (x3 : Int32), Go Γ E (gBpI Γ E S) 4 (0, 0) 4 S [(0, vA (some o)), (1, vI x1), (2, vI x2), (3, vI x3)] [] (f_X12_isOwing_4 o S n x1 x2 x3) := by
  intro n
  induction n with
  | zero =>
    intro x1 x2 x3
    exact g_none
  | succ n ih =>
    intro x1 x2 x3
    rw [f_X12_isOwing_4]
    refine g_iload_n hO d_X12_isOwing_4 (by rfl) 3 rfl ?_
    refine g_bipush hO 8 d_X12_isOwing_5 (by decide) ?_
    refine g_ic_ge (tgt := 48) hO d_X12_isOwing_7.1 d_X12_isOwing_7.2 (fun _ => ?_) (fun _ => ?_)
    · skip
      refine g_iload_n hO d_X12_isOwing_48 (by rfl) 2 rfl ?_
      exact g_zret hO rfl ⟨Nat.le_of_ble_eq_true rfl, Nat.le_of_ble_eq_true rfl⟩ rfl rfl d_X12_isOwing_49.1
    · skip
      refine g_iload_n hO d_X12_isOwing_10 (by rfl) 2 rfl ?_
      refine g_if_eq (tgt := 40) hO d_X12_isOwing_11.1 d_X12_isOwing_11.2 (fun _ => ?_) (fun _ => ?_)
      · skip
        exact g_sub [0, 1, 3] rfl (w_X12_isOwing_40 hO o _ ih _ _)
      · skip
        refine g_iload_n hO d_X12_isOwing_14 (by rfl) 1 rfl ?_
        refine g_iload_n hO d_X12_isOwing_15 (by rfl) 3 rfl ?_
        refine k_statIp hO mm_X12_has lkS_X12_104 ⟨⟨Nat.le_of_ble_eq_true rfl, Nat.le_of_ble_eq_true rfl⟩, Nat.le_of_ble_eq_true rfl, Nat.le_of_ble_eq_true rfl⟩ (kn' := (0, 0)) rfl (As := [vI x1, vI x3]) rfl (Nat.le_of_ble_eq_true rfl) (t_X12_has Γ.2.1 E x1 x3 S) d_X12_isOwing_16 rfl (fun v1 => ?_)
        refine g_aload_n hO d_X12_isOwing_19 (by rfl) 0 rfl ?_
        refine h_getR hO cl_X12 56 rfl wf_X12_87 d_X12_isOwing_20 (fun v3 => ?_)
        refine g_iload_n hO d_X12_isOwing_23 (by rfl) 3 rfl ?_
        refine h_iald hO d_X12_isOwing_24 (fun v4 => ?_)
        refine g_if_eq (tgt := 32) hO d_X12_isOwing_25.1 d_X12_isOwing_25.2 (fun _ => ?_) (fun _ => ?_)
        · skip
          refine g_iconst hO 0 d_X12_isOwing_32 (by decide) ?_
          exact g_sub [0, 1, 3] rfl (w_X12_isOwing_33 hO o _ ih _ _ _ _)
        · skip
          refine g_iconst hO 1 d_X12_isOwing_28 (by decide) ?_
          refine g_goto (tgt := 33) hO d_X12_isOwing_29.1 d_X12_isOwing_29.2 ?_
          exact g_sub [0, 1, 3] rfl (w_X12_isOwing_33 hO o _ ih _ _ _ _)
set_option maxRecDepth 20000 in
theorem w_X12_isOwing {Γ : GC} {E : GE} (hO : gOk Γ E cX12_isOwing RX12 4 rm_X12_isOwing (some .boolean) "isOwing") (o : Nat) (x1 : Int32) (S : GS) : Go Γ E (gBpI Γ E S) 4 (0, 0) 0 S [(0, vA (some o)), (1, vI x1)] [] (f_X12_isOwing o x1 S) := by
  unfold f_X12_isOwing
  refine g_iconst hO 1 d_X12_isOwing_0 (by decide) ?_
  refine g_istore_n (lv' := [(2, vI 1), (0, vA (some o)), (1, vI x1)]) hO d_X12_isOwing_1 (by rfl) (by decide) rfl ?_
  refine g_iconst hO 0 d_X12_isOwing_2 (by decide) ?_
  refine g_istore_n (lv' := [(3, vI 0), (2, vI 1), (0, vA (some o)), (1, vI x1)]) hO d_X12_isOwing_3 (by rfl) (by decide) rfl ?_
  exact g_sub [2, 3, 1, 0] rfl (w_X12_isOwing_4 hO o _ _ _ _ _)
theorem t_X12_isOwing (l : Launch) (E : GE) (o : Nat) (x1 : Int32) (S : GS) : ∀ a, f_X12_isOwing o x1 S = some a → Ct l E yX12_isOwing cX12_isOwing 4 (some .boolean) rm_X12_isOwing [vA (some o), vI x1] S (some (vI a)) S :=
  Ct_of (val := fun b => some (vI b)) (nxt := fun _ => S) (by decide) (Nat.le_of_ble_eq_true rfl) (fun Γ hl hO => w_X12_isOwing hO o x1 S)
theorem d_X12_payments_0 : gD cX12_payments 0 (.aload_n 0) 1 1 := ⟨by decide +kernel, rfl⟩
theorem d_X12_payments_1 : gD cX12_payments 1 (.invokevirtual 519) 3 4 := ⟨by decide +kernel, rfl⟩
theorem d_X12_payments_4 : gD cX12_payments 4 (.iconst 0) 1 5 := ⟨by decide +kernel, rfl⟩
theorem d_X12_payments_5 : gD cX12_payments 5 (.istore_n 1) 1 6 := ⟨by decide +kernel, rfl⟩
theorem d_X12_payments_6 : gD cX12_payments 6 (.aload_n 0) 1 7 := ⟨by decide +kernel, rfl⟩
theorem d_X12_payments_7 : gD cX12_payments 7 (.getfield 90) 3 10 := ⟨by decide +kernel, rfl⟩
theorem d_X12_payments_10 : gD cX12_payments 10 (.iconst 0) 1 11 := ⟨by decide +kernel, rfl⟩
theorem d_X12_payments_11 : gD cX12_payments 11 (.iconst 0) 1 12 := ⟨by decide +kernel, rfl⟩
theorem d_X12_payments_12 : gD cX12_payments 12 (.iastore) 1 13 := ⟨by decide +kernel, rfl⟩
theorem d_X12_payments_13 : gD cX12_payments 13 (.aload_n 0) 1 14 := ⟨by decide +kernel, rfl⟩
theorem d_X12_payments_14 : gD cX12_payments 14 (.getfield 93) 3 17 := ⟨by decide +kernel, rfl⟩
theorem d_X12_payments_17 : gD cX12_payments 17 (.iconst 0) 1 18 := ⟨by decide +kernel, rfl⟩
theorem d_X12_payments_18 : gD cX12_payments 18 (.iconst 0) 1 19 := ⟨by decide +kernel, rfl⟩
theorem d_X12_payments_19 : gD cX12_payments 19 (.iastore) 1 20 := ⟨by decide +kernel, rfl⟩
theorem d_X12_payments_20 : gD cX12_payments 20 (.iconst 0) 1 21 := ⟨by decide +kernel, rfl⟩
theorem d_X12_payments_21 : gD cX12_payments 21 (.istore_n 2) 1 22 := ⟨by decide +kernel, rfl⟩
theorem d_X12_payments_22 : gD cX12_payments 22 (.iload_n 2) 1 23 := ⟨by decide +kernel, rfl⟩
theorem d_X12_payments_23 : gD cX12_payments 23 (.bipush 8) 2 25 := ⟨by decide +kernel, rfl⟩
theorem d_X12_payments_25 : gD cX12_payments 25 (.if_icmp .ge 26) 3 28 ∧ ((25 : Nat) : Int) + 26 = ((51 : Nat) : Int) := ⟨⟨by decide +kernel, rfl⟩, by decide⟩
theorem d_X12_payments_28 : gD cX12_payments 28 (.iload_n 1) 1 29 := ⟨by decide +kernel, rfl⟩
theorem d_X12_payments_29 : gD cX12_payments 29 (.aload_n 0) 1 30 := ⟨by decide +kernel, rfl⟩
theorem d_X12_payments_30 : gD cX12_payments 30 (.getfield 87) 3 33 := ⟨by decide +kernel, rfl⟩
theorem d_X12_payments_33 : gD cX12_payments 33 (.iload_n 2) 1 34 := ⟨by decide +kernel, rfl⟩
theorem d_X12_payments_34 : gD cX12_payments 34 (.iaload) 1 35 := ⟨by decide +kernel, rfl⟩
theorem d_X12_payments_35 : gD cX12_payments 35 (.ifCond .eq 7) 3 38 ∧ ((35 : Nat) : Int) + 7 = ((42 : Nat) : Int) := ⟨⟨by decide +kernel, rfl⟩, by decide⟩
theorem d_X12_payments_38 : gD cX12_payments 38 (.iconst 1) 1 39 := ⟨by decide +kernel, rfl⟩
theorem d_X12_payments_39 : decode cX12_payments 39 = .ok (.goto 4, 3) ∧ ((39 : Nat) : Int) + 4 = ((43 : Nat) : Int) := ⟨by decide +kernel, by decide⟩
theorem d_X12_payments_42 : gD cX12_payments 42 (.iconst 0) 1 43 := ⟨by decide +kernel, rfl⟩
theorem d_X12_payments_43 : gD cX12_payments 43 (.iadd) 1 44 := ⟨by decide +kernel, rfl⟩
theorem d_X12_payments_44 : gD cX12_payments 44 (.istore_n 1) 1 45 := ⟨by decide +kernel, rfl⟩
theorem d_X12_payments_45 : gD cX12_payments 45 (.iinc 2 1) 3 48 := ⟨by decide +kernel, rfl⟩
theorem d_X12_payments_48 : decode cX12_payments 48 = .ok (.goto (-26), 3) ∧ ((48 : Nat) : Int) + (-26) = ((22 : Nat) : Int) := ⟨by decide +kernel, by decide⟩
theorem d_X12_payments_51 : gD cX12_payments 51 (.iconst 1) 1 52 := ⟨by decide +kernel, rfl⟩
theorem d_X12_payments_52 : gD cX12_payments 52 (.istore_n 2) 1 53 := ⟨by decide +kernel, rfl⟩
theorem d_X12_payments_53 : gD cX12_payments 53 (.iload_n 2) 1 54 := ⟨by decide +kernel, rfl⟩
theorem d_X12_payments_54 : gD cX12_payments 54 (.sipush 256) 3 57 := ⟨by decide +kernel, rfl⟩
theorem d_X12_payments_57 : gD cX12_payments 57 (.if_icmp .ge 141) 3 60 ∧ ((57 : Nat) : Int) + 141 = ((198 : Nat) : Int) := ⟨⟨by decide +kernel, rfl⟩, by decide⟩
theorem d_X12_payments_60 : gD cX12_payments 60 (.aload_n 0) 1 61 := ⟨by decide +kernel, rfl⟩
theorem d_X12_payments_61 : gD cX12_payments 61 (.getfield 90) 3 64 := ⟨by decide +kernel, rfl⟩
theorem d_X12_payments_64 : gD cX12_payments 64 (.iload_n 2) 1 65 := ⟨by decide +kernel, rfl⟩
theorem d_X12_payments_65 : gD cX12_payments 65 (.iconst 0) 1 66 := ⟨by decide +kernel, rfl⟩
theorem d_X12_payments_66 : gD cX12_payments 66 (.iastore) 1 67 := ⟨by decide +kernel, rfl⟩
theorem d_X12_payments_67 : gD cX12_payments 67 (.aload_n 0) 1 68 := ⟨by decide +kernel, rfl⟩
theorem d_X12_payments_68 : gD cX12_payments 68 (.getfield 93) 3 71 := ⟨by decide +kernel, rfl⟩
theorem d_X12_payments_71 : gD cX12_payments 71 (.iload_n 2) 1 72 := ⟨by decide +kernel, rfl⟩
theorem d_X12_payments_72 : gD cX12_payments 72 (.iconst 0) 1 73 := ⟨by decide +kernel, rfl⟩
theorem d_X12_payments_73 : gD cX12_payments 73 (.iastore) 1 74 := ⟨by decide +kernel, rfl⟩
theorem d_X12_payments_74 : gD cX12_payments 74 (.iconst 0) 1 75 := ⟨by decide +kernel, rfl⟩
theorem d_X12_payments_75 : gD cX12_payments 75 (.istore_n 3) 1 76 := ⟨by decide +kernel, rfl⟩
theorem d_X12_payments_76 : gD cX12_payments 76 (.iconst 0) 1 77 := ⟨by decide +kernel, rfl⟩
theorem d_X12_payments_77 : gD cX12_payments 77 (.istore 4) 2 79 := ⟨by decide +kernel, rfl⟩
theorem d_X12_payments_79 : gD cX12_payments 79 (.iload 4) 2 81 := ⟨by decide +kernel, rfl⟩
theorem d_X12_payments_81 : gD cX12_payments 81 (.bipush 8) 2 83 := ⟨by decide +kernel, rfl⟩
theorem d_X12_payments_83 : gD cX12_payments 83 (.if_icmp .ge 82) 3 86 ∧ ((83 : Nat) : Int) + 82 = ((165 : Nat) : Int) := ⟨⟨by decide +kernel, rfl⟩, by decide⟩
theorem d_X12_payments_86 : gD cX12_payments 86 (.iload_n 2) 1 87 := ⟨by decide +kernel, rfl⟩
theorem d_X12_payments_87 : gD cX12_payments 87 (.iload 4) 2 89 := ⟨by decide +kernel, rfl⟩
theorem d_X12_payments_89 : gD cX12_payments 89 (.invokestatic 104) 3 92 := ⟨by decide +kernel, rfl⟩
theorem d_X12_payments_92 : gD cX12_payments 92 (.ifCond .eq 67) 3 95 ∧ ((92 : Nat) : Int) + 67 = ((159 : Nat) : Int) := ⟨⟨by decide +kernel, rfl⟩, by decide⟩
theorem d_X12_payments_95 : gD cX12_payments 95 (.aload_n 0) 1 96 := ⟨by decide +kernel, rfl⟩
theorem d_X12_payments_96 : gD cX12_payments 96 (.getfield 90) 3 99 := ⟨by decide +kernel, rfl⟩
theorem d_X12_payments_99 : gD cX12_payments 99 (.iload_n 2) 1 100 := ⟨by decide +kernel, rfl⟩
theorem d_X12_payments_100 : gD cX12_payments 100 (.dup2) 1 101 := ⟨by decide +kernel, rfl⟩
theorem d_X12_payments_101 : gD cX12_payments 101 (.iaload) 1 102 := ⟨by decide +kernel, rfl⟩
theorem d_X12_payments_102 : gD cX12_payments 102 (.aload_n 0) 1 103 := ⟨by decide +kernel, rfl⟩
theorem d_X12_payments_103 : gD cX12_payments 103 (.getfield 87) 3 106 := ⟨by decide +kernel, rfl⟩
theorem d_X12_payments_106 : gD cX12_payments 106 (.iload 4) 2 108 := ⟨by decide +kernel, rfl⟩
theorem d_X12_payments_108 : gD cX12_payments 108 (.iaload) 1 109 := ⟨by decide +kernel, rfl⟩
theorem d_X12_payments_109 : gD cX12_payments 109 (.iadd) 1 110 := ⟨by decide +kernel, rfl⟩
theorem d_X12_payments_110 : gD cX12_payments 110 (.iastore) 1 111 := ⟨by decide +kernel, rfl⟩
theorem d_X12_payments_111 : gD cX12_payments 111 (.iload_n 3) 1 112 := ⟨by decide +kernel, rfl⟩
theorem d_X12_payments_112 : gD cX12_payments 112 (.ifCond .ne 13) 3 115 ∧ ((112 : Nat) : Int) + 13 = ((125 : Nat) : Int) := ⟨⟨by decide +kernel, rfl⟩, by decide⟩
theorem d_X12_payments_115 : gD cX12_payments 115 (.aload_n 0) 1 116 := ⟨by decide +kernel, rfl⟩
theorem d_X12_payments_116 : gD cX12_payments 116 (.getfield 87) 3 119 := ⟨by decide +kernel, rfl⟩
theorem d_X12_payments_119 : gD cX12_payments 119 (.iload 4) 2 121 := ⟨by decide +kernel, rfl⟩
theorem d_X12_payments_121 : gD cX12_payments 121 (.iaload) 1 122 := ⟨by decide +kernel, rfl⟩
theorem d_X12_payments_122 : gD cX12_payments 122 (.ifCond .ne 7) 3 125 ∧ ((122 : Nat) : Int) + 7 = ((129 : Nat) : Int) := ⟨⟨by decide +kernel, rfl⟩, by decide⟩
theorem d_X12_payments_125 : gD cX12_payments 125 (.iconst 1) 1 126 := ⟨by decide +kernel, rfl⟩
theorem d_X12_payments_126 : decode cX12_payments 126 = .ok (.goto 4, 3) ∧ ((126 : Nat) : Int) + 4 = ((130 : Nat) : Int) := ⟨by decide +kernel, by decide⟩
theorem d_X12_payments_129 : gD cX12_payments 129 (.iconst 0) 1 130 := ⟨by decide +kernel, rfl⟩
theorem d_X12_payments_130 : gD cX12_payments 130 (.istore_n 3) 1 131 := ⟨by decide +kernel, rfl⟩
theorem d_X12_payments_131 : gD cX12_payments 131 (.aload_n 0) 1 132 := ⟨by decide +kernel, rfl⟩
theorem d_X12_payments_132 : gD cX12_payments 132 (.getfield 93) 3 135 := ⟨by decide +kernel, rfl⟩
theorem d_X12_payments_135 : gD cX12_payments 135 (.iload_n 2) 1 136 := ⟨by decide +kernel, rfl⟩
theorem d_X12_payments_136 : gD cX12_payments 136 (.aload_n 0) 1 137 := ⟨by decide +kernel, rfl⟩
theorem d_X12_payments_137 : gD cX12_payments 137 (.getfield 93) 3 140 := ⟨by decide +kernel, rfl⟩
theorem d_X12_payments_140 : gD cX12_payments 140 (.iload_n 2) 1 141 := ⟨by decide +kernel, rfl⟩
theorem d_X12_payments_141 : gD cX12_payments 141 (.iaload) 1 142 := ⟨by decide +kernel, rfl⟩
theorem d_X12_payments_142 : gD cX12_payments 142 (.aload_n 0) 1 143 := ⟨by decide +kernel, rfl⟩
theorem d_X12_payments_143 : gD cX12_payments 143 (.getfield 93) 3 146 := ⟨by decide +kernel, rfl⟩
theorem d_X12_payments_146 : gD cX12_payments 146 (.iload_n 2) 1 147 := ⟨by decide +kernel, rfl⟩
theorem d_X12_payments_147 : gD cX12_payments 147 (.iconst 1) 1 148 := ⟨by decide +kernel, rfl⟩
theorem d_X12_payments_148 : gD cX12_payments 148 (.iload 4) 2 150 := ⟨by decide +kernel, rfl⟩
theorem d_X12_payments_150 : gD cX12_payments 150 (.ishl) 1 151 := ⟨by decide +kernel, rfl⟩
theorem d_X12_payments_151 : gD cX12_payments 151 (.iconst (-1)) 1 152 := ⟨by decide +kernel, rfl⟩
theorem d_X12_payments_152 : gD cX12_payments 152 (.ixor) 1 153 := ⟨by decide +kernel, rfl⟩
theorem d_X12_payments_153 : gD cX12_payments 153 (.iand) 1 154 := ⟨by decide +kernel, rfl⟩
theorem d_X12_payments_154 : gD cX12_payments 154 (.iaload) 1 155 := ⟨by decide +kernel, rfl⟩
theorem d_X12_payments_155 : gD cX12_payments 155 (.invokestatic 173) 3 158 := ⟨by decide +kernel, rfl⟩
theorem d_X12_payments_158 : gD cX12_payments 158 (.iastore) 1 159 := ⟨by decide +kernel, rfl⟩
theorem d_X12_payments_159 : gD cX12_payments 159 (.iinc 4 1) 3 162 := ⟨by decide +kernel, rfl⟩
theorem d_X12_payments_162 : decode cX12_payments 162 = .ok (.goto (-83), 3) ∧ ((162 : Nat) : Int) + (-83) = ((79 : Nat) : Int) := ⟨by decide +kernel, by decide⟩
theorem d_X12_payments_165 : gD cX12_payments 165 (.aload_n 0) 1 166 := ⟨by decide +kernel, rfl⟩
theorem d_X12_payments_166 : gD cX12_payments 166 (.getfield 93) 3 169 := ⟨by decide +kernel, rfl⟩
theorem d_X12_payments_169 : gD cX12_payments 169 (.iload_n 2) 1 170 := ⟨by decide +kernel, rfl⟩
theorem d_X12_payments_170 : gD cX12_payments 170 (.dup2) 1 171 := ⟨by decide +kernel, rfl⟩
theorem d_X12_payments_171 : gD cX12_payments 171 (.iaload) 1 172 := ⟨by decide +kernel, rfl⟩
theorem d_X12_payments_172 : gD cX12_payments 172 (.aload_n 0) 1 173 := ⟨by decide +kernel, rfl⟩
theorem d_X12_payments_173 : gD cX12_payments 173 (.getfield 90) 3 176 := ⟨by decide +kernel, rfl⟩
theorem d_X12_payments_176 : gD cX12_payments 176 (.iload_n 2) 1 177 := ⟨by decide +kernel, rfl⟩
theorem d_X12_payments_177 : gD cX12_payments 177 (.iaload) 1 178 := ⟨by decide +kernel, rfl⟩
theorem d_X12_payments_178 : gD cX12_payments 178 (.ifCond .ne 11) 3 181 ∧ ((178 : Nat) : Int) + 11 = ((189 : Nat) : Int) := ⟨⟨by decide +kernel, rfl⟩, by decide⟩
theorem d_X12_payments_181 : gD cX12_payments 181 (.iload_n 3) 1 182 := ⟨by decide +kernel, rfl⟩
theorem d_X12_payments_182 : gD cX12_payments 182 (.ifCond .ne 7) 3 185 ∧ ((182 : Nat) : Int) + 7 = ((189 : Nat) : Int) := ⟨⟨by decide +kernel, rfl⟩, by decide⟩
theorem d_X12_payments_185 : gD cX12_payments 185 (.iconst 1) 1 186 := ⟨by decide +kernel, rfl⟩
theorem d_X12_payments_186 : decode cX12_payments 186 = .ok (.goto 4, 3) ∧ ((186 : Nat) : Int) + 4 = ((190 : Nat) : Int) := ⟨by decide +kernel, by decide⟩
theorem d_X12_payments_189 : gD cX12_payments 189 (.iconst 0) 1 190 := ⟨by decide +kernel, rfl⟩
theorem d_X12_payments_190 : gD cX12_payments 190 (.iadd) 1 191 := ⟨by decide +kernel, rfl⟩
theorem d_X12_payments_191 : gD cX12_payments 191 (.iastore) 1 192 := ⟨by decide +kernel, rfl⟩
theorem d_X12_payments_192 : gD cX12_payments 192 (.iinc 2 1) 3 195 := ⟨by decide +kernel, rfl⟩
theorem d_X12_payments_195 : decode cX12_payments 195 = .ok (.goto (-142), 3) ∧ ((195 : Nat) : Int) + (-142) = ((53 : Nat) : Int) := ⟨by decide +kernel, by decide⟩
theorem d_X12_payments_198 : gD cX12_payments 198 (.iconst 0) 1 199 := ⟨by decide +kernel, rfl⟩
theorem d_X12_payments_199 : gD cX12_payments 199 (.istore_n 2) 1 200 := ⟨by decide +kernel, rfl⟩
theorem d_X12_payments_200 : gD cX12_payments 200 (.iconst 0) 1 201 := ⟨by decide +kernel, rfl⟩
theorem d_X12_payments_201 : gD cX12_payments 201 (.istore_n 3) 1 202 := ⟨by decide +kernel, rfl⟩
theorem d_X12_payments_202 : gD cX12_payments 202 (.iload_n 3) 1 203 := ⟨by decide +kernel, rfl⟩
theorem d_X12_payments_203 : gD cX12_payments 203 (.sipush 256) 3 206 := ⟨by decide +kernel, rfl⟩
theorem d_X12_payments_206 : gD cX12_payments 206 (.if_icmp .ge 32) 3 209 ∧ ((206 : Nat) : Int) + 32 = ((238 : Nat) : Int) := ⟨⟨by decide +kernel, rfl⟩, by decide⟩
theorem d_X12_payments_209 : gD cX12_payments 209 (.aload_n 0) 1 210 := ⟨by decide +kernel, rfl⟩
theorem d_X12_payments_210 : gD cX12_payments 210 (.iload_n 3) 1 211 := ⟨by decide +kernel, rfl⟩
theorem d_X12_payments_211 : gD cX12_payments 211 (.invokevirtual 522) 3 214 := ⟨by decide +kernel, rfl⟩
theorem d_X12_payments_214 : gD cX12_payments 214 (.ifCond .eq 16) 3 217 ∧ ((214 : Nat) : Int) + 16 = ((230 : Nat) : Int) := ⟨⟨by decide +kernel, rfl⟩, by decide⟩
theorem d_X12_payments_217 : gD cX12_payments 217 (.iload_n 2) 1 218 := ⟨by decide +kernel, rfl⟩
theorem d_X12_payments_218 : gD cX12_payments 218 (.aload_n 0) 1 219 := ⟨by decide +kernel, rfl⟩
theorem d_X12_payments_219 : gD cX12_payments 219 (.getfield 93) 3 222 := ⟨by decide +kernel, rfl⟩
theorem d_X12_payments_222 : gD cX12_payments 222 (.iload_n 3) 1 223 := ⟨by decide +kernel, rfl⟩
theorem d_X12_payments_223 : gD cX12_payments 223 (.iaload) 1 224 := ⟨by decide +kernel, rfl⟩
theorem d_X12_payments_224 : gD cX12_payments 224 (.invokestatic 173) 3 227 := ⟨by decide +kernel, rfl⟩
theorem d_X12_payments_227 : decode cX12_payments 227 = .ok (.goto 4, 3) ∧ ((227 : Nat) : Int) + 4 = ((231 : Nat) : Int) := ⟨by decide +kernel, by decide⟩
theorem d_X12_payments_230 : gD cX12_payments 230 (.iload_n 2) 1 231 := ⟨by decide +kernel, rfl⟩
theorem d_X12_payments_231 : gD cX12_payments 231 (.istore_n 2) 1 232 := ⟨by decide +kernel, rfl⟩
theorem d_X12_payments_232 : gD cX12_payments 232 (.iinc 3 1) 3 235 := ⟨by decide +kernel, rfl⟩
theorem d_X12_payments_235 : decode cX12_payments 235 = .ok (.goto (-33), 3) ∧ ((235 : Nat) : Int) + (-33) = ((202 : Nat) : Int) := ⟨by decide +kernel, by decide⟩
theorem d_X12_payments_238 : gD cX12_payments 238 (.iload_n 1) 1 239 := ⟨by decide +kernel, rfl⟩
theorem d_X12_payments_239 : gD cX12_payments 239 (.iload_n 2) 1 240 := ⟨by decide +kernel, rfl⟩
theorem d_X12_payments_240 : gD cX12_payments 240 (.isub) 1 241 := ⟨by decide +kernel, rfl⟩
theorem d_X12_payments_241 : gD cX12_payments 241 (.ireturn) 1 242 := ⟨by decide +kernel, rfl⟩
abbrev rm_X12_payments : Room := { frames := 2, cells := 0, slots := 0, locals := 44 }
set_option maxRecDepth 20000 in
theorem w_X12_payments_43 {Γ : GC} {E : GE} (hO : gOk Γ E cX12_payments RX12 5 rm_X12_payments (some .int) "payments") (o : Nat) {k22 : (Int32 → Int32 → GS → Option (Int32 × GS))} (hk22 : ∀ (z1 : Int32) (z2 : Int32) (S1 : GS), Go Γ E (gBsI Γ E) 5 (0, 0) 22 S1 [(0, vA (some o)), (1, vI z1), (2, vI z2)] [] (k22 z1 z2 S1)) (x2 : Int32) (y0 : Int32) (y1 : Int32) (S : GS) : Go Γ E (gBsI Γ E) 5 (0, 0) 43 S [(0, vA (some o)), (2, vI x2)] [vI y1, vI y0] (f_X12_payments_43 k22 o x2 y0 y1 S) := by
  unfold f_X12_payments_43
  refine g_iadd hO d_X12_payments_43 ?_
  refine g_istore_n (lv' := [(1, vI (y0 + y1)), (0, vA (some o)), (2, vI x2)]) hO d_X12_payments_44 (by rfl) (by decide) rfl ?_
  refine g_iinc (lv' := [(2, vI (x2 + 1)), (1, vI (y0 + y1)), (0, vA (some o))]) hO 1 d_X12_payments_45 (by decide) 2 rfl (by decide) rfl ?_
  refine g_goto (tgt := 22) hO d_X12_payments_48.1 d_X12_payments_48.2 ?_
  exact g_sub [2, 1, 0] rfl (hk22 _ _ _)
set_option maxRecDepth 20000 in
theorem w_X12_payments_159 {Γ : GC} {E : GE} (hO : gOk Γ E cX12_payments RX12 5 rm_X12_payments (some .int) "payments") (o : Nat) {k53 : (Int32 → Int32 → GS → Option (Int32 × GS))} {k79 : (Int32 → Int32 → Int32 → Int32 → GS → Option (Int32 × GS))} (hk53 : ∀ (z1 : Int32) (z2 : Int32) (S1 : GS), Go Γ E (gBsI Γ E) 5 (0, 0) 53 S1 [(0, vA (some o)), (1, vI z1), (2, vI z2)] [] (k53 z1 z2 S1)) (hk79 : ∀ (z1 : Int32) (z2 : Int32) (z3 : Int32) (z4 : Int32) (S1 : GS), Go Γ E (gBsI Γ E) 5 (0, 0) 79 S1 [(0, vA (some o)), (1, vI z1), (2, vI z2), (3, vI z3), (4, vI z4)] [] (k79 z1 z2 z3 z4 S1)) (x1 : Int32) (x2 : Int32) (x3 : Int32) (x4 : Int32) (S : GS) : Go Γ E (gBsI Γ E) 5 (0, 0) 159 S [(0, vA (some o)), (1, vI x1), (2, vI x2), (3, vI x3), (4, vI x4)] [] (f_X12_payments_159 k53 k79 o x1 x2 x3 x4 S) := by
  unfold f_X12_payments_159
  refine g_iinc (lv' := [(4, vI (x4 + 1)), (0, vA (some o)), (1, vI x1), (2, vI x2), (3, vI x3)]) hO 1 d_X12_payments_159 (by decide) 4 rfl (by decide) rfl ?_
  refine g_goto (tgt := 79) hO d_X12_payments_162.1 d_X12_payments_162.2 ?_
  exact g_sub [1, 2, 3, 4, 0] rfl (hk79 _ _ _ _ _)
set_option maxRecDepth 20000 in
theorem w_X12_payments_130 {Γ : GC} {E : GE} (hO : gOk Γ E cX12_payments RX12 5 rm_X12_payments (some .int) "payments") (o : Nat) {k53 : (Int32 → Int32 → GS → Option (Int32 × GS))} {k79 : (Int32 → Int32 → Int32 → Int32 → GS → Option (Int32 × GS))} (hk53 : ∀ (z1 : Int32) (z2 : Int32) (S1 : GS), Go Γ E (gBsI Γ E) 5 (0, 0) 53 S1 [(0, vA (some o)), (1, vI z1), (2, vI z2)] [] (k53 z1 z2 S1)) (hk79 : ∀ (z1 : Int32) (z2 : Int32) (z3 : Int32) (z4 : Int32) (S1 : GS), Go Γ E (gBsI Γ E) 5 (0, 0) 79 S1 [(0, vA (some o)), (1, vI z1), (2, vI z2), (3, vI z3), (4, vI z4)] [] (k79 z1 z2 z3 z4 S1)) (x1 : Int32) (x2 : Int32) (x4 : Int32) (y0 : Int32) (S : GS) : Go Γ E (gBsI Γ E) 5 (0, 0) 130 S [(0, vA (some o)), (1, vI x1), (2, vI x2), (4, vI x4)] [vI y0] (f_X12_payments_130 k53 k79 o x1 x2 x4 y0 S) := by
  unfold f_X12_payments_130
  refine g_istore_n (lv' := [(3, vI y0), (0, vA (some o)), (1, vI x1), (2, vI x2), (4, vI x4)]) hO d_X12_payments_130 (by rfl) (by decide) rfl ?_
  refine g_aload_n hO d_X12_payments_131 (by rfl) 1 rfl ?_
  refine h_getR hO cl_X12 58 rfl wf_X12_93 d_X12_payments_132 (fun v1 => ?_)
  refine g_iload_n hO d_X12_payments_135 (by rfl) 3 rfl ?_
  refine g_aload_n hO d_X12_payments_136 (by rfl) 1 rfl ?_
  refine h_getR hO cl_X12 58 rfl wf_X12_93 d_X12_payments_137 (fun v2 => ?_)
  refine g_iload_n hO d_X12_payments_140 (by rfl) 3 rfl ?_
  refine h_iald hO d_X12_payments_141 (fun v3 => ?_)
  refine g_aload_n hO d_X12_payments_142 (by rfl) 1 rfl ?_
  refine h_getR hO cl_X12 58 rfl wf_X12_93 d_X12_payments_143 (fun v4 => ?_)
  refine g_iload_n hO d_X12_payments_146 (by rfl) 3 rfl ?_
  refine g_iconst hO 1 d_X12_payments_147 (by decide) ?_
  refine g_iload hO d_X12_payments_148 4 rfl ?_
  refine g_ishl hO d_X12_payments_150 ?_
  refine g_iconst hO (-1) d_X12_payments_151 (by decide) ?_
  refine g_ixor hO d_X12_payments_152 ?_
  refine g_iand hO d_X12_payments_153 ?_
  refine h_iald hO d_X12_payments_154 (fun v5 => ?_)
  refine k_statIp hO mm_X12_greater lkS_X12_173 ⟨⟨Nat.le_of_ble_eq_true rfl, Nat.le_of_ble_eq_true rfl⟩, Nat.le_of_ble_eq_true rfl, Nat.le_of_ble_eq_true rfl⟩ (kn' := (0, 0)) rfl (As := [vI v3, vI v5]) rfl (Nat.le_of_ble_eq_true rfl) (t_X12_greater Γ.2.1 E v3 v5 S) d_X12_payments_155 rfl (fun v6 => ?_)
  refine h_iast hO d_X12_payments_158 (fun S8 => ?_)
  exact g_sub [1, 2, 3, 0, 4] rfl (w_X12_payments_159 hO o hk53 hk79 _ _ _ _ _)
set_option maxRecDepth 20000 in
theorem w_X12_payments_125 {Γ : GC} {E : GE} (hO : gOk Γ E cX12_payments RX12 5 rm_X12_payments (some .int) "payments") (o : Nat) {k53 : (Int32 → Int32 → GS → Option (Int32 × GS))} {k79 : (Int32 → Int32 → Int32 → Int32 → GS → Option (Int32 × GS))} (hk53 : ∀ (z1 : Int32) (z2 : Int32) (S1 : GS), Go Γ E (gBsI Γ E) 5 (0, 0) 53 S1 [(0, vA (some o)), (1, vI z1), (2, vI z2)] [] (k53 z1 z2 S1)) (hk79 : ∀ (z1 : Int32) (z2 : Int32) (z3 : Int32) (z4 : Int32) (S1 : GS), Go Γ E (gBsI Γ E) 5 (0, 0) 79 S1 [(0, vA (some o)), (1, vI z1), (2, vI z2), (3, vI z3), (4, vI z4)] [] (k79 z1 z2 z3 z4 S1)) (x1 : Int32) (x2 : Int32) (x4 : Int32) (S : GS) : Go Γ E (gBsI Γ E) 5 (0, 0) 125 S [(0, vA (some o)), (1, vI x1), (2, vI x2), (4, vI x4)] [] (f_X12_payments_125 k53 k79 o x1 x2 x4 S) := by
  unfold f_X12_payments_125
  refine g_iconst hO 1 d_X12_payments_125 (by decide) ?_
  refine g_goto (tgt := 130) hO d_X12_payments_126.1 d_X12_payments_126.2 ?_
  exact g_sub [0, 1, 2, 3] rfl (w_X12_payments_130 hO o hk53 hk79 _ _ _ _ _)
set_option maxRecDepth 20000 in
theorem w_X12_payments_190 {Γ : GC} {E : GE} (hO : gOk Γ E cX12_payments RX12 5 rm_X12_payments (some .int) "payments") (o : Nat) {k53 : (Int32 → Int32 → GS → Option (Int32 × GS))} (hk53 : ∀ (z1 : Int32) (z2 : Int32) (S1 : GS), Go Γ E (gBsI Γ E) 5 (0, 0) 53 S1 [(0, vA (some o)), (1, vI z1), (2, vI z2)] [] (k53 z1 z2 S1)) (x1 : Int32) (x2 : Int32) (y0 : Option Nat) (y1 : Int32) (y2 : Int32) (y3 : Int32) (S : GS) : Go Γ E (gBsI Γ E) 5 (0, 0) 190 S [(0, vA (some o)), (1, vI x1), (2, vI x2)] [vI y3, vI y2, vI y1, vA y0] (f_X12_payments_190 k53 o x1 x2 y0 y1 y2 y3 S) := by
  unfold f_X12_payments_190
  refine g_iadd hO d_X12_payments_190 ?_
  refine h_iast hO d_X12_payments_191 (fun S1 => ?_)
  refine g_iinc (lv' := [(2, vI (x2 + 1)), (0, vA (some o)), (1, vI x1)]) hO 1 d_X12_payments_192 (by decide) 2 rfl (by decide) rfl ?_
  refine g_goto (tgt := 53) hO d_X12_payments_195.1 d_X12_payments_195.2 ?_
  exact g_sub [1, 2, 0] rfl (hk53 _ _ _)
set_option maxRecDepth 20000 in
theorem w_X12_payments_189 {Γ : GC} {E : GE} (hO : gOk Γ E cX12_payments RX12 5 rm_X12_payments (some .int) "payments") (o : Nat) {k53 : (Int32 → Int32 → GS → Option (Int32 × GS))} (hk53 : ∀ (z1 : Int32) (z2 : Int32) (S1 : GS), Go Γ E (gBsI Γ E) 5 (0, 0) 53 S1 [(0, vA (some o)), (1, vI z1), (2, vI z2)] [] (k53 z1 z2 S1)) (x1 : Int32) (x2 : Int32) (y0 : Option Nat) (y1 : Int32) (y2 : Int32) (S : GS) : Go Γ E (gBsI Γ E) 5 (0, 0) 189 S [(0, vA (some o)), (1, vI x1), (2, vI x2)] [vI y2, vI y1, vA y0] (f_X12_payments_189 k53 o x1 x2 y0 y1 y2 S) := by
  unfold f_X12_payments_189
  refine g_iconst hO 0 d_X12_payments_189 (by decide) ?_
  exact g_sub [0, 1, 2] rfl (w_X12_payments_190 hO o hk53 _ _ _ _ _ _ _)
set_option maxRecDepth 20000 in
theorem w_X12_payments_79 {Γ : GC} {E : GE} (hO : gOk Γ E cX12_payments RX12 5 rm_X12_payments (some .int) "payments") (o : Nat) {k53 : (Int32 → Int32 → GS → Option (Int32 × GS))} (hk53 : ∀ (z1 : Int32) (z2 : Int32) (S1 : GS), Go Γ E (gBsI Γ E) 5 (0, 0) 53 S1 [(0, vA (some o)), (1, vI z1), (2, vI z2)] [] (k53 z1 z2 S1)) : ∀ (n : Nat) (x1 : Int32) (x2 : Int32) (x3 : Int32) (x4 : Int32) (S : GS), Go Γ E (gBsI Γ E) 5 (0, 0) 79 S [(0, vA (some o)), (1, vI x1), (2, vI x2), (3, vI x3), (4, vI x4)] [] (f_X12_payments_79 k53 o n x1 x2 x3 x4 S) := by
  intro n
  induction n with
  | zero =>
    intro x1 x2 x3 x4 S
    exact g_none
  | succ n ih =>
    intro x1 x2 x3 x4 S
    rw [f_X12_payments_79]
    refine g_iload hO d_X12_payments_79 4 rfl ?_
    refine g_bipush hO 8 d_X12_payments_81 (by decide) ?_
    refine g_ic_ge (tgt := 165) hO d_X12_payments_83.1 d_X12_payments_83.2 (fun _ => ?_) (fun _ => ?_)
    · skip
      refine g_aload_n hO d_X12_payments_165 (by rfl) 0 rfl ?_
      refine h_getR hO cl_X12 58 rfl wf_X12_93 d_X12_payments_166 (fun v1 => ?_)
      refine g_iload_n hO d_X12_payments_169 (by rfl) 2 rfl ?_
      refine g_dup2 hO d_X12_payments_170 rfl rfl ?_
      refine h_iald hO d_X12_payments_171 (fun v2 => ?_)
      refine g_aload_n hO d_X12_payments_172 (by rfl) 0 rfl ?_
      refine h_getR hO cl_X12 57 rfl wf_X12_90 d_X12_payments_173 (fun v3 => ?_)
      refine g_iload_n hO d_X12_payments_176 (by rfl) 2 rfl ?_
      refine h_iald hO d_X12_payments_177 (fun v4 => ?_)
      refine g_if_ne (tgt := 189) hO d_X12_payments_178.1 d_X12_payments_178.2 (fun _ => ?_) (fun _ => ?_)
      · skip
        refine g_iload_n hO d_X12_payments_181 (by rfl) 3 rfl ?_
        refine g_if_ne (tgt := 189) hO d_X12_payments_182.1 d_X12_payments_182.2 (fun _ => ?_) (fun _ => ?_)
        · skip
          refine g_iconst hO 1 d_X12_payments_185 (by decide) ?_
          refine g_goto (tgt := 190) hO d_X12_payments_186.1 d_X12_payments_186.2 ?_
          exact g_sub [0, 1, 2] rfl (w_X12_payments_190 hO o hk53 _ _ _ _ _ _ _)
        · skip
          exact g_sub [0, 1, 2] rfl (w_X12_payments_189 hO o hk53 _ _ _ _ _ _)
      · skip
        exact g_sub [0, 1, 2] rfl (w_X12_payments_189 hO o hk53 _ _ _ _ _ _)
    · skip
      refine g_iload_n hO d_X12_payments_86 (by rfl) 2 rfl ?_
      refine g_iload hO d_X12_payments_87 4 rfl ?_
      refine k_statIp hO mm_X12_has lkS_X12_104 ⟨⟨Nat.le_of_ble_eq_true rfl, Nat.le_of_ble_eq_true rfl⟩, Nat.le_of_ble_eq_true rfl, Nat.le_of_ble_eq_true rfl⟩ (kn' := (0, 0)) rfl (As := [vI x2, vI x4]) rfl (Nat.le_of_ble_eq_true rfl) (t_X12_has Γ.2.1 E x2 x4 S) d_X12_payments_89 rfl (fun v5 => ?_)
      refine g_if_eq (tgt := 159) hO d_X12_payments_92.1 d_X12_payments_92.2 (fun _ => ?_) (fun _ => ?_)
      · skip
        exact g_sub [0, 1, 2, 3, 4] rfl (w_X12_payments_159 hO o hk53 ih _ _ _ _ _)
      · skip
        refine g_aload_n hO d_X12_payments_95 (by rfl) 0 rfl ?_
        refine h_getR hO cl_X12 57 rfl wf_X12_90 d_X12_payments_96 (fun v7 => ?_)
        refine g_iload_n hO d_X12_payments_99 (by rfl) 2 rfl ?_
        refine g_dup2 hO d_X12_payments_100 rfl rfl ?_
        refine h_iald hO d_X12_payments_101 (fun v8 => ?_)
        refine g_aload_n hO d_X12_payments_102 (by rfl) 0 rfl ?_
        refine h_getR hO cl_X12 56 rfl wf_X12_87 d_X12_payments_103 (fun v9 => ?_)
        refine g_iload hO d_X12_payments_106 4 rfl ?_
        refine h_iald hO d_X12_payments_108 (fun v10 => ?_)
        refine g_iadd hO d_X12_payments_109 ?_
        refine h_iast hO d_X12_payments_110 (fun S11 => ?_)
        refine g_iload_n hO d_X12_payments_111 (by rfl) 3 rfl ?_
        refine g_if_ne (tgt := 125) hO d_X12_payments_112.1 d_X12_payments_112.2 (fun _ => ?_) (fun _ => ?_)
        · skip
          refine g_aload_n hO d_X12_payments_115 (by rfl) 0 rfl ?_
          refine h_getR hO cl_X12 56 rfl wf_X12_87 d_X12_payments_116 (fun v12 => ?_)
          refine g_iload hO d_X12_payments_119 4 rfl ?_
          refine h_iald hO d_X12_payments_121 (fun v13 => ?_)
          refine g_if_ne (tgt := 129) hO d_X12_payments_122.1 d_X12_payments_122.2 (fun _ => ?_) (fun _ => ?_)
          · skip
            exact g_sub [0, 1, 2, 4] rfl (w_X12_payments_125 hO o hk53 ih _ _ _ _)
          · skip
            refine g_iconst hO 0 d_X12_payments_129 (by decide) ?_
            exact g_sub [0, 1, 2, 4] rfl (w_X12_payments_130 hO o hk53 ih _ _ _ _ _)
        · skip
          exact g_sub [0, 1, 2, 4] rfl (w_X12_payments_125 hO o hk53 ih _ _ _ _)
set_option maxRecDepth 20000 in
theorem w_X12_payments_231 {Γ : GC} {E : GE} (hO : gOk Γ E cX12_payments RX12 5 rm_X12_payments (some .int) "payments") (o : Nat) {k202 : (Int32 → Int32 → Int32 → GS → Option (Int32 × GS))} (hk202 : ∀ (z1 : Int32) (z2 : Int32) (z3 : Int32) (S1 : GS), Go Γ E (gBsI Γ E) 5 (0, 0) 202 S1 [(0, vA (some o)), (1, vI z1), (2, vI z2), (3, vI z3)] [] (k202 z1 z2 z3 S1)) (x1 : Int32) (x3 : Int32) (y0 : Int32) (S : GS) : Go Γ E (gBsI Γ E) 5 (0, 0) 231 S [(0, vA (some o)), (1, vI x1), (3, vI x3)] [vI y0] (f_X12_payments_231 k202 o x1 x3 y0 S) := by
  unfold f_X12_payments_231
  refine g_istore_n (lv' := [(2, vI y0), (0, vA (some o)), (1, vI x1), (3, vI x3)]) hO d_X12_payments_231 (by rfl) (by decide) rfl ?_
  refine g_iinc (lv' := [(3, vI (x3 + 1)), (2, vI y0), (0, vA (some o)), (1, vI x1)]) hO 1 d_X12_payments_232 (by decide) 3 rfl (by decide) rfl ?_
  refine g_goto (tgt := 202) hO d_X12_payments_235.1 d_X12_payments_235.2 ?_
  exact g_sub [2, 3, 1, 0] rfl (hk202 _ _ _ _)
set_option maxRecDepth 20000 in
theorem w_X12_payments_202 {Γ : GC} {E : GE} (hO : gOk Γ E cX12_payments RX12 5 rm_X12_payments (some .int) "payments") (o : Nat) : ∀ (n : Nat) (x1 : Int32) (x2 : Int32) (x3 : Int32) (S : GS), Go Γ E (gBsI Γ E) 5 (0, 0) 202 S [(0, vA (some o)), (1, vI x1), (2, vI x2), (3, vI x3)] [] (f_X12_payments_202 o n x1 x2 x3 S) := by
  intro n
  induction n with
  | zero =>
    intro x1 x2 x3 S
    exact g_none
  | succ n ih =>
    intro x1 x2 x3 S
    rw [f_X12_payments_202]
    refine g_iload_n hO d_X12_payments_202 (by rfl) 3 rfl ?_
    refine g_sipush hO 256 d_X12_payments_203 (by decide) ?_
    refine g_ic_ge (tgt := 238) hO d_X12_payments_206.1 d_X12_payments_206.2 (fun _ => ?_) (fun _ => ?_)
    · skip
      refine g_iload_n hO d_X12_payments_238 (by rfl) 1 rfl ?_
      refine g_iload_n hO d_X12_payments_239 (by rfl) 2 rfl ?_
      refine g_isub hO d_X12_payments_240 ?_
      exact g_ret hO rfl rfl ⟨Nat.le_of_ble_eq_true rfl, Nat.le_of_ble_eq_true rfl⟩ rfl rfl d_X12_payments_241.1
    · skip
      refine g_aload_n hO d_X12_payments_209 (by rfl) 0 rfl ?_
      refine g_iload_n hO d_X12_payments_210 (by rfl) 3 rfl ?_
      refine k_virtIp hO cl_X12 mm_X12_isOwing lkV_X12_522 ⟨⟨Nat.le_of_ble_eq_true rfl, Nat.le_of_ble_eq_true rfl⟩, Nat.le_of_ble_eq_true rfl, Nat.le_of_ble_eq_true rfl⟩ (kn' := (0, 0)) rfl (As := [vI x3]) rfl (Nat.le_of_ble_eq_true rfl) (fun o' _ => t_X12_isOwing Γ.2.1 E o' x3 S) d_X12_payments_211 rfl (fun v1 => ?_)
      refine g_if_eq (tgt := 230) hO d_X12_payments_214.1 d_X12_payments_214.2 (fun _ => ?_) (fun _ => ?_)
      · skip
        refine g_iload_n hO d_X12_payments_230 (by rfl) 2 rfl ?_
        exact g_sub [0, 1, 3] rfl (w_X12_payments_231 hO o ih _ _ _ _)
      · skip
        refine g_iload_n hO d_X12_payments_217 (by rfl) 2 rfl ?_
        refine g_aload_n hO d_X12_payments_218 (by rfl) 0 rfl ?_
        refine h_getR hO cl_X12 58 rfl wf_X12_93 d_X12_payments_219 (fun v3 => ?_)
        refine g_iload_n hO d_X12_payments_222 (by rfl) 3 rfl ?_
        refine h_iald hO d_X12_payments_223 (fun v4 => ?_)
        refine k_statIp hO mm_X12_greater lkS_X12_173 ⟨⟨Nat.le_of_ble_eq_true rfl, Nat.le_of_ble_eq_true rfl⟩, Nat.le_of_ble_eq_true rfl, Nat.le_of_ble_eq_true rfl⟩ (kn' := (0, 0)) rfl (As := [vI x2, vI v4]) rfl (Nat.le_of_ble_eq_true rfl) (t_X12_greater Γ.2.1 E x2 v4 S) d_X12_payments_224 rfl (fun v5 => ?_)
        refine g_goto (tgt := 231) hO d_X12_payments_227.1 d_X12_payments_227.2 ?_
        exact g_sub [0, 1, 3] rfl (w_X12_payments_231 hO o ih _ _ _ _)
set_option maxRecDepth 20000 in
theorem w_X12_payments_53 {Γ : GC} {E : GE} (hO : gOk Γ E cX12_payments RX12 5 rm_X12_payments (some .int) "payments") (o : Nat) : ∀ (n : Nat) (x1 : Int32) (x2 : Int32) (S : GS), Go Γ E (gBsI Γ E) 5 (0, 0) 53 S [(0, vA (some o)), (1, vI x1), (2, vI x2)] [] (f_X12_payments_53 o n x1 x2 S) := by
  intro n
  induction n with
  | zero =>
    intro x1 x2 S
    exact g_none
  | succ n ih =>
    intro x1 x2 S
    rw [f_X12_payments_53]
    refine g_iload_n hO d_X12_payments_53 (by rfl) 2 rfl ?_
    refine g_sipush hO 256 d_X12_payments_54 (by decide) ?_
    refine g_ic_ge (tgt := 198) hO d_X12_payments_57.1 d_X12_payments_57.2 (fun _ => ?_) (fun _ => ?_)
    · skip
      refine g_iconst hO 0 d_X12_payments_198 (by decide) ?_
      refine g_istore_n (lv' := [(2, vI 0), (0, vA (some o)), (1, vI x1)]) hO d_X12_payments_199 (by rfl) (by decide) rfl ?_
      refine g_iconst hO 0 d_X12_payments_200 (by decide) ?_
      refine g_istore_n (lv' := [(3, vI 0), (2, vI 0), (0, vA (some o)), (1, vI x1)]) hO d_X12_payments_201 (by rfl) (by decide) rfl ?_
      exact g_sub [2, 3, 1, 0] rfl (w_X12_payments_202 hO o _ _ _ _ _)
    · skip
      refine g_aload_n hO d_X12_payments_60 (by rfl) 0 rfl ?_
      refine h_getR hO cl_X12 57 rfl wf_X12_90 d_X12_payments_61 (fun v1 => ?_)
      refine g_iload_n hO d_X12_payments_64 (by rfl) 2 rfl ?_
      refine g_iconst hO 0 d_X12_payments_65 (by decide) ?_
      refine h_iast hO d_X12_payments_66 (fun S2 => ?_)
      refine g_aload_n hO d_X12_payments_67 (by rfl) 0 rfl ?_
      refine h_getR hO cl_X12 58 rfl wf_X12_93 d_X12_payments_68 (fun v3 => ?_)
      refine g_iload_n hO d_X12_payments_71 (by rfl) 2 rfl ?_
      refine g_iconst hO 0 d_X12_payments_72 (by decide) ?_
      refine h_iast hO d_X12_payments_73 (fun S4 => ?_)
      refine g_iconst hO 0 d_X12_payments_74 (by decide) ?_
      refine g_istore_n (lv' := [(3, vI 0), (0, vA (some o)), (1, vI x1), (2, vI x2)]) hO d_X12_payments_75 (by rfl) (by decide) rfl ?_
      refine g_iconst hO 0 d_X12_payments_76 (by decide) ?_
      refine g_istore (lv' := [(4, vI 0), (3, vI 0), (0, vA (some o)), (1, vI x1), (2, vI x2)]) hO d_X12_payments_77 (by decide) rfl ?_
      exact g_sub [2, 3, 4, 1, 0] rfl (w_X12_payments_79 hO o ih _ _ _ _ _ _)
set_option maxRecDepth 20000 in
theorem w_X12_payments_22 {Γ : GC} {E : GE} (hO : gOk Γ E cX12_payments RX12 5 rm_X12_payments (some .int) "payments") (o : Nat) : ∀ (n : Nat) (x1 : Int32) (x2 : Int32) (S : GS), Go Γ E (gBsI Γ E) 5 (0, 0) 22 S [(0, vA (some o)), (1, vI x1), (2, vI x2)] [] (f_X12_payments_22 o n x1 x2 S) := by
  intro n
  induction n with
  | zero =>
    intro x1 x2 S
    exact g_none
  | succ n ih =>
    intro x1 x2 S
    rw [f_X12_payments_22]
    refine g_iload_n hO d_X12_payments_22 (by rfl) 2 rfl ?_
    refine g_bipush hO 8 d_X12_payments_23 (by decide) ?_
    refine g_ic_ge (tgt := 51) hO d_X12_payments_25.1 d_X12_payments_25.2 (fun _ => ?_) (fun _ => ?_)
    · skip
      refine g_iconst hO 1 d_X12_payments_51 (by decide) ?_
      refine g_istore_n (lv' := [(2, vI 1), (0, vA (some o)), (1, vI x1)]) hO d_X12_payments_52 (by rfl) (by decide) rfl ?_
      exact g_sub [1, 2, 0] rfl (w_X12_payments_53 hO o _ _ _ _)
    · skip
      refine g_iload_n hO d_X12_payments_28 (by rfl) 1 rfl ?_
      refine g_aload_n hO d_X12_payments_29 (by rfl) 0 rfl ?_
      refine h_getR hO cl_X12 56 rfl wf_X12_87 d_X12_payments_30 (fun v1 => ?_)
      refine g_iload_n hO d_X12_payments_33 (by rfl) 2 rfl ?_
      refine h_iald hO d_X12_payments_34 (fun v2 => ?_)
      refine g_if_eq (tgt := 42) hO d_X12_payments_35.1 d_X12_payments_35.2 (fun _ => ?_) (fun _ => ?_)
      · skip
        refine g_iconst hO 0 d_X12_payments_42 (by decide) ?_
        exact g_sub [0, 2] rfl (w_X12_payments_43 hO o ih _ _ _ _)
      · skip
        refine g_iconst hO 1 d_X12_payments_38 (by decide) ?_
        refine g_goto (tgt := 43) hO d_X12_payments_39.1 d_X12_payments_39.2 ?_
        exact g_sub [0, 2] rfl (w_X12_payments_43 hO o ih _ _ _ _)
set_option maxRecDepth 20000 in
theorem w_X12_payments {Γ : GC} {E : GE} (hO : gOk Γ E cX12_payments RX12 5 rm_X12_payments (some .int) "payments") (o : Nat) (S : GS) : Go Γ E (gBsI Γ E) 5 (0, 0) 0 S [(0, vA (some o))] [] (f_X12_payments o S) := by
  unfold f_X12_payments
  refine g_aload_n hO d_X12_payments_0 (by rfl) 0 rfl ?_
  refine k_virtVs hO cl_X12 mm_X12_findNets lkV_X12_519 ⟨⟨Nat.le_of_ble_eq_true rfl, Nat.le_of_ble_eq_true rfl⟩, Nat.le_of_ble_eq_true rfl, Nat.le_of_ble_eq_true rfl⟩ (kn' := (0, 0)) rfl (As := []) rfl (Nat.le_of_ble_eq_true rfl) (fun o' _ => t_X12_findNets Γ.2.1 E o' S) d_X12_payments_1 rfl (fun S2 => ?_)
  refine g_iconst hO 0 d_X12_payments_4 (by decide) ?_
  refine g_istore_n (lv' := [(1, vI 0), (0, vA (some o))]) hO d_X12_payments_5 (by rfl) (by decide) rfl ?_
  refine g_aload_n hO d_X12_payments_6 (by rfl) 1 rfl ?_
  refine h_getR hO cl_X12 57 rfl wf_X12_90 d_X12_payments_7 (fun v3 => ?_)
  refine g_iconst hO 0 d_X12_payments_10 (by decide) ?_
  refine g_iconst hO 0 d_X12_payments_11 (by decide) ?_
  refine h_iast hO d_X12_payments_12 (fun S4 => ?_)
  refine g_aload_n hO d_X12_payments_13 (by rfl) 1 rfl ?_
  refine h_getR hO cl_X12 58 rfl wf_X12_93 d_X12_payments_14 (fun v5 => ?_)
  refine g_iconst hO 0 d_X12_payments_17 (by decide) ?_
  refine g_iconst hO 0 d_X12_payments_18 (by decide) ?_
  refine h_iast hO d_X12_payments_19 (fun S6 => ?_)
  refine g_iconst hO 0 d_X12_payments_20 (by decide) ?_
  refine g_istore_n (lv' := [(2, vI 0), (1, vI 0), (0, vA (some o))]) hO d_X12_payments_21 (by rfl) (by decide) rfl ?_
  exact g_sub [2, 1, 0] rfl (w_X12_payments_22 hO o _ _ _ _)
theorem t_X12_payments (l : Launch) (E : GE) (o : Nat) (S : GS) : ∀ a, f_X12_payments o S = some a → Ct l E yX12_payments cX12_payments 5 (some .int) rm_X12_payments [vA (some o)] S (some (vI a.1)) a.2 :=
  Ct_of (val := fun (b : Int32 × GS) => some (vI b.1)) (nxt := fun (b : Int32 × GS) => b.2) (by decide) (Nat.le_of_ble_eq_true rfl) (fun Γ hl hO => w_X12_payments hO o S)
