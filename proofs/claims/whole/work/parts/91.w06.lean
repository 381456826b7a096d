theorem d_X11_isMaidNumber_0 : gD cX11_isMaidNumber 0 (.iload_n 0) 1 1 := ⟨by decide +kernel, rfl⟩
theorem d_X11_isMaidNumber_1 : gD cX11_isMaidNumber 1 (.iconst 1) 1 2 := ⟨by decide +kernel, rfl⟩
theorem d_X11_isMaidNumber_2 : gD cX11_isMaidNumber 2 (.if_icmp .lt 13) 3 5 ∧ ((2 : Nat) : Int) + 13 = ((15 : Nat) : Int) := ⟨⟨by decide +kernel, rfl⟩, by decide⟩
theorem d_X11_isMaidNumber_5 : gD cX11_isMaidNumber 5 (.iload_n 0) 1 6 := ⟨by decide +kernel, rfl⟩
theorem d_X11_isMaidNumber_6 : gD cX11_isMaidNumber 6 (.bipush 10) 2 8 := ⟨by decide +kernel, rfl⟩
theorem d_X11_isMaidNumber_8 : gD cX11_isMaidNumber 8 (.if_icmp .gt 7) 3 11 ∧ ((8 : Nat) : Int) + 7 = ((15 : Nat) : Int) := ⟨⟨by decide +kernel, rfl⟩, by decide⟩
theorem d_X11_isMaidNumber_11 : gD cX11_isMaidNumber 11 (.iconst 1) 1 12 := ⟨by decide +kernel, rfl⟩
theorem d_X11_isMaidNumber_12 : decode cX11_isMaidNumber 12 = .ok (.goto 4, 3) ∧ ((12 : Nat) : Int) + 4 = ((16 : Nat) : Int) := ⟨by decide +kernel, by decide⟩
theorem d_X11_isMaidNumber_15 : gD cX11_isMaidNumber 15 (.iconst 0) 1 16 := ⟨by decide +kernel, rfl⟩
theorem d_X11_isMaidNumber_16 : gD cX11_isMaidNumber 16 (.ireturn) 1 17 := ⟨by decide +kernel, rfl⟩
abbrev rm_X11_isMaidNumber : Room := { frames := 0, cells := 0, slots := 0, locals := 0 }
set_option maxRecDepth 20000 in
theorem w_X11_isMaidNumber {Γ : GC} {E : GE} (hO : gOk Γ E cX11_isMaidNumber RX11 1 rm_X11_isMaidNumber (some .boolean) "isMaidNumber") (x0 : Int32) (S : GS) : Go Γ E (gBpI Γ E S) 1 (0, 0) 0 S [(0, vI x0)] [] (f_X11_isMaidNumber x0 S) := by
  unfold f_X11_isMaidNumber
  refine g_iload_n hO d_X11_isMaidNumber_0 (by rfl) 0 rfl ?_
  refine g_iconst hO 1 d_X11_isMaidNumber_1 (by decide) ?_
  refine g_ic_lt (tgt := 15) hO d_X11_isMaidNumber_2.1 d_X11_isMaidNumber_2.2 (fun _ => ?_) (fun _ => ?_)
  · skip
    refine g_iconst hO 0 d_X11_isMaidNumber_15 (by decide) ?_
    exact g_ret hO rfl rfl ⟨Nat.le_of_ble_eq_true rfl, Nat.le_of_ble_eq_true rfl⟩ rfl rfl d_X11_isMaidNumber_16.1
  · skip
    refine g_iload_n hO d_X11_isMaidNumber_5 (by rfl) 0 rfl ?_
    refine g_bipush hO 10 d_X11_isMaidNumber_6 (by decide) ?_
    refine g_ic_gt (tgt := 15) hO d_X11_isMaidNumber_8.1 d_X11_isMaidNumber_8.2 (fun _ => ?_) (fun _ => ?_)
    · skip
      refine g_iconst hO 0 d_X11_isMaidNumber_15 (by decide) ?_
      exact g_ret hO rfl rfl ⟨Nat.le_of_ble_eq_true rfl, Nat.le_of_ble_eq_true rfl⟩ rfl rfl d_X11_isMaidNumber_16.1
    · skip
      refine g_iconst hO 1 d_X11_isMaidNumber_11 (by decide) ?_
      refine g_goto (tgt := 16) hO d_X11_isMaidNumber_12.1 d_X11_isMaidNumber_12.2 ?_
      exact g_ret hO rfl rfl ⟨Nat.le_of_ble_eq_true rfl, Nat.le_of_ble_eq_true rfl⟩ rfl rfl d_X11_isMaidNumber_16.1
theorem t_X11_isMaidNumber (l : Launch) (E : GE) (x0 : Int32) (S : GS) : ∀ a, f_X11_isMaidNumber x0 S = some a → Ct l E yX11_isMaidNumber cX11_isMaidNumber 1 (some .boolean) rm_X11_isMaidNumber [vI x0] S (some (vI a)) S :=
  Ct_of (val := fun b => some (vI b)) (nxt := fun _ => S) (by decide) (Nat.le_of_ble_eq_true rfl) (fun Γ hl hO => w_X11_isMaidNumber hO x0 S)
theorem d_X11_cover_0 : gD cX11_cover 0 (.aload_n 0) 1 1 := ⟨by decide +kernel, rfl⟩
theorem d_X11_cover_1 : gD cX11_cover 1 (.getfield 10) 3 4 := ⟨by decide +kernel, rfl⟩
theorem d_X11_cover_4 : gD cX11_cover 4 (.iconst 5) 1 5 := ⟨by decide +kernel, rfl⟩
theorem d_X11_cover_5 : gD cX11_cover 5 (.iload_n 1) 1 6 := ⟨by decide +kernel, rfl⟩
theorem d_X11_cover_6 : gD cX11_cover 6 (.invokevirtual 135) 3 9 := ⟨by decide +kernel, rfl⟩
theorem d_X11_cover_9 : gD cX11_cover 9 (.astore 6) 2 11 := ⟨by decide +kernel, rfl⟩
theorem d_X11_cover_11 : gD cX11_cover 11 (.aload 6) 2 13 := ⟨by decide +kernel, rfl⟩
theorem d_X11_cover_13 : gD cX11_cover 13 (.ifnull 26) 3 16 ∧ ((13 : Nat) : Int) + 26 = ((39 : Nat) : Int) := ⟨⟨by decide +kernel, rfl⟩, by decide⟩
theorem d_X11_cover_16 : gD cX11_cover 16 (.iload_n 2) 1 17 := ⟨by decide +kernel, rfl⟩
theorem d_X11_cover_17 : gD cX11_cover 17 (.ifCond .lt 22) 3 20 ∧ ((17 : Nat) : Int) + 22 = ((39 : Nat) : Int) := ⟨⟨by decide +kernel, rfl⟩, by decide⟩
theorem d_X11_cover_20 : gD cX11_cover 20 (.iload_n 3) 1 21 := ⟨by decide +kernel, rfl⟩
theorem d_X11_cover_21 : gD cX11_cover 21 (.bipush 30) 2 23 := ⟨by decide +kernel, rfl⟩
theorem d_X11_cover_23 : gD cX11_cover 23 (.if_icmp .gt 16) 3 26 ∧ ((23 : Nat) : Int) + 16 = ((39 : Nat) : Int) := ⟨⟨by decide +kernel, rfl⟩, by decide⟩
theorem d_X11_cover_26 : gD cX11_cover 26 (.iload_n 2) 1 27 := ⟨by decide +kernel, rfl⟩
theorem d_X11_cover_27 : gD cX11_cover 27 (.iload_n 3) 1 28 := ⟨by decide +kernel, rfl⟩
theorem d_X11_cover_28 : gD cX11_cover 28 (.if_icmp .gt 11) 3 31 ∧ ((28 : Nat) : Int) + 11 = ((39 : Nat) : Int) := ⟨⟨by decide +kernel, rfl⟩, by decide⟩
theorem d_X11_cover_31 : gD cX11_cover 31 (.iload 4) 2 33 := ⟨by decide +kernel, rfl⟩
theorem d_X11_cover_33 : gD cX11_cover 33 (.invokestatic 236) 3 36 := ⟨by decide +kernel, rfl⟩
theorem d_X11_cover_36 : gD cX11_cover 36 (.ifCond .ne 5) 3 39 ∧ ((36 : Nat) : Int) + 5 = ((41 : Nat) : Int) := ⟨⟨by decide +kernel, rfl⟩, by decide⟩
theorem d_X11_cover_39 : gD cX11_cover 39 (.iconst (-1)) 1 40 := ⟨by decide +kernel, rfl⟩
theorem d_X11_cover_40 : gD cX11_cover 40 (.ireturn) 1 41 := ⟨by decide +kernel, rfl⟩
theorem d_X11_cover_41 : gD cX11_cover 41 (.aload_n 0) 1 42 := ⟨by decide +kernel, rfl⟩
theorem d_X11_cover_42 : gD cX11_cover 42 (.getfield 69) 3 45 := ⟨by decide +kernel, rfl⟩
theorem d_X11_cover_45 : gD cX11_cover 45 (.aload 6) 2 47 := ⟨by decide +kernel, rfl⟩
theorem d_X11_cover_47 : gD cX11_cover 47 (.invokevirtual 239) 3 50 := ⟨by decide +kernel, rfl⟩
theorem d_X11_cover_50 : gD cX11_cover 50 (.iload 5) 2 52 := ⟨by decide +kernel, rfl⟩
theorem d_X11_cover_52 : gD cX11_cover 52 (.ifCond .eq 17) 3 55 ∧ ((52 : Nat) : Int) + 17 = ((69 : Nat) : Int) := ⟨⟨by decide +kernel, rfl⟩, by decide⟩
theorem d_X11_cover_55 : gD cX11_cover 55 (.aload_n 0) 1 56 := ⟨by decide +kernel, rfl⟩
theorem d_X11_cover_56 : gD cX11_cover 56 (.getfield 69) 3 59 := ⟨by decide +kernel, rfl⟩
theorem d_X11_cover_59 : gD cX11_cover 59 (.iload_n 2) 1 60 := ⟨by decide +kernel, rfl⟩
theorem d_X11_cover_60 : gD cX11_cover 60 (.iload_n 3) 1 61 := ⟨by decide +kernel, rfl⟩
theorem d_X11_cover_61 : gD cX11_cover 61 (.iload 4) 2 63 := ⟨by decide +kernel, rfl⟩
theorem d_X11_cover_63 : gD cX11_cover 63 (.invokevirtual 243) 3 66 := ⟨by decide +kernel, rfl⟩
theorem d_X11_cover_66 : decode cX11_cover 66 = .ok (.goto 19, 3) ∧ ((66 : Nat) : Int) + 19 = ((85 : Nat) : Int) := ⟨by decide +kernel, by decide⟩
theorem d_X11_cover_69 : gD cX11_cover 69 (.aload_n 0) 1 70 := ⟨by decide +kernel, rfl⟩
theorem d_X11_cover_70 : gD cX11_cover 70 (.getfield 69) 3 73 := ⟨by decide +kernel, rfl⟩
theorem d_X11_cover_73 : gD cX11_cover 73 (.aload 6) 2 75 := ⟨by decide +kernel, rfl⟩
theorem d_X11_cover_75 : gD cX11_cover 75 (.getfield 143) 3 78 := ⟨by decide +kernel, rfl⟩
theorem d_X11_cover_78 : gD cX11_cover 78 (.iload_n 2) 1 79 := ⟨by decide +kernel, rfl⟩
theorem d_X11_cover_79 : gD cX11_cover 79 (.iload_n 3) 1 80 := ⟨by decide +kernel, rfl⟩
theorem d_X11_cover_80 : gD cX11_cover 80 (.iload 4) 2 82 := ⟨by decide +kernel, rfl⟩
theorem d_X11_cover_82 : gD cX11_cover 82 (.invokevirtual 246) 3 85 := ⟨by decide +kernel, rfl⟩
theorem d_X11_cover_85 : gD cX11_cover 85 (.ireturn) 1 86 := ⟨by decide +kernel, rfl⟩
abbrev rm_X11_cover : Room := { frames := 3, cells := 0, slots := 0, locals := 72 }
set_option maxRecDepth 20000 in
theorem w_X11_cover {Γ : GC} {E : GE} (hO : gOk Γ E cX11_cover RX11 7 rm_X11_cover (some .int) "cover") (o : Nat) (x1 : Int32) (x2 : Int32) (x3 : Int32) (x4 : Int32) (x5 : Int32) (S : GS) : Go Γ E (gBsI Γ E) 7 (0, 0) 0 S [(0, vA (some o)), (1, vI x1), (2, vI x2), (3, vI x3), (4, vI x4), (5, vI x5)] [] (f_X11_cover o x1 x2 x3 x4 x5 S) := by
  unfold f_X11_cover
  refine g_aload_n hO d_X11_cover_0 (by rfl) 0 rfl ?_
  refine h_getR hO cl_X11 0 rfl wf_X11_10 d_X11_cover_1 (fun v1 => ?_)
  refine g_iconst hO 5 d_X11_cover_4 (by decide) ?_
  refine g_iload_n hO d_X11_cover_5 (by rfl) 1 rfl ?_
  refine k_virtAp hO cl_X9 mm_X9_rowsAt lkV_X11_135 ⟨⟨Nat.le_of_ble_eq_true rfl, Nat.le_of_ble_eq_true rfl⟩, Nat.le_of_ble_eq_true rfl, Nat.le_of_ble_eq_true rfl⟩ (kn' := (0, 0)) rfl (As := [vI 5, vI x1]) rfl (Nat.le_of_ble_eq_true rfl) (fun o' _ => t_X9_rowsAt Γ.2.1 E o' 5 x1 S) d_X11_cover_6 rfl (fun v2 => ?_)
  refine g_astore (lv' := [(6, vA v2), (0, vA (some o)), (1, vI x1), (2, vI x2), (3, vI x3), (4, vI x4), (5, vI x5)]) hO d_X11_cover_9 (by decide) rfl ?_
  refine g_aload hO d_X11_cover_11 0 rfl ?_
  refine g_ifnull (tgt := 39) hO d_X11_cover_13.1 d_X11_cover_13.2 ?_ ?_
  · skip
    refine g_iconst hO (-1) d_X11_cover_39 (by decide) ?_
    exact g_ret hO rfl rfl ⟨Nat.le_of_ble_eq_true rfl, Nat.le_of_ble_eq_true rfl⟩ rfl rfl d_X11_cover_40.1
  · skip
    refine g_iload_n hO d_X11_cover_16 (by rfl) 3 rfl ?_
    refine g_if_lt (tgt := 39) hO d_X11_cover_17.1 d_X11_cover_17.2 (fun _ => ?_) (fun _ => ?_)
    · skip
      refine g_iconst hO (-1) d_X11_cover_39 (by decide) ?_
      exact g_ret hO rfl rfl ⟨Nat.le_of_ble_eq_true rfl, Nat.le_of_ble_eq_true rfl⟩ rfl rfl d_X11_cover_40.1
    · skip
      refine g_iload_n hO d_X11_cover_20 (by rfl) 4 rfl ?_
      refine g_bipush hO 30 d_X11_cover_21 (by decide) ?_
      refine g_ic_gt (tgt := 39) hO d_X11_cover_23.1 d_X11_cover_23.2 (fun _ => ?_) (fun _ => ?_)
      · skip
        refine g_iconst hO (-1) d_X11_cover_39 (by decide) ?_
        exact g_ret hO rfl rfl ⟨Nat.le_of_ble_eq_true rfl, Nat.le_of_ble_eq_true rfl⟩ rfl rfl d_X11_cover_40.1
      · skip
        refine g_iload_n hO d_X11_cover_26 (by rfl) 3 rfl ?_
        refine g_iload_n hO d_X11_cover_27 (by rfl) 4 rfl ?_
        refine g_ic_gt (tgt := 39) hO d_X11_cover_28.1 d_X11_cover_28.2 (fun _ => ?_) (fun _ => ?_)
        · skip
          refine g_iconst hO (-1) d_X11_cover_39 (by decide) ?_
          exact g_ret hO rfl rfl ⟨Nat.le_of_ble_eq_true rfl, Nat.le_of_ble_eq_true rfl⟩ rfl rfl d_X11_cover_40.1
        · skip
          refine g_iload hO d_X11_cover_31 5 rfl ?_
          refine k_statIp hO mm_X11_isMaidNumber lkS_X11_236 ⟨⟨Nat.le_of_ble_eq_true rfl, Nat.le_of_ble_eq_true rfl⟩, Nat.le_of_ble_eq_true rfl, Nat.le_of_ble_eq_true rfl⟩ (kn' := (0, 0)) rfl (As := [vI x4]) rfl (Nat.le_of_ble_eq_true rfl) (t_X11_isMaidNumber Γ.2.1 E x4 S) d_X11_cover_33 rfl (fun v4 => ?_)
          refine g_if_ne (tgt := 41) hO d_X11_cover_36.1 d_X11_cover_36.2 (fun _ => ?_) (fun _ => ?_)
          · skip
            refine g_iconst hO (-1) d_X11_cover_39 (by decide) ?_
            exact g_ret hO rfl rfl ⟨Nat.le_of_ble_eq_true rfl, Nat.le_of_ble_eq_true rfl⟩ rfl rfl d_X11_cover_40.1
          · skip
            refine g_aload_n hO d_X11_cover_41 (by rfl) 1 rfl ?_
            refine h_getR hO cl_X11 9 rfl wf_X11_69 d_X11_cover_42 (fun v6 => ?_)
            refine g_aload hO d_X11_cover_45 0 rfl ?_
            refine k_virtVs hO cl_X6 mm_X6_begin lkV_X11_239 ⟨⟨Nat.le_of_ble_eq_true rfl, Nat.le_of_ble_eq_true rfl⟩, Nat.le_of_ble_eq_true rfl, Nat.le_of_ble_eq_true rfl⟩ (kn' := (0, 0)) rfl (As := [vA v2]) rfl (Nat.le_of_ble_eq_true rfl) (fun o' _ => t_X6_begin Γ.2.1 E o' v2 S) d_X11_cover_47 rfl (fun S8 => ?_)
            refine g_iload hO d_X11_cover_50 6 rfl ?_
            refine g_if_eq (tgt := 69) hO d_X11_cover_52.1 d_X11_cover_52.2 (fun _ => ?_) (fun _ => ?_)
            · skip
              refine g_aload_n hO d_X11_cover_69 (by rfl) 1 rfl ?_
              refine h_getR hO cl_X11 9 rfl wf_X11_69 d_X11_cover_70 (fun v9 => ?_)
              refine g_aload hO d_X11_cover_73 0 rfl ?_
              refine h_getI hO cl_X7 3 rfl wf_X11_143 d_X11_cover_75 (fun v10 => ?_)
              refine g_iload_n hO d_X11_cover_78 (by rfl) 3 rfl ?_
              refine g_iload_n hO d_X11_cover_79 (by rfl) 4 rfl ?_
              refine g_iload hO d_X11_cover_80 5 rfl ?_
              refine k_virtIp hO cl_X6 mm_X6_fewestMaids lkV_X11_246 ⟨⟨Nat.le_of_ble_eq_true rfl, Nat.le_of_ble_eq_true rfl⟩, Nat.le_of_ble_eq_true rfl, Nat.le_of_ble_eq_true rfl⟩ (kn' := (0, 0)) rfl (As := [vI v10, vI x2, vI x3, vI x4]) rfl (Nat.le_of_ble_eq_true rfl) (fun o' _ => t_X6_fewestMaids Γ.2.1 E o' v10 x2 x3 x4 S8) d_X11_cover_82 rfl (fun v11 => ?_)
              exact g_ret hO rfl rfl ⟨Nat.le_of_ble_eq_true rfl, Nat.le_of_ble_eq_true rfl⟩ rfl rfl d_X11_cover_85.1
            · skip
              refine g_aload_n hO d_X11_cover_55 (by rfl) 1 rfl ?_
              refine h_getR hO cl_X11 9 rfl wf_X11_69 d_X11_cover_56 (fun v13 => ?_)
              refine g_iload_n hO d_X11_cover_59 (by rfl) 3 rfl ?_
              refine g_iload_n hO d_X11_cover_60 (by rfl) 4 rfl ?_
              refine g_iload hO d_X11_cover_61 5 rfl ?_
              refine k_virtIp hO cl_X6 mm_X6_firstGap lkV_X11_243 ⟨⟨Nat.le_of_ble_eq_true rfl, Nat.le_of_ble_eq_true rfl⟩, Nat.le_of_ble_eq_true rfl, Nat.le_of_ble_eq_true rfl⟩ (kn' := (0, 0)) rfl (As := [vI x2, vI x3, vI x4]) rfl (Nat.le_of_ble_eq_true rfl) (fun o' _ => t_X6_firstGap Γ.2.1 E o' x2 x3 x4 S8) d_X11_cover_63 rfl (fun v14 => ?_)
              refine g_goto (tgt := 85) hO d_X11_cover_66.1 d_X11_cover_66.2 ?_
              exact g_ret hO rfl rfl ⟨Nat.le_of_ble_eq_true rfl, Nat.le_of_ble_eq_true rfl⟩ rfl rfl d_X11_cover_85.1
theorem t_X11_cover (l : Launch) (E : GE) (o : Nat) (x1 : Int32) (x2 : Int32) (x3 : Int32) (x4 : Int32) (x5 : Int32) (S : GS) : ∀ a, f_X11_cover o x1 x2 x3 x4 x5 S = some a → Ct l E yX11_cover cX11_cover 7 (some .int) rm_X11_cover [vA (some o), vI x1, vI x2, vI x3, vI x4, vI x5] S (some (vI a.1)) a.2 :=
  Ct_of (val := fun (b : Int32 × GS) => some (vI b.1)) (nxt := fun (b : Int32 × GS) => b.2) (by decide) (Nat.le_of_ble_eq_true rfl) (fun Γ hl hO => w_X11_cover hO o x1 x2 x3 x4 x5 S)
theorem d_X11_longest_0 : gD cX11_longest 0 (.aload_n 0) 1 1 := ⟨by decide +kernel, rfl⟩
theorem d_X11_longest_1 : gD cX11_longest 1 (.getfield 10) 3 4 := ⟨by decide +kernel, rfl⟩
theorem d_X11_longest_4 : gD cX11_longest 4 (.iconst 5) 1 5 := ⟨by decide +kernel, rfl⟩
theorem d_X11_longest_5 : gD cX11_longest 5 (.iload_n 1) 1 6 := ⟨by decide +kernel, rfl⟩
theorem d_X11_longest_6 : gD cX11_longest 6 (.invokevirtual 135) 3 9 := ⟨by decide +kernel, rfl⟩
theorem d_X11_longest_9 : gD cX11_longest 9 (.astore_n 3) 1 10 := ⟨by decide +kernel, rfl⟩
theorem d_X11_longest_10 : gD cX11_longest 10 (.aload_n 3) 1 11 := ⟨by decide +kernel, rfl⟩
theorem d_X11_longest_11 : gD cX11_longest 11 (.ifnull 10) 3 14 ∧ ((11 : Nat) : Int) + 10 = ((21 : Nat) : Int) := ⟨⟨by decide +kernel, rfl⟩, by decide⟩
theorem d_X11_longest_14 : gD cX11_longest 14 (.iload_n 2) 1 15 := ⟨by decide +kernel, rfl⟩
theorem d_X11_longest_15 : gD cX11_longest 15 (.invokestatic 236) 3 18 := ⟨by decide +kernel, rfl⟩
theorem d_X11_longest_18 : gD cX11_longest 18 (.ifCond .ne 5) 3 21 ∧ ((18 : Nat) : Int) + 5 = ((23 : Nat) : Int) := ⟨⟨by decide +kernel, rfl⟩, by decide⟩
theorem d_X11_longest_21 : gD cX11_longest 21 (.iconst (-1)) 1 22 := ⟨by decide +kernel, rfl⟩
theorem d_X11_longest_22 : gD cX11_longest 22 (.ireturn) 1 23 := ⟨by decide +kernel, rfl⟩
theorem d_X11_longest_23 : gD cX11_longest 23 (.aload_n 0) 1 24 := ⟨by decide +kernel, rfl⟩
theorem d_X11_longest_24 : gD cX11_longest 24 (.getfield 69) 3 27 := ⟨by decide +kernel, rfl⟩
theorem d_X11_longest_27 : gD cX11_longest 27 (.aload_n 3) 1 28 := ⟨by decide +kernel, rfl⟩
theorem d_X11_longest_28 : gD cX11_longest 28 (.invokevirtual 239) 3 31 := ⟨by decide +kernel, rfl⟩
theorem d_X11_longest_31 : gD cX11_longest 31 (.aload_n 0) 1 32 := ⟨by decide +kernel, rfl⟩
theorem d_X11_longest_32 : gD cX11_longest 32 (.getfield 69) 3 35 := ⟨by decide +kernel, rfl⟩
theorem d_X11_longest_35 : gD cX11_longest 35 (.iload_n 2) 1 36 := ⟨by decide +kernel, rfl⟩
theorem d_X11_longest_36 : gD cX11_longest 36 (.invokevirtual 250) 3 39 := ⟨by decide +kernel, rfl⟩
theorem d_X11_longest_39 : gD cX11_longest 39 (.ireturn) 1 40 := ⟨by decide +kernel, rfl⟩
abbrev rm_X11_longest : Room := { frames := 2, cells := 0, slots := 0, locals := 46 }
set_option maxRecDepth 20000 in
theorem w_X11_longest {Γ : GC} {E : GE} (hO : gOk Γ E cX11_longest RX11 4 rm_X11_longest (some .int) "longest") (o : Nat) (x1 : Int32) (x2 : Int32) (S : GS) : Go Γ E (gBsI Γ E) 4 (0, 0) 0 S [(0, vA (some o)), (1, vI x1), (2, vI x2)] [] (f_X11_longest o x1 x2 S) := by
  unfold f_X11_longest
  refine g_aload_n hO d_X11_longest_0 (by rfl) 0 rfl ?_
  refine h_getR hO cl_X11 0 rfl wf_X11_10 d_X11_longest_1 (fun v1 => ?_)
  refine g_iconst hO 5 d_X11_longest_4 (by decide) ?_
  refine g_iload_n hO d_X11_longest_5 (by rfl) 1 rfl ?_
  refine k_virtAp hO cl_X9 mm_X9_rowsAt lkV_X11_135 ⟨⟨Nat.le_of_ble_eq_true rfl, Nat.le_of_ble_eq_true rfl⟩, Nat.le_of_ble_eq_true rfl, Nat.le_of_ble_eq_true rfl⟩ (kn' := (0, 0)) rfl (As := [vI 5, vI x1]) rfl (Nat.le_of_ble_eq_true rfl) (fun o' _ => t_X9_rowsAt Γ.2.1 E o' 5 x1 S) d_X11_longest_6 rfl (fun v2 => ?_)
  refine g_astore_n (lv' := [(3, vA v2), (0, vA (some o)), (1, vI x1), (2, vI x2)]) hO d_X11_longest_9 (by rfl) (by decide) rfl ?_
  refine g_aload_n hO d_X11_longest_10 (by rfl) 0 rfl ?_
  refine g_ifnull (tgt := 21) hO d_X11_longest_11.1 d_X11_longest_11.2 ?_ ?_
  · skip
    refine g_iconst hO (-1) d_X11_longest_21 (by decide) ?_
    exact g_ret hO rfl rfl ⟨Nat.le_of_ble_eq_true rfl, Nat.le_of_ble_eq_true rfl⟩ rfl rfl d_X11_longest_22.1
  · skip
    refine g_iload_n hO d_X11_longest_14 (by rfl) 3 rfl ?_
    refine k_statIp hO mm_X11_isMaidNumber lkS_X11_236 ⟨⟨Nat.le_of_ble_eq_true rfl, Nat.le_of_ble_eq_true rfl⟩, Nat.le_of_ble_eq_true rfl, Nat.le_of_ble_eq_true rfl⟩ (kn' := (0, 0)) rfl (As := [vI x2]) rfl (Nat.le_of_ble_eq_true rfl) (t_X11_isMaidNumber Γ.2.1 E x2 S) d_X11_longest_15 rfl (fun v4 => ?_)
    refine g_if_ne (tgt := 23) hO d_X11_longest_18.1 d_X11_longest_18.2 (fun _ => ?_) (fun _ => ?_)
    · skip
      refine g_iconst hO (-1) d_X11_longest_21 (by decide) ?_
      exact g_ret hO rfl rfl ⟨Nat.le_of_ble_eq_true rfl, Nat.le_of_ble_eq_true rfl⟩ rfl rfl d_X11_longest_22.1
    · skip
      refine g_aload_n hO d_X11_longest_23 (by rfl) 1 rfl ?_
      refine h_getR hO cl_X11 9 rfl wf_X11_69 d_X11_longest_24 (fun v6 => ?_)
      refine g_aload_n hO d_X11_longest_27 (by rfl) 0 rfl ?_
      refine k_virtVs hO cl_X6 mm_X6_begin lkV_X11_239 ⟨⟨Nat.le_of_ble_eq_true rfl, Nat.le_of_ble_eq_true rfl⟩, Nat.le_of_ble_eq_true rfl, Nat.le_of_ble_eq_true rfl⟩ (kn' := (0, 0)) rfl (As := [vA v2]) rfl (Nat.le_of_ble_eq_true rfl) (fun o' _ => t_X6_begin Γ.2.1 E o' v2 S) d_X11_longest_28 rfl (fun S8 => ?_)
      refine g_aload_n hO d_X11_longest_31 (by rfl) 1 rfl ?_
      refine h_getR hO cl_X11 9 rfl wf_X11_69 d_X11_longest_32 (fun v9 => ?_)
      refine g_iload_n hO d_X11_longest_35 (by rfl) 3 rfl ?_
      refine k_virtIp hO cl_X6 mm_X6_longestRow lkV_X11_250 ⟨⟨Nat.le_of_ble_eq_true rfl, Nat.le_of_ble_eq_true rfl⟩, Nat.le_of_ble_eq_true rfl, Nat.le_of_ble_eq_true rfl⟩ (kn' := (0, 0)) rfl (As := [vI x2]) rfl (Nat.le_of_ble_eq_true rfl) (fun o' _ => t_X6_longestRow Γ.2.1 E o' x2 S8) d_X11_longest_36 rfl (fun v10 => ?_)
      exact g_ret hO rfl rfl ⟨Nat.le_of_ble_eq_true rfl, Nat.le_of_ble_eq_true rfl⟩ rfl rfl d_X11_longest_39.1
theorem t_X11_longest (l : Launch) (E : GE) (o : Nat) (x1 : Int32) (x2 : Int32) (S : GS) : ∀ a, f_X11_longest o x1 x2 S = some a → Ct l E yX11_longest cX11_longest 4 (some .int) rm_X11_longest [vA (some o), vI x1, vI x2] S (some (vI a.1)) a.2 :=
  Ct_of (val := fun (b : Int32 × GS) => some (vI b.1)) (nxt := fun (b : Int32 × GS) => b.2) (by decide) (Nat.le_of_ble_eq_true rfl) (fun Γ hl hO => w_X11_longest hO o x1 x2 S)
theorem d_X11_drawn_0 : gD cX11_drawn 0 (.aload_n 0) 1 1 := ⟨by decide +kernel, rfl⟩
theorem d_X11_drawn_1 : gD cX11_drawn 1 (.getfield 10) 3 4 := ⟨by decide +kernel, rfl⟩
theorem d_X11_drawn_4 : gD cX11_drawn 4 (.iload_n 1) 1 5 := ⟨by decide +kernel, rfl⟩
theorem d_X11_drawn_5 : gD cX11_drawn 5 (.invokevirtual 105) 3 8 := ⟨by decide +kernel, rfl⟩
theorem d_X11_drawn_8 : gD cX11_drawn 8 (.astore 5) 2 10 := ⟨by decide +kernel, rfl⟩
theorem d_X11_drawn_10 : gD cX11_drawn 10 (.aload 5) 2 12 := ⟨by decide +kernel, rfl⟩
theorem d_X11_drawn_12 : gD cX11_drawn 12 (.ifnull 13) 3 15 ∧ ((12 : Nat) : Int) + 13 = ((25 : Nat) : Int) := ⟨⟨by decide +kernel, rfl⟩, by decide⟩
theorem d_X11_drawn_15 : gD cX11_drawn 15 (.iload_n 3) 1 16 := ⟨by decide +kernel, rfl⟩
theorem d_X11_drawn_16 : gD cX11_drawn 16 (.ifCond .lt 9) 3 19 ∧ ((16 : Nat) : Int) + 9 = ((25 : Nat) : Int) := ⟨⟨by decide +kernel, rfl⟩, by decide⟩
theorem d_X11_drawn_19 : gD cX11_drawn 19 (.iload_n 3) 1 20 := ⟨by decide +kernel, rfl⟩
theorem d_X11_drawn_20 : gD cX11_drawn 20 (.bipush 60) 2 22 := ⟨by decide +kernel, rfl⟩
theorem d_X11_drawn_22 : gD cX11_drawn 22 (.if_icmp .le 5) 3 25 ∧ ((22 : Nat) : Int) + 5 = ((27 : Nat) : Int) := ⟨⟨by decide +kernel, rfl⟩, by decide⟩
theorem d_X11_drawn_25 : gD cX11_drawn 25 (.iconst (-1)) 1 26 := ⟨by decide +kernel, rfl⟩
theorem d_X11_drawn_26 : gD cX11_drawn 26 (.ireturn) 1 27 := ⟨by decide +kernel, rfl⟩
theorem d_X11_drawn_27 : gD cX11_drawn 27 (.aload_n 0) 1 28 := ⟨by decide +kernel, rfl⟩
theorem d_X11_drawn_28 : gD cX11_drawn 28 (.getfield 34) 3 31 := ⟨by decide +kernel, rfl⟩
theorem d_X11_drawn_31 : gD cX11_drawn 31 (.aload 5) 2 33 := ⟨by decide +kernel, rfl⟩
theorem d_X11_drawn_33 : gD cX11_drawn 33 (.iload_n 2) 1 34 := ⟨by decide +kernel, rfl⟩
theorem d_X11_drawn_34 : gD cX11_drawn 34 (.iload_n 3) 1 35 := ⟨by decide +kernel, rfl⟩
theorem d_X11_drawn_35 : gD cX11_drawn 35 (.iload 4) 2 37 := ⟨by decide +kernel, rfl⟩
theorem d_X11_drawn_37 : gD cX11_drawn 37 (.invokevirtual 253) 3 40 := ⟨by decide +kernel, rfl⟩
theorem d_X11_drawn_40 : gD cX11_drawn 40 (.ireturn) 1 41 := ⟨by decide +kernel, rfl⟩
abbrev rm_X11_drawn : Room := { frames := 5, cells := 0, slots := 0, locals := 117 }
set_option maxRecDepth 20000 in
theorem w_X11_drawn {Γ : GC} {E : GE} (hO : gOk Γ E cX11_drawn RX11 6 rm_X11_drawn (some .int) "drawn") (o : Nat) (x1 : Int32) (x2 : Int32) (x3 : Int32) (x4 : Int32) (S : GS) : Go Γ E (gBsI Γ E) 6 (0, 0) 0 S [(0, vA (some o)), (1, vI x1), (2, vI x2), (3, vI x3), (4, vI x4)] [] (f_X11_drawn o x1 x2 x3 x4 S) := by
  unfold f_X11_drawn
  refine g_aload_n hO d_X11_drawn_0 (by rfl) 0 rfl ?_
  refine h_getR hO cl_X11 0 rfl wf_X11_10 d_X11_drawn_1 (fun v1 => ?_)
  refine g_iload_n hO d_X11_drawn_4 (by rfl) 1 rfl ?_
  refine k_virtAp hO cl_X9 mm_X9_courtAt lkV_X11_105 ⟨⟨Nat.le_of_ble_eq_true rfl, Nat.le_of_ble_eq_true rfl⟩, Nat.le_of_ble_eq_true rfl, Nat.le_of_ble_eq_true rfl⟩ (kn' := (0, 0)) rfl (As := [vI x1]) rfl (Nat.le_of_ble_eq_true rfl) (fun o' _ => t_X9_courtAt Γ.2.1 E o' x1 S) d_X11_drawn_5 rfl (fun v2 => ?_)
  refine g_astore (lv' := [(5, vA v2), (0, vA (some o)), (1, vI x1), (2, vI x2), (3, vI x3), (4, vI x4)]) hO d_X11_drawn_8 (by decide) rfl ?_
  refine g_aload hO d_X11_drawn_10 0 rfl ?_
  refine g_ifnull (tgt := 25) hO d_X11_drawn_12.1 d_X11_drawn_12.2 ?_ ?_
  · skip
    refine g_iconst hO (-1) d_X11_drawn_25 (by decide) ?_
    exact g_ret hO rfl rfl ⟨Nat.le_of_ble_eq_true rfl, Nat.le_of_ble_eq_true rfl⟩ rfl rfl d_X11_drawn_26.1
  · skip
    refine g_iload_n hO d_X11_drawn_15 (by rfl) 4 rfl ?_
    refine g_if_lt (tgt := 25) hO d_X11_drawn_16.1 d_X11_drawn_16.2 (fun _ => ?_) (fun _ => ?_)
    · skip
      refine g_iconst hO (-1) d_X11_drawn_25 (by decide) ?_
      exact g_ret hO rfl rfl ⟨Nat.le_of_ble_eq_true rfl, Nat.le_of_ble_eq_true rfl⟩ rfl rfl d_X11_drawn_26.1
    · skip
      refine g_iload_n hO d_X11_drawn_19 (by rfl) 4 rfl ?_
      refine g_bipush hO 60 d_X11_drawn_20 (by decide) ?_
      refine g_ic_le (tgt := 27) hO d_X11_drawn_22.1 d_X11_drawn_22.2 (fun _ => ?_) (fun _ => ?_)
      · skip
        refine g_aload_n hO d_X11_drawn_27 (by rfl) 1 rfl ?_
        refine h_getR hO cl_X11 4 rfl wf_X11_34 d_X11_drawn_28 (fun v4 => ?_)
        refine g_aload hO d_X11_drawn_31 0 rfl ?_
        refine g_iload_n hO d_X11_drawn_33 (by rfl) 3 rfl ?_
        refine g_iload_n hO d_X11_drawn_34 (by rfl) 4 rfl ?_
        refine g_iload hO d_X11_drawn_35 5 rfl ?_
        refine k_virtIs hO cl_X2 mm_X2_tellWeather lkV_X11_253 ⟨⟨Nat.le_of_ble_eq_true rfl, Nat.le_of_ble_eq_true rfl⟩, Nat.le_of_ble_eq_true rfl, Nat.le_of_ble_eq_true rfl⟩ (kn' := (0, 0)) rfl (As := [vA v2, vI x2, vI x3, vI x4]) rfl (Nat.le_of_ble_eq_true rfl) (fun o' _ => t_X2_tellWeather Γ.2.1 E o' v2 x2 x3 x4 S) d_X11_drawn_37 rfl (fun v5 S6 => ?_)
        exact g_ret hO rfl rfl ⟨Nat.le_of_ble_eq_true rfl, Nat.le_of_ble_eq_true rfl⟩ rfl rfl d_X11_drawn_40.1
      · skip
        refine g_iconst hO (-1) d_X11_drawn_25 (by decide) ?_
        exact g_ret hO rfl rfl ⟨Nat.le_of_ble_eq_true rfl, Nat.le_of_ble_eq_true rfl⟩ rfl rfl d_X11_drawn_26.1
theorem t_X11_drawn (l : Launch) (E : GE) (o : Nat) (x1 : Int32) (x2 : Int32) (x3 : Int32) (x4 : Int32) (S : GS) : ∀ a, f_X11_drawn o x1 x2 x3 x4 S = some a → Ct l E yX11_drawn cX11_drawn 6 (some .int) rm_X11_drawn [vA (some o), vI x1, vI x2, vI x3, vI x4] S (some (vI a.1)) a.2 :=
  Ct_of (val := fun (b : Int32 × GS) => some (vI b.1)) (nxt := fun (b : Int32 × GS) => b.2) (by decide) (Nat.le_of_ble_eq_true rfl) (fun Γ hl hO => w_X11_drawn hO o x1 x2 x3 x4 S)
theorem d_X11_climb_0 : gD cX11_climb 0 (.aload_n 0) 1 1 := ⟨by decide +kernel, rfl⟩
theorem d_X11_climb_1 : gD cX11_climb 1 (.getfield 10) 3 4 := ⟨by decide +kernel, rfl⟩
theorem d_X11_climb_4 : gD cX11_climb 4 (.iload_n 1) 1 5 := ⟨by decide +kernel, rfl⟩
theorem d_X11_climb_5 : gD cX11_climb 5 (.invokevirtual 105) 3 8 := ⟨by decide +kernel, rfl⟩
theorem d_X11_climb_8 : gD cX11_climb 8 (.astore 5) 2 10 := ⟨by decide +kernel, rfl⟩
theorem d_X11_climb_10 : gD cX11_climb 10 (.aload 5) 2 12 := ⟨by decide +kernel, rfl⟩
theorem d_X11_climb_12 : gD cX11_climb 12 (.ifnull 22) 3 15 ∧ ((12 : Nat) : Int) + 22 = ((34 : Nat) : Int) := ⟨⟨by decide +kernel, rfl⟩, by decide⟩
theorem d_X11_climb_15 : gD cX11_climb 15 (.aload 5) 2 17 := ⟨by decide +kernel, rfl⟩
theorem d_X11_climb_17 : gD cX11_climb 17 (.getfield 115) 3 20 := ⟨by decide +kernel, rfl⟩
theorem d_X11_climb_20 : gD cX11_climb 20 (.iload_n 2) 1 21 := ⟨by decide +kernel, rfl⟩
theorem d_X11_climb_21 : gD cX11_climb 21 (.invokevirtual 124) 3 24 := ⟨by decide +kernel, rfl⟩
theorem d_X11_climb_24 : gD cX11_climb 24 (.ifCond .eq 10) 3 27 ∧ ((24 : Nat) : Int) + 10 = ((34 : Nat) : Int) := ⟨⟨by decide +kernel, rfl⟩, by decide⟩
theorem d_X11_climb_27 : gD cX11_climb 27 (.iload_n 3) 1 28 := ⟨by decide +kernel, rfl⟩
theorem d_X11_climb_28 : gD cX11_climb 28 (.invokestatic 174) 3 31 := ⟨by decide +kernel, rfl⟩
theorem d_X11_climb_31 : gD cX11_climb 31 (.ifCond .ne 6) 3 34 ∧ ((31 : Nat) : Int) + 6 = ((37 : Nat) : Int) := ⟨⟨by decide +kernel, rfl⟩, by decide⟩
theorem d_X11_climb_34 : gD cX11_climb 34 (.bipush (-2)) 2 36 := ⟨by decide +kernel, rfl⟩
theorem d_X11_climb_36 : gD cX11_climb 36 (.ireturn) 1 37 := ⟨by decide +kernel, rfl⟩
theorem d_X11_climb_37 : gD cX11_climb 37 (.iload 4) 2 39 := ⟨by decide +kernel, rfl⟩
theorem d_X11_climb_39 : decode cX11_climb 39 = .ok (.tableswitch 73 0 4 #[33, 41, 49, 57, 65], 33) ∧ ((39 : Nat) : Int) + 73 = ((112 : Nat) : Int) := ⟨by decide +kernel, by decide⟩
theorem d_X11_climb_72 : gD cX11_climb 72 (.aload 5) 2 74 := ⟨by decide +kernel, rfl⟩
theorem d_X11_climb_74 : gD cX11_climb 74 (.iload_n 2) 1 75 := ⟨by decide +kernel, rfl⟩
theorem d_X11_climb_75 : gD cX11_climb 75 (.iload_n 3) 1 76 := ⟨by decide +kernel, rfl⟩
theorem d_X11_climb_76 : gD cX11_climb 76 (.invokevirtual 257) 3 79 := ⟨by decide +kernel, rfl⟩
theorem d_X11_climb_79 : gD cX11_climb 79 (.ireturn) 1 80 := ⟨by decide +kernel, rfl⟩
theorem d_X11_climb_80 : gD cX11_climb 80 (.aload 5) 2 82 := ⟨by decide +kernel, rfl⟩
theorem d_X11_climb_82 : gD cX11_climb 82 (.iload_n 2) 1 83 := ⟨by decide +kernel, rfl⟩
theorem d_X11_climb_83 : gD cX11_climb 83 (.iload_n 3) 1 84 := ⟨by decide +kernel, rfl⟩
theorem d_X11_climb_84 : gD cX11_climb 84 (.invokevirtual 260) 3 87 := ⟨by decide +kernel, rfl⟩
theorem d_X11_climb_87 : gD cX11_climb 87 (.ireturn) 1 88 := ⟨by decide +kernel, rfl⟩
theorem d_X11_climb_88 : gD cX11_climb 88 (.aload 5) 2 90 := ⟨by decide +kernel, rfl⟩
theorem d_X11_climb_90 : gD cX11_climb 90 (.iload_n 2) 1 91 := ⟨by decide +kernel, rfl⟩
theorem d_X11_climb_91 : gD cX11_climb 91 (.iload_n 3) 1 92 := ⟨by decide +kernel, rfl⟩
theorem d_X11_climb_92 : gD cX11_climb 92 (.invokevirtual 263) 3 95 := ⟨by decide +kernel, rfl⟩
theorem d_X11_climb_95 : gD cX11_climb 95 (.ireturn) 1 96 := ⟨by decide +kernel, rfl⟩
theorem d_X11_climb_96 : gD cX11_climb 96 (.aload 5) 2 98 := ⟨by decide +kernel, rfl⟩
theorem d_X11_climb_98 : gD cX11_climb 98 (.iload_n 2) 1 99 := ⟨by decide +kernel, rfl⟩
theorem d_X11_climb_99 : gD cX11_climb 99 (.iload_n 3) 1 100 := ⟨by decide +kernel, rfl⟩
theorem d_X11_climb_100 : gD cX11_climb 100 (.invokevirtual 266) 3 103 := ⟨by decide +kernel, rfl⟩
theorem d_X11_climb_103 : gD cX11_climb 103 (.ireturn) 1 104 := ⟨by decide +kernel, rfl⟩
theorem d_X11_climb_104 : gD cX11_climb 104 (.aload 5) 2 106 := ⟨by decide +kernel, rfl⟩
theorem d_X11_climb_106 : gD cX11_climb 106 (.iload_n 2) 1 107 := ⟨by decide +kernel, rfl⟩
theorem d_X11_climb_107 : gD cX11_climb 107 (.iload_n 3) 1 108 := ⟨by decide +kernel, rfl⟩
theorem d_X11_climb_108 : gD cX11_climb 108 (.invokevirtual 269) 3 111 := ⟨by decide +kernel, rfl⟩
theorem d_X11_climb_111 : gD cX11_climb 111 (.ireturn) 1 112 := ⟨by decide +kernel, rfl⟩
theorem d_X11_climb_112 : gD cX11_climb 112 (.bipush (-2)) 2 114 := ⟨by decide +kernel, rfl⟩
theorem d_X11_climb_114 : gD cX11_climb 114 (.ireturn) 1 115 := ⟨by decide +kernel, rfl⟩
abbrev rm_X11_climb : Room := { frames := 4, cells := 0, slots := 0, locals := 93 }
set_option maxRecDepth 20000 in
theorem w_X11_climb {Γ : GC} {E : GE} (hO : gOk Γ E cX11_climb RX11 6 rm_X11_climb (some .int) "climb") (o : Nat) (x1 : Int32) (x2 : Int32) (x3 : Int32) (x4 : Int32) (S : GS) : Go Γ E (gBpI Γ E S) 6 (0, 0) 0 S [(0, vA (some o)), (1, vI x1), (2, vI x2), (3, vI x3), (4, vI x4)] [] (f_X11_climb o x1 x2 x3 x4 S) := by
  unfold f_X11_climb
  refine g_aload_n hO d_X11_climb_0 (by rfl) 0 rfl ?_
  refine h_getR hO cl_X11 0 rfl wf_X11_10 d_X11_climb_1 (fun v1 => ?_)
  refine g_iload_n hO d_X11_climb_4 (by rfl) 1 rfl ?_
  refine k_virtAp hO cl_X9 mm_X9_courtAt lkV_X11_105 ⟨⟨Nat.le_of_ble_eq_true rfl, Nat.le_of_ble_eq_true rfl⟩, Nat.le_of_ble_eq_true rfl, Nat.le_of_ble_eq_true rfl⟩ (kn' := (0, 0)) rfl (As := [vI x1]) rfl (Nat.le_of_ble_eq_true rfl) (fun o' _ => t_X9_courtAt Γ.2.1 E o' x1 S) d_X11_climb_5 rfl (fun v2 => ?_)
  refine g_astore (lv' := [(5, vA v2), (0, vA (some o)), (1, vI x1), (2, vI x2), (3, vI x3), (4, vI x4)]) hO d_X11_climb_8 (by decide) rfl ?_
  refine g_aload hO d_X11_climb_10 0 rfl ?_
  refine g_ifnull (tgt := 34) hO d_X11_climb_12.1 d_X11_climb_12.2 ?_ ?_
  · skip
    refine g_bipush hO (-2) d_X11_climb_34 (by decide) ?_
    exact g_ret hO rfl rfl ⟨Nat.le_of_ble_eq_true rfl, Nat.le_of_ble_eq_true rfl⟩ rfl rfl d_X11_climb_36.1
  · skip
    refine g_aload hO d_X11_climb_15 0 rfl ?_
    refine h_getR hO cl_X0 1 rfl wf_X11_115 d_X11_climb_17 (fun v4 => ?_)
    refine g_iload_n hO d_X11_climb_20 (by rfl) 3 rfl ?_
    refine k_virtIp hO cl_X7 mm_X7_has lkV_X11_124 ⟨⟨Nat.le_of_ble_eq_true rfl, Nat.le_of_ble_eq_true rfl⟩, Nat.le_of_ble_eq_true rfl, Nat.le_of_ble_eq_true rfl⟩ (kn' := (0, 0)) rfl (As := [vI x2]) rfl (Nat.le_of_ble_eq_true rfl) (fun o' _ => t_X7_has Γ.2.1 E o' x2 S) d_X11_climb_21 rfl (fun v5 => ?_)
    refine g_if_eq (tgt := 34) hO d_X11_climb_24.1 d_X11_climb_24.2 (fun _ => ?_) (fun _ => ?_)
    · skip
      refine g_bipush hO (-2) d_X11_climb_34 (by decide) ?_
      exact g_ret hO rfl rfl ⟨Nat.le_of_ble_eq_true rfl, Nat.le_of_ble_eq_true rfl⟩ rfl rfl d_X11_climb_36.1
    · skip
      refine g_iload_n hO d_X11_climb_27 (by rfl) 4 rfl ?_
      refine k_statIp hO mm_X11_isMark lkS_X11_174 ⟨⟨Nat.le_of_ble_eq_true rfl, Nat.le_of_ble_eq_true rfl⟩, Nat.le_of_ble_eq_true rfl, Nat.le_of_ble_eq_true rfl⟩ (kn' := (0, 0)) rfl (As := [vI x3]) rfl (Nat.le_of_ble_eq_true rfl) (t_X11_isMark Γ.2.1 E x3 S) d_X11_climb_28 rfl (fun v7 => ?_)
      refine g_if_ne (tgt := 37) hO d_X11_climb_31.1 d_X11_climb_31.2 (fun _ => ?_) (fun _ => ?_)
      · skip
        refine g_bipush hO (-2) d_X11_climb_34 (by decide) ?_
        exact g_ret hO rfl rfl ⟨Nat.le_of_ble_eq_true rfl, Nat.le_of_ble_eq_true rfl⟩ rfl rfl d_X11_climb_36.1
      · skip
        refine g_iload hO d_X11_climb_37 5 rfl ?_
        refine h_tsw (c := 0) (dt := 112) hO d_X11_climb_39.1 5 (by decide) (by rfl) rfl (by decide) (by decide) d_X11_climb_39.2 ⟨⟨72, by decide, ?_⟩, ⟨80, by decide, ?_⟩, ⟨88, by decide, ?_⟩, ⟨96, by decide, ?_⟩, ⟨104, by decide, ?_⟩, trivial⟩ ?_
        · skip
          refine g_aload hO d_X11_climb_72 0 rfl ?_
          refine g_iload_n hO d_X11_climb_74 (by rfl) 3 rfl ?_
          refine g_iload_n hO d_X11_climb_75 (by rfl) 4 rfl ?_
          refine k_virtIp hO cl_X0 mm_X0_highestStand lkV_X11_257 ⟨⟨Nat.le_of_ble_eq_true rfl, Nat.le_of_ble_eq_true rfl⟩, Nat.le_of_ble_eq_true rfl, Nat.le_of_ble_eq_true rfl⟩ (kn' := (0, 0)) rfl (As := [vI x2, vI x3]) rfl (Nat.le_of_ble_eq_true rfl) (fun o' _ => t_X0_highestStand Γ.2.1 E o' x2 x3 S) d_X11_climb_76 rfl (fun v9 => ?_)
          exact g_ret hO rfl rfl ⟨Nat.le_of_ble_eq_true rfl, Nat.le_of_ble_eq_true rfl⟩ rfl rfl d_X11_climb_79.1
        · skip
          refine g_aload hO d_X11_climb_80 0 rfl ?_
          refine g_iload_n hO d_X11_climb_82 (by rfl) 3 rfl ?_
          refine g_iload_n hO d_X11_climb_83 (by rfl) 4 rfl ?_
          refine k_virtIp hO cl_X0 mm_X0_roomsToStand lkV_X11_260 ⟨⟨Nat.le_of_ble_eq_true rfl, Nat.le_of_ble_eq_true rfl⟩, Nat.le_of_ble_eq_true rfl, Nat.le_of_ble_eq_true rfl⟩ (kn' := (0, 0)) rfl (As := [vI x2, vI x3]) rfl (Nat.le_of_ble_eq_true rfl) (fun o' _ => t_X0_roomsToStand Γ.2.1 E o' x2 x3 S) d_X11_climb_84 rfl (fun v11 => ?_)
          exact g_ret hO rfl rfl ⟨Nat.le_of_ble_eq_true rfl, Nat.le_of_ble_eq_true rfl⟩ rfl rfl d_X11_climb_87.1
        · skip
          refine g_aload hO d_X11_climb_88 0 rfl ?_
          refine g_iload_n hO d_X11_climb_90 (by rfl) 3 rfl ?_
          refine g_iload_n hO d_X11_climb_91 (by rfl) 4 rfl ?_
          refine k_virtIp hO cl_X0 mm_X0_freeLaces lkV_X11_263 ⟨⟨Nat.le_of_ble_eq_true rfl, Nat.le_of_ble_eq_true rfl⟩, Nat.le_of_ble_eq_true rfl, Nat.le_of_ble_eq_true rfl⟩ (kn' := (0, 0)) rfl (As := [vI x2, vI x3]) rfl (Nat.le_of_ble_eq_true rfl) (fun o' _ => t_X0_freeLaces Γ.2.1 E o' x2 x3 S) d_X11_climb_92 rfl (fun v13 => ?_)
          exact g_ret hO rfl rfl ⟨Nat.le_of_ble_eq_true rfl, Nat.le_of_ble_eq_true rfl⟩ rfl rfl d_X11_climb_95.1
        · skip
          refine g_aload hO d_X11_climb_96 0 rfl ?_
          refine g_iload_n hO d_X11_climb_98 (by rfl) 3 rfl ?_
          refine g_iload_n hO d_X11_climb_99 (by rfl) 4 rfl ?_
          refine k_virtIp hO cl_X0 mm_X0_leastFree lkV_X11_266 ⟨⟨Nat.le_of_ble_eq_true rfl, Nat.le_of_ble_eq_true rfl⟩, Nat.le_of_ble_eq_true rfl, Nat.le_of_ble_eq_true rfl⟩ (kn' := (0, 0)) rfl (As := [vI x2, vI x3]) rfl (Nat.le_of_ble_eq_true rfl) (fun o' _ => t_X0_leastFree Γ.2.1 E o' x2 x3 S) d_X11_climb_100 rfl (fun v15 => ?_)
          exact g_ret hO rfl rfl ⟨Nat.le_of_ble_eq_true rfl, Nat.le_of_ble_eq_true rfl⟩ rfl rfl d_X11_climb_103.1
        · skip
          refine g_aload hO d_X11_climb_104 0 rfl ?_
          refine g_iload_n hO d_X11_climb_106 (by rfl) 3 rfl ?_
          refine g_iload_n hO d_X11_climb_107 (by rfl) 4 rfl ?_
          refine k_virtIp hO cl_X0 mm_X0_mostFree lkV_X11_269 ⟨⟨Nat.le_of_ble_eq_true rfl, Nat.le_of_ble_eq_true rfl⟩, Nat.le_of_ble_eq_true rfl, Nat.le_of_ble_eq_true rfl⟩ (kn' := (0, 0)) rfl (As := [vI x2, vI x3]) rfl (Nat.le_of_ble_eq_true rfl) (fun o' _ => t_X0_mostFree Γ.2.1 E o' x2 x3 S) d_X11_climb_108 rfl (fun v17 => ?_)
          exact g_ret hO rfl rfl ⟨Nat.le_of_ble_eq_true rfl, Nat.le_of_ble_eq_true rfl⟩ rfl rfl d_X11_climb_111.1
        · skip
          refine g_bipush hO (-2) d_X11_climb_112 (by decide) ?_
          exact g_ret hO rfl rfl ⟨Nat.le_of_ble_eq_true rfl, Nat.le_of_ble_eq_true rfl⟩ rfl rfl d_X11_climb_114.1
theorem t_X11_climb (l : Launch) (E : GE) (o : Nat) (x1 : Int32) (x2 : Int32) (x3 : Int32) (x4 : Int32) (S : GS) : ∀ a, f_X11_climb o x1 x2 x3 x4 S = some a → Ct l E yX11_climb cX11_climb 6 (some .int) rm_X11_climb [vA (some o), vI x1, vI x2, vI x3, vI x4] S (some (vI a)) S :=
  Ct_of (val := fun b => some (vI b)) (nxt := fun _ => S) (by decide) (Nat.le_of_ble_eq_true rfl) (fun Γ hl hO => w_X11_climb hO o x1 x2 x3 x4 S)
theorem d_X11_calm_0 : gD cX11_calm 0 (.aload_n 0) 1 1 := ⟨by decide +kernel, rfl⟩
theorem d_X11_calm_1 : gD cX11_calm 1 (.getfield 10) 3 4 := ⟨by decide +kernel, rfl⟩
theorem d_X11_calm_4 : gD cX11_calm 4 (.iload_n 1) 1 5 := ⟨by decide +kernel, rfl⟩
theorem d_X11_calm_5 : gD cX11_calm 5 (.invokevirtual 105) 3 8 := ⟨by decide +kernel, rfl⟩
theorem d_X11_calm_8 : gD cX11_calm 8 (.astore 4) 2 10 := ⟨by decide +kernel, rfl⟩
theorem d_X11_calm_10 : gD cX11_calm 10 (.aload 4) 2 12 := ⟨by decide +kernel, rfl⟩
theorem d_X11_calm_12 : gD cX11_calm 12 (.ifnull 15) 3 15 ∧ ((12 : Nat) : Int) + 15 = ((27 : Nat) : Int) := ⟨⟨by decide +kernel, rfl⟩, by decide⟩
theorem d_X11_calm_15 : gD cX11_calm 15 (.aload 4) 2 17 := ⟨by decide +kernel, rfl⟩
theorem d_X11_calm_17 : gD cX11_calm 17 (.getfield 115) 3 20 := ⟨by decide +kernel, rfl⟩
theorem d_X11_calm_20 : gD cX11_calm 20 (.iload_n 2) 1 21 := ⟨by decide +kernel, rfl⟩
theorem d_X11_calm_21 : gD cX11_calm 21 (.invokevirtual 124) 3 24 := ⟨by decide +kernel, rfl⟩
theorem d_X11_calm_24 : gD cX11_calm 24 (.ifCond .ne 5) 3 27 ∧ ((24 : Nat) : Int) + 5 = ((29 : Nat) : Int) := ⟨⟨by decide +kernel, rfl⟩, by decide⟩
theorem d_X11_calm_27 : gD cX11_calm 27 (.iconst (-1)) 1 28 := ⟨by decide +kernel, rfl⟩
theorem d_X11_calm_28 : gD cX11_calm 28 (.ireturn) 1 29 := ⟨by decide +kernel, rfl⟩
theorem d_X11_calm_29 : gD cX11_calm 29 (.iload_n 3) 1 30 := ⟨by decide +kernel, rfl⟩
theorem d_X11_calm_30 : gD cX11_calm 30 (.iconst (-1)) 1 31 := ⟨by decide +kernel, rfl⟩
theorem d_X11_calm_31 : gD cX11_calm 31 (.if_icmp .ne 10) 3 34 ∧ ((31 : Nat) : Int) + 10 = ((41 : Nat) : Int) := ⟨⟨by decide +kernel, rfl⟩, by decide⟩
theorem d_X11_calm_34 : gD cX11_calm 34 (.aload 4) 2 36 := ⟨by decide +kernel, rfl⟩
theorem d_X11_calm_36 : gD cX11_calm 36 (.iload_n 2) 1 37 := ⟨by decide +kernel, rfl⟩
theorem d_X11_calm_37 : gD cX11_calm 37 (.invokevirtual 272) 3 40 := ⟨by decide +kernel, rfl⟩
theorem d_X11_calm_40 : gD cX11_calm 40 (.ireturn) 1 41 := ⟨by decide +kernel, rfl⟩
theorem d_X11_calm_41 : gD cX11_calm 41 (.iload_n 3) 1 42 := ⟨by decide +kernel, rfl⟩
theorem d_X11_calm_42 : gD cX11_calm 42 (.invokestatic 128) 3 45 := ⟨by decide +kernel, rfl⟩
theorem d_X11_calm_45 : gD cX11_calm 45 (.ifCond .eq 13) 3 48 ∧ ((45 : Nat) : Int) + 13 = ((58 : Nat) : Int) := ⟨⟨by decide +kernel, rfl⟩, by decide⟩
theorem d_X11_calm_48 : gD cX11_calm 48 (.aload 4) 2 50 := ⟨by decide +kernel, rfl⟩
theorem d_X11_calm_50 : gD cX11_calm 50 (.iload_n 2) 1 51 := ⟨by decide +kernel, rfl⟩
theorem d_X11_calm_51 : gD cX11_calm 51 (.iload_n 3) 1 52 := ⟨by decide +kernel, rfl⟩
theorem d_X11_calm_52 : gD cX11_calm 52 (.invokevirtual 275) 3 55 := ⟨by decide +kernel, rfl⟩
theorem d_X11_calm_55 : decode cX11_calm 55 = .ok (.goto 4, 3) ∧ ((55 : Nat) : Int) + 4 = ((59 : Nat) : Int) := ⟨by decide +kernel, by decide⟩
theorem d_X11_calm_58 : gD cX11_calm 58 (.iconst (-1)) 1 59 := ⟨by decide +kernel, rfl⟩
theorem d_X11_calm_59 : gD cX11_calm 59 (.ireturn) 1 60 := ⟨by decide +kernel, rfl⟩
abbrev rm_X11_calm : Room := { frames := 5, cells := 0, slots := 0, locals := 118 }
set_option maxRecDepth 20000 in
theorem w_X11_calm {Γ : GC} {E : GE} (hO : gOk Γ E cX11_calm RX11 5 rm_X11_calm (some .int) "calm") (o : Nat) (x1 : Int32) (x2 : Int32) (x3 : Int32) (S : GS) : Go Γ E (gBpI Γ E S) 5 (0, 0) 0 S [(0, vA (some o)), (1, vI x1), (2, vI x2), (3, vI x3)] [] (f_X11_calm o x1 x2 x3 S) := by
  unfold f_X11_calm
  refine g_aload_n hO d_X11_calm_0 (by rfl) 0 rfl ?_
  refine h_getR hO cl_X11 0 rfl wf_X11_10 d_X11_calm_1 (fun v1 => ?_)
  refine g_iload_n hO d_X11_calm_4 (by rfl) 1 rfl ?_
  refine k_virtAp hO cl_X9 mm_X9_courtAt lkV_X11_105 ⟨⟨Nat.le_of_ble_eq_true rfl, Nat.le_of_ble_eq_true rfl⟩, Nat.le_of_ble_eq_true rfl, Nat.le_of_ble_eq_true rfl⟩ (kn' := (0, 0)) rfl (As := [vI x1]) rfl (Nat.le_of_ble_eq_true rfl) (fun o' _ => t_X9_courtAt Γ.2.1 E o' x1 S) d_X11_calm_5 rfl (fun v2 => ?_)
  refine g_astore (lv' := [(4, vA v2), (0, vA (some o)), (1, vI x1), (2, vI x2), (3, vI x3)]) hO d_X11_calm_8 (by decide) rfl ?_
  refine g_aload hO d_X11_calm_10 0 rfl ?_
  refine g_ifnull (tgt := 27) hO d_X11_calm_12.1 d_X11_calm_12.2 ?_ ?_
  · skip
    refine g_iconst hO (-1) d_X11_calm_27 (by decide) ?_
    exact g_ret hO rfl rfl ⟨Nat.le_of_ble_eq_true rfl, Nat.le_of_ble_eq_true rfl⟩ rfl rfl d_X11_calm_28.1
  · skip
    refine g_aload hO d_X11_calm_15 0 rfl ?_
    refine h_getR hO cl_X0 1 rfl wf_X11_115 d_X11_calm_17 (fun v4 => ?_)
    refine g_iload_n hO d_X11_calm_20 (by rfl) 3 rfl ?_
    refine k_virtIp hO cl_X7 mm_X7_has lkV_X11_124 ⟨⟨Nat.le_of_ble_eq_true rfl, Nat.le_of_ble_eq_true rfl⟩, Nat.le_of_ble_eq_true rfl, Nat.le_of_ble_eq_true rfl⟩ (kn' := (0, 0)) rfl (As := [vI x2]) rfl (Nat.le_of_ble_eq_true rfl) (fun o' _ => t_X7_has Γ.2.1 E o' x2 S) d_X11_calm_21 rfl (fun v5 => ?_)
    refine g_if_ne (tgt := 29) hO d_X11_calm_24.1 d_X11_calm_24.2 (fun _ => ?_) (fun _ => ?_)
    · skip
      refine g_iconst hO (-1) d_X11_calm_27 (by decide) ?_
      exact g_ret hO rfl rfl ⟨Nat.le_of_ble_eq_true rfl, Nat.le_of_ble_eq_true rfl⟩ rfl rfl d_X11_calm_28.1
    · skip
      refine g_iload_n hO d_X11_calm_29 (by rfl) 4 rfl ?_
      refine g_iconst hO (-1) d_X11_calm_30 (by decide) ?_
      refine g_ic_ne (tgt := 41) hO d_X11_calm_31.1 d_X11_calm_31.2 (fun _ => ?_) (fun _ => ?_)
      · skip
        refine g_aload hO d_X11_calm_34 0 rfl ?_
        refine g_iload_n hO d_X11_calm_36 (by rfl) 3 rfl ?_
        refine k_virtIp hO cl_X0 mm_X0_calmestLace lkV_X11_272 ⟨⟨Nat.le_of_ble_eq_true rfl, Nat.le_of_ble_eq_true rfl⟩, Nat.le_of_ble_eq_true rfl, Nat.le_of_ble_eq_true rfl⟩ (kn' := (0, 0)) rfl (As := [vI x2]) rfl (Nat.le_of_ble_eq_true rfl) (fun o' _ => t_X0_calmestLace Γ.2.1 E o' x2 S) d_X11_calm_37 rfl (fun v7 => ?_)
        exact g_ret hO rfl rfl ⟨Nat.le_of_ble_eq_true rfl, Nat.le_of_ble_eq_true rfl⟩ rfl rfl d_X11_calm_40.1
      · skip
        refine g_iload_n hO d_X11_calm_41 (by rfl) 4 rfl ?_
        refine k_statIp hO mm_X11_isLace lkS_X11_128 ⟨⟨Nat.le_of_ble_eq_true rfl, Nat.le_of_ble_eq_true rfl⟩, Nat.le_of_ble_eq_true rfl, Nat.le_of_ble_eq_true rfl⟩ (kn' := (0, 0)) rfl (As := [vI x3]) rfl (Nat.le_of_ble_eq_true rfl) (t_X11_isLace Γ.2.1 E x3 S) d_X11_calm_42 rfl (fun v9 => ?_)
        refine g_if_eq (tgt := 58) hO d_X11_calm_45.1 d_X11_calm_45.2 (fun _ => ?_) (fun _ => ?_)
        · skip
          refine g_iconst hO (-1) d_X11_calm_58 (by decide) ?_
          exact g_ret hO rfl rfl ⟨Nat.le_of_ble_eq_true rfl, Nat.le_of_ble_eq_true rfl⟩ rfl rfl d_X11_calm_59.1
        · skip
          refine g_aload hO d_X11_calm_48 0 rfl ?_
          refine g_iload_n hO d_X11_calm_50 (by rfl) 3 rfl ?_
          refine g_iload_n hO d_X11_calm_51 (by rfl) 4 rfl ?_
          refine k_virtIp hO cl_X0 mm_X0_calmRow lkV_X11_275 ⟨⟨Nat.le_of_ble_eq_true rfl, Nat.le_of_ble_eq_true rfl⟩, Nat.le_of_ble_eq_true rfl, Nat.le_of_ble_eq_true rfl⟩ (kn' := (0, 0)) rfl (As := [vI x2, vI x3]) rfl (Nat.le_of_ble_eq_true rfl) (fun o' _ => t_X0_calmRow Γ.2.1 E o' x2 x3 S) d_X11_calm_52 rfl (fun v11 => ?_)
          refine g_goto (tgt := 59) hO d_X11_calm_55.1 d_X11_calm_55.2 ?_
          exact g_ret hO rfl rfl ⟨Nat.le_of_ble_eq_true rfl, Nat.le_of_ble_eq_true rfl⟩ rfl rfl d_X11_calm_59.1
theorem t_X11_calm (l : Launch) (E : GE) (o : Nat) (x1 : Int32) (x2 : Int32) (x3 : Int32) (S : GS) : ∀ a, f_X11_calm o x1 x2 x3 S = some a → Ct l E yX11_calm cX11_calm 5 (some .int) rm_X11_calm [vA (some o), vI x1, vI x2, vI x3] S (some (vI a)) S :=
  Ct_of (val := fun b => some (vI b)) (nxt := fun _ => S) (by decide) (Nat.le_of_ble_eq_true rfl) (fun Γ hl hO => w_X11_calm hO o x1 x2 x3 S)
theorem d_X11_count_0 : gD cX11_count 0 (.iload_n 1) 1 1 := ⟨by decide +kernel, rfl⟩
theorem d_X11_count_1 : gD cX11_count 1 (.ifCond .lt 9) 3 4 ∧ ((1 : Nat) : Int) + 9 = ((10 : Nat) : Int) := ⟨⟨by decide +kernel, rfl⟩, by decide⟩
theorem d_X11_count_4 : gD cX11_count 4 (.iload_n 1) 1 5 := ⟨by decide +kernel, rfl⟩
theorem d_X11_count_5 : gD cX11_count 5 (.bipush 6) 2 7 := ⟨by decide +kernel, rfl⟩
theorem d_X11_count_7 : gD cX11_count 7 (.if_icmp .lt 8) 3 10 ∧ ((7 : Nat) : Int) + 8 = ((15 : Nat) : Int) := ⟨⟨by decide +kernel, rfl⟩, by decide⟩
theorem d_X11_count_10 : gD cX11_count 10 (.bipush (-2)) 2 12 := ⟨by decide +kernel, rfl⟩
theorem d_X11_count_12 : decode cX11_count 12 = .ok (.goto 12, 3) ∧ ((12 : Nat) : Int) + 12 = ((24 : Nat) : Int) := ⟨by decide +kernel, by decide⟩
theorem d_X11_count_15 : gD cX11_count 15 (.aload_n 0) 1 16 := ⟨by decide +kernel, rfl⟩
theorem d_X11_count_16 : gD cX11_count 16 (.getfield 10) 3 19 := ⟨by decide +kernel, rfl⟩
theorem d_X11_count_19 : gD cX11_count 19 (.getfield 278) 3 22 := ⟨by decide +kernel, rfl⟩
theorem d_X11_count_22 : gD cX11_count 22 (.iload_n 1) 1 23 := ⟨by decide +kernel, rfl⟩
theorem d_X11_count_23 : gD cX11_count 23 (.iaload) 1 24 := ⟨by decide +kernel, rfl⟩
theorem d_X11_count_24 : gD cX11_count 24 (.ireturn) 1 25 := ⟨by decide +kernel, rfl⟩
abbrev rm_X11_count : Room := { frames := 0, cells := 0, slots := 0, locals := 0 }
set_option maxRecDepth 20000 in
theorem w_X11_count_10 {Γ : GC} {E : GE} (hO : gOk Γ E cX11_count RX11 2 rm_X11_count (some .int) "count") (o : Nat) (S : GS) : Go Γ E (gBpI Γ E S) 2 (0, 0) 10 S [(0, vA (some o))] [] (f_X11_count_10 o S) := by
  unfold f_X11_count_10
  refine g_bipush hO (-2) d_X11_count_10 (by decide) ?_
  refine g_goto (tgt := 24) hO d_X11_count_12.1 d_X11_count_12.2 ?_
  exact g_ret hO rfl rfl ⟨Nat.le_of_ble_eq_true rfl, Nat.le_of_ble_eq_true rfl⟩ rfl rfl d_X11_count_24.1
set_option maxRecDepth 20000 in
theorem w_X11_count {Γ : GC} {E : GE} (hO : gOk Γ E cX11_count RX11 2 rm_X11_count (some .int) "count") (o : Nat) (x1 : Int32) (S : GS) : Go Γ E (gBpI Γ E S) 2 (0, 0) 0 S [(0, vA (some o)), (1, vI x1)] [] (f_X11_count o x1 S) := by
  unfold f_X11_count
  refine g_iload_n hO d_X11_count_0 (by rfl) 1 rfl ?_
  refine g_if_lt (tgt := 10) hO d_X11_count_1.1 d_X11_count_1.2 (fun _ => ?_) (fun _ => ?_)
  · skip
    exact g_sub [0] rfl (w_X11_count_10 hO o _)
  · skip
    refine g_iload_n hO d_X11_count_4 (by rfl) 1 rfl ?_
    refine g_bipush hO 6 d_X11_count_5 (by decide) ?_
    refine g_ic_lt (tgt := 15) hO d_X11_count_7.1 d_X11_count_7.2 (fun _ => ?_) (fun _ => ?_)
    · skip
      refine g_aload_n hO d_X11_count_15 (by rfl) 0 rfl ?_
      refine h_getR hO cl_X11 0 rfl wf_X11_10 d_X11_count_16 (fun v1 => ?_)
      refine h_getR hO cl_X9 1 rfl wf_X11_278 d_X11_count_19 (fun v2 => ?_)
      refine g_iload_n hO d_X11_count_22 (by rfl) 1 rfl ?_
      refine h_iald hO d_X11_count_23 (fun v3 => ?_)
      exact g_ret hO rfl rfl ⟨Nat.le_of_ble_eq_true rfl, Nat.le_of_ble_eq_true rfl⟩ rfl rfl d_X11_count_24.1
    · skip
      exact g_sub [0] rfl (w_X11_count_10 hO o _)
theorem t_X11_count (l : Launch) (E : GE) (o : Nat) (x1 : Int32) (S : GS) : ∀ a, f_X11_count o x1 S = some a → Ct l E yX11_count cX11_count 2 (some .int) rm_X11_count [vA (some o), vI x1] S (some (vI a)) S :=
  Ct_of (val := fun b => some (vI b)) (nxt := fun _ => S) (by decide) (Nat.le_of_ble_eq_true rfl) (fun Γ hl hO => w_X11_count hO o x1 S)
theorem d_X11_image_0 : gD cX11_image 0 (.iload_n 1) 1 1 := ⟨by decide +kernel, rfl⟩
theorem d_X11_image_1 : gD cX11_image 1 (.ifCond .lt 8) 3 4 ∧ ((1 : Nat) : Int) + 8 = ((9 : Nat) : Int) := ⟨⟨by decide +kernel, rfl⟩, by decide⟩
theorem d_X11_image_4 : gD cX11_image 4 (.iload_n 1) 1 5 := ⟨by decide +kernel, rfl⟩
theorem d_X11_image_5 : gD cX11_image 5 (.iconst 3) 1 6 := ⟨by decide +kernel, rfl⟩
theorem d_X11_image_6 : gD cX11_image 6 (.if_icmp .lt 5) 3 9 ∧ ((6 : Nat) : Int) + 5 = ((11 : Nat) : Int) := ⟨⟨by decide +kernel, rfl⟩, by decide⟩
theorem d_X11_image_9 : gD cX11_image 9 (.iconst 0) 1 10 := ⟨by decide +kernel, rfl⟩
theorem d_X11_image_10 : gD cX11_image 10 (.ireturn) 1 11 := ⟨by decide +kernel, rfl⟩
theorem d_X11_image_11 : gD cX11_image 11 (.aload_n 0) 1 12 := ⟨by decide +kernel, rfl⟩
theorem d_X11_image_12 : gD cX11_image 12 (.getfield 16) 3 15 := ⟨by decide +kernel, rfl⟩
theorem d_X11_image_15 : gD cX11_image 15 (.iload_n 1) 1 16 := ⟨by decide +kernel, rfl⟩
theorem d_X11_image_16 : gD cX11_image 16 (.aaload) 1 17 := ⟨by decide +kernel, rfl⟩
theorem d_X11_image_17 : gD cX11_image 17 (.aload_n 0) 1 18 := ⟨by decide +kernel, rfl⟩
theorem d_X11_image_18 : gD cX11_image 18 (.getfield 10) 3 21 := ⟨by decide +kernel, rfl⟩
theorem d_X11_image_21 : gD cX11_image 21 (.invokevirtual 282) 3 24 := ⟨by decide +kernel, rfl⟩
theorem d_X11_image_24 : gD cX11_image 24 (.aload_n 0) 1 25 := ⟨by decide +kernel, rfl⟩
theorem d_X11_image_25 : gD cX11_image 25 (.getfield 20) 3 28 := ⟨by decide +kernel, rfl⟩
theorem d_X11_image_28 : gD cX11_image 28 (.iload_n 1) 1 29 := ⟨by decide +kernel, rfl⟩
theorem d_X11_image_29 : gD cX11_image 29 (.iconst 1) 1 30 := ⟨by decide +kernel, rfl⟩
theorem d_X11_image_30 : gD cX11_image 30 (.bastore) 1 31 := ⟨by decide +kernel, rfl⟩
theorem d_X11_image_31 : gD cX11_image 31 (.iconst 1) 1 32 := ⟨by decide +kernel, rfl⟩
theorem d_X11_image_32 : gD cX11_image 32 (.ireturn) 1 33 := ⟨by decide +kernel, rfl⟩
abbrev rm_X11_image : Room := { frames := 4, cells := 0, slots := 0, locals := 82 }
set_option maxRecDepth 20000 in
theorem w_X11_image {Γ : GC} {E : GE} (hO : gOk Γ E cX11_image RX11 2 rm_X11_image (some .boolean) "image") (o : Nat) (x1 : Int32) (S : GS) : Go Γ E (gBsI Γ E) 2 (0, 0) 0 S [(0, vA (some o)), (1, vI x1)] [] (f_X11_image o x1 S) := by
  unfold f_X11_image
  refine g_iload_n hO d_X11_image_0 (by rfl) 1 rfl ?_
  refine g_if_lt (tgt := 9) hO d_X11_image_1.1 d_X11_image_1.2 (fun _ => ?_) (fun _ => ?_)
  · skip
    refine g_iconst hO 0 d_X11_image_9 (by decide) ?_
    exact g_ret hO rfl rfl ⟨Nat.le_of_ble_eq_true rfl, Nat.le_of_ble_eq_true rfl⟩ rfl rfl d_X11_image_10.1
  · skip
    refine g_iload_n hO d_X11_image_4 (by rfl) 1 rfl ?_
    refine g_iconst hO 3 d_X11_image_5 (by decide) ?_
    refine g_ic_lt (tgt := 11) hO d_X11_image_6.1 d_X11_image_6.2 (fun _ => ?_) (fun _ => ?_)
    · skip
      refine g_aload_n hO d_X11_image_11 (by rfl) 0 rfl ?_
      refine h_getR hO cl_X11 1 rfl wf_X11_16 d_X11_image_12 (fun v1 => ?_)
      refine g_iload_n hO d_X11_image_15 (by rfl) 1 rfl ?_
      refine h_aald hO 20 (by omega) (by omega) d_X11_image_16 (fun v2 => ?_)
      refine g_aload_n hO d_X11_image_17 (by rfl) 0 rfl ?_
      refine h_getR hO cl_X11 0 rfl wf_X11_10 d_X11_image_18 (fun v3 => ?_)
      refine k_virtVs hO cl_X9 mm_X9_copyFrom lkV_X11_282 ⟨⟨Nat.le_of_ble_eq_true rfl, Nat.le_of_ble_eq_true rfl⟩, Nat.le_of_ble_eq_true rfl, Nat.le_of_ble_eq_true rfl⟩ (kn' := (0, 0)) rfl (As := [vA v3]) rfl (Nat.le_of_ble_eq_true rfl) (fun o' _ => t_X9_copyFrom Γ.2.1 E o' v3 S) d_X11_image_21 rfl (fun S5 => ?_)
      refine g_aload_n hO d_X11_image_24 (by rfl) 0 rfl ?_
      refine h_getR hO cl_X11 2 rfl wf_X11_20 d_X11_image_25 (fun v6 => ?_)
      refine g_iload_n hO d_X11_image_28 (by rfl) 1 rfl ?_
      refine g_iconst hO 1 d_X11_image_29 (by decide) ?_
      refine h_zast hO d_X11_image_30 (fun S7 => ?_)
      refine g_iconst hO 1 d_X11_image_31 (by decide) ?_
      exact g_ret hO rfl rfl ⟨Nat.le_of_ble_eq_true rfl, Nat.le_of_ble_eq_true rfl⟩ rfl rfl d_X11_image_32.1
    · skip
      refine g_iconst hO 0 d_X11_image_9 (by decide) ?_
      exact g_ret hO rfl rfl ⟨Nat.le_of_ble_eq_true rfl, Nat.le_of_ble_eq_true rfl⟩ rfl rfl d_X11_image_10.1
theorem t_X11_image (l : Launch) (E : GE) (o : Nat) (x1 : Int32) (S : GS) : ∀ a, f_X11_image o x1 S = some a → Ct l E yX11_image cX11_image 2 (some .boolean) rm_X11_image [vA (some o), vI x1] S (some (vI a.1)) a.2 :=
  Ct_of (val := fun (b : Int32 × GS) => some (vI b.1)) (nxt := fun (b : Int32 × GS) => b.2) (by decide) (Nat.le_of_ble_eq_true rfl) (fun Γ hl hO => w_X11_image hO o x1 S)
theorem d_X11_again_0 : gD cX11_again 0 (.iload_n 1) 1 1 := ⟨by decide +kernel, rfl⟩
theorem d_X11_again_1 : gD cX11_again 1 (.ifCond .lt 17) 3 4 ∧ ((1 : Nat) : Int) + 17 = ((18 : Nat) : Int) := ⟨⟨by decide +kernel, rfl⟩, by decide⟩
theorem d_X11_again_4 : gD cX11_again 4 (.iload_n 1) 1 5 := ⟨by decide +kernel, rfl⟩
theorem d_X11_again_5 : gD cX11_again 5 (.iconst 3) 1 6 := ⟨by decide +kernel, rfl⟩
theorem d_X11_again_6 : gD cX11_again 6 (.if_icmp .ge 12) 3 9 ∧ ((6 : Nat) : Int) + 12 = ((18 : Nat) : Int) := ⟨⟨by decide +kernel, rfl⟩, by decide⟩
theorem d_X11_again_9 : gD cX11_again 9 (.aload_n 0) 1 10 := ⟨by decide +kernel, rfl⟩
theorem d_X11_again_10 : gD cX11_again 10 (.getfield 20) 3 13 := ⟨by decide +kernel, rfl⟩
theorem d_X11_again_13 : gD cX11_again 13 (.iload_n 1) 1 14 := ⟨by decide +kernel, rfl⟩
theorem d_X11_again_14 : gD cX11_again 14 (.baload) 1 15 := ⟨by decide +kernel, rfl⟩
theorem d_X11_again_15 : gD cX11_again 15 (.ifCond .ne 5) 3 18 ∧ ((15 : Nat) : Int) + 5 = ((20 : Nat) : Int) := ⟨⟨by decide +kernel, rfl⟩, by decide⟩
theorem d_X11_again_18 : gD cX11_again 18 (.iconst 0) 1 19 := ⟨by decide +kernel, rfl⟩
theorem d_X11_again_19 : gD cX11_again 19 (.ireturn) 1 20 := ⟨by decide +kernel, rfl⟩
theorem d_X11_again_20 : gD cX11_again 20 (.aload_n 0) 1 21 := ⟨by decide +kernel, rfl⟩
theorem d_X11_again_21 : gD cX11_again 21 (.getfield 10) 3 24 := ⟨by decide +kernel, rfl⟩
theorem d_X11_again_24 : gD cX11_again 24 (.aload_n 0) 1 25 := ⟨by decide +kernel, rfl⟩
theorem d_X11_again_25 : gD cX11_again 25 (.getfield 16) 3 28 := ⟨by decide +kernel, rfl⟩
theorem d_X11_again_28 : gD cX11_again 28 (.iload_n 1) 1 29 := ⟨by decide +kernel, rfl⟩
theorem d_X11_again_29 : gD cX11_again 29 (.aaload) 1 30 := ⟨by decide +kernel, rfl⟩
theorem d_X11_again_30 : gD cX11_again 30 (.invokevirtual 282) 3 33 := ⟨by decide +kernel, rfl⟩
theorem d_X11_again_33 : gD cX11_again 33 (.iconst 1) 1 34 := ⟨by decide +kernel, rfl⟩
theorem d_X11_again_34 : gD cX11_again 34 (.ireturn) 1 35 := ⟨by decide +kernel, rfl⟩
abbrev rm_X11_again : Room := { frames := 4, cells := 0, slots := 0, locals := 82 }
set_option maxRecDepth 20000 in
theorem w_X11_again {Γ : GC} {E : GE} (hO : gOk Γ E cX11_again RX11 2 rm_X11_again (some .boolean) "again") (o : Nat) (x1 : Int32) (S : GS) : Go Γ E (gBsI Γ E) 2 (0, 0) 0 S [(0, vA (some o)), (1, vI x1)] [] (f_X11_again o x1 S) := by
  unfold f_X11_again
  refine g_iload_n hO d_X11_again_0 (by rfl) 1 rfl ?_
  refine g_if_lt (tgt := 18) hO d_X11_again_1.1 d_X11_again_1.2 (fun _ => ?_) (fun _ => ?_)
  · skip
    refine g_iconst hO 0 d_X11_again_18 (by decide) ?_
    exact g_ret hO rfl rfl ⟨Nat.le_of_ble_eq_true rfl, Nat.le_of_ble_eq_true rfl⟩ rfl rfl d_X11_again_19.1
  · skip
    refine g_iload_n hO d_X11_again_4 (by rfl) 1 rfl ?_
    refine g_iconst hO 3 d_X11_again_5 (by decide) ?_
    refine g_ic_ge (tgt := 18) hO d_X11_again_6.1 d_X11_again_6.2 (fun _ => ?_) (fun _ => ?_)
    · skip
      refine g_iconst hO 0 d_X11_again_18 (by decide) ?_
      exact g_ret hO rfl rfl ⟨Nat.le_of_ble_eq_true rfl, Nat.le_of_ble_eq_true rfl⟩ rfl rfl d_X11_again_19.1
    · skip
      refine g_aload_n hO d_X11_again_9 (by rfl) 0 rfl ?_
      refine h_getR hO cl_X11 2 rfl wf_X11_20 d_X11_again_10 (fun v1 => ?_)
      refine g_iload_n hO d_X11_again_13 (by rfl) 1 rfl ?_
      refine h_zald hO d_X11_again_14 (fun v2 => ?_)
      refine g_if_ne (tgt := 20) hO d_X11_again_15.1 d_X11_again_15.2 (fun _ => ?_) (fun _ => ?_)
      · skip
        refine g_iconst hO 0 d_X11_again_18 (by decide) ?_
        exact g_ret hO rfl rfl ⟨Nat.le_of_ble_eq_true rfl, Nat.le_of_ble_eq_true rfl⟩ rfl rfl d_X11_again_19.1
      · skip
        refine g_aload_n hO d_X11_again_20 (by rfl) 0 rfl ?_
        refine h_getR hO cl_X11 0 rfl wf_X11_10 d_X11_again_21 (fun v3 => ?_)
        refine g_aload_n hO d_X11_again_24 (by rfl) 0 rfl ?_
        refine h_getR hO cl_X11 1 rfl wf_X11_16 d_X11_again_25 (fun v4 => ?_)
        refine g_iload_n hO d_X11_again_28 (by rfl) 1 rfl ?_
        refine h_aald hO 20 (by omega) (by omega) d_X11_again_29 (fun v5 => ?_)
        refine k_virtVs hO cl_X9 mm_X9_copyFrom lkV_X11_282 ⟨⟨Nat.le_of_ble_eq_true rfl, Nat.le_of_ble_eq_true rfl⟩, Nat.le_of_ble_eq_true rfl, Nat.le_of_ble_eq_true rfl⟩ (kn' := (0, 0)) rfl (As := [vA v5]) rfl (Nat.le_of_ble_eq_true rfl) (fun o' _ => t_X9_copyFrom Γ.2.1 E o' v5 S) d_X11_again_30 rfl (fun S7 => ?_)
        refine g_iconst hO 1 d_X11_again_33 (by decide) ?_
        exact g_ret hO rfl rfl ⟨Nat.le_of_ble_eq_true rfl, Nat.le_of_ble_eq_true rfl⟩ rfl rfl d_X11_again_34.1
theorem t_X11_again (l : Launch) (E : GE) (o : Nat) (x1 : Int32) (S : GS) : ∀ a, f_X11_again o x1 S = some a → Ct l E yX11_again cX11_again 2 (some .boolean) rm_X11_again [vA (some o), vI x1] S (some (vI a.1)) a.2 :=
  Ct_of (val := fun (b : Int32 × GS) => some (vI b.1)) (nxt := fun (b : Int32 × GS) => b.2) (by decide) (Nat.le_of_ble_eq_true rfl) (fun Γ hl hO => w_X11_again hO o x1 S)
theorem d_X12_init_0 : gD cX12_init 0 (.aload_n 0) 1 1 := ⟨by decide +kernel, rfl⟩
theorem d_X12_init_1 : gD cX12_init 1 (.invokespecial 1) 3 4 := ⟨by decide +kernel, rfl⟩
theorem d_X12_init_4 : gD cX12_init 4 (.aload_n 0) 1 5 := ⟨by decide +kernel, rfl⟩
theorem d_X12_init_5 : gD cX12_init 5 (.sipush 2400) 3 8 := ⟨by decide +kernel, rfl⟩
theorem d_X12_init_8 : gD cX12_init 8 (.newarray .byte) 2 10 := ⟨by decide +kernel, rfl⟩
theorem d_X12_init_10 : gD cX12_init 10 (.putfield 7) 3 13 := ⟨by decide +kernel, rfl⟩
theorem d_X12_init_13 : gD cX12_init 13 (.aload_n 0) 1 14 := ⟨by decide +kernel, rfl⟩
theorem d_X12_init_14 : gD cX12_init 14 (.iconst 4) 1 15 := ⟨by decide +kernel, rfl⟩
theorem d_X12_init_15 : gD cX12_init 15 (.newarray .int) 2 17 := ⟨by decide +kernel, rfl⟩
theorem d_X12_init_17 : gD cX12_init 17 (.putfield 13) 3 20 := ⟨by decide +kernel, rfl⟩
theorem d_X12_init_20 : gD cX12_init 20 (.aload_n 0) 1 21 := ⟨by decide +kernel, rfl⟩
theorem d_X12_init_21 : gD cX12_init 21 (.iconst 4) 1 22 := ⟨by decide +kernel, rfl⟩
theorem d_X12_init_22 : gD cX12_init 22 (.newarray .int) 2 24 := ⟨by decide +kernel, rfl⟩
theorem d_X12_init_24 : gD cX12_init 24 (.putfield 17) 3 27 := ⟨by decide +kernel, rfl⟩
theorem d_X12_init_27 : gD cX12_init 27 (.aload_n 0) 1 28 := ⟨by decide +kernel, rfl⟩
theorem d_X12_init_28 : gD cX12_init 28 (.iconst 4) 1 29 := ⟨by decide +kernel, rfl⟩
theorem d_X12_init_29 : gD cX12_init 29 (.newarray .int) 2 31 := ⟨by decide +kernel, rfl⟩
theorem d_X12_init_31 : gD cX12_init 31 (.putfield 20) 3 34 := ⟨by decide +kernel, rfl⟩
theorem d_X12_init_34 : gD cX12_init 34 (.aload_n 0) 1 35 := ⟨by decide +kernel, rfl⟩
theorem d_X12_init_35 : gD cX12_init 35 (.bipush 24) 2 37 := ⟨by decide +kernel, rfl⟩
theorem d_X12_init_37 : gD cX12_init 37 (.newarray .int) 2 39 := ⟨by decide +kernel, rfl⟩
theorem d_X12_init_39 : gD cX12_init 39 (.putfield 23) 3 42 := ⟨by decide +kernel, rfl⟩
theorem d_X12_init_42 : gD cX12_init 42 (.aload_n 0) 1 43 := ⟨by decide +kernel, rfl⟩
theorem d_X12_init_43 : gD cX12_init 43 (.sipush 552) 3 46 := ⟨by decide +kernel, rfl⟩
theorem d_X12_init_46 : gD cX12_init 46 (.newarray .int) 2 48 := ⟨by decide +kernel, rfl⟩
theorem d_X12_init_48 : gD cX12_init 48 (.putfield 26) 3 51 := ⟨by decide +kernel, rfl⟩
theorem d_X12_init_51 : gD cX12_init 51 (.aload_n 0) 1 52 := ⟨by decide +kernel, rfl⟩
theorem d_X12_init_52 : gD cX12_init 52 (.sipush 968) 3 55 := ⟨by decide +kernel, rfl⟩
theorem d_X12_init_55 : gD cX12_init 55 (.newarray .int) 2 57 := ⟨by decide +kernel, rfl⟩
theorem d_X12_init_57 : gD cX12_init 57 (.putfield 29) 3 60 := ⟨by decide +kernel, rfl⟩
theorem d_X12_init_60 : gD cX12_init 60 (.aload_n 0) 1 61 := ⟨by decide +kernel, rfl⟩
theorem d_X12_init_61 : gD cX12_init 61 (.sipush 136) 3 64 := ⟨by decide +kernel, rfl⟩
theorem d_X12_init_64 : gD cX12_init 64 (.newarray .int) 2 66 := ⟨by decide +kernel, rfl⟩
theorem d_X12_init_66 : gD cX12_init 66 (.putfield 32) 3 69 := ⟨by decide +kernel, rfl⟩
theorem d_X12_init_69 : gD cX12_init 69 (.aload_n 0) 1 70 := ⟨by decide +kernel, rfl⟩
theorem d_X12_init_70 : gD cX12_init 70 (.sipush 976) 3 73 := ⟨by decide +kernel, rfl⟩
theorem d_X12_init_73 : gD cX12_init 73 (.newarray .int) 2 75 := ⟨by decide +kernel, rfl⟩
theorem d_X12_init_75 : gD cX12_init 75 (.putfield 35) 3 78 := ⟨by decide +kernel, rfl⟩
theorem d_X12_init_78 : gD cX12_init 78 (.aload_n 0) 1 79 := ⟨by decide +kernel, rfl⟩
theorem d_X12_init_79 : gD cX12_init 79 (.sipush 728) 3 82 := ⟨by decide +kernel, rfl⟩
theorem d_X12_init_82 : gD cX12_init 82 (.newarray .int) 2 84 := ⟨by decide +kernel, rfl⟩
theorem d_X12_init_84 : gD cX12_init 84 (.putfield 38) 3 87 := ⟨by decide +kernel, rfl⟩
theorem d_X12_init_87 : gD cX12_init 87 (.aload_n 0) 1 88 := ⟨by decide +kernel, rfl⟩
theorem d_X12_init_88 : gD cX12_init 88 (.sipush 168) 3 91 := ⟨by decide +kernel, rfl⟩
theorem d_X12_init_91 : gD cX12_init 91 (.newarray .int) 2 93 := ⟨by decide +kernel, rfl⟩
theorem d_X12_init_93 : gD cX12_init 93 (.putfield 41) 3 96 := ⟨by decide +kernel, rfl⟩
theorem d_X12_init_96 : gD cX12_init 96 (.aload_n 0) 1 97 := ⟨by decide +kernel, rfl⟩
theorem d_X12_init_97 : gD cX12_init 97 (.bipush 122) 2 99 := ⟨by decide +kernel, rfl⟩
theorem d_X12_init_99 : gD cX12_init 99 (.newarray .int) 2 101 := ⟨by decide +kernel, rfl⟩
theorem d_X12_init_101 : gD cX12_init 101 (.putfield 44) 3 104 := ⟨by decide +kernel, rfl⟩
theorem d_X12_init_104 : gD cX12_init 104 (.aload_n 0) 1 105 := ⟨by decide +kernel, rfl⟩
theorem d_X12_init_105 : gD cX12_init 105 (.iconst 5) 1 106 := ⟨by decide +kernel, rfl⟩
theorem d_X12_init_106 : gD cX12_init 106 (.newarray .int) 2 108 := ⟨by decide +kernel, rfl⟩
theorem d_X12_init_108 : gD cX12_init 108 (.putfield 47) 3 111 := ⟨by decide +kernel, rfl⟩
theorem d_X12_init_111 : gD cX12_init 111 (.aload_n 0) 1 112 := ⟨by decide +kernel, rfl⟩
theorem d_X12_init_112 : gD cX12_init 112 (.iconst 4) 1 113 := ⟨by decide +kernel, rfl⟩
theorem d_X12_init_113 : gD cX12_init 113 (.newarray .int) 2 115 := ⟨by decide +kernel, rfl⟩
theorem d_X12_init_115 : gD cX12_init 115 (.putfield 50) 3 118 := ⟨by decide +kernel, rfl⟩
theorem d_X12_init_118 : gD cX12_init 118 (.aload_n 0) 1 119 := ⟨by decide +kernel, rfl⟩
theorem d_X12_init_119 : gD cX12_init 119 (.bipush 8) 2 121 := ⟨by decide +kernel, rfl⟩
theorem d_X12_init_121 : gD cX12_init 121 (.newarray .int) 2 123 := ⟨by decide +kernel, rfl⟩
theorem d_X12_init_123 : gD cX12_init 123 (.putfield 53) 3 126 := ⟨by decide +kernel, rfl⟩
theorem d_X12_init_126 : gD cX12_init 126 (.aload_n 0) 1 127 := ⟨by decide +kernel, rfl⟩
theorem d_X12_init_127 : gD cX12_init 127 (.bipush 8) 2 129 := ⟨by decide +kernel, rfl⟩
theorem d_X12_init_129 : gD cX12_init 129 (.newarray .int) 2 131 := ⟨by decide +kernel, rfl⟩
theorem d_X12_init_131 : gD cX12_init 131 (.putfield 56) 3 134 := ⟨by decide +kernel, rfl⟩
theorem d_X12_init_134 : gD cX12_init 134 (.aload_n 0) 1 135 := ⟨by decide +kernel, rfl⟩
theorem d_X12_init_135 : gD cX12_init 135 (.bipush 8) 2 137 := ⟨by decide +kernel, rfl⟩
theorem d_X12_init_137 : gD cX12_init 137 (.newarray .int) 2 139 := ⟨by decide +kernel, rfl⟩
theorem d_X12_init_139 : gD cX12_init 139 (.putfield 59) 3 142 := ⟨by decide +kernel, rfl⟩
theorem d_X12_init_142 : gD cX12_init 142 (.aload_n 0) 1 143 := ⟨by decide +kernel, rfl⟩
theorem d_X12_init_143 : gD cX12_init 143 (.bipush 8) 2 145 := ⟨by decide +kernel, rfl⟩
theorem d_X12_init_145 : gD cX12_init 145 (.newarray .int) 2 147 := ⟨by decide +kernel, rfl⟩
theorem d_X12_init_147 : gD cX12_init 147 (.putfield 62) 3 150 := ⟨by decide +kernel, rfl⟩
theorem d_X12_init_150 : gD cX12_init 150 (.aload_n 0) 1 151 := ⟨by decide +kernel, rfl⟩
theorem d_X12_init_151 : gD cX12_init 151 (.bipush 8) 2 153 := ⟨by decide +kernel, rfl⟩
theorem d_X12_init_153 : gD cX12_init 153 (.newarray .int) 2 155 := ⟨by decide +kernel, rfl⟩
theorem d_X12_init_155 : gD cX12_init 155 (.putfield 65) 3 158 := ⟨by decide +kernel, rfl⟩
theorem d_X12_init_158 : gD cX12_init 158 (.aload_n 0) 1 159 := ⟨by decide +kernel, rfl⟩
theorem d_X12_init_159 : gD cX12_init 159 (.sipush 527) 3 162 := ⟨by decide +kernel, rfl⟩
theorem d_X12_init_162 : gD cX12_init 162 (.newarray .int) 2 164 := ⟨by decide +kernel, rfl⟩
theorem d_X12_init_164 : gD cX12_init 164 (.putfield 68) 3 167 := ⟨by decide +kernel, rfl⟩
theorem d_X12_init_167 : gD cX12_init 167 (.aload_n 0) 1 168 := ⟨by decide +kernel, rfl⟩
theorem d_X12_init_168 : gD cX12_init 168 (.bipush 8) 2 170 := ⟨by decide +kernel, rfl⟩
theorem d_X12_init_170 : gD cX12_init 170 (.newarray .int) 2 172 := ⟨by decide +kernel, rfl⟩
theorem d_X12_init_172 : gD cX12_init 172 (.putfield 71) 3 175 := ⟨by decide +kernel, rfl⟩
theorem d_X12_init_175 : gD cX12_init 175 (.aload_n 0) 1 176 := ⟨by decide +kernel, rfl⟩
theorem d_X12_init_176 : gD cX12_init 176 (.bipush 41) 2 178 := ⟨by decide +kernel, rfl⟩
theorem d_X12_init_178 : gD cX12_init 178 (.newarray .long) 2 180 := ⟨by decide +kernel, rfl⟩
theorem d_X12_init_180 : gD cX12_init 180 (.putfield 74) 3 183 := ⟨by decide +kernel, rfl⟩
theorem d_X12_init_183 : gD cX12_init 183 (.aload_n 0) 1 184 := ⟨by decide +kernel, rfl⟩
theorem d_X12_init_184 : gD cX12_init 184 (.bipush 41) 2 186 := ⟨by decide +kernel, rfl⟩
theorem d_X12_init_186 : gD cX12_init 186 (.newarray .long) 2 188 := ⟨by decide +kernel, rfl⟩
theorem d_X12_init_188 : gD cX12_init 188 (.putfield 78) 3 191 := ⟨by decide +kernel, rfl⟩
theorem d_X12_init_191 : gD cX12_init 191 (.aload_n 0) 1 192 := ⟨by decide +kernel, rfl⟩
theorem d_X12_init_192 : gD cX12_init 192 (.sipush 697) 3 195 := ⟨by decide +kernel, rfl⟩
theorem d_X12_init_195 : gD cX12_init 195 (.newarray .long) 2 197 := ⟨by decide +kernel, rfl⟩
theorem d_X12_init_197 : gD cX12_init 197 (.putfield 81) 3 200 := ⟨by decide +kernel, rfl⟩
theorem d_X12_init_200 : gD cX12_init 200 (.aload_n 0) 1 201 := ⟨by decide +kernel, rfl⟩
theorem d_X12_init_201 : gD cX12_init 201 (.sipush 697) 3 204 := ⟨by decide +kernel, rfl⟩
theorem d_X12_init_204 : gD cX12_init 204 (.newarray .long) 2 206 := ⟨by decide +kernel, rfl⟩
theorem d_X12_init_206 : gD cX12_init 206 (.putfield 84) 3 209 := ⟨by decide +kernel, rfl⟩
theorem d_X12_init_209 : gD cX12_init 209 (.aload_n 0) 1 210 := ⟨by decide +kernel, rfl⟩
theorem d_X12_init_210 : gD cX12_init 210 (.bipush 8) 2 212 := ⟨by decide +kernel, rfl⟩
theorem d_X12_init_212 : gD cX12_init 212 (.newarray .int) 2 214 := ⟨by decide +kernel, rfl⟩
theorem d_X12_init_214 : gD cX12_init 214 (.putfield 87) 3 217 := ⟨by decide +kernel, rfl⟩
theorem d_X12_init_217 : gD cX12_init 217 (.aload_n 0) 1 218 := ⟨by decide +kernel, rfl⟩
theorem d_X12_init_218 : gD cX12_init 218 (.sipush 256) 3 221 := ⟨by decide +kernel, rfl⟩
theorem d_X12_init_221 : gD cX12_init 221 (.newarray .int) 2 223 := ⟨by decide +kernel, rfl⟩
theorem d_X12_init_223 : gD cX12_init 223 (.putfield 90) 3 226 := ⟨by decide +kernel, rfl⟩
theorem d_X12_init_226 : gD cX12_init 226 (.aload_n 0) 1 227 := ⟨by decide +kernel, rfl⟩
theorem d_X12_init_227 : gD cX12_init 227 (.sipush 256) 3 230 := ⟨by decide +kernel, rfl⟩
theorem d_X12_init_230 : gD cX12_init 230 (.newarray .int) 2 232 := ⟨by decide +kernel, rfl⟩
theorem d_X12_init_232 : gD cX12_init 232 (.putfield 93) 3 235 := ⟨by decide +kernel, rfl⟩
theorem d_X12_init_235 : gD cX12_init 235 (.aload_n 0) 1 236 := ⟨by decide +kernel, rfl⟩
theorem d_X12_init_236 : gD cX12_init 236 (.iconst 3) 1 237 := ⟨by decide +kernel, rfl⟩
theorem d_X12_init_237 : gD cX12_init 237 (.newarray .boolean) 2 239 := ⟨by decide +kernel, rfl⟩
theorem d_X12_init_239 : gD cX12_init 239 (.putfield 96) 3 242 := ⟨by decide +kernel, rfl⟩
theorem d_X12_init_242 : gD cX12_init 242 (.aload_n 0) 1 243 := ⟨by decide +kernel, rfl⟩
theorem d_X12_init_243 : gD cX12_init 243 (.getfield 20) 3 246 := ⟨by decide +kernel, rfl⟩
theorem d_X12_init_246 : gD cX12_init 246 (.iconst 0) 1 247 := ⟨by decide +kernel, rfl⟩
theorem d_X12_init_247 : gD cX12_init 247 (.iconst (-1)) 1 248 := ⟨by decide +kernel, rfl⟩
theorem d_X12_init_248 : gD cX12_init 248 (.iastore) 1 249 := ⟨by decide +kernel, rfl⟩
theorem d_X12_init_249 : gD cX12_init 249 (.return_) 1 250 := ⟨by decide +kernel, rfl⟩
abbrev rm_X12_init : Room := { frames := 1, cells := 29, slots := 8669, locals := 12 }
set_option maxRecDepth 20000 in
theorem w_X12_init {Γ : GC} {E : GE} (hO : gOk Γ E cX12_init RX12 1 rm_X12_init none "<init>") (o : Nat) (S : GS) : Go Γ E (gBsV Γ E) 1 (0, 0) 0 S [(0, vA (some o))] [] (f_X12_init o S) := by
  unfold f_X12_init
  refine g_aload_n hO d_X12_init_0 (by rfl) 0 rfl ?_
  refine g_oinit hO wm_X12_1 wn_obj wc_obj (Nat.le_of_ble_eq_true rfl) (Nat.le_of_ble_eq_true rfl) (fun h => nomatch h) d_X12_init_1 ?_
  refine g_aload_n hO d_X12_init_4 (by rfl) 0 rfl ?_
  refine g_sipush hO 2400 d_X12_init_5 (by decide) ?_
  refine h_na hO 13 (by decide) rfl wac_13 (2400) (by decide) (kn' := (1, 2400)) rfl ⟨by decide, by decide⟩ d_X12_init_8 (fun v1 S2 => ?_)
  refine h_putR hO cl_X12 1 rfl (ty := .array .byte) (by decide +kernel) (Or.inr ⟨_, rfl⟩) wf_X12_7 (Or.inr ⟨rfl, rfl, rfl⟩) d_X12_init_10 (fun S3 => ?_)
  refine g_aload_n hO d_X12_init_13 (by rfl) 0 rfl ?_
  refine g_iconst hO 4 d_X12_init_14 (by decide) ?_
  refine h_na hO 14 (by decide) rfl wac_14 (4) (by decide) (kn' := (2, 2404)) rfl ⟨by decide, by decide⟩ d_X12_init_15 (fun v4 S5 => ?_)
  refine h_putR hO cl_X12 2 rfl (ty := .array .int) (by decide +kernel) (Or.inr ⟨_, rfl⟩) wf_X12_13 (Or.inr ⟨rfl, rfl, rfl⟩) d_X12_init_17 (fun S6 => ?_)
  refine g_aload_n hO d_X12_init_20 (by rfl) 0 rfl ?_
  refine g_iconst hO 4 d_X12_init_21 (by decide) ?_
  refine h_na hO 14 (by decide) rfl wac_14 (4) (by decide) (kn' := (3, 2408)) rfl ⟨by decide, by decide⟩ d_X12_init_22 (fun v7 S8 => ?_)
  refine h_putR hO cl_X12 3 rfl (ty := .array .int) (by decide +kernel) (Or.inr ⟨_, rfl⟩) wf_X12_17 (Or.inr ⟨rfl, rfl, rfl⟩) d_X12_init_24 (fun S9 => ?_)
  refine g_aload_n hO d_X12_init_27 (by rfl) 0 rfl ?_
  refine g_iconst hO 4 d_X12_init_28 (by decide) ?_
  refine h_na hO 14 (by decide) rfl wac_14 (4) (by decide) (kn' := (4, 2412)) rfl ⟨by decide, by decide⟩ d_X12_init_29 (fun v10 S11 => ?_)
  refine h_putR hO cl_X12 4 rfl (ty := .array .int) (by decide +kernel) (Or.inr ⟨_, rfl⟩) wf_X12_20 (Or.inr ⟨rfl, rfl, rfl⟩) d_X12_init_31 (fun S12 => ?_)
  refine g_aload_n hO d_X12_init_34 (by rfl) 0 rfl ?_
  refine g_bipush hO 24 d_X12_init_35 (by decide) ?_
  refine h_na hO 14 (by decide) rfl wac_14 (24) (by decide) (kn' := (5, 2436)) rfl ⟨by decide, by decide⟩ d_X12_init_37 (fun v13 S14 => ?_)
  refine h_putR hO cl_X12 5 rfl (ty := .array .int) (by decide +kernel) (Or.inr ⟨_, rfl⟩) wf_X12_23 (Or.inr ⟨rfl, rfl, rfl⟩) d_X12_init_39 (fun S15 => ?_)
  refine g_aload_n hO d_X12_init_42 (by rfl) 0 rfl ?_
  refine g_sipush hO 552 d_X12_init_43 (by decide) ?_
  refine h_na hO 14 (by decide) rfl wac_14 (552) (by decide) (kn' := (6, 2988)) rfl ⟨by decide, by decide⟩ d_X12_init_46 (fun v16 S17 => ?_)
  refine h_putR hO cl_X12 6 rfl (ty := .array .int) (by decide +kernel) (Or.inr ⟨_, rfl⟩) wf_X12_26 (Or.inr ⟨rfl, rfl, rfl⟩) d_X12_init_48 (fun S18 => ?_)
  refine g_aload_n hO d_X12_init_51 (by rfl) 0 rfl ?_
  refine g_sipush hO 968 d_X12_init_52 (by decide) ?_
  refine h_na hO 14 (by decide) rfl wac_14 (968) (by decide) (kn' := (7, 3956)) rfl ⟨by decide, by decide⟩ d_X12_init_55 (fun v19 S20 => ?_)
  refine h_putR hO cl_X12 7 rfl (ty := .array .int) (by decide +kernel) (Or.inr ⟨_, rfl⟩) wf_X12_29 (Or.inr ⟨rfl, rfl, rfl⟩) d_X12_init_57 (fun S21 => ?_)
  refine g_aload_n hO d_X12_init_60 (by rfl) 0 rfl ?_
  refine g_sipush hO 136 d_X12_init_61 (by decide) ?_
  refine h_na hO 14 (by decide) rfl wac_14 (136) (by decide) (kn' := (8, 4092)) rfl ⟨by decide, by decide⟩ d_X12_init_64 (fun v22 S23 => ?_)
  refine h_putR hO cl_X12 8 rfl (ty := .array .int) (by decide +kernel) (Or.inr ⟨_, rfl⟩) wf_X12_32 (Or.inr ⟨rfl, rfl, rfl⟩) d_X12_init_66 (fun S24 => ?_)
  refine g_aload_n hO d_X12_init_69 (by rfl) 0 rfl ?_
  refine g_sipush hO 976 d_X12_init_70 (by decide) ?_
  refine h_na hO 14 (by decide) rfl wac_14 (976) (by decide) (kn' := (9, 5068)) rfl ⟨by decide, by decide⟩ d_X12_init_73 (fun v25 S26 => ?_)
  refine h_putR hO cl_X12 9 rfl (ty := .array .int) (by decide +kernel) (Or.inr ⟨_, rfl⟩) wf_X12_35 (Or.inr ⟨rfl, rfl, rfl⟩) d_X12_init_75 (fun S27 => ?_)
  refine g_aload_n hO d_X12_init_78 (by rfl) 0 rfl ?_
  refine g_sipush hO 728 d_X12_init_79 (by decide) ?_
  refine h_na hO 14 (by decide) rfl wac_14 (728) (by decide) (kn' := (10, 5796)) rfl ⟨by decide, by decide⟩ d_X12_init_82 (fun v28 S29 => ?_)
  refine h_putR hO cl_X12 10 rfl (ty := .array .int) (by decide +kernel) (Or.inr ⟨_, rfl⟩) wf_X12_38 (Or.inr ⟨rfl, rfl, rfl⟩) d_X12_init_84 (fun S30 => ?_)
  refine g_aload_n hO d_X12_init_87 (by rfl) 0 rfl ?_
  refine g_sipush hO 168 d_X12_init_88 (by decide) ?_
  refine h_na hO 14 (by decide) rfl wac_14 (168) (by decide) (kn' := (11, 5964)) rfl ⟨by decide, by decide⟩ d_X12_init_91 (fun v31 S32 => ?_)
  refine h_putR hO cl_X12 11 rfl (ty := .array .int) (by decide +kernel) (Or.inr ⟨_, rfl⟩) wf_X12_41 (Or.inr ⟨rfl, rfl, rfl⟩) d_X12_init_93 (fun S33 => ?_)
  refine g_aload_n hO d_X12_init_96 (by rfl) 0 rfl ?_
  refine g_bipush hO 122 d_X12_init_97 (by decide) ?_
  refine h_na hO 14 (by decide) rfl wac_14 (122) (by decide) (kn' := (12, 6086)) rfl ⟨by decide, by decide⟩ d_X12_init_99 (fun v34 S35 => ?_)
  refine h_putR hO cl_X12 21 rfl (ty := .array .int) (by decide +kernel) (Or.inr ⟨_, rfl⟩) wf_X12_44 (Or.inr ⟨rfl, rfl, rfl⟩) d_X12_init_101 (fun S36 => ?_)
  refine g_aload_n hO d_X12_init_104 (by rfl) 0 rfl ?_
  refine g_iconst hO 5 d_X12_init_105 (by decide) ?_
  refine h_na hO 14 (by decide) rfl wac_14 (5) (by decide) (kn' := (13, 6091)) rfl ⟨by decide, by decide⟩ d_X12_init_106 (fun v37 S38 => ?_)
  refine h_putR hO cl_X12 22 rfl (ty := .array .int) (by decide +kernel) (Or.inr ⟨_, rfl⟩) wf_X12_47 (Or.inr ⟨rfl, rfl, rfl⟩) d_X12_init_108 (fun S39 => ?_)
  refine g_aload_n hO d_X12_init_111 (by rfl) 0 rfl ?_
  refine g_iconst hO 4 d_X12_init_112 (by decide) ?_
  refine h_na hO 14 (by decide) rfl wac_14 (4) (by decide) (kn' := (14, 6095)) rfl ⟨by decide, by decide⟩ d_X12_init_113 (fun v40 S41 => ?_)
  refine h_putR hO cl_X12 39 rfl (ty := .array .int) (by decide +kernel) (Or.inr ⟨_, rfl⟩) wf_X12_50 (Or.inr ⟨rfl, rfl, rfl⟩) d_X12_init_115 (fun S42 => ?_)
  refine g_aload_n hO d_X12_init_118 (by rfl) 0 rfl ?_
  refine g_bipush hO 8 d_X12_init_119 (by decide) ?_
  refine h_na hO 14 (by decide) rfl wac_14 (8) (by decide) (kn' := (15, 6103)) rfl ⟨by decide, by decide⟩ d_X12_init_121 (fun v43 S44 => ?_)
  refine h_putR hO cl_X12 40 rfl (ty := .array .int) (by decide +kernel) (Or.inr ⟨_, rfl⟩) wf_X12_53 (Or.inr ⟨rfl, rfl, rfl⟩) d_X12_init_123 (fun S45 => ?_)
  refine g_aload_n hO d_X12_init_126 (by rfl) 0 rfl ?_
  refine g_bipush hO 8 d_X12_init_127 (by decide) ?_
  refine h_na hO 14 (by decide) rfl wac_14 (8) (by decide) (kn' := (16, 6111)) rfl ⟨by decide, by decide⟩ d_X12_init_129 (fun v46 S47 => ?_)
  refine h_putR hO cl_X12 41 rfl (ty := .array .int) (by decide +kernel) (Or.inr ⟨_, rfl⟩) wf_X12_56 (Or.inr ⟨rfl, rfl, rfl⟩) d_X12_init_131 (fun S48 => ?_)
  refine g_aload_n hO d_X12_init_134 (by rfl) 0 rfl ?_
  refine g_bipush hO 8 d_X12_init_135 (by decide) ?_
  refine h_na hO 14 (by decide) rfl wac_14 (8) (by decide) (kn' := (17, 6119)) rfl ⟨by decide, by decide⟩ d_X12_init_137 (fun v49 S50 => ?_)
  refine h_putR hO cl_X12 42 rfl (ty := .array .int) (by decide +kernel) (Or.inr ⟨_, rfl⟩) wf_X12_59 (Or.inr ⟨rfl, rfl, rfl⟩) d_X12_init_139 (fun S51 => ?_)
  refine g_aload_n hO d_X12_init_142 (by rfl) 0 rfl ?_
  refine g_bipush hO 8 d_X12_init_143 (by decide) ?_
  refine h_na hO 14 (by decide) rfl wac_14 (8) (by decide) (kn' := (18, 6127)) rfl ⟨by decide, by decide⟩ d_X12_init_145 (fun v52 S53 => ?_)
  refine h_putR hO cl_X12 43 rfl (ty := .array .int) (by decide +kernel) (Or.inr ⟨_, rfl⟩) wf_X12_62 (Or.inr ⟨rfl, rfl, rfl⟩) d_X12_init_147 (fun S54 => ?_)
  refine g_aload_n hO d_X12_init_150 (by rfl) 0 rfl ?_
  refine g_bipush hO 8 d_X12_init_151 (by decide) ?_
  refine h_na hO 14 (by decide) rfl wac_14 (8) (by decide) (kn' := (19, 6135)) rfl ⟨by decide, by decide⟩ d_X12_init_153 (fun v55 S56 => ?_)
  refine h_putR hO cl_X12 44 rfl (ty := .array .int) (by decide +kernel) (Or.inr ⟨_, rfl⟩) wf_X12_65 (Or.inr ⟨rfl, rfl, rfl⟩) d_X12_init_155 (fun S57 => ?_)
  refine g_aload_n hO d_X12_init_158 (by rfl) 0 rfl ?_
  refine g_sipush hO 527 d_X12_init_159 (by decide) ?_
  refine h_na hO 14 (by decide) rfl wac_14 (527) (by decide) (kn' := (20, 6662)) rfl ⟨by decide, by decide⟩ d_X12_init_162 (fun v58 S59 => ?_)
  refine h_putR hO cl_X12 46 rfl (ty := .array .int) (by decide +kernel) (Or.inr ⟨_, rfl⟩) wf_X12_68 (Or.inr ⟨rfl, rfl, rfl⟩) d_X12_init_164 (fun S60 => ?_)
  refine g_aload_n hO d_X12_init_167 (by rfl) 0 rfl ?_
  refine g_bipush hO 8 d_X12_init_168 (by decide) ?_
  refine h_na hO 14 (by decide) rfl wac_14 (8) (by decide) (kn' := (21, 6670)) rfl ⟨by decide, by decide⟩ d_X12_init_170 (fun v61 S62 => ?_)
  refine h_putR hO cl_X12 47 rfl (ty := .array .int) (by decide +kernel) (Or.inr ⟨_, rfl⟩) wf_X12_71 (Or.inr ⟨rfl, rfl, rfl⟩) d_X12_init_172 (fun S63 => ?_)
  refine g_aload_n hO d_X12_init_175 (by rfl) 0 rfl ?_
  refine g_bipush hO 41 d_X12_init_176 (by decide) ?_
  refine h_na hO 15 (by decide) rfl wac_15 (41) (by decide) (kn' := (22, 6711)) rfl ⟨by decide, by decide⟩ d_X12_init_178 (fun v64 S65 => ?_)
  refine h_putR hO cl_X12 48 rfl (ty := .array .long) (by decide +kernel) (Or.inr ⟨_, rfl⟩) wf_X12_74 (Or.inr ⟨rfl, rfl, rfl⟩) d_X12_init_180 (fun S66 => ?_)
  refine g_aload_n hO d_X12_init_183 (by rfl) 0 rfl ?_
  refine g_bipush hO 41 d_X12_init_184 (by decide) ?_
  refine h_na hO 15 (by decide) rfl wac_15 (41) (by decide) (kn' := (23, 6752)) rfl ⟨by decide, by decide⟩ d_X12_init_186 (fun v67 S68 => ?_)
  refine h_putR hO cl_X12 49 rfl (ty := .array .long) (by decide +kernel) (Or.inr ⟨_, rfl⟩) wf_X12_78 (Or.inr ⟨rfl, rfl, rfl⟩) d_X12_init_188 (fun S69 => ?_)
  refine g_aload_n hO d_X12_init_191 (by rfl) 0 rfl ?_
  refine g_sipush hO 697 d_X12_init_192 (by decide) ?_
  refine h_na hO 15 (by decide) rfl wac_15 (697) (by decide) (kn' := (24, 7449)) rfl ⟨by decide, by decide⟩ d_X12_init_195 (fun v70 S71 => ?_)
  refine h_putR hO cl_X12 53 rfl (ty := .array .long) (by decide +kernel) (Or.inr ⟨_, rfl⟩) wf_X12_81 (Or.inr ⟨rfl, rfl, rfl⟩) d_X12_init_197 (fun S72 => ?_)
  refine g_aload_n hO d_X12_init_200 (by rfl) 0 rfl ?_
  refine g_sipush hO 697 d_X12_init_201 (by decide) ?_
  refine h_na hO 15 (by decide) rfl wac_15 (697) (by decide) (kn' := (25, 8146)) rfl ⟨by decide, by decide⟩ d_X12_init_204 (fun v73 S74 => ?_)
  refine h_putR hO cl_X12 54 rfl (ty := .array .long) (by decide +kernel) (Or.inr ⟨_, rfl⟩) wf_X12_84 (Or.inr ⟨rfl, rfl, rfl⟩) d_X12_init_206 (fun S75 => ?_)
  refine g_aload_n hO d_X12_init_209 (by rfl) 0 rfl ?_
  refine g_bipush hO 8 d_X12_init_210 (by decide) ?_
  refine h_na hO 14 (by decide) rfl wac_14 (8) (by decide) (kn' := (26, 8154)) rfl ⟨by decide, by decide⟩ d_X12_init_212 (fun v76 S77 => ?_)
  refine h_putR hO cl_X12 56 rfl (ty := .array .int) (by decide +kernel) (Or.inr ⟨_, rfl⟩) wf_X12_87 (Or.inr ⟨rfl, rfl, rfl⟩) d_X12_init_214 (fun S78 => ?_)
  refine g_aload_n hO d_X12_init_217 (by rfl) 0 rfl ?_
  refine g_sipush hO 256 d_X12_init_218 (by decide) ?_
  refine h_na hO 14 (by decide) rfl wac_14 (256) (by decide) (kn' := (27, 8410)) rfl ⟨by decide, by decide⟩ d_X12_init_221 (fun v79 S80 => ?_)
  refine h_putR hO cl_X12 57 rfl (ty := .array .int) (by decide +kernel) (Or.inr ⟨_, rfl⟩) wf_X12_90 (Or.inr ⟨rfl, rfl, rfl⟩) d_X12_init_223 (fun S81 => ?_)
  refine g_aload_n hO d_X12_init_226 (by rfl) 0 rfl ?_
  refine g_sipush hO 256 d_X12_init_227 (by decide) ?_
  refine h_na hO 14 (by decide) rfl wac_14 (256) (by decide) (kn' := (28, 8666)) rfl ⟨by decide, by decide⟩ d_X12_init_230 (fun v82 S83 => ?_)
  refine h_putR hO cl_X12 58 rfl (ty := .array .int) (by decide +kernel) (Or.inr ⟨_, rfl⟩) wf_X12_93 (Or.inr ⟨rfl, rfl, rfl⟩) d_X12_init_232 (fun S84 => ?_)
  refine g_aload_n hO d_X12_init_235 (by rfl) 0 rfl ?_
  refine g_iconst hO 3 d_X12_init_236 (by decide) ?_
  refine h_na hO 16 (by decide) rfl wac_16 (3) (by decide) (kn' := (29, 8669)) rfl ⟨by decide, by decide⟩ d_X12_init_237 (fun v85 S86 => ?_)
  refine h_putR hO cl_X12 61 rfl (ty := .array .boolean) (by decide +kernel) (Or.inr ⟨_, rfl⟩) wf_X12_96 (Or.inr ⟨rfl, rfl, rfl⟩) d_X12_init_239 (fun S87 => ?_)
  refine g_aload_n hO d_X12_init_242 (by rfl) 0 rfl ?_
  refine h_getR hO cl_X12 4 rfl wf_X12_20 d_X12_init_243 (fun v88 => ?_)
  refine g_iconst hO 0 d_X12_init_246 (by decide) ?_
  refine g_iconst hO (-1) d_X12_init_247 (by decide) ?_
  refine h_iast hO d_X12_init_248 (fun S89 => ?_)
  exact g_vret hO rfl ⟨Nat.le_of_ble_eq_true rfl, Nat.le_of_ble_eq_true rfl⟩ rfl rfl d_X12_init_249.1
theorem t_X12_init (l : Launch) (E : GE) (o : Nat) (S : GS) : ∀ a, f_X12_init o S = some a → Ct l E yX12_init cX12_init 1 none rm_X12_init [vA (some o)] S none a :=
  Ct_of (val := fun _ => none) (nxt := fun b => b) (by decide) (Nat.le_of_ble_eq_true rfl) (fun Γ hl hO => w_X12_init hO o S)
theorem d_X12_in_0 : gD cX12_in 0 (.iload_n 0) 1 1 := ⟨by decide +kernel, rfl⟩
theorem d_X12_in_1 : gD cX12_in 1 (.iload_n 1) 1 2 := ⟨by decide +kernel, rfl⟩
theorem d_X12_in_2 : gD cX12_in 2 (.if_icmp .lt 12) 3 5 ∧ ((2 : Nat) : Int) + 12 = ((14 : Nat) : Int) := ⟨⟨by decide +kernel, rfl⟩, by decide⟩
theorem d_X12_in_5 : gD cX12_in 5 (.iload_n 0) 1 6 := ⟨by decide +kernel, rfl⟩
theorem d_X12_in_6 : gD cX12_in 6 (.iload_n 2) 1 7 := ⟨by decide +kernel, rfl⟩
theorem d_X12_in_7 : gD cX12_in 7 (.if_icmp .gt 7) 3 10 ∧ ((7 : Nat) : Int) + 7 = ((14 : Nat) : Int) := ⟨⟨by decide +kernel, rfl⟩, by decide⟩
theorem d_X12_in_10 : gD cX12_in 10 (.iconst 1) 1 11 := ⟨by decide +kernel, rfl⟩
theorem d_X12_in_11 : decode cX12_in 11 = .ok (.goto 4, 3) ∧ ((11 : Nat) : Int) + 4 = ((15 : Nat) : Int) := ⟨by decide +kernel, by decide⟩
theorem d_X12_in_14 : gD cX12_in 14 (.iconst 0) 1 15 := ⟨by decide +kernel, rfl⟩
theorem d_X12_in_15 : gD cX12_in 15 (.ireturn) 1 16 := ⟨by decide +kernel, rfl⟩
abbrev rm_X12_in : Room := { frames := 0, cells := 0, slots := 0, locals := 0 }
set_option maxRecDepth 20000 in
theorem w_X12_in {Γ : GC} {E : GE} (hO : gOk Γ E cX12_in RX12 3 rm_X12_in (some .boolean) "in") (x0 : Int32) (x1 : Int32) (x2 : Int32) (S : GS) : Go Γ E (gBpI Γ E S) 3 (0, 0) 0 S [(0, vI x0), (1, vI x1), (2, vI x2)] [] (f_X12_in x0 x1 x2 S) := by
  unfold f_X12_in
  refine g_iload_n hO d_X12_in_0 (by rfl) 0 rfl ?_
  refine g_iload_n hO d_X12_in_1 (by rfl) 1 rfl ?_
  refine g_ic_lt (tgt := 14) hO d_X12_in_2.1 d_X12_in_2.2 (fun _ => ?_) (fun _ => ?_)
  · skip
    refine g_iconst hO 0 d_X12_in_14 (by decide) ?_
    exact g_ret hO rfl rfl ⟨Nat.le_of_ble_eq_true rfl, Nat.le_of_ble_eq_true rfl⟩ rfl rfl d_X12_in_15.1
  · skip
    refine g_iload_n hO d_X12_in_5 (by rfl) 0 rfl ?_
    refine g_iload_n hO d_X12_in_6 (by rfl) 2 rfl ?_
    refine g_ic_gt (tgt := 14) hO d_X12_in_7.1 d_X12_in_7.2 (fun _ => ?_) (fun _ => ?_)
    · skip
      refine g_iconst hO 0 d_X12_in_14 (by decide) ?_
      exact g_ret hO rfl rfl ⟨Nat.le_of_ble_eq_true rfl, Nat.le_of_ble_eq_true rfl⟩ rfl rfl d_X12_in_15.1
    · skip
      refine g_iconst hO 1 d_X12_in_10 (by decide) ?_
      refine g_goto (tgt := 15) hO d_X12_in_11.1 d_X12_in_11.2 ?_
      exact g_ret hO rfl rfl ⟨Nat.le_of_ble_eq_true rfl, Nat.le_of_ble_eq_true rfl⟩ rfl rfl d_X12_in_15.1
theorem t_X12_in (l : Launch) (E : GE) (x0 : Int32) (x1 : Int32) (x2 : Int32) (S : GS) : ∀ a, f_X12_in x0 x1 x2 S = some a → Ct l E yX12_in cX12_in 3 (some .boolean) rm_X12_in [vI x0, vI x1, vI x2] S (some (vI a)) S :=
  Ct_of (val := fun b => some (vI b)) (nxt := fun _ => S) (by decide) (Nat.le_of_ble_eq_true rfl) (fun Γ hl hO => w_X12_in hO x0 x1 x2 S)
theorem d_X12_has_0 : gD cX12_has 0 (.iload_n 0) 1 1 := ⟨by decide +kernel, rfl⟩
theorem d_X12_has_1 : gD cX12_has 1 (.iload_n 1) 1 2 := ⟨by decide +kernel, rfl⟩
theorem d_X12_has_2 : gD cX12_has 2 (.ishr) 1 3 := ⟨by decide +kernel, rfl⟩
theorem d_X12_has_3 : gD cX12_has 3 (.iconst 1) 1 4 := ⟨by decide +kernel, rfl⟩
theorem d_X12_has_4 : gD cX12_has 4 (.iand) 1 5 := ⟨by decide +kernel, rfl⟩
theorem d_X12_has_5 : gD cX12_has 5 (.iconst 1) 1 6 := ⟨by decide +kernel, rfl⟩
theorem d_X12_has_6 : gD cX12_has 6 (.if_icmp .ne 7) 3 9 ∧ ((6 : Nat) : Int) + 7 = ((13 : Nat) : Int) := ⟨⟨by decide +kernel, rfl⟩, by decide⟩
theorem d_X12_has_9 : gD cX12_has 9 (.iconst 1) 1 10 := ⟨by decide +kernel, rfl⟩
theorem d_X12_has_10 : decode cX12_has 10 = .ok (.goto 4, 3) ∧ ((10 : Nat) : Int) + 4 = ((14 : Nat) : Int) := ⟨by decide +kernel, by decide⟩
theorem d_X12_has_13 : gD cX12_has 13 (.iconst 0) 1 14 := ⟨by decide +kernel, rfl⟩
theorem d_X12_has_14 : gD cX12_has 14 (.ireturn) 1 15 := ⟨by decide +kernel, rfl⟩
abbrev rm_X12_has : Room := { frames := 0, cells := 0, slots := 0, locals := 0 }
set_option maxRecDepth 20000 in
theorem w_X12_has {Γ : GC} {E : GE} (hO : gOk Γ E cX12_has RX12 2 rm_X12_has (some .boolean) "has") (x0 : Int32) (x1 : Int32) (S : GS) : Go Γ E (gBpI Γ E S) 2 (0, 0) 0 S [(0, vI x0), (1, vI x1)] [] (f_X12_has x0 x1 S) := by
  unfold f_X12_has
  refine g_iload_n hO d_X12_has_0 (by rfl) 0 rfl ?_
  refine g_iload_n hO d_X12_has_1 (by rfl) 1 rfl ?_
  refine g_ishr hO d_X12_has_2 ?_
  refine g_iconst hO 1 d_X12_has_3 (by decide) ?_
  refine g_iand hO d_X12_has_4 ?_
  refine g_iconst hO 1 d_X12_has_5 (by decide) ?_
  refine g_ic_ne (tgt := 13) hO d_X12_has_6.1 d_X12_has_6.2 (fun _ => ?_) (fun _ => ?_)
  · skip
    refine g_iconst hO 1 d_X12_has_9 (by decide) ?_
    refine g_goto (tgt := 14) hO d_X12_has_10.1 d_X12_has_10.2 ?_
    exact g_ret hO rfl rfl ⟨Nat.le_of_ble_eq_true rfl, Nat.le_of_ble_eq_true rfl⟩ rfl rfl d_X12_has_14.1
  · skip
    refine g_iconst hO 0 d_X12_has_13 (by decide) ?_
    exact g_ret hO rfl rfl ⟨Nat.le_of_ble_eq_true rfl, Nat.le_of_ble_eq_true rfl⟩ rfl rfl d_X12_has_14.1
theorem t_X12_has (l : Launch) (E : GE) (x0 : Int32) (x1 : Int32) (S : GS) : ∀ a, f_X12_has x0 x1 S = some a → Ct l E yX12_has cX12_has 2 (some .boolean) rm_X12_has [vI x0, vI x1] S (some (vI a)) S :=
  Ct_of (val := fun b => some (vI b)) (nxt := fun _ => S) (by decide) (Nat.le_of_ble_eq_true rfl) (fun Γ hl hO => w_X12_has hO x0 x1 S)
theorem d_X12_greater_0 : gD cX12_greater 0 (.iload_n 0) 1 1 := ⟨by decide +kernel, rfl⟩
theorem d_X12_greater_1 : gD cX12_greater 1 (.iload_n 1) 1 2 := ⟨by decide +kernel, rfl⟩
theorem d_X12_greater_2 : gD cX12_greater 2 (.if_icmp .le 7) 3 5 ∧ ((2 : Nat) : Int) + 7 = ((9 : Nat) : Int) := ⟨⟨by decide +kernel, rfl⟩, by decide⟩
theorem d_X12_greater_5 : gD cX12_greater 5 (.iload_n 0) 1 6 := ⟨by decide +kernel, rfl⟩
theorem d_X12_greater_6 : decode cX12_greater 6 = .ok (.goto 4, 3) ∧ ((6 : Nat) : Int) + 4 = ((10 : Nat) : Int) := ⟨by decide +kernel, by decide⟩
theorem d_X12_greater_9 : gD cX12_greater 9 (.iload_n 1) 1 10 := ⟨by decide +kernel, rfl⟩
theorem d_X12_greater_10 : gD cX12_greater 10 (.ireturn) 1 11 := ⟨by decide +kernel, rfl⟩
abbrev rm_X12_greater : Room := { frames := 0, cells := 0, slots := 0, locals := 0 }
set_option maxRecDepth 20000 in
theorem w_X12_greater {Γ : GC} {E : GE} (hO : gOk Γ E cX12_greater RX12 2 rm_X12_greater (some .int) "greater") (x0 : Int32) (x1 : Int32) (S : GS) : Go Γ E (gBpI Γ E S) 2 (0, 0) 0 S [(0, vI x0), (1, vI x1)] [] (f_X12_greater x0 x1 S) := by
  unfold f_X12_greater
  refine g_iload_n hO d_X12_greater_0 (by rfl) 0 rfl ?_
  refine g_iload_n hO d_X12_greater_1 (by rfl) 1 rfl ?_
  refine g_ic_le (tgt := 9) hO d_X12_greater_2.1 d_X12_greater_2.2 (fun _ => ?_) (fun _ => ?_)
  · skip
    refine g_iload_n hO d_X12_greater_9 (by rfl) 1 rfl ?_
    exact g_ret hO rfl rfl ⟨Nat.le_of_ble_eq_true rfl, Nat.le_of_ble_eq_true rfl⟩ rfl rfl d_X12_greater_10.1
  · skip
    refine g_iload_n hO d_X12_greater_5 (by rfl) 0 rfl ?_
    refine g_goto (tgt := 10) hO d_X12_greater_6.1 d_X12_greater_6.2 ?_
    exact g_ret hO rfl rfl ⟨Nat.le_of_ble_eq_true rfl, Nat.le_of_ble_eq_true rfl⟩ rfl rfl d_X12_greater_10.1
theorem t_X12_greater (l : Launch) (E : GE) (x0 : Int32) (x1 : Int32) (S : GS) : ∀ a, f_X12_greater x0 x1 S = some a → Ct l E yX12_greater cX12_greater 2 (some .int) rm_X12_greater [vI x0, vI x1] S (some (vI a)) S :=
  Ct_of (val := fun b => some (vI b)) (nxt := fun _ => S) (by decide) (Nat.le_of_ble_eq_true rfl) (fun Γ hl hO => w_X12_greater hO x0 x1 S)
theorem d_X12_lesser_0 : gD cX12_lesser 0 (.iload_n 0) 1 1 := ⟨by decide +kernel, rfl⟩
theorem d_X12_lesser_1 : gD cX12_lesser 1 (.iload_n 1) 1 2 := ⟨by decide +kernel, rfl⟩
theorem d_X12_lesser_2 : gD cX12_lesser 2 (.if_icmp .ge 7) 3 5 ∧ ((2 : Nat) : Int) + 7 = ((9 : Nat) : Int) := ⟨⟨by decide +kernel, rfl⟩, by decide⟩
theorem d_X12_lesser_5 : gD cX12_lesser 5 (.iload_n 0) 1 6 := ⟨by decide +kernel, rfl⟩
theorem d_X12_lesser_6 : decode cX12_lesser 6 = .ok (.goto 4, 3) ∧ ((6 : Nat) : Int) + 4 = ((10 : Nat) : Int) := ⟨by decide +kernel, by decide⟩
theorem d_X12_lesser_9 : gD cX12_lesser 9 (.iload_n 1) 1 10 := ⟨by decide +kernel, rfl⟩
theorem d_X12_lesser_10 : gD cX12_lesser 10 (.ireturn) 1 11 := ⟨by decide +kernel, rfl⟩
abbrev rm_X12_lesser : Room := { frames := 0, cells := 0, slots := 0, locals := 0 }
set_option maxRecDepth 20000 in
theorem w_X12_lesser {Γ : GC} {E : GE} (hO : gOk Γ E cX12_lesser RX12 2 rm_X12_lesser (some .int) "lesser") (x0 : Int32) (x1 : Int32) (S : GS) : Go Γ E (gBpI Γ E S) 2 (0, 0) 0 S [(0, vI x0), (1, vI x1)] [] (f_X12_lesser x0 x1 S) := by
  unfold f_X12_lesser
  refine g_iload_n hO d_X12_lesser_0 (by rfl) 0 rfl ?_
  refine g_iload_n hO d_X12_lesser_1 (by rfl) 1 rfl ?_
  refine g_ic_ge (tgt := 9) hO d_X12_lesser_2.1 d_X12_lesser_2.2 (fun _ => ?_) (fun _ => ?_)
  · skip
    refine g_iload_n hO d_X12_lesser_9 (by rfl) 1 rfl ?_
    exact g_ret hO rfl rfl ⟨Nat.le_of_ble_eq_true rfl, Nat.le_of_ble_eq_true rfl⟩ rfl rfl d_X12_lesser_10.1
  · skip
    refine g_iload_n hO d_X12_lesser_5 (by rfl) 0 rfl ?_
    refine g_goto (tgt := 10) hO d_X12_lesser_6.1 d_X12_lesser_6.2 ?_
    exact g_ret hO rfl rfl ⟨Nat.le_of_ble_eq_true rfl, Nat.le_of_ble_eq_true rfl⟩ rfl rfl d_X12_lesser_10.1
theorem t_X12_lesser (l : Launch) (E : GE) (x0 : Int32) (x1 : Int32) (S : GS) : ∀ a, f_X12_lesser x0 x1 S = some a → Ct l E yX12_lesser cX12_lesser 2 (some .int) rm_X12_lesser [vI x0, vI x1] S (some (vI a)) S :=
  Ct_of (val := fun b => some (vI b)) (nxt := fun _ => S) (by decide) (Nat.le_of_ble_eq_true rfl) (fun Γ hl hO => w_X12_lesser hO x0 x1 S)
theorem d_X12_size_0 : gD cX12_size 0 (.iload_n 0) 1 1 := ⟨by decide +kernel, rfl⟩
theorem d_X12_size_1 : gD cX12_size 1 (.ifCond .ge 8) 3 4 ∧ ((1 : Nat) : Int) + 8 = ((9 : Nat) : Int) := ⟨⟨by decide +kernel, rfl⟩, by decide⟩
theorem d_X12_size_4 : gD cX12_size 4 (.iload_n 0) 1 5 := ⟨by decide +kernel, rfl⟩
theorem d_X12_size_5 : gD cX12_size 5 (.ineg) 1 6 := ⟨by decide +kernel, rfl⟩
theorem d_X12_size_6 : decode cX12_size 6 = .ok (.goto 4, 3) ∧ ((6 : Nat) : Int) + 4 = ((10 : Nat) : Int) := ⟨by decide +kernel, by decide⟩
theorem d_X12_size_9 : gD cX12_size 9 (.iload_n 0) 1 10 := ⟨by decide +kernel, rfl⟩
theorem d_X12_size_10 : gD cX12_size 10 (.ireturn) 1 11 := ⟨by decide +kernel, rfl⟩
abbrev rm_X12_size : Room := { frames := 0, cells := 0, slots := 0, locals := 0 }
set_option maxRecDepth 20000 in
theorem w_X12_size {Γ : GC} {E : GE} (hO : gOk Γ E cX12_size RX12 1 rm_X12_size (some .int) "size") (x0 : Int32) (S : GS) : Go Γ E (gBpI Γ E S) 1 (0, 0) 0 S [(0, vI x0)] [] (f_X12_size x0 S) := by
  unfold f_X12_size
  refine g_iload_n hO d_X12_size_0 (by rfl) 0 rfl ?_
  refine g_if_ge (tgt := 9) hO d_X12_size_1.1 d_X12_size_1.2 (fun _ => ?_) (fun _ => ?_)
  · skip
    refine g_iload_n hO d_X12_size_9 (by rfl) 0 rfl ?_
    exact g_ret hO rfl rfl ⟨Nat.le_of_ble_eq_true rfl, Nat.le_of_ble_eq_true rfl⟩ rfl rfl d_X12_size_10.1
  · skip
    refine g_iload_n hO d_X12_size_4 (by rfl) 0 rfl ?_
    refine g_ineg hO d_X12_size_5 ?_
    refine g_goto (tgt := 10) hO d_X12_size_6.1 d_X12_size_6.2 ?_
    exact g_ret hO rfl rfl ⟨Nat.le_of_ble_eq_true rfl, Nat.le_of_ble_eq_true rfl⟩ rfl rfl d_X12_size_10.1
theorem t_X12_size (l : Launch) (E : GE) (x0 : Int32) (S : GS) : ∀ a, f_X12_size x0 S = some a → Ct l E yX12_size cX12_size 1 (some .int) rm_X12_size [vI x0] S (some (vI a)) S :=
  Ct_of (val := fun b => some (vI b)) (nxt := fun _ => S) (by decide) (Nat.le_of_ble_eq_true rfl) (fun Γ hl hO => w_X12_size hO x0 S)
theorem d_X12_ones_0 : gD cX12_ones 0 (.iconst 0) 1 1 := ⟨by decide +kernel, rfl⟩
theorem d_X12_ones_1 : gD cX12_ones 1 (.istore_n 1) 1 2 := ⟨by decide +kernel, rfl⟩
theorem d_X12_ones_2 : gD cX12_ones 2 (.iconst 0) 1 3 := ⟨by decide +kernel, rfl⟩
theorem d_X12_ones_3 : gD cX12_ones 3 (.istore_n 2) 1 4 := ⟨by decide +kernel, rfl⟩
theorem d_X12_ones_4 : gD cX12_ones 4 (.iload_n 2) 1 5 := ⟨by decide +kernel, rfl⟩
theorem d_X12_ones_5 : gD cX12_ones 5 (.bipush 10) 2 7 := ⟨by decide +kernel, rfl⟩
theorem d_X12_ones_7 : gD cX12_ones 7 (.if_icmp .ge 25) 3 10 ∧ ((7 : Nat) : Int) + 25 = ((32 : Nat) : Int) := ⟨⟨by decide +kernel, rfl⟩, by decide⟩
theorem d_X12_ones_10 : gD cX12_ones 10 (.iload_n 1) 1 11 := ⟨by decide +kernel, rfl⟩
theorem d_X12_ones_11 : gD cX12_ones 11 (.iload_n 0) 1 12 := ⟨by decide +kernel, rfl⟩
theorem d_X12_ones_12 : gD cX12_ones 12 (.iload_n 2) 1 13 := ⟨by decide +kernel, rfl⟩
theorem d_X12_ones_13 : gD cX12_ones 13 (.invokestatic 104) 3 16 := ⟨by decide +kernel, rfl⟩
theorem d_X12_ones_16 : gD cX12_ones 16 (.ifCond .eq 7) 3 19 ∧ ((16 : Nat) : Int) + 7 = ((23 : Nat) : Int) := ⟨⟨by decide +kernel, rfl⟩, by decide⟩
theorem d_X12_ones_19 : gD cX12_ones 19 (.iconst 1) 1 20 := ⟨by decide +kernel, rfl⟩
theorem d_X12_ones_20 : decode cX12_ones 20 = .ok (.goto 4, 3) ∧ ((20 : Nat) : Int) + 4 = ((24 : Nat) : Int) := ⟨by decide +kernel, by decide⟩
theorem d_X12_ones_23 : gD cX12_ones 23 (.iconst 0) 1 24 := ⟨by decide +kernel, rfl⟩
theorem d_X12_ones_24 : gD cX12_ones 24 (.iadd) 1 25 := ⟨by decide +kernel, rfl⟩
theorem d_X12_ones_25 : gD cX12_ones 25 (.istore_n 1) 1 26 := ⟨by decide +kernel, rfl⟩
theorem d_X12_ones_26 : gD cX12_ones 26 (.iinc 2 1) 3 29 := ⟨by decide +kernel, rfl⟩
theorem d_X12_ones_29 : decode cX12_ones 29 = .ok (.goto (-25), 3) ∧ ((29 : Nat) : Int) + (-25) = ((4 : Nat) : Int) := ⟨by decide +kernel, by decide⟩
theorem d_X12_ones_32 : gD cX12_ones 32 (.iload_n 1) 1 33 := ⟨by decide +kernel, rfl⟩
theorem d_X12_ones_33 : gD cX12_ones 33 (.ireturn) 1 34 := ⟨by decide +kernel, rfl⟩
abbrev rm_X12_ones : Room := { frames := 1, cells := 0, slots := 0, locals := 21 }
set_option maxRecDepth 20000 in
theorem w_X12_ones_24 {Γ : GC} {E : GE} (hO : gOk Γ E cX12_ones RX12 3 rm_X12_ones (some .int) "ones") (S : GS) {k4 : (Int32 → Int32 → Int32 → Option Int32)} (hk4 : ∀ (z0 : Int32) (z1 : Int32) (z2 : Int32), Go Γ E (gBpI Γ E S) 3 (0, 0) 4 S [(0, vI z0), (1, vI z1), (2, vI z2)] [] (k4 z0 z1 z2)) (x0 : Int32) (x2 : Int32) (y0 : Int32) (y1 : Int32) : Go Γ E (gBpI Γ E S) 3 (0, 0) 24 S [(0, vI x0), (2, vI x2)] [vI y1, vI y0] (f_X12_ones_24 k4 S x0 x2 y0 y1) := by
  unfold f_X12_ones_24
  refine g_iadd hO d_X12_ones_24 ?_
  refine g_istore_n (lv' := [(1, vI (y0 + y1)), (0, vI x0), (2, vI x2)]) hO d_X12_ones_25 (by rfl) (by decide) rfl ?_
  refine g_iinc (lv' := [(2, vI (x2 + 1)), (1, vI (y0 + y1)), (0, vI x0)]) hO 1 d_X12_ones_26 (by decide) 2 rfl (by decide) rfl ?_
  refine g_goto (tgt := 4) hO d_X12_ones_29.1 d_X12_ones_29.2 ?_
  exact g_sub [2, 1, 0] rfl (hk4 _ _ _)
set_option maxRecDepth 20000 in
theorem w_X12_ones_4 {Γ : GC} {E : GE} (hO : gOk Γ E cX12_ones RX12 3 rm_X12_ones (some .int) "ones") (S : GS) : ∀ (n : Nat) (x0 : Int32) (x1 : Int32) (x2 : Int32), Go Γ E (gBpI Γ E S) 3 (0, 0) 4 S [(0, vI x0), (1, vI x1), (2, vI x2)] [] (f_X12_ones_4 S n x0 x1 x2) := by
  intro n
  induction n with
  | zero =>
    intro x0 x1 x2
    exact g_none
  | succ n ih =>
    intro x0 x1 x2
    rw [f_X12_ones_4]
    refine g_iload_n hO d_X12_ones_4 (by rfl) 2 rfl ?_
    refine g_bipush hO 10 d_X12_ones_5 (by decide) ?_
    refine g_ic_ge (tgt := 32) hO d_X12_ones_7.1 d_X12_ones_7.2 (fun _ => ?_) (fun _ => ?_)
    · skip
      refine g_iload_n hO d_X12_ones_32 (by rfl) 1 rfl ?_
      exact g_ret hO rfl rfl ⟨Nat.le_of_ble_eq_true rfl, Nat.le_of_ble_eq_true rfl⟩ rfl rfl d_X12_ones_33.1
    · skip
      refine g_iload_n hO d_X12_ones_10 (by rfl) 1 rfl ?_
      refine g_iload_n hO d_X12_ones_11 (by rfl) 0 rfl ?_
      refine g_iload_n hO d_X12_ones_12 (by rfl) 2 rfl ?_
      refine k_statIp hO mm_X12_has lkS_X12_104 ⟨⟨Nat.le_of_ble_eq_true rfl, Nat.le_of_ble_eq_true rfl⟩, Nat.le_of_ble_eq_true rfl, Nat.le_of_ble_eq_true rfl⟩ (kn' := (0, 0)) rfl (As := [vI x0, vI x2]) rfl (Nat.le_of_ble_eq_true rfl) (t_X12_has Γ.2.1 E x0 x2 S) d_X12_ones_13 rfl (fun v1 => ?_)
      refine g_if_eq (tgt := 23) hO d_X12_ones_16.1 d_X12_ones_16.2 (fun _ => ?_) (fun _ => ?_)
      · skip
        refine g_iconst hO 0 d_X12_ones_23 (by decide) ?_
        exact g_sub [0, 2] rfl (w_X12_ones_24 hO _ ih _ _ _ _)
      · skip
        refine g_iconst hO 1 d_X12_ones_19 (by decide) ?_
        refine g_goto (tgt := 24) hO d_X12_ones_20.1 d_X12_ones_20.2 ?_
        exact g_sub [0, 2] rfl (w_X12_ones_24 hO _ ih _ _ _ _)
set_option maxRecDepth 20000 in
theorem w_X12_ones {Γ : GC} {E : GE} (hO : gOk Γ E cX12_ones RX12 3 rm_X12_ones (some .int) "ones") (x0 : Int32) (S : GS) : Go Γ E (gBpI Γ E S) 3 (0, 0) 0 S [(0, vI x0)] [] (f_X12_ones x0 S) := by
  unfold f_X12_ones
  refine g_iconst hO 0 d_X12_ones_0 (by decide) ?_
  refine g_istore_n (lv' := [(1, vI 0), (0, vI x0)]) hO d_X12_ones_1 (by rfl) (by decide) rfl ?_
  refine g_iconst hO 0 d_X12_ones_2 (by decide) ?_
  refine g_istore_n (lv' := [(2, vI 0), (1, vI 0), (0, vI x0)]) hO d_X12_ones_3 (by rfl) (by decide) rfl ?_
  exact g_sub [2, 1, 0] rfl (w_X12_ones_4 hO _ _ _ _ _)
theorem t_X12_ones (l : Launch) (E : GE) (x0 : Int32) (S : GS) : ∀ a, f_X12_ones x0 S = some a → Ct l E yX12_ones cX12_ones 3 (some .int) rm_X12_ones [vI x0] S (some (vI a)) S :=
  Ct_of (val := fun b => some (vI b)) (nxt := fun _ => S) (by decide) (Nat.le_of_ble_eq_true rfl) (fun Γ hl hO => w_X12_ones hO x0 S)
theorem d_X12_copyRow_0 : gD cX12_copyRow 0 (.iconst 0) 1 1 := ⟨by decide +kernel, rfl⟩
theorem d_X12_copyRow_1 : gD cX12_copyRow 1 (.istore 4) 2 3 := ⟨by decide +kernel, rfl⟩
theorem d_X12_copyRow_3 : gD cX12_copyRow 3 (.iload 4) 2 5 := ⟨by decide +kernel, rfl⟩
theorem d_X12_copyRow_5 : gD cX12_copyRow 5 (.iload_n 1) 1 6 := ⟨by decide +kernel, rfl⟩
theorem d_X12_copyRow_6 : gD cX12_copyRow 6 (.if_icmp .ge 25) 3 9 ∧ ((6 : Nat) : Int) + 25 = ((31 : Nat) : Int) := ⟨⟨by decide +kernel, rfl⟩, by decide⟩
theorem d_X12_copyRow_9 : gD cX12_copyRow 9 (.aload_n 0) 1 10 := ⟨by decide +kernel, rfl⟩
theorem d_X12_copyRow_10 : gD cX12_copyRow 10 (.iload_n 1) 1 11 := ⟨by decide +kernel, rfl⟩
theorem d_X12_copyRow_11 : gD cX12_copyRow 11 (.iload_n 3) 1 12 := ⟨by decide +kernel, rfl⟩
theorem d_X12_copyRow_12 : gD cX12_copyRow 12 (.imul) 1 13 := ⟨by decide +kernel, rfl⟩
theorem d_X12_copyRow_13 : gD cX12_copyRow 13 (.iload 4) 2 15 := ⟨by decide +kernel, rfl⟩
theorem d_X12_copyRow_15 : gD cX12_copyRow 15 (.iadd) 1 16 := ⟨by decide +kernel, rfl⟩
theorem d_X12_copyRow_16 : gD cX12_copyRow 16 (.aload_n 0) 1 17 := ⟨by decide +kernel, rfl⟩
theorem d_X12_copyRow_17 : gD cX12_copyRow 17 (.iload_n 1) 1 18 := ⟨by decide +kernel, rfl⟩
theorem d_X12_copyRow_18 : gD cX12_copyRow 18 (.iload_n 2) 1 19 := ⟨by decide +kernel, rfl⟩
theorem d_X12_copyRow_19 : gD cX12_copyRow 19 (.imul) 1 20 := ⟨by decide +kernel, rfl⟩
theorem d_X12_copyRow_20 : gD cX12_copyRow 20 (.iload 4) 2 22 := ⟨by decide +kernel, rfl⟩
theorem d_X12_copyRow_22 : gD cX12_copyRow 22 (.iadd) 1 23 := ⟨by decide +kernel, rfl⟩
theorem d_X12_copyRow_23 : gD cX12_copyRow 23 (.iaload) 1 24 := ⟨by decide +kernel, rfl⟩
theorem d_X12_copyRow_24 : gD cX12_copyRow 24 (.iastore) 1 25 := ⟨by decide +kernel, rfl⟩
theorem d_X12_copyRow_25 : gD cX12_copyRow 25 (.iinc 4 1) 3 28 := ⟨by decide +kernel, rfl⟩
theorem d_X12_copyRow_28 : decode cX12_copyRow 28 = .ok (.goto (-25), 3) ∧ ((28 : Nat) : Int) + (-25) = ((3 : Nat) : Int) := ⟨by decide +kernel, by decide⟩
theorem d_X12_copyRow_31 : gD cX12_copyRow 31 (.return_) 1 32 := ⟨by decide +kernel, rfl⟩
abbrev rm_X12_copyRow : Room := { frames := 0, cells := 0, slots := 0, locals := 0 }
set_option maxRecDepth 20000 in
theorem w_X12_copyRow_3 {Γ : GC} {E : GE} (hO : gOk Γ E cX12_copyRow RX12 5 rm_X12_copyRow none "copyRow") : ∀ (n : Nat) (x0 : Option Nat) (x1 : Int32) (x2 : Int32) (x3 : Int32) (x4 : Int32) (S : GS), Go Γ E (gBsV Γ E) 5 (0, 0) 3 S [(0, vA x0), (1, vI x1), (2, vI x2), (3, vI x3), (4, vI x4)] [] (f_X12_copyRow_3 n x0 x1 x2 x3 x4 S) := by
  intro n
  induction n with
  | zero =>
    intro x0 x1 x2 x3 x4 S
    exact g_none
  | succ n ih =>
    intro x0 x1 x2 x3 x4 S
    rw [f_X12_copyRow_3]
    refine g_iload hO d_X12_copyRow_3 4 rfl ?_
    refine g_iload_n hO d_X12_copyRow_5 (by rfl) 1 rfl ?_
    refine g_ic_ge (tgt := 31) hO d_X12_copyRow_6.1 d_X12_copyRow_6.2 (fun _ => ?_) (fun _ => ?_)
    · skip
      exact g_vret hO rfl ⟨Nat.le_of_ble_eq_true rfl, Nat.le_of_ble_eq_true rfl⟩ rfl rfl d_X12_copyRow_31.1
    · skip
      refine g_aload_n hO d_X12_copyRow_9 (by rfl) 0 rfl ?_
      refine g_iload_n hO d_X12_copyRow_10 (by rfl) 1 rfl ?_
      refine g_iload_n hO d_X12_copyRow_11 (by rfl) 3 rfl ?_
      refine g_imul hO d_X12_copyRow_12 ?_
      refine g_iload hO d_X12_copyRow_13 4 rfl ?_
      refine g_iadd hO d_X12_copyRow_15 ?_
      refine g_aload_n hO d_X12_copyRow_16 (by rfl) 0 rfl ?_
      refine g_iload_n hO d_X12_copyRow_17 (by rfl) 1 rfl ?_
      refine g_iload_n hO d_X12_copyRow_18 (by rfl) 2 rfl ?_
      refine g_imul hO d_X12_copyRow_19 ?_
      refine g_iload hO d_X12_copyRow_20 4 rfl ?_
      refine g_iadd hO d_X12_copyRow_22 ?_
      refine h_iald hO d_X12_copyRow_23 (fun v1 => ?_)
      refine h_iast hO d_X12_copyRow_24 (fun S2 => ?_)
      refine g_iinc (lv' := [(4, vI (x4 + 1)), (0, vA x0), (1, vI x1), (2, vI x2), (3, vI x3)]) hO 1 d_X12_copyRow_25 (by decide) 4 rfl (by decide) rfl ?_
      refine g_goto (tgt := 3) hO d_X12_copyRow_28.1 d_X12_copyRow_28.2 ?_
      exact g_sub [1, 2, 3, 4, 0] rfl (ih _ _ _ _ _ _)
set_option maxRecDepth 20000 in
theorem w_X12_copyRow {Γ : GC} {E : GE} (hO : gOk Γ E cX12_copyRow RX12 5 rm_X12_copyRow none "copyRow") (x0 : Option Nat) (x1 : Int32) (x2 : Int32) (x3 : Int32) (S : GS) : Go Γ E (gBsV Γ E) 5 (0, 0) 0 S [(0, vA x0), (1, vI x1), (2, vI x2), (3, vI x3)] [] (f_X12_copyRow x0 x1 x2 x3 S) := by
  unfold f_X12_copyRow
  refine g_iconst hO 0 d_X12_copyRow_0 (by decide) ?_
  refine g_istore (lv' := [(4, vI 0), (0, vA x0), (1, vI x1), (2, vI x2), (3, vI x3)]) hO d_X12_copyRow_1 (by decide) rfl ?_
  exact g_sub [1, 2, 3, 4, 0] rfl (w_X12_copyRow_3 hO _ _ _ _ _ _ _)
theorem t_X12_copyRow (l : Launch) (E : GE) (x0 : Option Nat) (x1 : Int32) (x2 : Int32) (x3 : Int32) (S : GS) : ∀ a, f_X12_copyRow x0 x1 x2 x3 S = some a → Ct l E yX12_copyRow cX12_copyRow 5 none rm_X12_copyRow [vA x0, vI x1, vI x2, vI x3] S none a :=
  Ct_of (val := fun _ => none) (nxt := fun b => b) (by decide) (Nat.le_of_ble_eq_true rfl) (fun Γ hl hO => w_X12_copyRow hO x0 x1 x2 x3 S)
theorem d_X12_copyAll_0 : gD cX12_copyAll 0 (.iconst 0) 1 1 := ⟨by decide +kernel, rfl⟩
theorem d_X12_copyAll_1 : gD cX12_copyAll 1 (.istore_n 3) 1 2 := ⟨by decide +kernel, rfl⟩
theorem d_X12_copyAll_2 : gD cX12_copyAll 2 (.iload_n 3) 1 3 := ⟨by decide +kernel, rfl⟩
theorem d_X12_copyAll_3 : gD cX12_copyAll 3 (.sipush 600) 3 6 := ⟨by decide +kernel, rfl⟩
theorem d_X12_copyAll_6 : gD cX12_copyAll 6 (.if_icmp .ge 33) 3 9 ∧ ((6 : Nat) : Int) + 33 = ((39 : Nat) : Int) := ⟨⟨by decide +kernel, rfl⟩, by decide⟩
theorem d_X12_copyAll_9 : gD cX12_copyAll 9 (.aload_n 0) 1 10 := ⟨by decide +kernel, rfl⟩
theorem d_X12_copyAll_10 : gD cX12_copyAll 10 (.getfield 7) 3 13 := ⟨by decide +kernel, rfl⟩
theorem d_X12_copyAll_13 : gD cX12_copyAll 13 (.sipush 600) 3 16 := ⟨by decide +kernel, rfl⟩
theorem d_X12_copyAll_16 : gD cX12_copyAll 16 (.iload_n 2) 1 17 := ⟨by decide +kernel, rfl⟩
theorem d_X12_copyAll_17 : gD cX12_copyAll 17 (.imul) 1 18 := ⟨by decide +kernel, rfl⟩
theorem d_X12_copyAll_18 : gD cX12_copyAll 18 (.iload_n 3) 1 19 := ⟨by decide +kernel, rfl⟩
theorem d_X12_copyAll_19 : gD cX12_copyAll 19 (.iadd) 1 20 := ⟨by decide +kernel, rfl⟩
theorem d_X12_copyAll_20 : gD cX12_copyAll 20 (.aload_n 0) 1 21 := ⟨by decide +kernel, rfl⟩
theorem d_X12_copyAll_21 : gD cX12_copyAll 21 (.getfield 7) 3 24 := ⟨by decide +kernel, rfl⟩
theorem d_X12_copyAll_24 : gD cX12_copyAll 24 (.sipush 600) 3 27 := ⟨by decide +kernel, rfl⟩
theorem d_X12_copyAll_27 : gD cX12_copyAll 27 (.iload_n 1) 1 28 := ⟨by decide +kernel, rfl⟩
theorem d_X12_copyAll_28 : gD cX12_copyAll 28 (.imul) 1 29 := ⟨by decide +kernel, rfl⟩
theorem d_X12_copyAll_29 : gD cX12_copyAll 29 (.iload_n 3) 1 30 := ⟨by decide +kernel, rfl⟩
theorem d_X12_copyAll_30 : gD cX12_copyAll 30 (.iadd) 1 31 := ⟨by decide +kernel, rfl⟩
theorem d_X12_copyAll_31 : gD cX12_copyAll 31 (.baload) 1 32 := ⟨by decide +kernel, rfl⟩
theorem d_X12_copyAll_32 : gD cX12_copyAll 32 (.bastore) 1 33 := ⟨by decide +kernel, rfl⟩
theorem d_X12_copyAll_33 : gD cX12_copyAll 33 (.iinc 3 1) 3 36 := ⟨by decide +kernel, rfl⟩
theorem d_X12_copyAll_36 : decode cX12_copyAll 36 = .ok (.goto (-34), 3) ∧ ((36 : Nat) : Int) + (-34) = ((2 : Nat) : Int) := ⟨by decide +kernel, by decide⟩
theorem d_X12_copyAll_39 : gD cX12_copyAll 39 (.aload_n 0) 1 40 := ⟨by decide +kernel, rfl⟩
theorem d_X12_copyAll_40 : gD cX12_copyAll 40 (.getfield 13) 3 43 := ⟨by decide +kernel, rfl⟩
theorem d_X12_copyAll_43 : gD cX12_copyAll 43 (.iconst 1) 1 44 := ⟨by decide +kernel, rfl⟩
theorem d_X12_copyAll_44 : gD cX12_copyAll 44 (.iload_n 1) 1 45 := ⟨by decide +kernel, rfl⟩
theorem d_X12_copyAll_45 : gD cX12_copyAll 45 (.iload_n 2) 1 46 := ⟨by decide +kernel, rfl⟩
theorem d_X12_copyAll_46 : gD cX12_copyAll 46 (.invokestatic 108) 3 49 := ⟨by decide +kernel, rfl⟩
theorem d_X12_copyAll_49 : gD cX12_copyAll 49 (.aload_n 0) 1 50 := ⟨by decide +kernel, rfl⟩
theorem d_X12_copyAll_50 : gD cX12_copyAll 50 (.getfield 17) 3 53 := ⟨by decide +kernel, rfl⟩
theorem d_X12_copyAll_53 : gD cX12_copyAll 53 (.iconst 1) 1 54 := ⟨by decide +kernel, rfl⟩
theorem d_X12_copyAll_54 : gD cX12_copyAll 54 (.iload_n 1) 1 55 := ⟨by decide +kernel, rfl⟩
theorem d_X12_copyAll_55 : gD cX12_copyAll 55 (.iload_n 2) 1 56 := ⟨by decide +kernel, rfl⟩
theorem d_X12_copyAll_56 : gD cX12_copyAll 56 (.invokestatic 108) 3 59 := ⟨by decide +kernel, rfl⟩
theorem d_X12_copyAll_59 : gD cX12_copyAll 59 (.aload_n 0) 1 60 := ⟨by decide +kernel, rfl⟩
theorem d_X12_copyAll_60 : gD cX12_copyAll 60 (.getfield 20) 3 63 := ⟨by decide +kernel, rfl⟩
theorem d_X12_copyAll_63 : gD cX12_copyAll 63 (.iconst 1) 1 64 := ⟨by decide +kernel, rfl⟩
theorem d_X12_copyAll_64 : gD cX12_copyAll 64 (.iload_n 1) 1 65 := ⟨by decide +kernel, rfl⟩
theorem d_X12_copyAll_65 : gD cX12_copyAll 65 (.iload_n 2) 1 66 := ⟨by decide +kernel, rfl⟩
theorem d_X12_copyAll_66 : gD cX12_copyAll 66 (.invokestatic 108) 3 69 := ⟨by decide +kernel, rfl⟩
theorem d_X12_copyAll_69 : gD cX12_copyAll 69 (.aload_n 0) 1 70 := ⟨by decide +kernel, rfl⟩
theorem d_X12_copyAll_70 : gD cX12_copyAll 70 (.getfield 23) 3 73 := ⟨by decide +kernel, rfl⟩
theorem d_X12_copyAll_73 : gD cX12_copyAll 73 (.bipush 6) 2 75 := ⟨by decide +kernel, rfl⟩
theorem d_X12_copyAll_75 : gD cX12_copyAll 75 (.iload_n 1) 1 76 := ⟨by decide +kernel, rfl⟩
theorem d_X12_copyAll_76 : gD cX12_copyAll 76 (.iload_n 2) 1 77 := ⟨by decide +kernel, rfl⟩
theorem d_X12_copyAll_77 : gD cX12_copyAll 77 (.invokestatic 108) 3 80 := ⟨by decide +kernel, rfl⟩
theorem d_X12_copyAll_80 : gD cX12_copyAll 80 (.aload_n 0) 1 81 := ⟨by decide +kernel, rfl⟩
theorem d_X12_copyAll_81 : gD cX12_copyAll 81 (.getfield 26) 3 84 := ⟨by decide +kernel, rfl⟩
theorem d_X12_copyAll_84 : gD cX12_copyAll 84 (.sipush 138) 3 87 := ⟨by decide +kernel, rfl⟩
theorem d_X12_copyAll_87 : gD cX12_copyAll 87 (.iload_n 1) 1 88 := ⟨by decide +kernel, rfl⟩
theorem d_X12_copyAll_88 : gD cX12_copyAll 88 (.iload_n 2) 1 89 := ⟨by decide +kernel, rfl⟩
theorem d_X12_copyAll_89 : gD cX12_copyAll 89 (.invokestatic 108) 3 92 := ⟨by decide +kernel, rfl⟩
theorem d_X12_copyAll_92 : gD cX12_copyAll 92 (.aload_n 0) 1 93 := ⟨by decide +kernel, rfl⟩
theorem d_X12_copyAll_93 : gD cX12_copyAll 93 (.getfield 29) 3 96 := ⟨by decide +kernel, rfl⟩
theorem d_X12_copyAll_96 : gD cX12_copyAll 96 (.sipush 242) 3 99 := ⟨by decide +kernel, rfl⟩
theorem d_X12_copyAll_99 : gD cX12_copyAll 99 (.iload_n 1) 1 100 := ⟨by decide +kernel, rfl⟩
theorem d_X12_copyAll_100 : gD cX12_copyAll 100 (.iload_n 2) 1 101 := ⟨by decide +kernel, rfl⟩
theorem d_X12_copyAll_101 : gD cX12_copyAll 101 (.invokestatic 108) 3 104 := ⟨by decide +kernel, rfl⟩
theorem d_X12_copyAll_104 : gD cX12_copyAll 104 (.aload_n 0) 1 105 := ⟨by decide +kernel, rfl⟩
theorem d_X12_copyAll_105 : gD cX12_copyAll 105 (.getfield 32) 3 108 := ⟨by decide +kernel, rfl⟩
theorem d_X12_copyAll_108 : gD cX12_copyAll 108 (.bipush 34) 2 110 := ⟨by decide +kernel, rfl⟩
theorem d_X12_copyAll_110 : gD cX12_copyAll 110 (.iload_n 1) 1 111 := ⟨by decide +kernel, rfl⟩
theorem d_X12_copyAll_111 : gD cX12_copyAll 111 (.iload_n 2) 1 112 := ⟨by decide +kernel, rfl⟩
theorem d_X12_copyAll_112 : gD cX12_copyAll 112 (.invokestatic 108) 3 115 := ⟨by decide +kernel, rfl⟩
theorem d_X12_copyAll_115 : gD cX12_copyAll 115 (.aload_n 0) 1 116 := ⟨by decide +kernel, rfl⟩
theorem d_X12_copyAll_116 : gD cX12_copyAll 116 (.getfield 35) 3 119 := ⟨by decide +kernel, rfl⟩
theorem d_X12_copyAll_119 : gD cX12_copyAll 119 (.sipush 244) 3 122 := ⟨by decide +kernel, rfl⟩
theorem d_X12_copyAll_122 : gD cX12_copyAll 122 (.iload_n 1) 1 123 := ⟨by decide +kernel, rfl⟩
theorem d_X12_copyAll_123 : gD cX12_copyAll 123 (.iload_n 2) 1 124 := ⟨by decide +kernel, rfl⟩
theorem d_X12_copyAll_124 : gD cX12_copyAll 124 (.invokestatic 108) 3 127 := ⟨by decide +kernel, rfl⟩
theorem d_X12_copyAll_127 : gD cX12_copyAll 127 (.aload_n 0) 1 128 := ⟨by decide +kernel, rfl⟩
theorem d_X12_copyAll_128 : gD cX12_copyAll 128 (.getfield 38) 3 131 := ⟨by decide +kernel, rfl⟩
theorem d_X12_copyAll_131 : gD cX12_copyAll 131 (.sipush 182) 3 134 := ⟨by decide +kernel, rfl⟩
theorem d_X12_copyAll_134 : gD cX12_copyAll 134 (.iload_n 1) 1 135 := ⟨by decide +kernel, rfl⟩
theorem d_X12_copyAll_135 : gD cX12_copyAll 135 (.iload_n 2) 1 136 := ⟨by decide +kernel, rfl⟩
theorem d_X12_copyAll_136 : gD cX12_copyAll 136 (.invokestatic 108) 3 139 := ⟨by decide +kernel, rfl⟩
theorem d_X12_copyAll_139 : gD cX12_copyAll 139 (.aload_n 0) 1 140 := ⟨by decide +kernel, rfl⟩
theorem d_X12_copyAll_140 : gD cX12_copyAll 140 (.getfield 41) 3 143 := ⟨by decide +kernel, rfl⟩
theorem d_X12_copyAll_143 : gD cX12_copyAll 143 (.bipush 42) 2 145 := ⟨by decide +kernel, rfl⟩
theorem d_X12_copyAll_145 : gD cX12_copyAll 145 (.iload_n 1) 1 146 := ⟨by decide +kernel, rfl⟩
theorem d_X12_copyAll_146 : gD cX12_copyAll 146 (.iload_n 2) 1 147 := ⟨by decide +kernel, rfl⟩
theorem d_X12_copyAll_147 : gD cX12_copyAll 147 (.invokestatic 108) 3 150 := ⟨by decide +kernel, rfl⟩
theorem d_X12_copyAll_150 : gD cX12_copyAll 150 (.return_) 1 151 := ⟨by decide +kernel, rfl⟩
abbrev rm_X12_copyAll : Room := { frames := 1, cells := 0, slots := 0, locals := 24 }
set_option maxRecDepth 20000 in
theorem w_X12_copyAll_2 {Γ : GC} {E : GE} (hO : gOk Γ E cX12_copyAll RX12 4 rm_X12_copyAll none "copyAll") (o : Nat) : ∀ (n : Nat) (x1 : Int32) (x2 : Int32) (x3 : Int32) (S : GS), Go Γ E (gBsV Γ E) 4 (0, 0) 2 S [(0, vA (some o)), (1, vI x1), (2, vI x2), (3, vI x3)] [] (f_X12_copyAll_2 o n x1 x2 x3 S) := by
  intro n
  induction n with
  | zero =>
    intro x1 x2 x3 S
    exact g_none
  | succ n ih =>
    intro x1 x2 x3 S
    rw [f_X12_copyAll_2]
    refine g_iload_n hO d_X12_copyAll_2 (by rfl) 3 rfl ?_
    refine g_sipush hO 600 d_X12_copyAll_3 (by decide) ?_
    refine g_ic_ge (tgt := 39) hO d_X12_copyAll_6.1 d_X12_copyAll_6.2 (fun _ => ?_) (fun _ => ?_)
    · skip
      refine g_aload_n hO d_X12_copyAll_39 (by rfl) 0 rfl ?_
      refine h_getR hO cl_X12 2 rfl wf_X12_13 d_X12_copyAll_40 (fun v1 => ?_)
      refine g_iconst hO 1 d_X12_copyAll_43 (by decide) ?_
      refine g_iload_n hO d_X12_copyAll_44 (by rfl) 1 rfl ?_
      refine g_iload_n hO d_X12_copyAll_45 (by rfl) 2 rfl ?_
      refine k_statVs hO mm_X12_copyRow lkS_X12_108 ⟨⟨Nat.le_of_ble_eq_true rfl, Nat.le_of_ble_eq_true rfl⟩, Nat.le_of_ble_eq_true rfl, Nat.le_of_ble_eq_true rfl⟩ (kn' := (0, 0)) rfl (As := [vA v1, vI 1, vI x1, vI x2]) rfl (Nat.le_of_ble_eq_true rfl) (t_X12_copyRow Γ.2.1 E v1 1 x1 x2 S) d_X12_copyAll_46 rfl (fun S3 => ?_)
      refine g_aload_n hO d_X12_copyAll_49 (by rfl) 0 rfl ?_
      refine h_getR hO cl_X12 3 rfl wf_X12_17 d_X12_copyAll_50 (fun v4 => ?_)
      refine g_iconst hO 1 d_X12_copyAll_53 (by decide) ?_
      refine g_iload_n hO d_X12_copyAll_54 (by rfl) 1 rfl ?_
      refine g_iload_n hO d_X12_copyAll_55 (by rfl) 2 rfl ?_
      refine k_statVs hO mm_X12_copyRow lkS_X12_108 ⟨⟨Nat.le_of_ble_eq_true rfl, Nat.le_of_ble_eq_true rfl⟩, Nat.le_of_ble_eq_true rfl, Nat.le_of_ble_eq_true rfl⟩ (kn' := (0, 0)) rfl (As := [vA v4, vI 1, vI x1, vI x2]) rfl (Nat.le_of_ble_eq_true rfl) (t_X12_copyRow Γ.2.1 E v4 1 x1 x2 S3) d_X12_copyAll_56 rfl (fun S6 => ?_)
      refine g_aload_n hO d_X12_copyAll_59 (by rfl) 0 rfl ?_
      refine h_getR hO cl_X12 4 rfl wf_X12_20 d_X12_copyAll_60 (fun v7 => ?_)
      refine g_iconst hO 1 d_X12_copyAll_63 (by decide) ?_
      refine g_iload_n hO d_X12_copyAll_64 (by rfl) 1 rfl ?_
      refine g_iload_n hO d_X12_copyAll_65 (by rfl) 2 rfl ?_
      refine k_statVs hO mm_X12_copyRow lkS_X12_108 ⟨⟨Nat.le_of_ble_eq_true rfl, Nat.le_of_ble_eq_true rfl⟩, Nat.le_of_ble_eq_true rfl, Nat.le_of_ble_eq_true rfl⟩ (kn' := (0, 0)) rfl (As := [vA v7, vI 1, vI x1, vI x2]) rfl (Nat.le_of_ble_eq_true rfl) (t_X12_copyRow Γ.2.1 E v7 1 x1 x2 S6) d_X12_copyAll_66 rfl (fun S9 => ?_)
      refine g_aload_n hO d_X12_copyAll_69 (by rfl) 0 rfl ?_
      refine h_getR hO cl_X12 5 rfl wf_X12_23 d_X12_copyAll_70 (fun v10 => ?_)
      refine g_bipush hO 6 d_X12_copyAll_73 (by decide) ?_
      refine g_iload_n hO d_X12_copyAll_75 (by rfl) 1 rfl ?_
      refine g_iload_n hO d_X12_copyAll_76 (by rfl) 2 rfl ?_
      refine k_statVs hO mm_X12_copyRow lkS_X12_108 ⟨⟨Nat.le_of_ble_eq_true rfl, Nat.le_of_ble_eq_true rfl⟩, Nat.le_of_ble_eq_true rfl, Nat.le_of_ble_eq_true rfl⟩ (kn' := (0, 0)) rfl (As := [vA v10, vI 6, vI x1, vI x2]) rfl (Nat.le_of_ble_eq_true rfl) (t_X12_copyRow Γ.2.1 E v10 6 x1 x2 S9) d_X12_copyAll_77 rfl (fun S12 => ?_)
      refine g_aload_n hO d_X12_copyAll_80 (by rfl) 0 rfl ?_
      refine h_getR hO cl_X12 6 rfl wf_X12_26 d_X12_copyAll_81 (fun v13 => ?_)
      refine g_sipush hO 138 d_X12_copyAll_84 (by decide) ?_
      refine g_iload_n hO d_X12_copyAll_87 (by rfl) 1 rfl ?_
      refine g_iload_n hO d_X12_copyAll_88 (by rfl) 2 rfl ?_
      refine k_statVs hO mm_X12_copyRow lkS_X12_108 ⟨⟨Nat.le_of_ble_eq_true rfl, Nat.le_of_ble_eq_true rfl⟩, Nat.le_of_ble_eq_true rfl, Nat.le_of_ble_eq_true rfl⟩ (kn' := (0, 0)) rfl (As := [vA v13, vI 138, vI x1, vI x2]) rfl (Nat.le_of_ble_eq_true rfl) (t_X12_copyRow Γ.2.1 E v13 138 x1 x2 S12) d_X12_copyAll_89 rfl (fun S15 => ?_)
      refine g_aload_n hO d_X12_copyAll_92 (by rfl) 0 rfl ?_
      refine h_getR hO cl_X12 7 rfl wf_X12_29 d_X12_copyAll_93 (fun v16 => ?_)
      refine g_sipush hO 242 d_X12_copyAll_96 (by decide) ?_
      refine g_iload_n hO d_X12_copyAll_99 (by rfl) 1 rfl ?_
      refine g_iload_n hO d_X12_copyAll_100 (by rfl) 2 rfl ?_
      refine k_statVs hO mm_X12_copyRow lkS_X12_108 ⟨⟨Nat.le_of_ble_eq_true rfl, Nat.le_of_ble_eq_true rfl⟩, Nat.le_of_ble_eq_true rfl, Nat.le_of_ble_eq_true rfl⟩ (kn' := (0, 0)) rfl (As := [vA v16, vI 242, vI x1, vI x2]) rfl (Nat.le_of_ble_eq_true rfl) (t_X12_copyRow Γ.2.1 E v16 242 x1 x2 S15) d_X12_copyAll_101 rfl (fun S18 => ?_)
      refine g_aload_n hO d_X12_copyAll_104 (by rfl) 0 rfl ?_
      refine h_getR hO cl_X12 8 rfl wf_X12_32 d_X12_copyAll_105 (fun v19 => ?_)
      refine g_bipush hO 34 d_X12_copyAll_108 (by decide) ?_
      refine g_iload_n hO d_X12_copyAll_110 (by rfl) 1 rfl ?_
      refine g_iload_n hO d_X12_copyAll_111 (by rfl) 2 rfl ?_
      refine k_statVs hO mm_X12_copyRow lkS_X12_108 ⟨⟨Nat.le_of_ble_eq_true rfl, Nat.le_of_ble_eq_true rfl⟩, Nat.le_of_ble_eq_true rfl, Nat.le_of_ble_eq_true rfl⟩ (kn' := (0, 0)) rfl (As := [vA v19, vI 34, vI x1, vI x2]) rfl (Nat.le_of_ble_eq_true rfl) (t_X12_copyRow Γ.2.1 E v19 34 x1 x2 S18) d_X12_copyAll_112 rfl (fun S21 => ?_)
      refine g_aload_n hO d_X12_copyAll_115 (by rfl) 0 rfl ?_
      refine h_getR hO cl_X12 9 rfl wf_X12_35 d_X12_copyAll_116 (fun v22 => ?_)
      refine g_sipush hO 244 d_X12_copyAll_119 (by decide) ?_
      refine g_iload_n hO d_X12_copyAll_122 (by rfl) 1 rfl ?_
      refine g_iload_n hO d_X12_copyAll_123 (by rfl) 2 rfl ?_
      refine k_statVs hO mm_X12_copyRow lkS_X12_108 ⟨⟨Nat.le_of_ble_eq_true rfl, Nat.le_of_ble_eq_true rfl⟩, Nat.le_of_ble_eq_true rfl, Nat.le_of_ble_eq_true rfl⟩ (kn' := (0, 0)) rfl (As := [vA v22, vI 244, vI x1, vI x2]) rfl (Nat.le_of_ble_eq_true rfl) (t_X12_copyRow Γ.2.1 E v22 244 x1 x2 S21) d_X12_copyAll_124 rfl (fun S24 => ?_)
      refine g_aload_n hO d_X12_copyAll_127 (by rfl) 0 rfl ?_
      refine h_getR hO cl_X12 10 rfl wf_X12_38 d_X12_copyAll_128 (fun v25 => ?_)
      refine g_sipush hO 182 d_X12_copyAll_131 (by decide) ?_
      refine g_iload_n hO d_X12_copyAll_134 (by rfl) 1 rfl ?_
      refine g_iload_n hO d_X12_copyAll_135 (by rfl) 2 rfl ?_
      refine k_statVs hO mm_X12_copyRow lkS_X12_108 ⟨⟨Nat.le_of_ble_eq_true rfl, Nat.le_of_ble_eq_true rfl⟩, Nat.le_of_ble_eq_true rfl, Nat.le_of_ble_eq_true rfl⟩ (kn' := (0, 0)) rfl (As := [vA v25, vI 182, vI x1, vI x2]) rfl (Nat.le_of_ble_eq_true rfl) (t_X12_copyRow Γ.2.1 E v25 182 x1 x2 S24) d_X12_copyAll_136 rfl (fun S27 => ?_)
      refine g_aload_n hO d_X12_copyAll_139 (by rfl) 0 rfl ?_
      refine h_getR hO cl_X12 11 rfl wf_X12_41 d_X12_copyAll_140 (fun v28 => ?_)
      refine g_bipush hO 42 d_X12_copyAll_143 (by decide) ?_
      refine g_iload_n hO d_X12_copyAll_145 (by rfl) 1 rfl ?_
      refine g_iload_n hO d_X12_copyAll_146 (by rfl) 2 rfl ?_
      refine k_statVs hO mm_X12_copyRow lkS_X12_108 ⟨⟨Nat.le_of_ble_eq_true rfl, Nat.le_of_ble_eq_true rfl⟩, Nat.le_of_ble_eq_true rfl, Nat.le_of_ble_eq_true rfl⟩ (kn' := (0, 0)) rfl (As := [vA v28, vI 42, vI x1, vI x2]) rfl (Nat.le_of_ble_eq_true rfl) (t_X12_copyRow Γ.2.1 E v28 42 x1 x2 S27) d_X12_copyAll_147 rfl (fun S30 => ?_)
      exact g_vret hO rfl ⟨Nat.le_of_ble_eq_true rfl, Nat.le_of_ble_eq_true rfl⟩ rfl rfl d_X12_copyAll_150.1
    · skip
      refine g_aload_n hO d_X12_copyAll_9 (by rfl) 0 rfl ?_
      refine h_getR hO cl_X12 1 rfl wf_X12_7 d_X12_copyAll_10 (fun v31 => ?_)
      refine g_sipush hO 600 d_X12_copyAll_13 (by decide) ?_
      refine g_iload_n hO d_X12_copyAll_16 (by rfl) 2 rfl ?_
      refine g_imul hO d_X12_copyAll_17 ?_
      refine g_iload_n hO d_X12_copyAll_18 (by rfl) 3 rfl ?_
      refine g_iadd hO d_X12_copyAll_19 ?_
      refine g_aload_n hO d_X12_copyAll_20 (by rfl) 0 rfl ?_
      refine h_getR hO cl_X12 1 rfl wf_X12_7 d_X12_copyAll_21 (fun v32 => ?_)
      refine g_sipush hO 600 d_X12_copyAll_24 (by decide) ?_
      refine g_iload_n hO d_X12_copyAll_27 (by rfl) 1 rfl ?_
      refine g_imul hO d_X12_copyAll_28 ?_
      refine g_iload_n hO d_X12_copyAll_29 (by rfl) 3 rfl ?_
      refine g_iadd hO d_X12_copyAll_30 ?_
      refine h_bald hO d_X12_copyAll_31 (fun v33 => ?_)
      refine h_bast hO d_X12_copyAll_32 (fun S34 => ?_)
      refine g_iinc (lv' := [(3, vI (x3 + 1)), (0, vA (some o)), (1, vI x1), (2, vI x2)]) hO 1 d_X12_copyAll_33 (by decide) 3 rfl (by decide) rfl ?_
      refine g_goto (tgt := 2) hO d_X12_copyAll_36.1 d_X12_copyAll_36.2 ?_
      exact g_sub [1, 2, 3, 0] rfl (ih _ _ _ _)
set_option maxRecDepth 20000 in
theorem w_X12_copyAll {Γ : GC} {E : GE} (hO : gOk Γ E cX12_copyAll RX12 4 rm_X12_copyAll none "copyAll") (o : Nat) (x1 : Int32) (x2 : Int32) (S : GS) : Go Γ E (gBsV Γ E) 4 (0, 0) 0 S [(0, vA (some o)), (1, vI x1), (2, vI x2)] [] (f_X12_copyAll o x1 x2 S) := by
  unfold f_X12_copyAll
  refine g_iconst hO 0 d_X12_copyAll_0 (by decide) ?_
  refine g_istore_n (lv' := [(3, vI 0), (0, vA (some o)), (1, vI x1), (2, vI x2)]) hO d_X12_copyAll_1 (by rfl) (by decide) rfl ?_
  exact g_sub [1, 2, 3, 0] rfl (w_X12_copyAll_2 hO o _ _ _ _ _)
theorem t_X12_copyAll (l : Launch) (E : GE) (o : Nat) (x1 : Int32) (x2 : Int32) (S : GS) : ∀ a, f_X12_copyAll o x1 x2 S = some a → Ct l E yX12_copyAll cX12_copyAll 4 none rm_X12_copyAll [vA (some o), vI x1, vI x2] S none a :=
  Ct_of (val := fun _ => none) (nxt := fun b => b) (by decide) (Nat.le_of_ble_eq_true rfl) (fun Γ hl hO => w_X12_copyAll hO o x1 x2 S)
theorem d_X12_is_0 : gD cX12_is 0 (.iload_n 2) 1 1 := ⟨by decide +kernel, rfl⟩
theorem d_X12_is_1 : gD cX12_is 1 (.iconst 0) 1 2 := ⟨by decide +kernel, rfl⟩
theorem d_X12_is_2 : gD cX12_is 2 (.aload_n 0) 1 3 := ⟨by decide +kernel, rfl⟩
theorem d_X12_is_3 : gD cX12_is 3 (.getfield 23) 3 6 := ⟨by decide +kernel, rfl⟩
theorem d_X12_is_6 : gD cX12_is 6 (.iload_n 1) 1 7 := ⟨by decide +kernel, rfl⟩
theorem d_X12_is_7 : gD cX12_is 7 (.iaload) 1 8 := ⟨by decide +kernel, rfl⟩
theorem d_X12_is_8 : gD cX12_is 8 (.iconst 1) 1 9 := ⟨by decide +kernel, rfl⟩
theorem d_X12_is_9 : gD cX12_is 9 (.isub) 1 10 := ⟨by decide +kernel, rfl⟩
theorem d_X12_is_10 : gD cX12_is 10 (.invokestatic 112) 3 13 := ⟨by decide +kernel, rfl⟩
theorem d_X12_is_13 : gD cX12_is 13 (.ireturn) 1 14 := ⟨by decide +kernel, rfl⟩
abbrev rm_X12_is : Room := { frames := 1, cells := 0, slots := 0, locals := 22 }
set_option maxRecDepth 20000 in
theorem w_X12_is {Γ : GC} {E : GE} (hO : gOk Γ E cX12_is RX12 3 rm_X12_is (some .boolean) "is") (o : Nat) (x1 : Int32) (x2 : Int32) (S : GS) : Go Γ E (gBpI Γ E S) 3 (0, 0) 0 S [(0, vA (some o)), (1, vI x1), (2, vI x2)] [] (f_X12_is o x1 x2 S) := by
  unfold f_X12_is
  refine g_iload_n hO d_X12_is_0 (by rfl) 2 rfl ?_
  refine g_iconst hO 0 d_X12_is_1 (by decide) ?_
  refine g_aload_n hO d_X12_is_2 (by rfl) 0 rfl ?_
  refine h_getR hO cl_X12 5 rfl wf_X12_23 d_X12_is_3 (fun v1 => ?_)
  refine g_iload_n hO d_X12_is_6 (by rfl) 1 rfl ?_
  refine h_iald hO d_X12_is_7 (fun v2 => ?_)
  refine g_iconst hO 1 d_X12_is_8 (by decide) ?_
  refine g_isub hO d_X12_is_9 ?_
  refine k_statIp hO mm_X12_in lkS_X12_112 ⟨⟨Nat.le_of_ble_eq_true rfl, Nat.le_of_ble_eq_true rfl⟩, Nat.le_of_ble_eq_true rfl, Nat.le_of_ble_eq_true rfl⟩ (kn' := (0, 0)) rfl (As := [vI x2, vI 0, vI (v2 - 1)]) rfl (Nat.le_of_ble_eq_true rfl) (t_X12_in Γ.2.1 E x2 0 (v2 - 1) S) d_X12_is_10 rfl (fun v3 => ?_)
  exact g_zret hO rfl ⟨Nat.le_of_ble_eq_true rfl, Nat.le_of_ble_eq_true rfl⟩ rfl rfl d_X12_is_13.1
theorem t_X12_is (l : Launch) (E : GE) (o : Nat) (x1 : Int32) (x2 : Int32) (S : GS) : ∀ a, f_X12_is o x1 x2 S = some a → Ct l E yX12_is cX12_is 3 (some .boolean) rm_X12_is [vA (some o), vI x1, vI x2] S (some (vI a)) S :=
  Ct_of (val := fun b => some (vI b)) (nxt := fun _ => S) (by decide) (Nat.le_of_ble_eq_true rfl) (fun Γ hl hO => w_X12_is hO o x1 x2 S)
theorem d_X12_four_0 : gD cX12_four 0 (.bipush 24) 2 2 := ⟨by decide +kernel, rfl⟩
theorem d_X12_four_2 : gD cX12_four 2 (.istore_n 2) 1 3 := ⟨by decide +kernel, rfl⟩
theorem d_X12_four_3 : gD cX12_four 3 (.iload_n 2) 1 4 := ⟨by decide +kernel, rfl⟩
theorem d_X12_four_4 : gD cX12_four 4 (.ifCond .lt 34) 3 7 ∧ ((4 : Nat) : Int) + 34 = ((38 : Nat) : Int) := ⟨⟨by decide +kernel, rfl⟩, by decide⟩
theorem d_X12_four_7 : gD cX12_four 7 (.aload_n 0) 1 8 := ⟨by decide +kernel, rfl⟩
theorem d_X12_four_8 : gD cX12_four 8 (.getfield 7) 3 11 := ⟨by decide +kernel, rfl⟩
theorem d_X12_four_11 : gD cX12_four 11 (.aload_n 0) 1 12 := ⟨by decide +kernel, rfl⟩
theorem d_X12_four_12 : gD cX12_four 12 (.getfield 13) 3 15 := ⟨by decide +kernel, rfl⟩
theorem d_X12_four_15 : gD cX12_four 15 (.iconst 0) 1 16 := ⟨by decide +kernel, rfl⟩
theorem d_X12_four_16 : gD cX12_four 16 (.iaload) 1 17 := ⟨by decide +kernel, rfl⟩
theorem d_X12_four_17 : gD cX12_four 17 (.iload_n 1) 1 18 := ⟨by decide +kernel, rfl⟩
theorem d_X12_four_18 : gD cX12_four 18 (.iload_n 2) 1 19 := ⟨by decide +kernel, rfl⟩
theorem d_X12_four_19 : gD cX12_four 19 (.ishr) 1 20 := ⟨by decide +kernel, rfl⟩
theorem d_X12_four_20 : gD cX12_four 20 (.i2b) 1 21 := ⟨by decide +kernel, rfl⟩
theorem d_X12_four_21 : gD cX12_four 21 (.bastore) 1 22 := ⟨by decide +kernel, rfl⟩
theorem d_X12_four_22 : gD cX12_four 22 (.aload_n 0) 1 23 := ⟨by decide +kernel, rfl⟩
theorem d_X12_four_23 : gD cX12_four 23 (.getfield 13) 3 26 := ⟨by decide +kernel, rfl⟩
theorem d_X12_four_26 : gD cX12_four 26 (.iconst 0) 1 27 := ⟨by decide +kernel, rfl⟩
theorem d_X12_four_27 : gD cX12_four 27 (.dup2) 1 28 := ⟨by decide +kernel, rfl⟩
theorem d_X12_four_28 : gD cX12_four 28 (.iaload) 1 29 := ⟨by decide +kernel, rfl⟩
theorem d_X12_four_29 : gD cX12_four 29 (.iconst 1) 1 30 := ⟨by decide +kernel, rfl⟩
theorem d_X12_four_30 : gD cX12_four 30 (.iadd) 1 31 := ⟨by decide +kernel, rfl⟩
theorem d_X12_four_31 : gD cX12_four 31 (.iastore) 1 32 := ⟨by decide +kernel, rfl⟩
theorem d_X12_four_32 : gD cX12_four 32 (.iinc 2 (-8)) 3 35 := ⟨by decide +kernel, rfl⟩
theorem d_X12_four_35 : decode cX12_four 35 = .ok (.goto (-32), 3) ∧ ((35 : Nat) : Int) + (-32) = ((3 : Nat) : Int) := ⟨by decide +kernel, by decide⟩
theorem d_X12_four_38 : gD cX12_four 38 (.return_) 1 39 := ⟨by decide +kernel, rfl⟩
abbrev rm_X12_four : Room := { frames := 0, cells := 0, slots := 0, locals := 0 }
set_option maxRecDepth 20000 in
theorem w_X12_four_3 {Γ : GC} {E : GE} (hO : gOk Γ E cX12_four RX12 3 rm_X12_four none "four") (o : Nat) : ∀ (n : Nat) (x1 : Int32) (x2 : Int32) (S : GS), Go Γ E (gBsV Γ E) 3 (0, 0) 3 S [(0, vA (some o)), (1, vI x1), (2, vI x2)] [] (f_X12_four_3 o n x1 x2 S) := by
  intro n
  induction n with
  | zero =>
    intro x1 x2 S
    exact g_none
  | succ n ih =>
    intro x1 x2 S
    rw [f_X12_four_3]
    refine g_iload_n hO d_X12_four_3 (by rfl) 2 rfl ?_
    refine g_if_lt (tgt := 38) hO d_X12_four_4.1 d_X12_four_4.2 (fun _ => ?_) (fun _ => ?_)
    · skip
      exact g_vret hO rfl ⟨Nat.le_of_ble_eq_true rfl, Nat.le_of_ble_eq_true rfl⟩ rfl rfl d_X12_four_38.1
    · skip
      refine g_aload_n hO d_X12_four_7 (by rfl) 0 rfl ?_
      refine h_getR hO cl_X12 1 rfl wf_X12_7 d_X12_four_8 (fun v1 => ?_)
      refine g_aload_n hO d_X12_four_11 (by rfl) 0 rfl ?_
      refine h_getR hO cl_X12 2 rfl wf_X12_13 d_X12_four_12 (fun v2 => ?_)
      refine g_iconst hO 0 d_X12_four_15 (by decide) ?_
      refine h_iald hO d_X12_four_16 (fun v3 => ?_)
      refine g_iload_n hO d_X12_four_17 (by rfl) 1 rfl ?_
      refine g_iload_n hO d_X12_four_18 (by rfl) 2 rfl ?_
      refine g_ishr hO d_X12_four_19 ?_
      refine g_i2b hO d_X12_four_20 ?_
      refine h_bast hO d_X12_four_21 (fun S4 => ?_)
      refine g_aload_n hO d_X12_four_22 (by rfl) 0 rfl ?_
      refine h_getR hO cl_X12 2 rfl wf_X12_13 d_X12_four_23 (fun v5 => ?_)
      refine g_iconst hO 0 d_X12_four_26 (by decide) ?_
      refine g_dup2 hO d_X12_four_27 rfl rfl ?_
      refine h_iald hO d_X12_four_28 (fun v6 => ?_)
      refine g_iconst hO 1 d_X12_four_29 (by decide) ?_
      refine g_iadd hO d_X12_four_30 ?_
      refine h_iast hO d_X12_four_31 (fun S7 => ?_)
      refine g_iinc (lv' := [(2, vI (x2 + (-8))), (0, vA (some o)), (1, vI x1)]) hO (-8) d_X12_four_32 (by decide) 2 rfl (by decide) rfl ?_
      refine g_goto (tgt := 3) hO d_X12_four_35.1 d_X12_four_35.2 ?_
      exact g_sub [1, 2, 0] rfl (ih _ _ _)
set_option maxRecDepth 20000 in
theorem w_X12_four {Γ : GC} {E : GE} (hO : gOk Γ E cX12_four RX12 3 rm_X12_four none "four") (o : Nat) (x1 : Int32) (S : GS) : Go Γ E (gBsV Γ E) 3 (0, 0) 0 S [(0, vA (some o)), (1, vI x1)] [] (f_X12_four o x1 S) := by
  unfold f_X12_four
  refine g_bipush hO 24 d_X12_four_0 (by decide) ?_
  refine g_istore_n (lv' := [(2, vI 24), (0, vA (some o)), (1, vI x1)]) hO d_X12_four_2 (by rfl) (by decide) rfl ?_
  exact g_sub [1, 2, 0] rfl (w_X12_four_3 hO o _ _ _ _)
theorem t_X12_four (l : Launch) (E : GE) (o : Nat) (x1 : Int32) (S : GS) : ∀ a, f_X12_four o x1 S = some a → Ct l E yX12_four cX12_four 3 none rm_X12_four [vA (some o), vI x1] S none a :=
  Ct_of (val := fun _ => none) (nxt := fun b => b) (by decide) (Nat.le_of_ble_eq_true rfl) (fun Γ hl hO => w_X12_four hO o x1 S)
theorem d_X12_feed_0 : gD cX12_feed 0 (.aload_n 0) 1 1 := ⟨by decide +kernel, rfl⟩
theorem d_X12_feed_1 : gD cX12_feed 1 (.iconst 0) 1 2 := ⟨by decide +kernel, rfl⟩
theorem d_X12_feed_2 : gD cX12_feed 2 (.putfield 100) 3 5 := ⟨by decide +kernel, rfl⟩
theorem d_X12_feed_5 : gD cX12_feed 5 (.aload_n 0) 1 6 := ⟨by decide +kernel, rfl⟩
theorem d_X12_feed_6 : gD cX12_feed 6 (.getfield 13) 3 9 := ⟨by decide +kernel, rfl⟩
theorem d_X12_feed_9 : gD cX12_feed 9 (.iconst 0) 1 10 := ⟨by decide +kernel, rfl⟩
theorem d_X12_feed_10 : gD cX12_feed 10 (.iaload) 1 11 := ⟨by decide +kernel, rfl⟩
theorem d_X12_feed_11 : gD cX12_feed 11 (.bipush 20) 2 13 := ⟨by decide +kernel, rfl⟩
theorem d_X12_feed_13 : gD cX12_feed 13 (.iadd) 1 14 := ⟨by decide +kernel, rfl⟩
theorem d_X12_feed_14 : gD cX12_feed 14 (.sipush 600) 3 17 := ⟨by decide +kernel, rfl⟩
theorem d_X12_feed_17 : gD cX12_feed 17 (.if_icmp .le 5) 3 20 ∧ ((17 : Nat) : Int) + 5 = ((22 : Nat) : Int) := ⟨⟨by decide +kernel, rfl⟩, by decide⟩
theorem d_X12_feed_20 : gD cX12_feed 20 (.iconst (-1)) 1 21 := ⟨by decide +kernel, rfl⟩
theorem d_X12_feed_21 : gD cX12_feed 21 (.ireturn) 1 22 := ⟨by decide +kernel, rfl⟩
theorem d_X12_feed_22 : gD cX12_feed 22 (.aload_n 0) 1 23 := ⟨by decide +kernel, rfl⟩
theorem d_X12_feed_23 : gD cX12_feed 23 (.iload_n 1) 1 24 := ⟨by decide +kernel, rfl⟩
theorem d_X12_feed_24 : gD cX12_feed 24 (.invokevirtual 116) 3 27 := ⟨by decide +kernel, rfl⟩
theorem d_X12_feed_27 : gD cX12_feed 27 (.aload_n 0) 1 28 := ⟨by decide +kernel, rfl⟩
theorem d_X12_feed_28 : gD cX12_feed 28 (.iload_n 2) 1 29 := ⟨by decide +kernel, rfl⟩
theorem d_X12_feed_29 : gD cX12_feed 29 (.invokevirtual 116) 3 32 := ⟨by decide +kernel, rfl⟩
theorem d_X12_feed_32 : gD cX12_feed 32 (.aload_n 0) 1 33 := ⟨by decide +kernel, rfl⟩
theorem d_X12_feed_33 : gD cX12_feed 33 (.iload_n 3) 1 34 := ⟨by decide +kernel, rfl⟩
theorem d_X12_feed_34 : gD cX12_feed 34 (.invokevirtual 116) 3 37 := ⟨by decide +kernel, rfl⟩
theorem d_X12_feed_37 : gD cX12_feed 37 (.aload_n 0) 1 38 := ⟨by decide +kernel, rfl⟩
theorem d_X12_feed_38 : gD cX12_feed 38 (.iload 4) 2 40 := ⟨by decide +kernel, rfl⟩
theorem d_X12_feed_40 : gD cX12_feed 40 (.invokevirtual 116) 3 43 := ⟨by decide +kernel, rfl⟩
theorem d_X12_feed_43 : gD cX12_feed 43 (.aload_n 0) 1 44 := ⟨by decide +kernel, rfl⟩
theorem d_X12_feed_44 : gD cX12_feed 44 (.iload 5) 2 46 := ⟨by decide +kernel, rfl⟩
theorem d_X12_feed_46 : gD cX12_feed 46 (.invokevirtual 116) 3 49 := ⟨by decide +kernel, rfl⟩
theorem d_X12_feed_49 : gD cX12_feed 49 (.aload_n 0) 1 50 := ⟨by decide +kernel, rfl⟩
theorem d_X12_feed_50 : gD cX12_feed 50 (.getfield 13) 3 53 := ⟨by decide +kernel, rfl⟩
theorem d_X12_feed_53 : gD cX12_feed 53 (.iconst 0) 1 54 := ⟨by decide +kernel, rfl⟩
theorem d_X12_feed_54 : gD cX12_feed 54 (.iaload) 1 55 := ⟨by decide +kernel, rfl⟩
theorem d_X12_feed_55 : gD cX12_feed 55 (.ireturn) 1 56 := ⟨by decide +kernel, rfl⟩
abbrev rm_X12_feed : Room := { frames := 1, cells := 0, slots := 0, locals := 22 }
set_option maxRecDepth 20000 in
theorem w_X12_feed {Γ : GC} {E : GE} (hO : gOk Γ E cX12_feed RX12 6 rm_X12_feed (some .int) "feed") (o : Nat) (x1 : Int32) (x2 : Int32) (x3 : Int32) (x4 : Int32) (x5 : Int32) (S : GS) : Go Γ E (gBsI Γ E) 6 (0, 0) 0 S [(0, vA (some o)), (1, vI x1), (2, vI x2), (3, vI x3), (4, vI x4), (5, vI x5)] [] (f_X12_feed o x1 x2 x3 x4 x5 S) := by
  unfold f_X12_feed
  refine g_aload_n hO d_X12_feed_0 (by rfl) 0 rfl ?_
  refine g_iconst hO 0 d_X12_feed_1 (by decide) ?_
  refine h_putI hO cl_X12 0 rfl rfl wf_X12_100 (Or.inl rfl) d_X12_feed_2 (fun S1 => ?_)
  refine g_aload_n hO d_X12_feed_5 (by rfl) 0 rfl ?_
  refine h_getR hO cl_X12 2 rfl wf_X12_13 d_X12_feed_6 (fun v2 => ?_)
  refine g_iconst hO 0 d_X12_feed_9 (by decide) ?_
  refine h_iald hO d_X12_feed_10 (fun v3 => ?_)
  refine g_bipush hO 20 d_X12_feed_11 (by decide) ?_
  refine g_iadd hO d_X12_feed_13 ?_
  refine g_sipush hO 600 d_X12_feed_14 (by decide) ?_
  refine g_ic_le (tgt := 22) hO d_X12_feed_17.1 d_X12_feed_17.2 (fun _ => ?_) (fun _ => ?_)
  · skip
    refine g_aload_n hO d_X12_feed_22 (by rfl) 0 rfl ?_
    refine g_iload_n hO d_X12_feed_23 (by rfl) 1 rfl ?_
    refine k_virtVs hO cl_X12 mm_X12_four lkV_X12_116 ⟨⟨Nat.le_of_ble_eq_true rfl, Nat.le_of_ble_eq_true rfl⟩, Nat.le_of_ble_eq_true rfl, Nat.le_of_ble_eq_true rfl⟩ (kn' := (0, 0)) rfl (As := [vI x1]) rfl (Nat.le_of_ble_eq_true rfl) (fun o' _ => t_X12_four Γ.2.1 E o' x1 S1) d_X12_feed_24 rfl (fun S5 => ?_)
    refine g_aload_n hO d_X12_feed_27 (by rfl) 0 rfl ?_
    refine g_iload_n hO d_X12_feed_28 (by rfl) 2 rfl ?_
    refine k_virtVs hO cl_X12 mm_X12_four lkV_X12_116 ⟨⟨Nat.le_of_ble_eq_true rfl, Nat.le_of_ble_eq_true rfl⟩, Nat.le_of_ble_eq_true rfl, Nat.le_of_ble_eq_true rfl⟩ (kn' := (0, 0)) rfl (As := [vI x2]) rfl (Nat.le_of_ble_eq_true rfl) (fun o' _ => t_X12_four Γ.2.1 E o' x2 S5) d_X12_feed_29 rfl (fun S7 => ?_)
    refine g_aload_n hO d_X12_feed_32 (by rfl) 0 rfl ?_
    refine g_iload_n hO d_X12_feed_33 (by rfl) 3 rfl ?_
    refine k_virtVs hO cl_X12 mm_X12_four lkV_X12_116 ⟨⟨Nat.le_of_ble_eq_true rfl, Nat.le_of_ble_eq_true rfl⟩, Nat.le_of_ble_eq_true rfl, Nat.le_of_ble_eq_true rfl⟩ (kn' := (0, 0)) rfl (As := [vI x3]) rfl (Nat.le_of_ble_eq_true rfl) (fun o' _ => t_X12_four Γ.2.1 E o' x3 S7) d_X12_feed_34 rfl (fun S9 => ?_)
    refine g_aload_n hO d_X12_feed_37 (by rfl) 0 rfl ?_
    refine g_iload hO d_X12_feed_38 4 rfl ?_
    refine k_virtVs hO cl_X12 mm_X12_four lkV_X12_116 ⟨⟨Nat.le_of_ble_eq_true rfl, Nat.le_of_ble_eq_true rfl⟩, Nat.le_of_ble_eq_true rfl, Nat.le_of_ble_eq_true rfl⟩ (kn' := (0, 0)) rfl (As := [vI x4]) rfl (Nat.le_of_ble_eq_true rfl) (fun o' _ => t_X12_four Γ.2.1 E o' x4 S9) d_X12_feed_40 rfl (fun S11 => ?_)
    refine g_aload_n hO d_X12_feed_43 (by rfl) 0 rfl ?_
    refine g_iload hO d_X12_feed_44 5 rfl ?_
    refine k_virtVs hO cl_X12 mm_X12_four lkV_X12_116 ⟨⟨Nat.le_of_ble_eq_true rfl, Nat.le_of_ble_eq_true rfl⟩, Nat.le_of_ble_eq_true rfl, Nat.le_of_ble_eq_true rfl⟩ (kn' := (0, 0)) rfl (As := [vI x5]) rfl (Nat.le_of_ble_eq_true rfl) (fun o' _ => t_X12_four Γ.2.1 E o' x5 S11) d_X12_feed_46 rfl (fun S13 => ?_)
    refine g_aload_n hO d_X12_feed_49 (by rfl) 0 rfl ?_
    refine h_getR hO cl_X12 2 rfl wf_X12_13 d_X12_feed_50 (fun v14 => ?_)
    refine g_iconst hO 0 d_X12_feed_53 (by decide) ?_
    refine h_iald hO d_X12_feed_54 (fun v15 => ?_)
    exact g_ret hO rfl rfl ⟨Nat.le_of_ble_eq_true rfl, Nat.le_of_ble_eq_true rfl⟩ rfl rfl d_X12_feed_55.1
  · skip
    refine g_iconst hO (-1) d_X12_feed_20 (by decide) ?_
    exact g_ret hO rfl rfl ⟨Nat.le_of_ble_eq_true rfl, Nat.le_of_ble_eq_true rfl⟩ rfl rfl d_X12_feed_21.1
theorem t_X12_feed (l : Launch) (E : GE) (o : Nat) (x1 : Int32) (x2 : Int32) (x3 : Int32) (x4 : Int32) (x5 : Int32) (S : GS) : ∀ a, f_X12_feed o x1 x2 x3 x4 x5 S = some a → Ct l E yX12_feed cX12_feed 6 (some .int) rm_X12_feed [vA (some o), vI x1, vI x2, vI x3, vI x4, vI x5] S (some (vI a.1)) a.2 :=
  Ct_of (val := fun (b : Int32 × GS) => some (vI b.1)) (nxt := fun (b : Int32 × GS) => b.2) (by decide) (Nat.le_of_ble_eq_true rfl) (fun Γ hl hO => w_X12_feed hO o x1 x2 x3 x4 x5 S)
theorem d_X12_end_0 : gD cX12_end 0 (.aload_n 0) 1 1 := ⟨by decide +kernel, rfl⟩
theorem d_X12_end_1 : gD cX12_end 1 (.iconst 0) 1 2 := ⟨by decide +kernel, rfl⟩
theorem d_X12_end_2 : gD cX12_end 2 (.putfield 100) 3 5 := ⟨by decide +kernel, rfl⟩
theorem d_X12_end_5 : gD cX12_end 5 (.iload_n 1) 1 6 := ⟨by decide +kernel, rfl⟩
theorem d_X12_end_6 : gD cX12_end 6 (.iconst 0) 1 7 := ⟨by decide +kernel, rfl⟩
theorem d_X12_end_7 : gD cX12_end 7 (.aload_n 0) 1 8 := ⟨by decide +kernel, rfl⟩
theorem d_X12_end_8 : gD cX12_end 8 (.getfield 13) 3 11 := ⟨by decide +kernel, rfl⟩
theorem d_X12_end_11 : gD cX12_end 11 (.iconst 0) 1 12 := ⟨by decide +kernel, rfl⟩
theorem d_X12_end_12 : gD cX12_end 12 (.iaload) 1 13 := ⟨by decide +kernel, rfl⟩
theorem d_X12_end_13 : gD cX12_end 13 (.invokestatic 112) 3 16 := ⟨by decide +kernel, rfl⟩
theorem d_X12_end_16 : gD cX12_end 16 (.ifCond .ne 5) 3 19 ∧ ((16 : Nat) : Int) + 5 = ((21 : Nat) : Int) := ⟨⟨by decide +kernel, rfl⟩, by decide⟩
theorem d_X12_end_19 : gD cX12_end 19 (.iconst (-1)) 1 20 := ⟨by decide +kernel, rfl⟩
theorem d_X12_end_20 : gD cX12_end 20 (.ireturn) 1 21 := ⟨by decide +kernel, rfl⟩
theorem d_X12_end_21 : gD cX12_end 21 (.aload_n 0) 1 22 := ⟨by decide +kernel, rfl⟩
theorem d_X12_end_22 : gD cX12_end 22 (.getfield 13) 3 25 := ⟨by decide +kernel, rfl⟩
theorem d_X12_end_25 : gD cX12_end 25 (.iconst 0) 1 26 := ⟨by decide +kernel, rfl⟩
theorem d_X12_end_26 : gD cX12_end 26 (.iload_n 1) 1 27 := ⟨by decide +kernel, rfl⟩
theorem d_X12_end_27 : gD cX12_end 27 (.iastore) 1 28 := ⟨by decide +kernel, rfl⟩
theorem d_X12_end_28 : gD cX12_end 28 (.iload_n 1) 1 29 := ⟨by decide +kernel, rfl⟩
theorem d_X12_end_29 : gD cX12_end 29 (.ireturn) 1 30 := ⟨by decide +kernel, rfl⟩
abbrev rm_X12_end : Room := { frames := 1, cells := 0, slots := 0, locals := 22 }
set_option maxRecDepth 20000 in
theorem w_X12_end {Γ : GC} {E : GE} (hO : gOk Γ E cX12_end RX12 2 rm_X12_end (some .int) "end") (o : Nat) (x1 : Int32) (S : GS) : Go Γ E (gBsI Γ E) 2 (0, 0) 0 S [(0, vA (some o)), (1, vI x1)] [] (f_X12_end o x1 S) := by
  unfold f_X12_end
  refine g_aload_n hO d_X12_end_0 (by rfl) 0 rfl ?_
  refine g_iconst hO 0 d_X12_end_1 (by decide) ?_
  refine h_putI hO cl_X12 0 rfl rfl wf_X12_100 (Or.inl rfl) d_X12_end_2 (fun S1 => ?_)
  refine g_iload_n hO d_X12_end_5 (by rfl) 1 rfl ?_
  refine g_iconst hO 0 d_X12_end_6 (by decide) ?_
  refine g_aload_n hO d_X12_end_7 (by rfl) 0 rfl ?_
  refine h_getR hO cl_X12 2 rfl wf_X12_13 d_X12_end_8 (fun v2 => ?_)
  refine g_iconst hO 0 d_X12_end_11 (by decide) ?_
  refine h_iald hO d_X12_end_12 (fun v3 => ?_)
  refine k_statIp hO mm_X12_in lkS_X12_112 ⟨⟨Nat.le_of_ble_eq_true rfl, Nat.le_of_ble_eq_true rfl⟩, Nat.le_of_ble_eq_true rfl, Nat.le_of_ble_eq_true rfl⟩ (kn' := (0, 0)) rfl (As := [vI x1, vI 0, vI v3]) rfl (Nat.le_of_ble_eq_true rfl) (t_X12_in Γ.2.1 E x1 0 v3 S1) d_X12_end_13 rfl (fun v4 => ?_)
  refine g_if_ne (tgt := 21) hO d_X12_end_16.1 d_X12_end_16.2 (fun _ => ?_) (fun _ => ?_)
  · skip
    refine g_iconst hO (-1) d_X12_end_19 (by decide) ?_
    exact g_ret hO rfl rfl ⟨Nat.le_of_ble_eq_true rfl, Nat.le_of_ble_eq_true rfl⟩ rfl rfl d_X12_end_20.1
  · skip
    refine g_aload_n hO d_X12_end_21 (by rfl) 0 rfl ?_
    refine h_getR hO cl_X12 2 rfl wf_X12_13 d_X12_end_22 (fun v6 => ?_)
    refine g_iconst hO 0 d_X12_end_25 (by decide) ?_
    refine g_iload_n hO d_X12_end_26 (by rfl) 1 rfl ?_
    refine h_iast hO d_X12_end_27 (fun S7 => ?_)
    refine g_iload_n hO d_X12_end_28 (by rfl) 1 rfl ?_
    exact g_ret hO rfl rfl ⟨Nat.le_of_ble_eq_true rfl, Nat.le_of_ble_eq_true rfl⟩ rfl rfl d_X12_end_29.1
theorem t_X12_end (l : Launch) (E : GE) (o : Nat) (x1 : Int32) (S : GS) : ∀ a, f_X12_end o x1 S = some a → Ct l E yX12_end cX12_end 2 (some .int) rm_X12_end [vA (some o), vI x1] S (some (vI a.1)) a.2 :=
  Ct_of (val := fun (b : Int32 × GS) => some (vI b.1)) (nxt := fun (b : Int32 × GS) => b.2) (by decide) (Nat.le_of_ble_eq_true rfl) (fun Γ hl hO => w_X12_end hO o x1 S)
theorem d_X12_see_0 : gD cX12_see 0 (.aload_n 0) 1 1 := ⟨by decide +kernel, rfl⟩
theorem d_X12_see_1 : gD cX12_see 1 (.getfield 120) 3 4 := ⟨by decide +kernel, rfl⟩
theorem d_X12_see_4 : gD cX12_see 4 (.aload_n 0) 1 5 := ⟨by decide +kernel, rfl⟩
theorem d_X12_see_5 : gD cX12_see 5 (.getfield 123) 3 8 := ⟨by decide +kernel, rfl⟩
theorem d_X12_see_8 : gD cX12_see 8 (.if_icmp .ge 19) 3 11 ∧ ((8 : Nat) : Int) + 19 = ((27 : Nat) : Int) := ⟨⟨by decide +kernel, rfl⟩, by decide⟩
theorem d_X12_see_11 : gD cX12_see 11 (.aload_n 0) 1 12 := ⟨by decide +kernel, rfl⟩
theorem d_X12_see_12 : gD cX12_see 12 (.getfield 7) 3 15 := ⟨by decide +kernel, rfl⟩
theorem d_X12_see_15 : gD cX12_see 15 (.aload_n 0) 1 16 := ⟨by decide +kernel, rfl⟩
theorem d_X12_see_16 : gD cX12_see 16 (.getfield 120) 3 19 := ⟨by decide +kernel, rfl⟩
theorem d_X12_see_19 : gD cX12_see 19 (.baload) 1 20 := ⟨by decide +kernel, rfl⟩
theorem d_X12_see_20 : gD cX12_see 20 (.sipush 255) 3 23 := ⟨by decide +kernel, rfl⟩
theorem d_X12_see_23 : gD cX12_see 23 (.iand) 1 24 := ⟨by decide +kernel, rfl⟩
theorem d_X12_see_24 : decode cX12_see 24 = .ok (.goto 4, 3) ∧ ((24 : Nat) : Int) + 4 = ((28 : Nat) : Int) := ⟨by decide +kernel, by decide⟩
theorem d_X12_see_27 : gD cX12_see 27 (.iconst (-1)) 1 28 := ⟨by decide +kernel, rfl⟩
theorem d_X12_see_28 : gD cX12_see 28 (.ireturn) 1 29 := ⟨by decide +kernel, rfl⟩
abbrev rm_X12_see : Room := { frames := 0, cells := 0, slots := 0, locals := 0 }
set_option maxRecDepth 20000 in
theorem w_X12_see {Γ : GC} {E : GE} (hO : gOk Γ E cX12_see RX12 1 rm_X12_see (some .int) "see") (o : Nat) (S : GS) : Go Γ E (gBpI Γ E S) 1 (0, 0) 0 S [(0, vA (some o))] [] (f_X12_see o S) := by
  unfold f_X12_see
  refine g_aload_n hO d_X12_see_0 (by rfl) 0 rfl ?_
  refine h_getI hO cl_X12 12 rfl wf_X12_120 d_X12_see_1 (fun v1 => ?_)
  refine g_aload_n hO d_X12_see_4 (by rfl) 0 rfl ?_
  refine h_getI hO cl_X12 13 rfl wf_X12_123 d_X12_see_5 (fun v2 => ?_)
  refine g_ic_ge (tgt := 27) hO d_X12_see_8.1 d_X12_see_8.2 (fun _ => ?_) (fun _ => ?_)
  · skip
    refine g_iconst hO (-1) d_X12_see_27 (by decide) ?_
    exact g_ret hO rfl rfl ⟨Nat.le_of_ble_eq_true rfl, Nat.le_of_ble_eq_true rfl⟩ rfl rfl d_X12_see_28.1
  · skip
    refine g_aload_n hO d_X12_see_11 (by rfl) 0 rfl ?_
    refine h_getR hO cl_X12 1 rfl wf_X12_7 d_X12_see_12 (fun v3 => ?_)
    refine g_aload_n hO d_X12_see_15 (by rfl) 0 rfl ?_
    refine h_getI hO cl_X12 12 rfl wf_X12_120 d_X12_see_16 (fun v4 => ?_)
    refine h_bald hO d_X12_see_19 (fun v5 => ?_)
    refine g_sipush hO 255 d_X12_see_20 (by decide) ?_
    refine g_iand hO d_X12_see_23 ?_
    refine g_goto (tgt := 28) hO d_X12_see_24.1 d_X12_see_24.2 ?_
    exact g_ret hO rfl rfl ⟨Nat.le_of_ble_eq_true rfl, Nat.le_of_ble_eq_true rfl⟩ rfl rfl d_X12_see_28.1
theorem t_X12_see (l : Launch) (E : GE) (o : Nat) (S : GS) : ∀ a, f_X12_see o S = some a → Ct l E yX12_see cX12_see 1 (some .int) rm_X12_see [vA (some o)] S (some (vI a)) S :=
  Ct_of (val := fun b => some (vI b)) (nxt := fun _ => S) (by decide) (Nat.le_of_ble_eq_true rfl) (fun Γ hl hO => w_X12_see hO o S)
theorem d_X12_token_0 : gD cX12_token 0 (.aload_n 0) 1 1 := ⟨by decide +kernel, rfl⟩
theorem d_X12_token_1 : gD cX12_token 1 (.invokevirtual 126) 3 4 := ⟨by decide +kernel, rfl⟩
theorem d_X12_token_4 : gD cX12_token 4 (.bipush 10) 2 6 := ⟨by decide +kernel, rfl⟩
theorem d_X12_token_6 : gD cX12_token 6 (.if_icmp .eq 12) 3 9 ∧ ((6 : Nat) : Int) + 12 = ((18 : Nat) : Int) := ⟨⟨by decide +kernel, rfl⟩, by decide⟩
theorem d_X12_token_9 : gD cX12_token 9 (.aload_n 0) 1 10 := ⟨by decide +kernel, rfl⟩
theorem d_X12_token_10 : gD cX12_token 10 (.invokevirtual 126) 3 13 := ⟨by decide +kernel, rfl⟩
theorem d_X12_token_13 : gD cX12_token 13 (.bipush 32) 2 15 := ⟨by decide +kernel, rfl⟩
theorem d_X12_token_15 : gD cX12_token 15 (.if_icmp .ne 16) 3 18 ∧ ((15 : Nat) : Int) + 16 = ((31 : Nat) : Int) := ⟨⟨by decide +kernel, rfl⟩, by decide⟩
theorem d_X12_token_18 : gD cX12_token 18 (.aload_n 0) 1 19 := ⟨by decide +kernel, rfl⟩
theorem d_X12_token_19 : gD cX12_token 19 (.dup) 1 20 := ⟨by decide +kernel, rfl⟩
theorem d_X12_token_20 : gD cX12_token 20 (.getfield 120) 3 23 := ⟨by decide +kernel, rfl⟩
theorem d_X12_token_23 : gD cX12_token 23 (.iconst 1) 1 24 := ⟨by decide +kernel, rfl⟩
theorem d_X12_token_24 : gD cX12_token 24 (.iadd) 1 25 := ⟨by decide +kernel, rfl⟩
theorem d_X12_token_25 : gD cX12_token 25 (.putfield 120) 3 28 := ⟨by decide +kernel, rfl⟩
theorem d_X12_token_28 : decode cX12_token 28 = .ok (.goto (-28), 3) ∧ ((28 : Nat) : Int) + (-28) = ((0 : Nat) : Int) := ⟨by decide +kernel, by decide⟩
theorem d_X12_token_31 : gD cX12_token 31 (.aload_n 0) 1 32 := ⟨by decide +kernel, rfl⟩
theorem d_X12_token_32 : gD cX12_token 32 (.aload_n 0) 1 33 := ⟨by decide +kernel, rfl⟩
theorem d_X12_token_33 : gD cX12_token 33 (.getfield 120) 3 36 := ⟨by decide +kernel, rfl⟩
theorem d_X12_token_36 : gD cX12_token 36 (.putfield 130) 3 39 := ⟨by decide +kernel, rfl⟩
theorem d_X12_token_39 : gD cX12_token 39 (.aload_n 0) 1 40 := ⟨by decide +kernel, rfl⟩
theorem d_X12_token_40 : gD cX12_token 40 (.invokevirtual 126) 3 43 := ⟨by decide +kernel, rfl⟩
theorem d_X12_token_43 : gD cX12_token 43 (.istore_n 1) 1 44 := ⟨by decide +kernel, rfl⟩
theorem d_X12_token_44 : gD cX12_token 44 (.aload_n 0) 1 45 := ⟨by decide +kernel, rfl⟩
theorem d_X12_token_45 : gD cX12_token 45 (.lconst 0) 1 46 := ⟨by decide +kernel, rfl⟩
theorem d_X12_token_46 : gD cX12_token 46 (.putfield 133) 3 49 := ⟨by decide +kernel, rfl⟩
theorem d_X12_token_49 : gD cX12_token 49 (.iconst 0) 1 50 := ⟨by decide +kernel, rfl⟩
theorem d_X12_token_50 : gD cX12_token 50 (.istore_n 2) 1 51 := ⟨by decide +kernel, rfl⟩
theorem d_X12_token_51 : gD cX12_token 51 (.iload_n 1) 1 52 := ⟨by decide +kernel, rfl⟩
theorem d_X12_token_52 : gD cX12_token 52 (.ifCond .ge 11) 3 55 ∧ ((52 : Nat) : Int) + 11 = ((63 : Nat) : Int) := ⟨⟨by decide +kernel, rfl⟩, by decide⟩
theorem d_X12_token_55 : gD cX12_token 55 (.aload_n 0) 1 56 := ⟨by decide +kernel, rfl⟩
theorem d_X12_token_56 : gD cX12_token 56 (.iconst 0) 1 57 := ⟨by decide +kernel, rfl⟩
theorem d_X12_token_57 : gD cX12_token 57 (.putfield 137) 3 60 := ⟨by decide +kernel, rfl⟩
theorem d_X12_token_60 : decode cX12_token 60 = .ok (.goto 206, 3) ∧ ((60 : Nat) : Int) + 206 = ((266 : Nat) : Int) := ⟨by decide +kernel, by decide⟩
theorem d_X12_token_63 : gD cX12_token 63 (.iload_n 1) 1 64 := ⟨by decide +kernel, rfl⟩
theorem d_X12_token_64 : gD cX12_token 64 (.bipush 97) 2 66 := ⟨by decide +kernel, rfl⟩
theorem d_X12_token_66 : gD cX12_token 66 (.bipush 122) 2 68 := ⟨by decide +kernel, rfl⟩
theorem d_X12_token_68 : gD cX12_token 68 (.invokestatic 112) 3 71 := ⟨by decide +kernel, rfl⟩
theorem d_X12_token_71 : gD cX12_token 71 (.ifCond .eq 76) 3 74 ∧ ((71 : Nat) : Int) + 76 = ((147 : Nat) : Int) := ⟨⟨by decide +kernel, rfl⟩, by decide⟩
theorem d_X12_token_74 : gD cX12_token 74 (.aload_n 0) 1 75 := ⟨by decide +kernel, rfl⟩
theorem d_X12_token_75 : gD cX12_token 75 (.invokevirtual 126) 3 78 := ⟨by decide +kernel, rfl⟩
theorem d_X12_token_78 : gD cX12_token 78 (.bipush 97) 2 80 := ⟨by decide +kernel, rfl⟩
theorem d_X12_token_80 : gD cX12_token 80 (.bipush 122) 2 82 := ⟨by decide +kernel, rfl⟩
theorem d_X12_token_82 : gD cX12_token 82 (.invokestatic 112) 3 85 := ⟨by decide +kernel, rfl⟩
theorem d_X12_token_85 : gD cX12_token 85 (.ifCond .eq 36) 3 88 ∧ ((85 : Nat) : Int) + 36 = ((121 : Nat) : Int) := ⟨⟨by decide +kernel, rfl⟩, by decide⟩
theorem d_X12_token_88 : gD cX12_token 88 (.aload_n 0) 1 89 := ⟨by decide +kernel, rfl⟩
theorem d_X12_token_89 : gD cX12_token 89 (.aload_n 0) 1 90 := ⟨by decide +kernel, rfl⟩
theorem d_X12_token_90 : gD cX12_token 90 (.getfield 133) 3 93 := ⟨by decide +kernel, rfl⟩
theorem d_X12_token_93 : gD cX12_token 93 (.bipush 8) 2 95 := ⟨by decide +kernel, rfl⟩
theorem d_X12_token_95 : gD cX12_token 95 (.lshl) 1 96 := ⟨by decide +kernel, rfl⟩
theorem d_X12_token_96 : gD cX12_token 96 (.aload_n 0) 1 97 := ⟨by decide +kernel, rfl⟩
theorem d_X12_token_97 : gD cX12_token 97 (.invokevirtual 126) 3 100 := ⟨by decide +kernel, rfl⟩
theorem d_X12_token_100 : gD cX12_token 100 (.i2l) 1 101 := ⟨by decide +kernel, rfl⟩
theorem d_X12_token_101 : gD cX12_token 101 (.lor) 1 102 := ⟨by decide +kernel, rfl⟩
theorem d_X12_token_102 : gD cX12_token 102 (.putfield 133) 3 105 := ⟨by decide +kernel, rfl⟩
theorem d_X12_token_105 : gD cX12_token 105 (.aload_n 0) 1 106 := ⟨by decide +kernel, rfl⟩
theorem d_X12_token_106 : gD cX12_token 106 (.dup) 1 107 := ⟨by decide +kernel, rfl⟩
theorem d_X12_token_107 : gD cX12_token 107 (.getfield 120) 3 110 := ⟨by decide +kernel, rfl⟩
theorem d_X12_token_110 : gD cX12_token 110 (.iconst 1) 1 111 := ⟨by decide +kernel, rfl⟩
theorem d_X12_token_111 : gD cX12_token 111 (.iadd) 1 112 := ⟨by decide +kernel, rfl⟩
theorem d_X12_token_112 : gD cX12_token 112 (.putfield 120) 3 115 := ⟨by decide +kernel, rfl⟩
theorem d_X12_token_115 : gD cX12_token 115 (.iinc 2 1) 3 118 := ⟨by decide +kernel, rfl⟩
theorem d_X12_token_118 : decode cX12_token 118 = .ok (.goto (-44), 3) ∧ ((118 : Nat) : Int) + (-44) = ((74 : Nat) : Int) := ⟨by decide +kernel, by decide⟩
theorem d_X12_token_121 : gD cX12_token 121 (.aload_n 0) 1 122 := ⟨by decide +kernel, rfl⟩
theorem d_X12_token_122 : gD cX12_token 122 (.iload_n 2) 1 123 := ⟨by decide +kernel, rfl⟩
theorem d_X12_token_123 : gD cX12_token 123 (.bipush 8) 2 125 := ⟨by decide +kernel, rfl⟩
theorem d_X12_token_125 : gD cX12_token 125 (.if_icmp .le 7) 3 128 ∧ ((125 : Nat) : Int) + 7 = ((132 : Nat) : Int) := ⟨⟨by decide +kernel, rfl⟩, by decide⟩
theorem d_X12_token_128 : gD cX12_token 128 (.lconst 0) 1 129 := ⟨by decide +kernel, rfl⟩
theorem d_X12_token_129 : decode cX12_token 129 = .ok (.goto 7, 3) ∧ ((129 : Nat) : Int) + 7 = ((136 : Nat) : Int) := ⟨by decide +kernel, by decide⟩
theorem d_X12_token_132 : gD cX12_token 132 (.aload_n 0) 1 133 := ⟨by decide +kernel, rfl⟩
theorem d_X12_token_133 : gD cX12_token 133 (.getfield 133) 3 136 := ⟨by decide +kernel, rfl⟩
theorem d_X12_token_136 : gD cX12_token 136 (.putfield 133) 3 139 := ⟨by decide +kernel, rfl⟩
theorem d_X12_token_139 : gD cX12_token 139 (.aload_n 0) 1 140 := ⟨by decide +kernel, rfl⟩
theorem d_X12_token_140 : gD cX12_token 140 (.iconst 2) 1 141 := ⟨by decide +kernel, rfl⟩
theorem d_X12_token_141 : gD cX12_token 141 (.putfield 137) 3 144 := ⟨by decide +kernel, rfl⟩
theorem d_X12_token_144 : decode cX12_token 144 = .ok (.goto 122, 3) ∧ ((144 : Nat) : Int) + 122 = ((266 : Nat) : Int) := ⟨by decide +kernel, by decide⟩
theorem d_X12_token_147 : gD cX12_token 147 (.iload_n 1) 1 148 := ⟨by decide +kernel, rfl⟩
theorem d_X12_token_148 : gD cX12_token 148 (.bipush 48) 2 150 := ⟨by decide +kernel, rfl⟩
theorem d_X12_token_150 : gD cX12_token 150 (.bipush 57) 2 152 := ⟨by decide +kernel, rfl⟩
theorem d_X12_token_152 : gD cX12_token 152 (.invokestatic 112) 3 155 := ⟨by decide +kernel, rfl⟩
theorem d_X12_token_155 : gD cX12_token 155 (.ifCond .eq 86) 3 158 ∧ ((155 : Nat) : Int) + 86 = ((241 : Nat) : Int) := ⟨⟨by decide +kernel, rfl⟩, by decide⟩
theorem d_X12_token_158 : gD cX12_token 158 (.aload_n 0) 1 159 := ⟨by decide +kernel, rfl⟩
theorem d_X12_token_159 : gD cX12_token 159 (.iconst 0) 1 160 := ⟨by decide +kernel, rfl⟩
theorem d_X12_token_160 : gD cX12_token 160 (.putfield 140) 3 163 := ⟨by decide +kernel, rfl⟩
theorem d_X12_token_163 : gD cX12_token 163 (.aload_n 0) 1 164 := ⟨by decide +kernel, rfl⟩
theorem d_X12_token_164 : gD cX12_token 164 (.invokevirtual 126) 3 167 := ⟨by decide +kernel, rfl⟩
theorem d_X12_token_167 : gD cX12_token 167 (.bipush 48) 2 169 := ⟨by decide +kernel, rfl⟩
theorem d_X12_token_169 : gD cX12_token 169 (.bipush 57) 2 171 := ⟨by decide +kernel, rfl⟩
theorem d_X12_token_171 : gD cX12_token 171 (.invokestatic 112) 3 174 := ⟨by decide +kernel, rfl⟩
theorem d_X12_token_174 : gD cX12_token 174 (.ifCond .eq 50) 3 177 ∧ ((174 : Nat) : Int) + 50 = ((224 : Nat) : Int) := ⟨⟨by decide +kernel, rfl⟩, by decide⟩
theorem d_X12_token_177 : gD cX12_token 177 (.aload_n 0) 1 178 := ⟨by decide +kernel, rfl⟩
theorem d_X12_token_178 : gD cX12_token 178 (.iload_n 2) 1 179 := ⟨by decide +kernel, rfl⟩
theorem d_X12_token_179 : gD cX12_token 179 (.iconst 2) 1 180 := ⟨by decide +kernel, rfl⟩
theorem d_X12_token_180 : gD cX12_token 180 (.if_icmp .ge 21) 3 183 ∧ ((180 : Nat) : Int) + 21 = ((201 : Nat) : Int) := ⟨⟨by decide +kernel, rfl⟩, by decide⟩
theorem d_X12_token_183 : gD cX12_token 183 (.bipush 10) 2 185 := ⟨by decide +kernel, rfl⟩
theorem d_X12_token_185 : gD cX12_token 185 (.aload_n 0) 1 186 := ⟨by decide +kernel, rfl⟩
theorem d_X12_token_186 : gD cX12_token 186 (.getfield 140) 3 189 := ⟨by decide +kernel, rfl⟩
theorem d_X12_token_189 : gD cX12_token 189 (.imul) 1 190 := ⟨by decide +kernel, rfl⟩
theorem d_X12_token_190 : gD cX12_token 190 (.aload_n 0) 1 191 := ⟨by decide +kernel, rfl⟩
theorem d_X12_token_191 : gD cX12_token 191 (.invokevirtual 126) 3 194 := ⟨by decide +kernel, rfl⟩
theorem d_X12_token_194 : gD cX12_token 194 (.iadd) 1 195 := ⟨by decide +kernel, rfl⟩
theorem d_X12_token_195 : gD cX12_token 195 (.bipush 48) 2 197 := ⟨by decide +kernel, rfl⟩
theorem d_X12_token_197 : gD cX12_token 197 (.isub) 1 198 := ⟨by decide +kernel, rfl⟩
theorem d_X12_token_198 : decode cX12_token 198 = .ok (.goto 7, 3) ∧ ((198 : Nat) : Int) + 7 = ((205 : Nat) : Int) := ⟨by decide +kernel, by decide⟩
theorem d_X12_token_201 : gD cX12_token 201 (.aload_n 0) 1 202 := ⟨by decide +kernel, rfl⟩
theorem d_X12_token_202 : gD cX12_token 202 (.getfield 140) 3 205 := ⟨by decide +kernel, rfl⟩
theorem d_X12_token_205 : gD cX12_token 205 (.putfield 140) 3 208 := ⟨by decide +kernel, rfl⟩
theorem d_X12_token_208 : gD cX12_token 208 (.aload_n 0) 1 209 := ⟨by decide +kernel, rfl⟩
theorem d_X12_token_209 : gD cX12_token 209 (.dup) 1 210 := ⟨by decide +kernel, rfl⟩
theorem d_X12_token_210 : gD cX12_token 210 (.getfield 120) 3 213 := ⟨by decide +kernel, rfl⟩
theorem d_X12_token_213 : gD cX12_token 213 (.iconst 1) 1 214 := ⟨by decide +kernel, rfl⟩
theorem d_X12_token_214 : gD cX12_token 214 (.iadd) 1 215 := ⟨by decide +kernel, rfl⟩
theorem d_X12_token_215 : gD cX12_token 215 (.putfield 120) 3 218 := ⟨by decide +kernel, rfl⟩
theorem d_X12_token_218 : gD cX12_token 218 (.iinc 2 1) 3 221 := ⟨by decide +kernel, rfl⟩
theorem d_X12_token_221 : decode cX12_token 221 = .ok (.goto (-58), 3) ∧ ((221 : Nat) : Int) + (-58) = ((163 : Nat) : Int) := ⟨by decide +kernel, by decide⟩
theorem d_X12_token_224 : gD cX12_token 224 (.aload_n 0) 1 225 := ⟨by decide +kernel, rfl⟩
theorem d_X12_token_225 : gD cX12_token 225 (.iload_n 2) 1 226 := ⟨by decide +kernel, rfl⟩
theorem d_X12_token_226 : gD cX12_token 226 (.iconst 2) 1 227 := ⟨by decide +kernel, rfl⟩
theorem d_X12_token_227 : gD cX12_token 227 (.if_icmp .le 7) 3 230 ∧ ((227 : Nat) : Int) + 7 = ((234 : Nat) : Int) := ⟨⟨by decide +kernel, rfl⟩, by decide⟩
theorem d_X12_token_230 : gD cX12_token 230 (.iconst 1) 1 231 := ⟨by decide +kernel, rfl⟩
theorem d_X12_token_231 : decode cX12_token 231 = .ok (.goto 4, 3) ∧ ((231 : Nat) : Int) + 4 = ((235 : Nat) : Int) := ⟨by decide +kernel, by decide⟩
theorem d_X12_token_234 : gD cX12_token 234 (.iconst 3) 1 235 := ⟨by decide +kernel, rfl⟩
theorem d_X12_token_235 : gD cX12_token 235 (.putfield 137) 3 238 := ⟨by decide +kernel, rfl⟩
theorem d_X12_token_238 : decode cX12_token 238 = .ok (.goto 28, 3) ∧ ((238 : Nat) : Int) + 28 = ((266 : Nat) : Int) := ⟨by decide +kernel, by decide⟩
theorem d_X12_token_241 : gD cX12_token 241 (.aload_n 0) 1 242 := ⟨by decide +kernel, rfl⟩
theorem d_X12_token_242 : gD cX12_token 242 (.dup) 1 243 := ⟨by decide +kernel, rfl⟩
theorem d_X12_token_243 : gD cX12_token 243 (.getfield 120) 3 246 := ⟨by decide +kernel, rfl⟩
theorem d_X12_token_246 : gD cX12_token 246 (.iconst 1) 1 247 := ⟨by decide +kernel, rfl⟩
theorem d_X12_token_247 : gD cX12_token 247 (.iadd) 1 248 := ⟨by decide +kernel, rfl⟩
theorem d_X12_token_248 : gD cX12_token 248 (.putfield 120) 3 251 := ⟨by decide +kernel, rfl⟩
theorem d_X12_token_251 : gD cX12_token 251 (.aload_n 0) 1 252 := ⟨by decide +kernel, rfl⟩
theorem d_X12_token_252 : gD cX12_token 252 (.iload_n 1) 1 253 := ⟨by decide +kernel, rfl⟩
theorem d_X12_token_253 : gD cX12_token 253 (.bipush 59) 2 255 := ⟨by decide +kernel, rfl⟩
theorem d_X12_token_255 : gD cX12_token 255 (.if_icmp .ne 7) 3 258 ∧ ((255 : Nat) : Int) + 7 = ((262 : Nat) : Int) := ⟨⟨by decide +kernel, rfl⟩, by decide⟩
theorem d_X12_token_258 : gD cX12_token 258 (.iconst 4) 1 259 := ⟨by decide +kernel, rfl⟩
theorem d_X12_token_259 : decode cX12_token 259 = .ok (.goto 4, 3) ∧ ((259 : Nat) : Int) + 4 = ((263 : Nat) : Int) := ⟨by decide +kernel, by decide⟩
theorem d_X12_token_262 : gD cX12_token 262 (.iconst 1) 1 263 := ⟨by decide +kernel, rfl⟩
theorem d_X12_token_263 : gD cX12_token 263 (.putfield 137) 3 266 := ⟨by decide +kernel, rfl⟩
theorem d_X12_token_266 : gD cX12_token 266 (.return_) 1 267 := ⟨by decide +kernel, rfl⟩
abbrev rm_X12_token : Room := { frames := 1, cells := 0, slots := 0, locals := 22 }
set_option maxRecDepth 20000 in
theorem w_X12_token_18 {Γ : GC} {E : GE} (hO : gOk Γ E cX12_token RX12 3 rm_X12_token none "token") (o : Nat) {k0 : (GS → Option GS)} (hk0 : ∀ (S1 : GS), Go Γ E (gBsV Γ E) 3 (0, 0) 0 S1 [(0, vA (some o))] [] (k0 S1)) (S : GS) : Go Γ E (gBsV Γ E) 3 (0, 0) 18 S [(0, vA (some o))] [] (f_X12_token_18 k0 o S) := by
  unfold f_X12_token_18
  refine g_aload_n hO d_X12_token_18 (by rfl) 0 rfl ?_
  refine g_dup hO d_X12_token_19 rfl ?_
  refine h_getI hO cl_X12 12 rfl wf_X12_120 d_X12_token_20 (fun v1 => ?_)
  refine g_iconst hO 1 d_X12_token_23 (by decide) ?_
  refine g_iadd hO d_X12_token_24 ?_
  refine h_putI hO cl_X12 12 rfl rfl wf_X12_120 (Or.inl rfl) d_X12_token_25 (fun S2 => ?_)
  refine g_goto (tgt := 0) hO d_X12_token_28.1 d_X12_token_28.2 ?_
  exact g_sub [0] rfl (hk0 _)
set_option maxRecDepth 20000 in
theorem w_X12_token_136 {Γ : GC} {E : GE} (hO : gOk Γ E cX12_token RX12 3 rm_X12_token none "token") (o : Nat) (y0 : Option Nat) (y1 : Int64) (S : GS) : Go Γ E (gBsV Γ E) 3 (0, 0) 136 S [(0, vA (some o))] [vJ y1, vA y0] (f_X12_token_136 o y0 y1 S) := by
  unfold f_X12_token_136
  refine h_putJ hO cl_X12 17 rfl rfl wf_X12_133 (Or.inl rfl) d_X12_token_136 (fun S1 => ?_)
  refine g_aload_n hO d_X12_token_139 (by rfl) 0 rfl ?_
  refine g_iconst hO 2 d_X12_token_140 (by decide) ?_
  refine h_putI hO cl_X12 15 rfl rfl wf_X12_137 (Or.inl rfl) d_X12_token_141 (fun S2 => ?_)
  refine g_goto (tgt := 266) hO d_X12_token_144.1 d_X12_token_144.2 ?_
  exact g_vret hO rfl ⟨Nat.le_of_ble_eq_true rfl, Nat.le_of_ble_eq_true rfl⟩ rfl rfl d_X12_token_266.1
set_option maxRecDepth 20000 in
theorem w_X12_token_74 {Γ : GC} {E : GE} (hO : gOk Γ E cX12_token RX12 3 rm_X12_token none "token") (o : Nat) : ∀ (n : Nat) (x2 : Int32) (S : GS), Go Γ E (gBsV Γ E) 3 (0, 0) 74 S [(0, vA (some o)), (2, vI x2)] [] (f_X12_token_74 o n x2 S) := by
  intro n
  induction n with
  | zero =>
    intro x2 S
    exact g_none
  | succ n ih =>
    intro x2 S
    rw [f_X12_token_74]
    refine g_aload_n hO d_X12_token_74 (by rfl) 0 rfl ?_
    refine k_virtIp hO cl_X12 mm_X12_see lkV_X12_126 ⟨⟨Nat.le_of_ble_eq_true rfl, Nat.le_of_ble_eq_true rfl⟩, Nat.le_of_ble_eq_true rfl, Nat.le_of_ble_eq_true rfl⟩ (kn' := (0, 0)) rfl (As := []) rfl (Nat.le_of_ble_eq_true rfl) (fun o' _ => t_X12_see Γ.2.1 E o' S) d_X12_token_75 rfl (fun v1 => ?_)
    refine g_bipush hO 97 d_X12_token_78 (by decide) ?_
    refine g_bipush hO 122 d_X12_token_80 (by decide) ?_
    refine k_statIp hO mm_X12_in lkS_X12_112 ⟨⟨Nat.le_of_ble_eq_true rfl, Nat.le_of_ble_eq_true rfl⟩, Nat.le_of_ble_eq_true rfl, Nat.le_of_ble_eq_true rfl⟩ (kn' := (0, 0)) rfl (As := [vI v1, vI 97, vI 122]) rfl (Nat.le_of_ble_eq_true rfl) (t_X12_in Γ.2.1 E v1 97 122 S) d_X12_token_82 rfl (fun v3 => ?_)
    refine g_if_eq (tgt := 121) hO d_X12_token_85.1 d_X12_token_85.2 (fun _ => ?_) (fun _ => ?_)
    · skip
      refine g_aload_n hO d_X12_token_121 (by rfl) 0 rfl ?_
      refine g_iload_n hO d_X12_token_122 (by rfl) 1 rfl ?_
      refine g_bipush hO 8 d_X12_token_123 (by decide) ?_
      refine g_ic_le (tgt := 132) hO d_X12_token_125.1 d_X12_token_125.2 (fun _ => ?_) (fun _ => ?_)
      · skip
        refine g_aload_n hO d_X12_token_132 (by rfl) 0 rfl ?_
        refine h_getJ hO cl_X12 17 rfl wf_X12_133 d_X12_token_133 (fun v5 => ?_)
        exact g_sub [0] rfl (w_X12_token_136 hO o _ _ _)
      · skip
        refine g_lconst hO 0 d_X12_token_128 (by decide) ?_
        refine g_goto (tgt := 136) hO d_X12_token_129.1 d_X12_token_129.2 ?_
        exact g_sub [0] rfl (w_X12_token_136 hO o _ _ _)
    · skip
      refine g_aload_n hO d_X12_token_88 (by rfl) 0 rfl ?_
      refine g_aload_n hO d_X12_token_89 (by rfl) 0 rfl ?_
      refine h_getJ hO cl_X12 17 rfl wf_X12_133 d_X12_token_90 (fun v6 => ?_)
      refine g_bipush hO 8 d_X12_token_93 (by decide) ?_
      refine g_lshl hO d_X12_token_95 ?_
      refine g_aload_n hO d_X12_token_96 (by rfl) 0 rfl ?_
      refine k_virtIp hO cl_X12 mm_X12_see lkV_X12_126 ⟨⟨Nat.le_of_ble_eq_true rfl, Nat.le_of_ble_eq_true rfl⟩, Nat.le_of_ble_eq_true rfl, Nat.le_of_ble_eq_true rfl⟩ (kn' := (0, 0)) rfl (As := []) rfl (Nat.le_of_ble_eq_true rfl) (fun o' _ => t_X12_see Γ.2.1 E o' S) d_X12_token_97 rfl (fun v7 => ?_)
      refine g_i2l hO d_X12_token_100 ?_
      refine g_lor hO d_X12_token_101 ?_
      refine h_putJ hO cl_X12 17 rfl rfl wf_X12_133 (Or.inl rfl) d_X12_token_102 (fun S9 => ?_)
      refine g_aload_n hO d_X12_token_105 (by rfl) 0 rfl ?_
      refine g_dup hO d_X12_token_106 rfl ?_
      refine h_getI hO cl_X12 12 rfl wf_X12_120 d_X12_token_107 (fun v10 => ?_)
      refine g_iconst hO 1 d_X12_token_110 (by decide) ?_
      refine g_iadd hO d_X12_token_111 ?_
      refine h_putI hO cl_X12 12 rfl rfl wf_X12_120 (Or.inl rfl) d_X12_token_112 (fun S11 => ?_)
      refine g_iinc (lv' := [(2, vI (x2 + 1)), (0, vA (some o))]) hO 1 d_X12_token_115 (by decide) 1 rfl (by decide) rfl ?_
      refine g_goto (tgt := 74) hO d_X12_token_118.1 d_X12_token_118.2 ?_
      exact g_sub [1, 0] rfl (ih _ _)
set_option maxRecDepth 20000 in
theorem w_X12_token_205 {Γ : GC} {E : GE} (hO : gOk Γ E cX12_token RX12 3 rm_X12_token none "token") (o : Nat) {k163 : (Int32 → GS → Option GS)} (hk163 : ∀ (z2 : Int32) (S1 : GS), Go Γ E (gBsV Γ E) 3 (0, 0) 163 S1 [(0, vA (some o)), (2, vI z2)] [] (k163 z2 S1)) (x2 : Int32) (y0 : Option Nat) (y1 : Int32) (S : GS) : Go Γ E (gBsV Γ E) 3 (0, 0) 205 S [(0, vA (some o)), (2, vI x2)] [vI y1, vA y0] (f_X12_token_205 k163 o x2 y0 y1 S) := by
  unfold f_X12_token_205
  refine h_putI hO cl_X12 16 rfl rfl wf_X12_140 (Or.inl rfl) d_X12_token_205 (fun S1 => ?_)
  refine g_aload_n hO d_X12_token_208 (by rfl) 0 rfl ?_
  refine g_dup hO d_X12_token_209 rfl ?_
  refine h_getI hO cl_X12 12 rfl wf_X12_120 d_X12_token_210 (fun v2 => ?_)
  refine g_iconst hO 1 d_X12_token_213 (by decide) ?_
  refine g_iadd hO d_X12_token_214 ?_
  refine h_putI hO cl_X12 12 rfl rfl wf_X12_120 (Or.inl rfl) d_X12_token_215 (fun S3 => ?_)
  refine g_iinc (lv' := [(2, vI (x2 + 1)), (0, vA (some o))]) hO 1 d_X12_token_218 (by decide) 1 rfl (by decide) rfl ?_
  refine g_goto (tgt := 163) hO d_X12_token_221.1 d_X12_token_221.2 ?_
  exact g_sub [1, 0] rfl (hk163 _ _)
set_option maxRecDepth 20000 in
theorem w_X12_token_235 {Γ : GC} {E : GE} (hO : gOk Γ E cX12_token RX12 3 rm_X12_token none "token") (o : Nat) (y0 : Option Nat) (y1 : Int32) (S : GS) : Go Γ E (gBsV Γ E) 3 (0, 0) 235 S [(0, vA (some o))] [vI y1, vA y0] (f_X12_token_235 o y0 y1 S) := by
  unfold f_X12_token_235
  refine h_putI hO cl_X12 15 rfl rfl wf_X12_137 (Or.inl rfl) d_X12_token_235 (fun S1 => ?_)
  refine g_goto (tgt := 266) hO d_X12_token_238.1 d_X12_token_238.2 ?_
  exact g_vret hO rfl ⟨Nat.le_of_ble_eq_true rfl, Nat.le_of_ble_eq_true rfl⟩ rfl rfl d_X12_token_266.1
set_option maxRecDepth 20000 in
theorem w_X12_token_163 {Γ : GC} {E : GE} (hO : gOk Γ E cX12_token RX12 3 rm_X12_token none "token") (o : Nat) : ∀ (n : Nat) (x2 : Int32) (S : GS), Go Γ E (gBsV Γ E) 3 (0, 0) 163 S [(0, vA (some o)), (2, vI x2)] [] (f_X12_token_163 o n x2 S) := by
  intro n
  induction n with
  | zero =>
    intro x2 S
    exact g_none
  | succ n ih =>
    intro x2 S
    rw [f_X12_token_163]
    refine g_aload_n hO d_X12_token_163 (by rfl) 0 rfl ?_
    refine k_virtIp hO cl_X12 mm_X12_see lkV_X12_126 ⟨⟨Nat.le_of_ble_eq_true rfl, Nat.le_of_ble_eq_true rfl⟩, Nat.le_of_ble_eq_true rfl, Nat.le_of_ble_eq_true rfl⟩ (kn' := (0, 0)) rfl (As := []) rfl (Nat.le_of_ble_eq_true rfl) (fun o' _ => t_X12_see Γ.2.1 E o' S) d_X12_token_164 rfl (fun v1 => ?_)
    refine g_bipush hO 48 d_X12_token_167 (by decide) ?_
    refine g_bipush hO 57 d_X12_token_169 (by decide) ?_
    refine k_statIp hO mm_X12_in lkS_X12_112 ⟨⟨Nat.le_of_ble_eq_true rfl, Nat.le_of_ble_eq_true rfl⟩, Nat.le_of_ble_eq_true rfl, Nat.le_of_ble_eq_true rfl⟩ (kn' := (0, 0)) rfl (As := [vI v1, vI 48, vI 57]) rfl (Nat.le_of_ble_eq_true rfl) (t_X12_in Γ.2.1 E v1 48 57 S) d_X12_token_171 rfl (fun v3 => ?_)
    refine g_if_eq (tgt := 224) hO d_X12_token_174.1 d_X12_token_174.2 (fun _ => ?_) (fun _ => ?_)
    · skip
      refine g_aload_n hO d_X12_token_224 (by rfl) 0 rfl ?_
      refine g_iload_n hO d_X12_token_225 (by rfl) 1 rfl ?_
      refine g_iconst hO 2 d_X12_token_226 (by decide) ?_
      refine g_ic_le (tgt := 234) hO d_X12_token_227.1 d_X12_token_227.2 (fun _ => ?_) (fun _ => ?_)
      · skip
        refine g_iconst hO 3 d_X12_token_234 (by decide) ?_
        exact g_sub [0] rfl (w_X12_token_235 hO o _ _ _)
      · skip
        refine g_iconst hO 1 d_X12_token_230 (by decide) ?_
        refine g_goto (tgt := 235) hO d_X12_token_231.1 d_X12_token_231.2 ?_
        exact g_sub [0] rfl (w_X12_token_235 hO o _ _ _)
    · skip
      refine g_aload_n hO d_X12_token_177 (by rfl) 0 rfl ?_
      refine g_iload_n hO d_X12_token_178 (by rfl) 1 rfl ?_
      refine g_iconst hO 2 d_X12_token_179 (by decide) ?_
      refine g_ic_ge (tgt := 201) hO d_X12_token_180.1 d_X12_token_180.2 (fun _ => ?_) (fun _ => ?_)
      · skip
        refine g_aload_n hO d_X12_token_201 (by rfl) 0 rfl ?_
        refine h_getI hO cl_X12 16 rfl wf_X12_140 d_X12_token_202 (fun v5 => ?_)
        exact g_sub [0, 1] rfl (w_X12_token_205 hO o ih _ _ _ _)
      · skip
        refine g_bipush hO 10 d_X12_token_183 (by decide) ?_
        refine g_aload_n hO d_X12_token_185 (by rfl) 0 rfl ?_
        refine h_getI hO cl_X12 16 rfl wf_X12_140 d_X12_token_186 (fun v6 => ?_)
        refine g_imul hO d_X12_token_189 ?_
        refine g_aload_n hO d_X12_token_190 (by rfl) 0 rfl ?_
        refine k_virtIp hO cl_X12 mm_X12_see lkV_X12_126 ⟨⟨Nat.le_of_ble_eq_true rfl, Nat.le_of_ble_eq_true rfl⟩, Nat.le_of_ble_eq_true rfl, Nat.le_of_ble_eq_true rfl⟩ (kn' := (0, 0)) rfl (As := []) rfl (Nat.le_of_ble_eq_true rfl) (fun o' _ => t_X12_see Γ.2.1 E o' S) d_X12_token_191 rfl (fun v7 => ?_)
        refine g_iadd hO d_X12_token_194 ?_
        refine g_bipush hO 48 d_X12_token_195 (by decide) ?_
        refine g_isub hO d_X12_token_197 ?_
        refine g_goto (tgt := 205) hO d_X12_token_198.1 d_X12_token_198.2 ?_
        exact g_sub [0, 1] rfl (w_X12_token_205 hO o ih _ _ _ _)
set_option maxRecDepth 20000 in
theorem w_X12_token_0 {Γ : GC} {E : GE} (hO : gOk Γ E cX12_token RX12 3 rm_X12_token none "token") (o : Nat) : ∀ (n : Nat) (S : GS), Go Γ E (gBsV Γ E) 3 (0, 0) 0 S [(0, vA (some o))] [] (f_X12_token_0 o n S) := by
  intro n
  induction n with
  | zero =>
    intro S
    exact g_none
  | succ n ih =>
    intro S
    rw [f_X12_token_0]
    refine g_aload_n hO d_X12_token_0 (by rfl) 0 rfl ?_
    refine k_virtIp hO cl_X12 mm_X12_see lkV_X12_126 ⟨⟨Nat.le_of_ble_eq_true rfl, Nat.le_of_ble_eq_true rfl⟩, Nat.le_of_ble_eq_true rfl, Nat.le_of_ble_eq_true rfl⟩ (kn' := (0, 0)) rfl (As := []) rfl (Nat.le_of_ble_eq_true rfl) (fun o' _ => t_X12_see Γ.2.1 E o' S) d_X12_token_1 rfl (fun v1 => ?_)
    refine g_bipush hO 10 d_X12_token_4 (by decide) ?_
    refine g_ic_eq (tgt := 18) hO d_X12_token_6.1 d_X12_token_6.2 (fun _ => ?_) (fun _ => ?_)
    · skip
      exact g_sub [0] rfl (w_X12_token_18 hO o ih _)
    · skip
      refine g_aload_n hO d_X12_token_9 (by rfl) 0 rfl ?_
      refine k_virtIp hO cl_X12 mm_X12_see lkV_X12_126 ⟨⟨Nat.le_of_ble_eq_true rfl, Nat.le_of_ble_eq_true rfl⟩, Nat.le_of_ble_eq_true rfl, Nat.le_of_ble_eq_true rfl⟩ (kn' := (0, 0)) rfl (As := []) rfl (Nat.le_of_ble_eq_true rfl) (fun o' _ => t_X12_see Γ.2.1 E o' S) d_X12_token_10 rfl (fun v3 => ?_)
      refine g_bipush hO 32 d_X12_token_13 (by decide) ?_
      refine g_ic_ne (tgt := 31) hO d_X12_token_15.1 d_X12_token_15.2 (fun _ => ?_) (fun _ => ?_)
      · skip
        exact g_sub [0] rfl (w_X12_token_18 hO o ih _)
      · skip
        refine g_aload_n hO d_X12_token_31 (by rfl) 0 rfl ?_
        refine g_aload_n hO d_X12_token_32 (by rfl) 0 rfl ?_
        refine h_getI hO cl_X12 12 rfl wf_X12_120 d_X12_token_33 (fun v5 => ?_)
        refine h_putI hO cl_X12 14 rfl rfl wf_X12_130 (Or.inl rfl) d_X12_token_36 (fun S6 => ?_)
        refine g_aload_n hO d_X12_token_39 (by rfl) 0 rfl ?_
        refine k_virtIp hO cl_X12 mm_X12_see lkV_X12_126 ⟨⟨Nat.le_of_ble_eq_true rfl, Nat.le_of_ble_eq_true rfl⟩, Nat.le_of_ble_eq_true rfl, Nat.le_of_ble_eq_true rfl⟩ (kn' := (0, 0)) rfl (As := []) rfl (Nat.le_of_ble_eq_true rfl) (fun o' _ => t_X12_see Γ.2.1 E o' S6) d_X12_token_40 rfl (fun v7 => ?_)
        refine g_istore_n (lv' := [(1, vI v7), (0, vA (some o))]) hO d_X12_token_43 (by rfl) (by decide) rfl ?_
        refine g_aload_n hO d_X12_token_44 (by rfl) 1 rfl ?_
        refine g_lconst hO 0 d_X12_token_45 (by decide) ?_
        refine h_putJ hO cl_X12 17 rfl rfl wf_X12_133 (Or.inl rfl) d_X12_token_46 (fun S9 => ?_)
        refine g_iconst hO 0 d_X12_token_49 (by decide) ?_
        refine g_istore_n (lv' := [(2, vI 0), (1, vI v7), (0, vA (some o))]) hO d_X12_token_50 (by rfl) (by decide) rfl ?_
        refine g_iload_n hO d_X12_token_51 (by rfl) 1 rfl ?_
        refine g_if_ge (tgt := 63) hO d_X12_token_52.1 d_X12_token_52.2 (fun _ => ?_) (fun _ => ?_)
        · skip
          refine g_iload_n hO d_X12_token_63 (by rfl) 1 rfl ?_
          refine g_bipush hO 97 d_X12_token_64 (by decide) ?_
          refine g_bipush hO 122 d_X12_token_66 (by decide) ?_
          refine k_statIp hO mm_X12_in lkS_X12_112 ⟨⟨Nat.le_of_ble_eq_true rfl, Nat.le_of_ble_eq_true rfl⟩, Nat.le_of_ble_eq_true rfl, Nat.le_of_ble_eq_true rfl⟩ (kn' := (0, 0)) rfl (As := [vI v7, vI 97, vI 122]) rfl (Nat.le_of_ble_eq_true rfl) (t_X12_in Γ.2.1 E v7 97 122 S9) d_X12_token_68 rfl (fun v10 => ?_)
          refine g_if_eq (tgt := 147) hO d_X12_token_71.1 d_X12_token_71.2 (fun _ => ?_) (fun _ => ?_)
          · skip
            refine g_iload_n hO d_X12_token_147 (by rfl) 1 rfl ?_
            refine g_bipush hO 48 d_X12_token_148 (by decide) ?_
            refine g_bipush hO 57 d_X12_token_150 (by decide) ?_
            refine k_statIp hO mm_X12_in lkS_X12_112 ⟨⟨Nat.le_of_ble_eq_true rfl, Nat.le_of_ble_eq_true rfl⟩, Nat.le_of_ble_eq_true rfl, Nat.le_of_ble_eq_true rfl⟩ (kn' := (0, 0)) rfl (As := [vI v7, vI 48, vI 57]) rfl (Nat.le_of_ble_eq_true rfl) (t_X12_in Γ.2.1 E v7 48 57 S9) d_X12_token_152 rfl (fun v12 => ?_)
            refine g_if_eq (tgt := 241) hO d_X12_token_155.1 d_X12_token_155.2 (fun _ => ?_) (fun _ => ?_)
            · skip
              refine g_aload_n hO d_X12_token_241 (by rfl) 2 rfl ?_
              refine g_dup hO d_X12_token_242 rfl ?_
              refine h_getI hO cl_X12 12 rfl wf_X12_120 d_X12_token_243 (fun v14 => ?_)
              refine g_iconst hO 1 d_X12_token_246 (by decide) ?_
              refine g_iadd hO d_X12_token_247 ?_
              refine h_putI hO cl_X12 12 rfl rfl wf_X12_120 (Or.inl rfl) d_X12_token_248 (fun S15 => ?_)
              refine g_aload_n hO d_X12_token_251 (by rfl) 2 rfl ?_
              refine g_iload_n hO d_X12_token_252 (by rfl) 1 rfl ?_
              refine g_bipush hO 59 d_X12_token_253 (by decide) ?_
              refine g_ic_ne (tgt := 262) hO d_X12_token_255.1 d_X12_token_255.2 (fun _ => ?_) (fun _ => ?_)
              · skip
                refine g_iconst hO 4 d_X12_token_258 (by decide) ?_
                refine g_goto (tgt := 263) hO d_X12_token_259.1 d_X12_token_259.2 ?_
                refine h_putI hO cl_X12 15 rfl rfl wf_X12_137 (Or.inl rfl) d_X12_token_263 (fun S16 => ?_)
                exact g_vret hO rfl ⟨Nat.le_of_ble_eq_true rfl, Nat.le_of_ble_eq_true rfl⟩ rfl rfl d_X12_token_266.1
              · skip
                refine g_iconst hO 1 d_X12_token_262 (by decide) ?_
                refine h_putI hO cl_X12 15 rfl rfl wf_X12_137 (Or.inl rfl) d_X12_token_263 (fun S17 => ?_)
                exact g_vret hO rfl ⟨Nat.le_of_ble_eq_true rfl, Nat.le_of_ble_eq_true rfl⟩ rfl rfl d_X12_token_266.1
            · skip
              refine g_aload_n hO d_X12_token_158 (by rfl) 2 rfl ?_
              refine g_iconst hO 0 d_X12_token_159 (by decide) ?_
              refine h_putI hO cl_X12 16 rfl rfl wf_X12_140 (Or.inl rfl) d_X12_token_160 (fun S18 => ?_)
              exact g_sub [2, 0] rfl (w_X12_token_163 hO o _ _ _)
          · skip
            exact g_sub [2, 0] rfl (w_X12_token_74 hO o _ _ _)
        · skip
          refine g_aload_n hO d_X12_token_55 (by rfl) 2 rfl ?_
          refine g_iconst hO 0 d_X12_token_56 (by decide) ?_
          refine h_putI hO cl_X12 15 rfl rfl wf_X12_137 (Or.inl rfl) d_X12_token_57 (fun S19 => ?_)
          refine g_goto (tgt := 266) hO d_X12_token_60.1 d_X12_token_60.2 ?_
          exact g_vret hO rfl ⟨Nat.le_of_ble_eq_true rfl, Nat.le_of_ble_eq_true rfl⟩ rfl rfl d_X12_token_266.1
theorem w_X12_token {Γ : GC} {E : GE} (hO : gOk Γ E cX12_token RX12 3 rm_X12_token none "token") (o : Nat) (S : GS) : Go Γ E (gBsV Γ E) 3 (0, 0) 0 S [(0, vA (some o))] [] (f_X12_token o S) :=
  w_X12_token_0 hO o fu S
theorem t_X12_token (l : Launch) (E : GE) (o : Nat) (S : GS) : ∀ a, f_X12_token o S = some a → Ct l E yX12_token cX12_token 3 none rm_X12_token [vA (some o)] S none a :=
  Ct_of (val := fun _ => none) (nxt := fun b => b) (by decide) (Nat.le_of_ble_eq_true rfl) (fun Γ hl hO => w_X12_token hO o S)
theorem d_X12_fails_0 : gD cX12_fails 0 (.aload_n 0) 1 1 := ⟨by decide +kernel, rfl⟩
theorem d_X12_fails_1 : gD cX12_fails 1 (.aload_n 0) 1 2 := ⟨by decide +kernel, rfl⟩
theorem d_X12_fails_2 : gD cX12_fails 2 (.getfield 130) 3 5 := ⟨by decide +kernel, rfl⟩
theorem d_X12_fails_5 : gD cX12_fails 5 (.putfield 143) 3 8 := ⟨by decide +kernel, rfl⟩
theorem d_X12_fails_8 : gD cX12_fails 8 (.iconst 0) 1 9 := ⟨by decide +kernel, rfl⟩
theorem d_X12_fails_9 : gD cX12_fails 9 (.ireturn) 1 10 := ⟨by decide +kernel, rfl⟩
abbrev rm_X12_fails : Room := { frames := 0, cells := 0, slots := 0, locals := 0 }
set_option maxRecDepth 20000 in
theorem w_X12_fails {Γ : GC} {E : GE} (hO : gOk Γ E cX12_fails RX12 1 rm_X12_fails (some .boolean) "fails") (o : Nat) (S : GS) : Go Γ E (gBsI Γ E) 1 (0, 0) 0 S [(0, vA (some o))] [] (f_X12_fails o S) := by
  unfold f_X12_fails
  refine g_aload_n hO d_X12_fails_0 (by rfl) 0 rfl ?_
  refine g_aload_n hO d_X12_fails_1 (by rfl) 0 rfl ?_
  refine h_getI hO cl_X12 14 rfl wf_X12_130 d_X12_fails_2 (fun v1 => ?_)
  refine h_putI hO cl_X12 18 rfl rfl wf_X12_143 (Or.inl rfl) d_X12_fails_5 (fun S2 => ?_)
  refine g_iconst hO 0 d_X12_fails_8 (by decide) ?_
  exact g_ret hO rfl rfl ⟨Nat.le_of_ble_eq_true rfl, Nat.le_of_ble_eq_true rfl⟩ rfl rfl d_X12_fails_9.1
theorem t_X12_fails (l : Launch) (E : GE) (o : Nat) (S : GS) : ∀ a, f_X12_fails o S = some a → Ct l E yX12_fails cX12_fails 1 (some .boolean) rm_X12_fails [vA (some o)] S (some (vI a.1)) a.2 :=
  Ct_of (val := fun (b : Int32 × GS) => some (vI b.1)) (nxt := fun (b : Int32 × GS) => b.2) (by decide) (Nat.le_of_ble_eq_true rfl) (fun Γ hl hO => w_X12_fails hO o S)
theorem d_X12_later_0 : gD cX12_later 0 (.aload_n 0) 1 1 := ⟨by decide +kernel, rfl⟩
theorem d_X12_later_1 : gD cX12_later 1 (.getfield 146) 3 4 := ⟨by decide +kernel, rfl⟩
theorem d_X12_later_4 : gD cX12_later 4 (.ifCond .eq 27) 3 7 ∧ ((4 : Nat) : Int) + 27 = ((31 : Nat) : Int) := ⟨⟨by decide +kernel, rfl⟩, by decide⟩
theorem d_X12_later_7 : gD cX12_later 7 (.iload_n 2) 1 8 := ⟨by decide +kernel, rfl⟩
theorem d_X12_later_8 : gD cX12_later 8 (.aload_n 0) 1 9 := ⟨by decide +kernel, rfl⟩
theorem d_X12_later_9 : gD cX12_later 9 (.getfield 149) 3 12 := ⟨by decide +kernel, rfl⟩
theorem d_X12_later_12 : gD cX12_later 12 (.if_icmp .lt 19) 3 15 ∧ ((12 : Nat) : Int) + 19 = ((31 : Nat) : Int) := ⟨⟨by decide +kernel, rfl⟩, by decide⟩
theorem d_X12_later_15 : gD cX12_later 15 (.iload_n 2) 1 16 := ⟨by decide +kernel, rfl⟩
theorem d_X12_later_16 : gD cX12_later 16 (.aload_n 0) 1 17 := ⟨by decide +kernel, rfl⟩
theorem d_X12_later_17 : gD cX12_later 17 (.getfield 149) 3 20 := ⟨by decide +kernel, rfl⟩
theorem d_X12_later_20 : gD cX12_later 20 (.if_icmp .ne 21) 3 23 ∧ ((20 : Nat) : Int) + 21 = ((41 : Nat) : Int) := ⟨⟨by decide +kernel, rfl⟩, by decide⟩
theorem d_X12_later_23 : gD cX12_later 23 (.iload_n 1) 1 24 := ⟨by decide +kernel, rfl⟩
theorem d_X12_later_24 : gD cX12_later 24 (.aload_n 0) 1 25 := ⟨by decide +kernel, rfl⟩
theorem d_X12_later_25 : gD cX12_later 25 (.getfield 146) 3 28 := ⟨by decide +kernel, rfl⟩
theorem d_X12_later_28 : gD cX12_later 28 (.if_icmp .ge 13) 3 31 ∧ ((28 : Nat) : Int) + 13 = ((41 : Nat) : Int) := ⟨⟨by decide +kernel, rfl⟩, by decide⟩
theorem d_X12_later_31 : gD cX12_later 31 (.aload_n 0) 1 32 := ⟨by decide +kernel, rfl⟩
theorem d_X12_later_32 : gD cX12_later 32 (.iload_n 1) 1 33 := ⟨by decide +kernel, rfl⟩
theorem d_X12_later_33 : gD cX12_later 33 (.putfield 146) 3 36 := ⟨by decide +kernel, rfl⟩
theorem d_X12_later_36 : gD cX12_later 36 (.aload_n 0) 1 37 := ⟨by decide +kernel, rfl⟩
theorem d_X12_later_37 : gD cX12_later 37 (.iload_n 2) 1 38 := ⟨by decide +kernel, rfl⟩
theorem d_X12_later_38 : gD cX12_later 38 (.putfield 149) 3 41 := ⟨by decide +kernel, rfl⟩
theorem d_X12_later_41 : gD cX12_later 41 (.return_) 1 42 := ⟨by decide +kernel, rfl⟩
abbrev rm_X12_later : Room := { frames := 0, cells := 0, slots := 0, locals := 0 }
set_option maxRecDepth 20000 in
theorem w_X12_later_31 {Γ : GC} {E : GE} (hO : gOk Γ E cX12_later RX12 3 rm_X12_later none "later") (o : Nat) (x1 : Int32) (x2 : Int32) (S : GS) : Go Γ E (gBsV Γ E) 3 (0, 0) 31 S [(0, vA (some o)), (1, vI x1), (2, vI x2)] [] (f_X12_later_31 o x1 x2 S) := by
  unfold f_X12_later_31
  refine g_aload_n hO d_X12_later_31 (by rfl) 0 rfl ?_
  refine g_iload_n hO d_X12_later_32 (by rfl) 1 rfl ?_
  refine h_putI hO cl_X12 19 rfl rfl wf_X12_146 (Or.inl rfl) d_X12_later_33 (fun S1 => ?_)
  refine g_aload_n hO d_X12_later_36 (by rfl) 0 rfl ?_
  refine g_iload_n hO d_X12_later_37 (by rfl) 2 rfl ?_
  refine h_putI hO cl_X12 20 rfl rfl wf_X12_149 (Or.inl rfl) d_X12_later_38 (fun S2 => ?_)
  exact g_vret hO rfl ⟨Nat.le_of_ble_eq_true rfl, Nat.le_of_ble_eq_true rfl⟩ rfl rfl d_X12_later_41.1
set_option maxRecDepth 20000 in
theorem w_X12_later {Γ : GC} {E : GE} (hO : gOk Γ E cX12_later RX12 3 rm_X12_later none "later") (o : Nat) (x1 : Int32) (x2 : Int32) (S : GS) : Go Γ E (gBsV Γ E) 3 (0, 0) 0 S [(0, vA (some o)), (1, vI x1), (2, vI x2)] [] (f_X12_later o x1 x2 S) := by
  unfold f_X12_later
  refine g_aload_n hO d_X12_later_0 (by rfl) 0 rfl ?_
  refine h_getI hO cl_X12 19 rfl wf_X12_146 d_X12_later_1 (fun v1 => ?_)
  refine g_if_eq (tgt := 31) hO d_X12_later_4.1 d_X12_later_4.2 (fun _ => ?_) (fun _ => ?_)
  · skip
    exact g_sub [0, 1, 2] rfl (w_X12_later_31 hO o _ _ _)
  · skip
    refine g_iload_n hO d_X12_later_7 (by rfl) 2 rfl ?_
    refine g_aload_n hO d_X12_later_8 (by rfl) 0 rfl ?_
    refine h_getI hO cl_X12 20 rfl wf_X12_149 d_X12_later_9 (fun v2 => ?_)
    refine g_ic_lt (tgt := 31) hO d_X12_later_12.1 d_X12_later_12.2 (fun _ => ?_) (fun _ => ?_)
    · skip
      exact g_sub [0, 1, 2] rfl (w_X12_later_31 hO o _ _ _)
    · skip
      refine g_iload_n hO d_X12_later_15 (by rfl) 2 rfl ?_
      refine g_aload_n hO d_X12_later_16 (by rfl) 0 rfl ?_
      refine h_getI hO cl_X12 20 rfl wf_X12_149 d_X12_later_17 (fun v3 => ?_)
      refine g_ic_ne (tgt := 41) hO d_X12_later_20.1 d_X12_later_20.2 (fun _ => ?_) (fun _ => ?_)
      · skip
        refine g_iload_n hO d_X12_later_23 (by rfl) 1 rfl ?_
        refine g_aload_n hO d_X12_later_24 (by rfl) 0 rfl ?_
        refine h_getI hO cl_X12 19 rfl wf_X12_146 d_X12_later_25 (fun v4 => ?_)
        refine g_ic_ge (tgt := 41) hO d_X12_later_28.1 d_X12_later_28.2 (fun _ => ?_) (fun _ => ?_)
        · skip
          exact g_vret hO rfl ⟨Nat.le_of_ble_eq_true rfl, Nat.le_of_ble_eq_true rfl⟩ rfl rfl d_X12_later_41.1
        · skip
          exact g_sub [0, 1, 2] rfl (w_X12_later_31 hO o _ _ _)
      · skip
        exact g_vret hO rfl ⟨Nat.le_of_ble_eq_true rfl, Nat.le_of_ble_eq_true rfl⟩ rfl rfl d_X12_later_41.1
theorem t_X12_later (l : Launch) (E : GE) (o : Nat) (x1 : Int32) (x2 : Int32) (S : GS) : ∀ a, f_X12_later o x1 x2 S = some a → Ct l E yX12_later cX12_later 3 none rm_X12_later [vA (some o), vI x1, vI x2] S none a :=
  Ct_of (val := fun _ => none) (nxt := fun b => b) (by decide) (Nat.le_of_ble_eq_true rfl) (fun Γ hl hO => w_X12_later hO o x1 x2 S)
theorem d_X12_takeBut_0 : gD cX12_takeBut 0 (.aload_n 0) 1 1 := ⟨by decide +kernel, rfl⟩
theorem d_X12_takeBut_1 : gD cX12_takeBut 1 (.getfield 137) 3 4 := ⟨by decide +kernel, rfl⟩
theorem d_X12_takeBut_4 : gD cX12_takeBut 4 (.iconst 3) 1 5 := ⟨by decide +kernel, rfl⟩
theorem d_X12_takeBut_5 : gD cX12_takeBut 5 (.if_icmp .eq 8) 3 8 ∧ ((5 : Nat) : Int) + 8 = ((13 : Nat) : Int) := ⟨⟨by decide +kernel, rfl⟩, by decide⟩
theorem d_X12_takeBut_8 : gD cX12_takeBut 8 (.aload_n 0) 1 9 := ⟨by decide +kernel, rfl⟩
theorem d_X12_takeBut_9 : gD cX12_takeBut 9 (.invokevirtual 152) 3 12 := ⟨by decide +kernel, rfl⟩
theorem d_X12_takeBut_12 : gD cX12_takeBut 12 (.ireturn) 1 13 := ⟨by decide +kernel, rfl⟩
theorem d_X12_takeBut_13 : gD cX12_takeBut 13 (.aload_n 0) 1 14 := ⟨by decide +kernel, rfl⟩
theorem d_X12_takeBut_14 : gD cX12_takeBut 14 (.getfield 47) 3 17 := ⟨by decide +kernel, rfl⟩
theorem d_X12_takeBut_17 : gD cX12_takeBut 17 (.iload_n 1) 1 18 := ⟨by decide +kernel, rfl⟩
theorem d_X12_takeBut_18 : gD cX12_takeBut 18 (.aload_n 0) 1 19 := ⟨by decide +kernel, rfl⟩
theorem d_X12_takeBut_19 : gD cX12_takeBut 19 (.getfield 140) 3 22 := ⟨by decide +kernel, rfl⟩
theorem d_X12_takeBut_22 : gD cX12_takeBut 22 (.iastore) 1 23 := ⟨by decide +kernel, rfl⟩
theorem d_X12_takeBut_23 : gD cX12_takeBut 23 (.aload_n 0) 1 24 := ⟨by decide +kernel, rfl⟩
theorem d_X12_takeBut_24 : gD cX12_takeBut 24 (.getfield 140) 3 27 := ⟨by decide +kernel, rfl⟩
theorem d_X12_takeBut_27 : gD cX12_takeBut 27 (.iload_n 2) 1 28 := ⟨by decide +kernel, rfl⟩
theorem d_X12_takeBut_28 : gD cX12_takeBut 28 (.iload_n 3) 1 29 := ⟨by decide +kernel, rfl⟩
theorem d_X12_takeBut_29 : gD cX12_takeBut 29 (.invokestatic 112) 3 32 := ⟨by decide +kernel, rfl⟩
theorem d_X12_takeBut_32 : gD cX12_takeBut 32 (.ifCond .eq 12) 3 35 ∧ ((32 : Nat) : Int) + 12 = ((44 : Nat) : Int) := ⟨⟨by decide +kernel, rfl⟩, by decide⟩
theorem d_X12_takeBut_35 : gD cX12_takeBut 35 (.aload_n 0) 1 36 := ⟨by decide +kernel, rfl⟩
theorem d_X12_takeBut_36 : gD cX12_takeBut 36 (.getfield 140) 3 39 := ⟨by decide +kernel, rfl⟩
theorem d_X12_takeBut_39 : gD cX12_takeBut 39 (.iload 4) 2 41 := ⟨by decide +kernel, rfl⟩
theorem d_X12_takeBut_41 : gD cX12_takeBut 41 (.if_icmp .ne 12) 3 44 ∧ ((41 : Nat) : Int) + 12 = ((53 : Nat) : Int) := ⟨⟨by decide +kernel, rfl⟩, by decide⟩
theorem d_X12_takeBut_44 : gD cX12_takeBut 44 (.aload_n 0) 1 45 := ⟨by decide +kernel, rfl⟩
theorem d_X12_takeBut_45 : gD cX12_takeBut 45 (.iconst 2) 1 46 := ⟨by decide +kernel, rfl⟩
theorem d_X12_takeBut_46 : gD cX12_takeBut 46 (.aload_n 0) 1 47 := ⟨by decide +kernel, rfl⟩
theorem d_X12_takeBut_47 : gD cX12_takeBut 47 (.getfield 130) 3 50 := ⟨by decide +kernel, rfl⟩
theorem d_X12_takeBut_50 : gD cX12_takeBut 50 (.invokevirtual 156) 3 53 := ⟨by decide +kernel, rfl⟩
theorem d_X12_takeBut_53 : gD cX12_takeBut 53 (.aload_n 0) 1 54 := ⟨by decide +kernel, rfl⟩
theorem d_X12_takeBut_54 : gD cX12_takeBut 54 (.invokevirtual 160) 3 57 := ⟨by decide +kernel, rfl⟩
theorem d_X12_takeBut_57 : gD cX12_takeBut 57 (.iconst 1) 1 58 := ⟨by decide +kernel, rfl⟩
theorem d_X12_takeBut_58 : gD cX12_takeBut 58 (.ireturn) 1 59 := ⟨by decide +kernel, rfl⟩
abbrev rm_X12_takeBut : Room := { frames := 2, cells := 0, slots := 0, locals := 44 }
set_option maxRecDepth 20000 in
theorem w_X12_takeBut_53 {Γ : GC} {E : GE} (hO : gOk Γ E cX12_takeBut RX12 5 rm_X12_takeBut (some .boolean) "takeBut") (o : Nat) (S : GS) : Go Γ E (gBsI Γ E) 5 (0, 0) 53 S [(0, vA (some o))] [] (f_X12_takeBut_53 o S) := by
  unfold f_X12_takeBut_53
  refine g_aload_n hO d_X12_takeBut_53 (by rfl) 0 rfl ?_
  refine k_virtVs hO cl_X12 mm_X12_token lkV_X12_160 ⟨⟨Nat.le_of_ble_eq_true rfl, Nat.le_of_ble_eq_true rfl⟩, Nat.le_of_ble_eq_true rfl, Nat.le_of_ble_eq_true rfl⟩ (kn' := (0, 0)) rfl (As := []) rfl (Nat.le_of_ble_eq_true rfl) (fun o' _ => t_X12_token Γ.2.1 E o' S) d_X12_takeBut_54 rfl (fun S2 => ?_)
  refine g_iconst hO 1 d_X12_takeBut_57 (by decide) ?_
  exact g_ret hO rfl rfl ⟨Nat.le_of_ble_eq_true rfl, Nat.le_of_ble_eq_true rfl⟩ rfl rfl d_X12_takeBut_58.1
set_option maxRecDepth 20000 in
theorem w_X12_takeBut_44 {Γ : GC} {E : GE} (hO : gOk Γ E cX12_takeBut RX12 5 rm_X12_takeBut (some .boolean) "takeBut") (o : Nat) (S : GS) : Go Γ E (gBsI Γ E) 5 (0, 0) 44 S [(0, vA (some o))] [] (f_X12_takeBut_44 o S) := by
  unfold f_X12_takeBut_44
  refine g_aload_n hO d_X12_takeBut_44 (by rfl) 0 rfl ?_
  refine g_iconst hO 2 d_X12_takeBut_45 (by decide) ?_
  refine g_aload_n hO d_X12_takeBut_46 (by rfl) 0 rfl ?_
  refine h_getI hO cl_X12 14 rfl wf_X12_130 d_X12_takeBut_47 (fun v1 => ?_)
  refine k_virtVs hO cl_X12 mm_X12_later lkV_X12_156 ⟨⟨Nat.le_of_ble_eq_true rfl, Nat.le_of_ble_eq_true rfl⟩, Nat.le_of_ble_eq_true rfl, Nat.le_of_ble_eq_true rfl⟩ (kn' := (0, 0)) rfl (As := [vI 2, vI v1]) rfl (Nat.le_of_ble_eq_true rfl) (fun o' _ => t_X12_later Γ.2.1 E o' 2 v1 S) d_X12_takeBut_50 rfl (fun S3 => ?_)
  exact g_sub [0] rfl (w_X12_takeBut_53 hO o _)
set_option maxRecDepth 20000 in
theorem w_X12_takeBut {Γ : GC} {E : GE} (hO : gOk Γ E cX12_takeBut RX12 5 rm_X12_takeBut (some .boolean) "takeBut") (o : Nat) (x1 : Int32) (x2 : Int32) (x3 : Int32) (x4 : Int32) (S : GS) : Go Γ E (gBsI Γ E) 5 (0, 0) 0 S [(0, vA (some o)), (1, vI x1), (2, vI x2), (3, vI x3), (4, vI x4)] [] (f_X12_takeBut o x1 x2 x3 x4 S) := by
  unfold f_X12_takeBut
  refine g_aload_n hO d_X12_takeBut_0 (by rfl) 0 rfl ?_
  refine h_getI hO cl_X12 15 rfl wf_X12_137 d_X12_takeBut_1 (fun v1 => ?_)
  refine g_iconst hO 3 d_X12_takeBut_4 (by decide) ?_
  refine g_ic_eq (tgt := 13) hO d_X12_takeBut_5.1 d_X12_takeBut_5.2 (fun _ => ?_) (fun _ => ?_)
  · skip
    refine g_aload_n hO d_X12_takeBut_13 (by rfl) 0 rfl ?_
    refine h_getR hO cl_X12 22 rfl wf_X12_47 d_X12_takeBut_14 (fun v2 => ?_)
    refine g_iload_n hO d_X12_takeBut_17 (by rfl) 1 rfl ?_
    refine g_aload_n hO d_X12_takeBut_18 (by rfl) 0 rfl ?_
    refine h_getI hO cl_X12 16 rfl wf_X12_140 d_X12_takeBut_19 (fun v3 => ?_)
    refine h_iast hO d_X12_takeBut_22 (fun S4 => ?_)
    refine g_aload_n hO d_X12_takeBut_23 (by rfl) 0 rfl ?_
    refine h_getI hO cl_X12 16 rfl wf_X12_140 d_X12_takeBut_24 (fun v5 => ?_)
    refine g_iload_n hO d_X12_takeBut_27 (by rfl) 2 rfl ?_
    refine g_iload_n hO d_X12_takeBut_28 (by rfl) 3 rfl ?_
    refine k_statIp hO mm_X12_in lkS_X12_112 ⟨⟨Nat.le_of_ble_eq_true rfl, Nat.le_of_ble_eq_true rfl⟩, Nat.le_of_ble_eq_true rfl, Nat.le_of_ble_eq_true rfl⟩ (kn' := (0, 0)) rfl (As := [vI v5, vI x2, vI x3]) rfl (Nat.le_of_ble_eq_true rfl) (t_X12_in Γ.2.1 E v5 x2 x3 S4) d_X12_takeBut_29 rfl (fun v6 => ?_)
    refine g_if_eq (tgt := 44) hO d_X12_takeBut_32.1 d_X12_takeBut_32.2 (fun _ => ?_) (fun _ => ?_)
    · skip
      exact g_sub [0] rfl (w_X12_takeBut_44 hO o _)
    · skip
      refine g_aload_n hO d_X12_takeBut_35 (by rfl) 0 rfl ?_
      refine h_getI hO cl_X12 16 rfl wf_X12_140 d_X12_takeBut_36 (fun v8 => ?_)
      refine g_iload hO d_X12_takeBut_39 4 rfl ?_
      refine g_ic_ne (tgt := 53) hO d_X12_takeBut_41.1 d_X12_takeBut_41.2 (fun _ => ?_) (fun _ => ?_)
      · skip
        exact g_sub [0] rfl (w_X12_takeBut_44 hO o _)
      · skip
        exact g_sub [0] rfl (w_X12_takeBut_53 hO o _)
  · skip
    refine g_aload_n hO d_X12_takeBut_8 (by rfl) 0 rfl ?_
    refine k_virtIs hO cl_X12 mm_X12_fails lkV_X12_152 ⟨⟨Nat.le_of_ble_eq_true rfl, Nat.le_of_ble_eq_true rfl⟩, Nat.le_of_ble_eq_true rfl, Nat.le_of_ble_eq_true rfl⟩ (kn' := (0, 0)) rfl (As := []) rfl (Nat.le_of_ble_eq_true rfl) (fun o' _ => t_X12_fails Γ.2.1 E o' S) d_X12_takeBut_9 rfl (fun v9 S10 => ?_)
    exact g_zret hO rfl ⟨Nat.le_of_ble_eq_true rfl, Nat.le_of_ble_eq_true rfl⟩ rfl rfl d_X12_takeBut_12.1
theorem t_X12_takeBut (l : Launch) (E : GE) (o : Nat) (x1 : Int32) (x2 : Int32) (x3 : Int32) (x4 : Int32) (S : GS) : ∀ a, f_X12_takeBut o x1 x2 x3 x4 S = some a → Ct l E yX12_takeBut cX12_takeBut 5 (some .boolean) rm_X12_takeBut [vA (some o), vI x1, vI x2, vI x3, vI x4] S (some (vI a.1)) a.2 :=
  Ct_of (val := fun (b : Int32 × GS) => some (vI b.1)) (nxt := fun (b : Int32 × GS) => b.2) (by decide) (Nat.le_of_ble_eq_true rfl) (fun Γ hl hO => w_X12_takeBut hO o x1 x2 x3 x4 S)
theorem d_X12_take_0 : gD cX12_take 0 (.aload_n 0) 1 1 := ⟨by decide +kernel, rfl⟩
theorem d_X12_take_1 : gD cX12_take 1 (.iload_n 1) 1 2 := ⟨by decide +kernel, rfl⟩
theorem d_X12_take_2 : gD cX12_take 2 (.iload_n 2) 1 3 := ⟨by decide +kernel, rfl⟩
theorem d_X12_take_3 : gD cX12_take 3 (.iload_n 3) 1 4 := ⟨by decide +kernel, rfl⟩
theorem d_X12_take_4 : gD cX12_take 4 (.iconst (-1)) 1 5 := ⟨by decide +kernel, rfl⟩
theorem d_X12_take_5 : gD cX12_take 5 (.invokevirtual 163) 3 8 := ⟨by decide +kernel, rfl⟩
theorem d_X12_take_8 : gD cX12_take 8 (.ireturn) 1 9 := ⟨by decide +kernel, rfl⟩
abbrev rm_X12_take : Room := { frames := 3, cells := 0, slots := 0, locals := 68 }
set_option maxRecDepth 20000 in
theorem w_X12_take {Γ : GC} {E : GE} (hO : gOk Γ E cX12_take RX12 4 rm_X12_take (some .boolean) "take") (o : Nat) (x1 : Int32) (x2 : Int32) (x3 : Int32) (S : GS) : Go Γ E (gBsI Γ E) 4 (0, 0) 0 S [(0, vA (some o)), (1, vI x1), (2, vI x2), (3, vI x3)] [] (f_X12_take o x1 x2 x3 S) := by
  unfold f_X12_take
  refine g_aload_n hO d_X12_take_0 (by rfl) 0 rfl ?_
  refine g_iload_n hO d_X12_take_1 (by rfl) 1 rfl ?_
  refine g_iload_n hO d_X12_take_2 (by rfl) 2 rfl ?_
  refine g_iload_n hO d_X12_take_3 (by rfl) 3 rfl ?_
  refine g_iconst hO (-1) d_X12_take_4 (by decide) ?_
  refine k_virtIs hO cl_X12 mm_X12_takeBut lkV_X12_163 ⟨⟨Nat.le_of_ble_eq_true rfl, Nat.le_of_ble_eq_true rfl⟩, Nat.le_of_ble_eq_true rfl, Nat.le_of_ble_eq_true rfl⟩ (kn' := (0, 0)) rfl (As := [vI x1, vI x2, vI x3, vI (-1)]) rfl (Nat.le_of_ble_eq_true rfl) (fun o' _ => t_X12_takeBut Γ.2.1 E o' x1 x2 x3 (-1) S) d_X12_take_5 rfl (fun v1 S2 => ?_)
  exact g_zret hO rfl ⟨Nat.le_of_ble_eq_true rfl, Nat.le_of_ble_eq_true rfl⟩ rfl rfl d_X12_take_8.1
theorem t_X12_take (l : Launch) (E : GE) (o : Nat) (x1 : Int32) (x2 : Int32) (x3 : Int32) (S : GS) : ∀ a, f_X12_take o x1 x2 x3 S = some a → Ct l E yX12_take cX12_take 4 (some .boolean) rm_X12_take [vA (some o), vI x1, vI x2, vI x3] S (some (vI a.1)) a.2 :=
  Ct_of (val := fun (b : Int32 × GS) => some (vI b.1)) (nxt := fun (b : Int32 × GS) => b.2) (by decide) (Nat.le_of_ble_eq_true rfl) (fun Γ hl hO => w_X12_take hO o x1 x2 x3 S)
theorem d_X12_full_0 : gD cX12_full 0 (.aload_n 0) 1 1 := ⟨by decide +kernel, rfl⟩
theorem d_X12_full_1 : gD cX12_full 1 (.getfield 44) 3 4 := ⟨by decide +kernel, rfl⟩
theorem d_X12_full_4 : gD cX12_full 4 (.iload_n 1) 1 5 := ⟨by decide +kernel, rfl⟩
theorem d_X12_full_5 : gD cX12_full 5 (.iaload) 1 6 := ⟨by decide +kernel, rfl⟩
theorem d_X12_full_6 : gD cX12_full 6 (.iload_n 2) 1 7 := ⟨by decide +kernel, rfl⟩
theorem d_X12_full_7 : gD cX12_full 7 (.if_icmp .ne 9) 3 10 ∧ ((7 : Nat) : Int) + 9 = ((16 : Nat) : Int) := ⟨⟨by decide +kernel, rfl⟩, by decide⟩
theorem d_X12_full_10 : gD cX12_full 10 (.aload_n 0) 1 11 := ⟨by decide +kernel, rfl⟩
theorem d_X12_full_11 : gD cX12_full 11 (.iconst 3) 1 12 := ⟨by decide +kernel, rfl⟩
theorem d_X12_full_12 : gD cX12_full 12 (.iload_n 3) 1 13 := ⟨by decide +kernel, rfl⟩
theorem d_X12_full_13 : gD cX12_full 13 (.invokevirtual 156) 3 16 := ⟨by decide +kernel, rfl⟩
theorem d_X12_full_16 : gD cX12_full 16 (.return_) 1 17 := ⟨by decide +kernel, rfl⟩
abbrev rm_X12_full : Room := { frames := 1, cells := 0, slots := 0, locals := 22 }
set_option maxRecDepth 20000 in
theorem w_X12_full {Γ : GC} {E : GE} (hO : gOk Γ E cX12_full RX12 4 rm_X12_full none "full") (o : Nat) (x1 : Int32) (x2 : Int32) (x3 : Int32) (S : GS) : Go Γ E (gBsV Γ E) 4 (0, 0) 0 S [(0, vA (some o)), (1, vI x1), (2, vI x2), (3, vI x3)] [] (f_X12_full o x1 x2 x3 S) := by
  unfold f_X12_full
  refine g_aload_n hO d_X12_full_0 (by rfl) 0 rfl ?_
  refine h_getR hO cl_X12 21 rfl wf_X12_44 d_X12_full_1 (fun v1 => ?_)
  refine g_iload_n hO d_X12_full_4 (by rfl) 1 rfl ?_
  refine h_iald hO d_X12_full_5 (fun v2 => ?_)
  refine g_iload_n hO d_X12_full_6 (by rfl) 2 rfl ?_
  refine g_ic_ne (tgt := 16) hO d_X12_full_7.1 d_X12_full_7.2 (fun _ => ?_) (fun _ => ?_)
  · skip
    refine g_aload_n hO d_X12_full_10 (by rfl) 0 rfl ?_
    refine g_iconst hO 3 d_X12_full_11 (by decide) ?_
    refine g_iload_n hO d_X12_full_12 (by rfl) 3 rfl ?_
    refine k_virtVs hO cl_X12 mm_X12_later lkV_X12_156 ⟨⟨Nat.le_of_ble_eq_true rfl, Nat.le_of_ble_eq_true rfl⟩, Nat.le_of_ble_eq_true rfl, Nat.le_of_ble_eq_true rfl⟩ (kn' := (0, 0)) rfl (As := [vI 3, vI x3]) rfl (Nat.le_of_ble_eq_true rfl) (fun o' _ => t_X12_later Γ.2.1 E o' 3 x3 S) d_X12_full_13 rfl (fun S4 => ?_)
    exact g_vret hO rfl ⟨Nat.le_of_ble_eq_true rfl, Nat.le_of_ble_eq_true rfl⟩ rfl rfl d_X12_full_16.1
  · skip
    exact g_vret hO rfl ⟨Nat.le_of_ble_eq_true rfl, Nat.le_of_ble_eq_true rfl⟩ rfl rfl d_X12_full_16.1
theorem t_X12_full (l : Launch) (E : GE) (o : Nat) (x1 : Int32) (x2 : Int32) (x3 : Int32) (S : GS) : ∀ a, f_X12_full o x1 x2 x3 S = some a → Ct l E yX12_full cX12_full 4 none rm_X12_full [vA (some o), vI x1, vI x2, vI x3] S none a :=
  Ct_of (val := fun _ => none) (nxt := fun b => b) (by decide) (Nat.le_of_ble_eq_true rfl) (fun Γ hl hO => w_X12_full hO o x1 x2 x3 S)
theorem d_X12_keep_0 : gD cX12_keep 0 (.aload_n 0) 1 1 := ⟨by decide +kernel, rfl⟩
theorem d_X12_keep_1 : gD cX12_keep 1 (.getfield 44) 3 4 := ⟨by decide +kernel, rfl⟩
theorem d_X12_keep_4 : gD cX12_keep 4 (.iload_n 1) 1 5 := ⟨by decide +kernel, rfl⟩
theorem d_X12_keep_5 : gD cX12_keep 5 (.iaload) 1 6 := ⟨by decide +kernel, rfl⟩
theorem d_X12_keep_6 : gD cX12_keep 6 (.istore 5) 2 8 := ⟨by decide +kernel, rfl⟩
theorem d_X12_keep_8 : gD cX12_keep 8 (.iload 5) 2 10 := ⟨by decide +kernel, rfl⟩
theorem d_X12_keep_10 : gD cX12_keep 10 (.iload 4) 2 12 := ⟨by decide +kernel, rfl⟩
theorem d_X12_keep_12 : gD cX12_keep 12 (.if_icmp .ne 4) 3 15 ∧ ((12 : Nat) : Int) + 4 = ((16 : Nat) : Int) := ⟨⟨by decide +kernel, rfl⟩, by decide⟩
theorem d_X12_keep_15 : gD cX12_keep 15 (.return_) 1 16 := ⟨by decide +kernel, rfl⟩
theorem d_X12_keep_16 : gD cX12_keep 16 (.iconst 0) 1 17 := ⟨by decide +kernel, rfl⟩
theorem d_X12_keep_17 : gD cX12_keep 17 (.istore 6) 2 19 := ⟨by decide +kernel, rfl⟩
theorem d_X12_keep_19 : gD cX12_keep 19 (.iload 6) 2 21 := ⟨by decide +kernel, rfl⟩
theorem d_X12_keep_21 : gD cX12_keep 21 (.iload_n 3) 1 22 := ⟨by decide +kernel, rfl⟩
theorem d_X12_keep_22 : gD cX12_keep 22 (.if_icmp .ge 30) 3 25 ∧ ((22 : Nat) : Int) + 30 = ((52 : Nat) : Int) := ⟨⟨by decide +kernel, rfl⟩, by decide⟩
theorem d_X12_keep_25 : gD cX12_keep 25 (.aload_n 0) 1 26 := ⟨by decide +kernel, rfl⟩
theorem d_X12_keep_26 : gD cX12_keep 26 (.getfield 44) 3 29 := ⟨by decide +kernel, rfl⟩
theorem d_X12_keep_29 : gD cX12_keep 29 (.iload_n 2) 1 30 := ⟨by decide +kernel, rfl⟩
theorem d_X12_keep_30 : gD cX12_keep 30 (.iload_n 3) 1 31 := ⟨by decide +kernel, rfl⟩
theorem d_X12_keep_31 : gD cX12_keep 31 (.iload 5) 2 33 := ⟨by decide +kernel, rfl⟩
theorem d_X12_keep_33 : gD cX12_keep 33 (.imul) 1 34 := ⟨by decide +kernel, rfl⟩
theorem d_X12_keep_34 : gD cX12_keep 34 (.iadd) 1 35 := ⟨by decide +kernel, rfl⟩
theorem d_X12_keep_35 : gD cX12_keep 35 (.iload 6) 2 37 := ⟨by decide +kernel, rfl⟩
theorem d_X12_keep_37 : gD cX12_keep 37 (.iadd) 1 38 := ⟨by decide +kernel, rfl⟩
theorem d_X12_keep_38 : gD cX12_keep 38 (.aload_n 0) 1 39 := ⟨by decide +kernel, rfl⟩
theorem d_X12_keep_39 : gD cX12_keep 39 (.getfield 47) 3 42 := ⟨by decide +kernel, rfl⟩
theorem d_X12_keep_42 : gD cX12_keep 42 (.iload 6) 2 44 := ⟨by decide +kernel, rfl⟩
theorem d_X12_keep_44 : gD cX12_keep 44 (.iaload) 1 45 := ⟨by decide +kernel, rfl⟩
theorem d_X12_keep_45 : gD cX12_keep 45 (.iastore) 1 46 := ⟨by decide +kernel, rfl⟩
theorem d_X12_keep_46 : gD cX12_keep 46 (.iinc 6 1) 3 49 := ⟨by decide +kernel, rfl⟩
theorem d_X12_keep_49 : decode cX12_keep 49 = .ok (.goto (-30), 3) ∧ ((49 : Nat) : Int) + (-30) = ((19 : Nat) : Int) := ⟨by decide +kernel, by decide⟩
theorem d_X12_keep_52 : gD cX12_keep 52 (.aload_n 0) 1 53 := ⟨by decide +kernel, rfl⟩
theorem d_X12_keep_53 : gD cX12_keep 53 (.getfield 44) 3 56 := ⟨by decide +kernel, rfl⟩
theorem d_X12_keep_56 : gD cX12_keep 56 (.iload_n 1) 1 57 := ⟨by decide +kernel, rfl⟩
theorem d_X12_keep_57 : gD cX12_keep 57 (.dup2) 1 58 := ⟨by decide +kernel, rfl⟩
theorem d_X12_keep_58 : gD cX12_keep 58 (.iaload) 1 59 := ⟨by decide +kernel, rfl⟩
theorem d_X12_keep_59 : gD cX12_keep 59 (.iconst 1) 1 60 := ⟨by decide +kernel, rfl⟩
theorem d_X12_keep_60 : gD cX12_keep 60 (.iadd) 1 61 := ⟨by decide +kernel, rfl⟩
theorem d_X12_keep_61 : gD cX12_keep 61 (.iastore) 1 62 := ⟨by decide +kernel, rfl⟩
theorem d_X12_keep_62 : gD cX12_keep 62 (.return_) 1 63 := ⟨by decide +kernel, rfl⟩
abbrev rm_X12_keep : Room := { frames := 0, cells := 0, slots := 0, locals := 0 }
set_option maxRecDepth 20000 in
theorem w_X12_keep_19 {Γ : GC} {E : GE} (hO : gOk Γ E cX12_keep RX12 7 rm_X12_keep none "keep") (o : Nat) : ∀ (n : Nat) (x1 : Int32) (x2 : Int32) (x3 : Int32) (x5 : Int32) (x6 : Int32) (S : GS), Go Γ E (gBsV Γ E) 7 (0, 0) 19 S [(0, vA (some o)), (1, vI x1), (2, vI x2), (3, vI x3), (5, vI x5), (6, vI x6)] [] (f_X12_keep_19 o n x1 x2 x3 x5 x6 S) := by
  intro n
  induction n with
  | zero =>
    intro x1 x2 x3 x5 x6 S
    exact g_none
  | succ n ih =>
    intro x1 x2 x3 x5 x6 S
    rw [f_X12_keep_19]
    refine g_iload hO d_X12_keep_19 5 rfl ?_
    refine g_iload_n hO d_X12_keep_21 (by rfl) 3 rfl ?_
    refine g_ic_ge (tgt := 52) hO d_X12_keep_22.1 d_X12_keep_22.2 (fun _ => ?_) (fun _ => ?_)
    · skip
      refine g_aload_n hO d_X12_keep_52 (by rfl) 0 rfl ?_
      refine h_getR hO cl_X12 21 rfl wf_X12_44 d_X12_keep_53 (fun v1 => ?_)
      refine g_iload_n hO d_X12_keep_56 (by rfl) 1 rfl ?_
      refine g_dup2 hO d_X12_keep_57 rfl rfl ?_
      refine h_iald hO d_X12_keep_58 (fun v2 => ?_)
      refine g_iconst hO 1 d_X12_keep_59 (by decide) ?_
      refine g_iadd hO d_X12_keep_60 ?_
      refine h_iast hO d_X12_keep_61 (fun S3 => ?_)
      exact g_vret hO rfl ⟨Nat.le_of_ble_eq_true rfl, Nat.le_of_ble_eq_true rfl⟩ rfl rfl d_X12_keep_62.1
    · skip
      refine g_aload_n hO d_X12_keep_25 (by rfl) 0 rfl ?_
      refine h_getR hO cl_X12 21 rfl wf_X12_44 d_X12_keep_26 (fun v4 => ?_)
      refine g_iload_n hO d_X12_keep_29 (by rfl) 2 rfl ?_
      refine g_iload_n hO d_X12_keep_30 (by rfl) 3 rfl ?_
      refine g_iload hO d_X12_keep_31 4 rfl ?_
      refine g_imul hO d_X12_keep_33 ?_
      refine g_iadd hO d_X12_keep_34 ?_
      refine g_iload hO d_X12_keep_35 5 rfl ?_
      refine g_iadd hO d_X12_keep_37 ?_
      refine g_aload_n hO d_X12_keep_38 (by rfl) 0 rfl ?_
      refine h_getR hO cl_X12 22 rfl wf_X12_47 d_X12_keep_39 (fun v5 => ?_)
      refine g_iload hO d_X12_keep_42 5 rfl ?_
      refine h_iald hO d_X12_keep_44 (fun v6 => ?_)
      refine h_iast hO d_X12_keep_45 (fun S7 => ?_)
      refine g_iinc (lv' := [(6, vI (x6 + 1)), (0, vA (some o)), (1, vI x1), (2, vI x2), (3, vI x3), (5, vI x5)]) hO 1 d_X12_keep_46 (by decide) 5 rfl (by decide) rfl ?_
      refine g_goto (tgt := 19) hO d_X12_keep_49.1 d_X12_keep_49.2 ?_
      exact g_sub [1, 2, 3, 4, 5, 0] rfl (ih _ _ _ _ _ _)
set_option maxRecDepth 20000 in
theorem w_X12_keep {Γ : GC} {E : GE} (hO : gOk Γ E cX12_keep RX12 7 rm_X12_keep none "keep") (o : Nat) (x1 : Int32) (x2 : Int32) (x3 : Int32) (x4 : Int32) (S : GS) : Go Γ E (gBsV Γ E) 7 (0, 0) 0 S [(0, vA (some o)), (1, vI x1), (2, vI x2), (3, vI x3), (4, vI x4)] [] (f_X12_keep o x1 x2 x3 x4 S) := by
  unfold f_X12_keep
  refine g_aload_n hO d_X12_keep_0 (by rfl) 0 rfl ?_
  refine h_getR hO cl_X12 21 rfl wf_X12_44 d_X12_keep_1 (fun v1 => ?_)
  refine g_iload_n hO d_X12_keep_4 (by rfl) 1 rfl ?_
  refine h_iald hO d_X12_keep_5 (fun v2 => ?_)
  refine g_istore (lv' := [(5, vI v2), (0, vA (some o)), (1, vI x1), (2, vI x2), (3, vI x3), (4, vI x4)]) hO d_X12_keep_6 (by decide) rfl ?_
  refine g_iload hO d_X12_keep_8 0 rfl ?_
  refine g_iload hO d_X12_keep_10 5 rfl ?_
  refine g_ic_ne (tgt := 16) hO d_X12_keep_12.1 d_X12_keep_12.2 (fun _ => ?_) (fun _ => ?_)
  · skip
    exact g_vret hO rfl ⟨Nat.le_of_ble_eq_true rfl, Nat.le_of_ble_eq_true rfl⟩ rfl rfl d_X12_keep_15.1
  · skip
    refine g_iconst hO 0 d_X12_keep_16 (by decide) ?_
    refine g_istore (lv' := [(6, vI 0), (5, vI v2), (0, vA (some o)), (1, vI x1), (2, vI x2), (3, vI x3), (4, vI x4)]) hO d_X12_keep_17 (by decide) rfl ?_
    exact g_sub [2, 3, 4, 5, 1, 0] rfl (w_X12_keep_19 hO o _ _ _ _ _ _ _)
theorem t_X12_keep (l : Launch) (E : GE) (o : Nat) (x1 : Int32) (x2 : Int32) (x3 : Int32) (x4 : Int32) (S : GS) : ∀ a, f_X12_keep o x1 x2 x3 x4 S = some a → Ct l E yX12_keep cX12_keep 7 none rm_X12_keep [vA (some o), vI x1, vI x2, vI x3, vI x4] S none a :=
  Ct_of (val := fun _ => none) (nxt := fun b => b) (by decide) (Nat.le_of_ble_eq_true rfl) (fun Γ hl hO => w_X12_keep hO o x1 x2 x3 x4 S)
theorem d_X12_ladyLine_0 : gD cX12_ladyLine 0 (.aload_n 0) 1 1 := ⟨by decide +kernel, rfl⟩
theorem d_X12_ladyLine_1 : gD cX12_ladyLine 1 (.iconst 0) 1 2 := ⟨by decide +kernel, rfl⟩
theorem d_X12_ladyLine_2 : gD cX12_ladyLine 2 (.iconst 0) 1 3 := ⟨by decide +kernel, rfl⟩
theorem d_X12_ladyLine_3 : gD cX12_ladyLine 3 (.iconst 3) 1 4 := ⟨by decide +kernel, rfl⟩
theorem d_X12_ladyLine_4 : gD cX12_ladyLine 4 (.invokevirtual 167) 3 7 := ⟨by decide +kernel, rfl⟩
theorem d_X12_ladyLine_7 : gD cX12_ladyLine 7 (.ifCond .ne 5) 3 10 ∧ ((7 : Nat) : Int) + 5 = ((12 : Nat) : Int) := ⟨⟨by decide +kernel, rfl⟩, by decide⟩
theorem d_X12_ladyLine_10 : gD cX12_ladyLine 10 (.iconst 0) 1 11 := ⟨by decide +kernel, rfl⟩
theorem d_X12_ladyLine_11 : gD cX12_ladyLine 11 (.ireturn) 1 12 := ⟨by decide +kernel, rfl⟩
theorem d_X12_ladyLine_12 : gD cX12_ladyLine 12 (.aload_n 0) 1 13 := ⟨by decide +kernel, rfl⟩
theorem d_X12_ladyLine_13 : gD cX12_ladyLine 13 (.aload_n 0) 1 14 := ⟨by decide +kernel, rfl⟩
theorem d_X12_ladyLine_14 : gD cX12_ladyLine 14 (.getfield 170) 3 17 := ⟨by decide +kernel, rfl⟩
theorem d_X12_ladyLine_17 : gD cX12_ladyLine 17 (.aload_n 0) 1 18 := ⟨by decide +kernel, rfl⟩
theorem d_X12_ladyLine_18 : gD cX12_ladyLine 18 (.getfield 47) 3 21 := ⟨by decide +kernel, rfl⟩
theorem d_X12_ladyLine_21 : gD cX12_ladyLine 21 (.iconst 0) 1 22 := ⟨by decide +kernel, rfl⟩
theorem d_X12_ladyLine_22 : gD cX12_ladyLine 22 (.iaload) 1 23 := ⟨by decide +kernel, rfl⟩
theorem d_X12_ladyLine_23 : gD cX12_ladyLine 23 (.invokestatic 173) 3 26 := ⟨by decide +kernel, rfl⟩
theorem d_X12_ladyLine_26 : gD cX12_ladyLine 26 (.putfield 170) 3 29 := ⟨by decide +kernel, rfl⟩
theorem d_X12_ladyLine_29 : gD cX12_ladyLine 29 (.aload_n 0) 1 30 := ⟨by decide +kernel, rfl⟩
theorem d_X12_ladyLine_30 : gD cX12_ladyLine 30 (.iconst 1) 1 31 := ⟨by decide +kernel, rfl⟩
theorem d_X12_ladyLine_31 : gD cX12_ladyLine 31 (.iconst 0) 1 32 := ⟨by decide +kernel, rfl⟩
theorem d_X12_ladyLine_32 : gD cX12_ladyLine 32 (.bipush 30) 2 34 := ⟨by decide +kernel, rfl⟩
theorem d_X12_ladyLine_34 : gD cX12_ladyLine 34 (.invokevirtual 167) 3 37 := ⟨by decide +kernel, rfl⟩
theorem d_X12_ladyLine_37 : gD cX12_ladyLine 37 (.ifCond .eq 36) 3 40 ∧ ((37 : Nat) : Int) + 36 = ((73 : Nat) : Int) := ⟨⟨by decide +kernel, rfl⟩, by decide⟩
theorem d_X12_ladyLine_40 : gD cX12_ladyLine 40 (.aload_n 0) 1 41 := ⟨by decide +kernel, rfl⟩
theorem d_X12_ladyLine_41 : gD cX12_ladyLine 41 (.iconst 2) 1 42 := ⟨by decide +kernel, rfl⟩
theorem d_X12_ladyLine_42 : gD cX12_ladyLine 42 (.iconst 0) 1 43 := ⟨by decide +kernel, rfl⟩
theorem d_X12_ladyLine_43 : gD cX12_ladyLine 43 (.bipush 60) 2 45 := ⟨by decide +kernel, rfl⟩
theorem d_X12_ladyLine_45 : gD cX12_ladyLine 45 (.invokevirtual 167) 3 48 := ⟨by decide +kernel, rfl⟩
theorem d_X12_ladyLine_48 : gD cX12_ladyLine 48 (.ifCond .eq 25) 3 51 ∧ ((48 : Nat) : Int) + 25 = ((73 : Nat) : Int) := ⟨⟨by decide +kernel, rfl⟩, by decide⟩
theorem d_X12_ladyLine_51 : gD cX12_ladyLine 51 (.aload_n 0) 1 52 := ⟨by decide +kernel, rfl⟩
theorem d_X12_ladyLine_52 : gD cX12_ladyLine 52 (.iconst 3) 1 53 := ⟨by decide +kernel, rfl⟩
theorem d_X12_ladyLine_53 : gD cX12_ladyLine 53 (.iconst 0) 1 54 := ⟨by decide +kernel, rfl⟩
theorem d_X12_ladyLine_54 : gD cX12_ladyLine 54 (.bipush 90) 2 56 := ⟨by decide +kernel, rfl⟩
theorem d_X12_ladyLine_56 : gD cX12_ladyLine 56 (.invokevirtual 167) 3 59 := ⟨by decide +kernel, rfl⟩
theorem d_X12_ladyLine_59 : gD cX12_ladyLine 59 (.ifCond .eq 14) 3 62 ∧ ((59 : Nat) : Int) + 14 = ((73 : Nat) : Int) := ⟨⟨by decide +kernel, rfl⟩, by decide⟩
theorem d_X12_ladyLine_62 : gD cX12_ladyLine 62 (.aload_n 0) 1 63 := ⟨by decide +kernel, rfl⟩
theorem d_X12_ladyLine_63 : gD cX12_ladyLine 63 (.iconst 4) 1 64 := ⟨by decide +kernel, rfl⟩
theorem d_X12_ladyLine_64 : gD cX12_ladyLine 64 (.iconst 0) 1 65 := ⟨by decide +kernel, rfl⟩
theorem d_X12_ladyLine_65 : gD cX12_ladyLine 65 (.bipush 40) 2 67 := ⟨by decide +kernel, rfl⟩
theorem d_X12_ladyLine_67 : gD cX12_ladyLine 67 (.invokevirtual 167) 3 70 := ⟨by decide +kernel, rfl⟩
theorem d_X12_ladyLine_70 : gD cX12_ladyLine 70 (.ifCond .ne 5) 3 73 ∧ ((70 : Nat) : Int) + 5 = ((75 : Nat) : Int) := ⟨⟨by decide +kernel, rfl⟩, by decide⟩
theorem d_X12_ladyLine_73 : gD cX12_ladyLine 73 (.iconst 0) 1 74 := ⟨by decide +kernel, rfl⟩
theorem d_X12_ladyLine_74 : gD cX12_ladyLine 74 (.ireturn) 1 75 := ⟨by decide +kernel, rfl⟩
theorem d_X12_ladyLine_75 : gD cX12_ladyLine 75 (.aload_n 0) 1 76 := ⟨by decide +kernel, rfl⟩
theorem d_X12_ladyLine_76 : gD cX12_ladyLine 76 (.iconst 1) 1 77 := ⟨by decide +kernel, rfl⟩
theorem d_X12_ladyLine_77 : gD cX12_ladyLine 77 (.bipush 29) 2 79 := ⟨by decide +kernel, rfl⟩
theorem d_X12_ladyLine_79 : gD cX12_ladyLine 79 (.iconst 5) 1 80 := ⟨by decide +kernel, rfl⟩
theorem d_X12_ladyLine_80 : gD cX12_ladyLine 80 (.bipush 8) 2 82 := ⟨by decide +kernel, rfl⟩
theorem d_X12_ladyLine_82 : gD cX12_ladyLine 82 (.invokevirtual 177) 3 85 := ⟨by decide +kernel, rfl⟩
theorem d_X12_ladyLine_85 : gD cX12_ladyLine 85 (.iconst 1) 1 86 := ⟨by decide +kernel, rfl⟩
theorem d_X12_ladyLine_86 : gD cX12_ladyLine 86 (.ireturn) 1 87 := ⟨by decide +kernel, rfl⟩
abbrev rm_X12_ladyLine : Room := { frames := 4, cells := 0, slots := 0, locals := 91 }
set_option maxRecDepth 20000 in
theorem w_X12_ladyLine {Γ : GC} {E : GE} (hO : gOk Γ E cX12_ladyLine RX12 1 rm_X12_ladyLine (some .boolean) "ladyLine") (o : Nat) (S : GS) : Go Γ E (gBsI Γ E) 1 (0, 0) 0 S [(0, vA (some o))] [] (f_X12_ladyLine o S) := by
  unfold f_X12_ladyLine
  refine g_aload_n hO d_X12_ladyLine_0 (by rfl) 0 rfl ?_
  refine g_iconst hO 0 d_X12_ladyLine_1 (by decide) ?_
  refine g_iconst hO 0 d_X12_ladyLine_2 (by decide) ?_
  refine g_iconst hO 3 d_X12_ladyLine_3 (by decide) ?_
  refine k_virtIs hO cl_X12 mm_X12_take lkV_X12_167 ⟨⟨Nat.le_of_ble_eq_true rfl, Nat.le_of_ble_eq_true rfl⟩, Nat.le_of_ble_eq_true rfl, Nat.le_of_ble_eq_true rfl⟩ (kn' := (0, 0)) rfl (As := [vI 0, vI 0, vI 3]) rfl (Nat.le_of_ble_eq_true rfl) (fun o' _ => t_X12_take Γ.2.1 E o' 0 0 3 S) d_X12_ladyLine_4 rfl (fun v1 S2 => ?_)
  refine g_if_ne (tgt := 12) hO d_X12_ladyLine_7.1 d_X12_ladyLine_7.2 (fun _ => ?_) (fun _ => ?_)
  · skip
    refine g_iconst hO 0 d_X12_ladyLine_10 (by decide) ?_
    exact g_ret hO rfl rfl ⟨Nat.le_of_ble_eq_true rfl, Nat.le_of_ble_eq_true rfl⟩ rfl rfl d_X12_ladyLine_11.1
  · skip
    refine g_aload_n hO d_X12_ladyLine_12 (by rfl) 0 rfl ?_
    refine g_aload_n hO d_X12_ladyLine_13 (by rfl) 0 rfl ?_
    refine h_getI hO cl_X12 23 rfl wf_X12_170 d_X12_ladyLine_14 (fun v3 => ?_)
    refine g_aload_n hO d_X12_ladyLine_17 (by rfl) 0 rfl ?_
    refine h_getR hO cl_X12 22 rfl wf_X12_47 d_X12_ladyLine_18 (fun v4 => ?_)
    refine g_iconst hO 0 d_X12_ladyLine_21 (by decide) ?_
    refine h_iald hO d_X12_ladyLine_22 (fun v5 => ?_)
    refine k_statIp hO mm_X12_greater lkS_X12_173 ⟨⟨Nat.le_of_ble_eq_true rfl, Nat.le_of_ble_eq_true rfl⟩, Nat.le_of_ble_eq_true rfl, Nat.le_of_ble_eq_true rfl⟩ (kn' := (0, 0)) rfl (As := [vI v3, vI v5]) rfl (Nat.le_of_ble_eq_true rfl) (t_X12_greater Γ.2.1 E v3 v5 S2) d_X12_ladyLine_23 rfl (fun v6 => ?_)
    refine h_putI hO cl_X12 23 rfl rfl wf_X12_170 (Or.inl rfl) d_X12_ladyLine_26 (fun S8 => ?_)
    refine g_aload_n hO d_X12_ladyLine_29 (by rfl) 0 rfl ?_
    refine g_iconst hO 1 d_X12_ladyLine_30 (by decide) ?_
    refine g_iconst hO 0 d_X12_ladyLine_31 (by decide) ?_
    refine g_bipush hO 30 d_X12_ladyLine_32 (by decide) ?_
    refine k_virtIs hO cl_X12 mm_X12_take lkV_X12_167 ⟨⟨Nat.le_of_ble_eq_true rfl, Nat.le_of_ble_eq_true rfl⟩, Nat.le_of_ble_eq_true rfl, Nat.le_of_ble_eq_true rfl⟩ (kn' := (0, 0)) rfl (As := [vI 1, vI 0, vI 30]) rfl (Nat.le_of_ble_eq_true rfl) (fun o' _ => t_X12_take Γ.2.1 E o' 1 0 30 S8) d_X12_ladyLine_34 rfl (fun v9 S10 => ?_)
    refine g_if_eq (tgt := 73) hO d_X12_ladyLine_37.1 d_X12_ladyLine_37.2 (fun _ => ?_) (fun _ => ?_)
    · skip
      refine g_iconst hO 0 d_X12_ladyLine_73 (by decide) ?_
      exact g_ret hO rfl rfl ⟨Nat.le_of_ble_eq_true rfl, Nat.le_of_ble_eq_true rfl⟩ rfl rfl d_X12_ladyLine_74.1
    · skip
      refine g_aload_n hO d_X12_ladyLine_40 (by rfl) 0 rfl ?_
      refine g_iconst hO 2 d_X12_ladyLine_41 (by decide) ?_
      refine g_iconst hO 0 d_X12_ladyLine_42 (by decide) ?_
      refine g_bipush hO 60 d_X12_ladyLine_43 (by decide) ?_
      refine k_virtIs hO cl_X12 mm_X12_take lkV_X12_167 ⟨⟨Nat.le_of_ble_eq_true rfl, Nat.le_of_ble_eq_true rfl⟩, Nat.le_of_ble_eq_true rfl, Nat.le_of_ble_eq_true rfl⟩ (kn' := (0, 0)) rfl (As := [vI 2, vI 0, vI 60]) rfl (Nat.le_of_ble_eq_true rfl) (fun o' _ => t_X12_take Γ.2.1 E o' 2 0 60 S10) d_X12_ladyLine_45 rfl (fun v11 S12 => ?_)
      refine g_if_eq (tgt := 73) hO d_X12_ladyLine_48.1 d_X12_ladyLine_48.2 (fun _ => ?_) (fun _ => ?_)
      · skip
        refine g_iconst hO 0 d_X12_ladyLine_73 (by decide) ?_
        exact g_ret hO rfl rfl ⟨Nat.le_of_ble_eq_true rfl, Nat.le_of_ble_eq_true rfl⟩ rfl rfl d_X12_ladyLine_74.1
      · skip
        refine g_aload_n hO d_X12_ladyLine_51 (by rfl) 0 rfl ?_
        refine g_iconst hO 3 d_X12_ladyLine_52 (by decide) ?_
        refine g_iconst hO 0 d_X12_ladyLine_53 (by decide) ?_
        refine g_bipush hO 90 d_X12_ladyLine_54 (by decide) ?_
        refine k_virtIs hO cl_X12 mm_X12_take lkV_X12_167 ⟨⟨Nat.le_of_ble_eq_true rfl, Nat.le_of_ble_eq_true rfl⟩, Nat.le_of_ble_eq_true rfl, Nat.le_of_ble_eq_true rfl⟩ (kn' := (0, 0)) rfl (As := [vI 3, vI 0, vI 90]) rfl (Nat.le_of_ble_eq_true rfl) (fun o' _ => t_X12_take Γ.2.1 E o' 3 0 90 S12) d_X12_ladyLine_56 rfl (fun v13 S14 => ?_)
        refine g_if_eq (tgt := 73) hO d_X12_ladyLine_59.1 d_X12_ladyLine_59.2 (fun _ => ?_) (fun _ => ?_)
        · skip
          refine g_iconst hO 0 d_X12_ladyLine_73 (by decide) ?_
          exact g_ret hO rfl rfl ⟨Nat.le_of_ble_eq_true rfl, Nat.le_of_ble_eq_true rfl⟩ rfl rfl d_X12_ladyLine_74.1
        · skip
          refine g_aload_n hO d_X12_ladyLine_62 (by rfl) 0 rfl ?_
          refine g_iconst hO 4 d_X12_ladyLine_63 (by decide) ?_
          refine g_iconst hO 0 d_X12_ladyLine_64 (by decide) ?_
          refine g_bipush hO 40 d_X12_ladyLine_65 (by decide) ?_
          refine k_virtIs hO cl_X12 mm_X12_take lkV_X12_167 ⟨⟨Nat.le_of_ble_eq_true rfl, Nat.le_of_ble_eq_true rfl⟩, Nat.le_of_ble_eq_true rfl, Nat.le_of_ble_eq_true rfl⟩ (kn' := (0, 0)) rfl (As := [vI 4, vI 0, vI 40]) rfl (Nat.le_of_ble_eq_true rfl) (fun o' _ => t_X12_take Γ.2.1 E o' 4 0 40 S14) d_X12_ladyLine_67 rfl (fun v15 S16 => ?_)
          refine g_if_ne (tgt := 75) hO d_X12_ladyLine_70.1 d_X12_ladyLine_70.2 (fun _ => ?_) (fun _ => ?_)
          · skip
            refine g_iconst hO 0 d_X12_ladyLine_73 (by decide) ?_
            exact g_ret hO rfl rfl ⟨Nat.le_of_ble_eq_true rfl, Nat.le_of_ble_eq_true rfl⟩ rfl rfl d_X12_ladyLine_74.1
          · skip
            refine g_aload_n hO d_X12_ladyLine_75 (by rfl) 0 rfl ?_
            refine g_iconst hO 1 d_X12_ladyLine_76 (by decide) ?_
            refine g_bipush hO 29 d_X12_ladyLine_77 (by decide) ?_
            refine g_iconst hO 5 d_X12_ladyLine_79 (by decide) ?_
            refine g_bipush hO 8 d_X12_ladyLine_80 (by decide) ?_
            refine k_virtVs hO cl_X12 mm_X12_keep lkV_X12_177 ⟨⟨Nat.le_of_ble_eq_true rfl, Nat.le_of_ble_eq_true rfl⟩, Nat.le_of_ble_eq_true rfl, Nat.le_of_ble_eq_true rfl⟩ (kn' := (0, 0)) rfl (As := [vI 1, vI 29, vI 5, vI 8]) rfl (Nat.le_of_ble_eq_true rfl) (fun o' _ => t_X12_keep Γ.2.1 E o' 1 29 5 8 S16) d_X12_ladyLine_82 rfl (fun S18 => ?_)
            refine g_iconst hO 1 d_X12_ladyLine_85 (by decide) ?_
            exact g_ret hO rfl rfl ⟨Nat.le_of_ble_eq_true rfl, Nat.le_of_ble_eq_true rfl⟩ rfl rfl d_X12_ladyLine_86.1
theorem t_X12_ladyLine (l : Launch) (E : GE) (o : Nat) (S : GS) : ∀ a, f_X12_ladyLine o S = some a → Ct l E yX12_ladyLine cX12_ladyLine 1 (some .boolean) rm_X12_ladyLine [vA (some o)] S (some (vI a.1)) a.2 :=
  Ct_of (val := fun (b : Int32 × GS) => some (vI b.1)) (nxt := fun (b : Int32 × GS) => b.2) (by decide) (Nat.le_of_ble_eq_true rfl) (fun Γ hl hO => w_X12_ladyLine hO o S)
theorem d_X12_properLine_0 : gD cX12_properLine 0 (.aload_n 0) 1 1 := ⟨by decide +kernel, rfl⟩
theorem d_X12_properLine_1 : gD cX12_properLine 1 (.getfield 130) 3 4 := ⟨by decide +kernel, rfl⟩
theorem d_X12_properLine_4 : gD cX12_properLine 4 (.istore_n 1) 1 5 := ⟨by decide +kernel, rfl⟩
theorem d_X12_properLine_5 : gD cX12_properLine 5 (.aload_n 0) 1 6 := ⟨by decide +kernel, rfl⟩
theorem d_X12_properLine_6 : gD cX12_properLine 6 (.iconst 0) 1 7 := ⟨by decide +kernel, rfl⟩
theorem d_X12_properLine_7 : gD cX12_properLine 7 (.iconst 0) 1 8 := ⟨by decide +kernel, rfl⟩
theorem d_X12_properLine_8 : gD cX12_properLine 8 (.bipush 40) 2 10 := ⟨by decide +kernel, rfl⟩
theorem d_X12_properLine_10 : gD cX12_properLine 10 (.invokevirtual 167) 3 13 := ⟨by decide +kernel, rfl⟩
theorem d_X12_properLine_13 : gD cX12_properLine 13 (.ifCond .ne 5) 3 16 ∧ ((13 : Nat) : Int) + 5 = ((18 : Nat) : Int) := ⟨⟨by decide +kernel, rfl⟩, by decide⟩
theorem d_X12_properLine_16 : gD cX12_properLine 16 (.iconst 0) 1 17 := ⟨by decide +kernel, rfl⟩
theorem d_X12_properLine_17 : gD cX12_properLine 17 (.ireturn) 1 18 := ⟨by decide +kernel, rfl⟩
theorem d_X12_properLine_18 : gD cX12_properLine 18 (.aload_n 0) 1 19 := ⟨by decide +kernel, rfl⟩
theorem d_X12_properLine_19 : gD cX12_properLine 19 (.getfield 47) 3 22 := ⟨by decide +kernel, rfl⟩
theorem d_X12_properLine_22 : gD cX12_properLine 22 (.iconst 0) 1 23 := ⟨by decide +kernel, rfl⟩
theorem d_X12_properLine_23 : gD cX12_properLine 23 (.iaload) 1 24 := ⟨by decide +kernel, rfl⟩
theorem d_X12_properLine_24 : gD cX12_properLine 24 (.bipush 40) 2 26 := ⟨by decide +kernel, rfl⟩
theorem d_X12_properLine_26 : gD cX12_properLine 26 (.if_icmp .gt 27) 3 29 ∧ ((26 : Nat) : Int) + 27 = ((53 : Nat) : Int) := ⟨⟨by decide +kernel, rfl⟩, by decide⟩
theorem d_X12_properLine_29 : gD cX12_properLine 29 (.aload_n 0) 1 30 := ⟨by decide +kernel, rfl⟩
theorem d_X12_properLine_30 : gD cX12_properLine 30 (.getfield 181) 3 33 := ⟨by decide +kernel, rfl⟩
theorem d_X12_properLine_33 : gD cX12_properLine 33 (.aload_n 0) 1 34 := ⟨by decide +kernel, rfl⟩
theorem d_X12_properLine_34 : gD cX12_properLine 34 (.getfield 47) 3 37 := ⟨by decide +kernel, rfl⟩
theorem d_X12_properLine_37 : gD cX12_properLine 37 (.iconst 0) 1 38 := ⟨by decide +kernel, rfl⟩
theorem d_X12_properLine_38 : gD cX12_properLine 38 (.iaload) 1 39 := ⟨by decide +kernel, rfl⟩
theorem d_X12_properLine_39 : gD cX12_properLine 39 (.lshr) 1 40 := ⟨by decide +kernel, rfl⟩
theorem d_X12_properLine_40 : gD cX12_properLine 40 (.lconst 1) 1 41 := ⟨by decide +kernel, rfl⟩
theorem d_X12_properLine_41 : gD cX12_properLine 41 (.land) 1 42 := ⟨by decide +kernel, rfl⟩
theorem d_X12_properLine_42 : gD cX12_properLine 42 (.lconst 1) 1 43 := ⟨by decide +kernel, rfl⟩
theorem d_X12_properLine_43 : gD cX12_properLine 43 (.lcmp) 1 44 := ⟨by decide +kernel, rfl⟩
theorem d_X12_properLine_44 : gD cX12_properLine 44 (.ifCond .ne 9) 3 47 ∧ ((44 : Nat) : Int) + 9 = ((53 : Nat) : Int) := ⟨⟨by decide +kernel, rfl⟩, by decide⟩
theorem d_X12_properLine_47 : gD cX12_properLine 47 (.aload_n 0) 1 48 := ⟨by decide +kernel, rfl⟩
theorem d_X12_properLine_48 : gD cX12_properLine 48 (.iconst 2) 1 49 := ⟨by decide +kernel, rfl⟩
theorem d_X12_properLine_49 : gD cX12_properLine 49 (.iload_n 1) 1 50 := ⟨by decide +kernel, rfl⟩
theorem d_X12_properLine_50 : gD cX12_properLine 50 (.invokevirtual 156) 3 53 := ⟨by decide +kernel, rfl⟩
theorem d_X12_properLine_53 : gD cX12_properLine 53 (.aload_n 0) 1 54 := ⟨by decide +kernel, rfl⟩
theorem d_X12_properLine_54 : gD cX12_properLine 54 (.dup) 1 55 := ⟨by decide +kernel, rfl⟩
theorem d_X12_properLine_55 : gD cX12_properLine 55 (.getfield 181) 3 58 := ⟨by decide +kernel, rfl⟩
theorem d_X12_properLine_58 : gD cX12_properLine 58 (.aload_n 0) 1 59 := ⟨by decide +kernel, rfl⟩
theorem d_X12_properLine_59 : gD cX12_properLine 59 (.getfield 47) 3 62 := ⟨by decide +kernel, rfl⟩
theorem d_X12_properLine_62 : gD cX12_properLine 62 (.iconst 0) 1 63 := ⟨by decide +kernel, rfl⟩
theorem d_X12_properLine_63 : gD cX12_properLine 63 (.iaload) 1 64 := ⟨by decide +kernel, rfl⟩
theorem d_X12_properLine_64 : gD cX12_properLine 64 (.bipush 40) 2 66 := ⟨by decide +kernel, rfl⟩
theorem d_X12_properLine_66 : gD cX12_properLine 66 (.if_icmp .gt 14) 3 69 ∧ ((66 : Nat) : Int) + 14 = ((80 : Nat) : Int) := ⟨⟨by decide +kernel, rfl⟩, by decide⟩
theorem d_X12_properLine_69 : gD cX12_properLine 69 (.lconst 1) 1 70 := ⟨by decide +kernel, rfl⟩
theorem d_X12_properLine_70 : gD cX12_properLine 70 (.aload_n 0) 1 71 := ⟨by decide +kernel, rfl⟩
theorem d_X12_properLine_71 : gD cX12_properLine 71 (.getfield 47) 3 74 := ⟨by decide +kernel, rfl⟩
theorem d_X12_properLine_74 : gD cX12_properLine 74 (.iconst 0) 1 75 := ⟨by decide +kernel, rfl⟩
theorem d_X12_properLine_75 : gD cX12_properLine 75 (.iaload) 1 76 := ⟨by decide +kernel, rfl⟩
theorem d_X12_properLine_76 : gD cX12_properLine 76 (.lshl) 1 77 := ⟨by decide +kernel, rfl⟩
theorem d_X12_properLine_77 : decode cX12_properLine 77 = .ok (.goto 4, 3) ∧ ((77 : Nat) : Int) + 4 = ((81 : Nat) : Int) := ⟨by decide +kernel, by decide⟩
theorem d_X12_properLine_80 : gD cX12_properLine 80 (.lconst 0) 1 81 := ⟨by decide +kernel, rfl⟩
theorem d_X12_properLine_81 : gD cX12_properLine 81 (.lor) 1 82 := ⟨by decide +kernel, rfl⟩
theorem d_X12_properLine_82 : gD cX12_properLine 82 (.putfield 181) 3 85 := ⟨by decide +kernel, rfl⟩
theorem d_X12_properLine_85 : gD cX12_properLine 85 (.aload_n 0) 1 86 := ⟨by decide +kernel, rfl⟩
theorem d_X12_properLine_86 : gD cX12_properLine 86 (.iconst 1) 1 87 := ⟨by decide +kernel, rfl⟩
theorem d_X12_properLine_87 : gD cX12_properLine 87 (.iconst 0) 1 88 := ⟨by decide +kernel, rfl⟩
theorem d_X12_properLine_88 : gD cX12_properLine 88 (.bipush 30) 2 90 := ⟨by decide +kernel, rfl⟩
theorem d_X12_properLine_90 : gD cX12_properLine 90 (.invokevirtual 167) 3 93 := ⟨by decide +kernel, rfl⟩
theorem d_X12_properLine_93 : gD cX12_properLine 93 (.ifCond .ne 5) 3 96 ∧ ((93 : Nat) : Int) + 5 = ((98 : Nat) : Int) := ⟨⟨by decide +kernel, rfl⟩, by decide⟩
theorem d_X12_properLine_96 : gD cX12_properLine 96 (.iconst 0) 1 97 := ⟨by decide +kernel, rfl⟩
theorem d_X12_properLine_97 : gD cX12_properLine 97 (.ireturn) 1 98 := ⟨by decide +kernel, rfl⟩
theorem d_X12_properLine_98 : gD cX12_properLine 98 (.aload_n 0) 1 99 := ⟨by decide +kernel, rfl⟩
theorem d_X12_properLine_99 : gD cX12_properLine 99 (.iconst 2) 1 100 := ⟨by decide +kernel, rfl⟩
theorem d_X12_properLine_100 : gD cX12_properLine 100 (.bipush 17) 2 102 := ⟨by decide +kernel, rfl⟩
theorem d_X12_properLine_102 : gD cX12_properLine 102 (.iconst 2) 1 103 := ⟨by decide +kernel, rfl⟩
theorem d_X12_properLine_103 : gD cX12_properLine 103 (.bipush 6) 2 105 := ⟨by decide +kernel, rfl⟩
theorem d_X12_properLine_105 : gD cX12_properLine 105 (.invokevirtual 177) 3 108 := ⟨by decide +kernel, rfl⟩
theorem d_X12_properLine_108 : gD cX12_properLine 108 (.iconst 1) 1 109 := ⟨by decide +kernel, rfl⟩
theorem d_X12_properLine_109 : gD cX12_properLine 109 (.ireturn) 1 110 := ⟨by decide +kernel, rfl⟩
abbrev rm_X12_properLine : Room := { frames := 4, cells := 0, slots := 0, locals := 91 }
set_option maxRecDepth 20000 in
theorem w_X12_properLine_81 {Γ : GC} {E : GE} (hO : gOk Γ E cX12_properLine RX12 2 rm_X12_properLine (some .boolean) "properLine") (o : Nat) (y0 : Option Nat) (y1 : Int64) (y2 : Int64) (S : GS) : Go Γ E (gBsI Γ E) 2 (0, 0) 81 S [(0, vA (some o))] [vJ y2, vJ y1, vA y0] (f_X12_properLine_81 o y0 y1 y2 S) := by
  unfold f_X12_properLine_81
  refine g_lor hO d_X12_properLine_81 ?_
  refine h_putJ hO cl_X12 24 rfl rfl wf_X12_181 (Or.inl rfl) d_X12_properLine_82 (fun S1 => ?_)
  refine g_aload_n hO d_X12_properLine_85 (by rfl) 0 rfl ?_
  refine g_iconst hO 1 d_X12_properLine_86 (by decide) ?_
  refine g_iconst hO 0 d_X12_properLine_87 (by decide) ?_
  refine g_bipush hO 30 d_X12_properLine_88 (by decide) ?_
  refine k_virtIs hO cl_X12 mm_X12_take lkV_X12_167 ⟨⟨Nat.le_of_ble_eq_true rfl, Nat.le_of_ble_eq_true rfl⟩, Nat.le_of_ble_eq_true rfl, Nat.le_of_ble_eq_true rfl⟩ (kn' := (0, 0)) rfl (As := [vI 1, vI 0, vI 30]) rfl (Nat.le_of_ble_eq_true rfl) (fun o' _ => t_X12_take Γ.2.1 E o' 1 0 30 S1) d_X12_properLine_90 rfl (fun v2 S3 => ?_)
  refine g_if_ne (tgt := 98) hO d_X12_properLine_93.1 d_X12_properLine_93.2 (fun _ => ?_) (fun _ => ?_)
  · skip
    refine g_iconst hO 0 d_X12_properLine_96 (by decide) ?_
    exact g_ret hO rfl rfl ⟨Nat.le_of_ble_eq_true rfl, Nat.le_of_ble_eq_true rfl⟩ rfl rfl d_X12_properLine_97.1
  · skip
    refine g_aload_n hO d_X12_properLine_98 (by rfl) 0 rfl ?_
    refine g_iconst hO 2 d_X12_properLine_99 (by decide) ?_
    refine g_bipush hO 17 d_X12_properLine_100 (by decide) ?_
    refine g_iconst hO 2 d_X12_properLine_102 (by decide) ?_
    refine g_bipush hO 6 d_X12_properLine_103 (by decide) ?_
    refine k_virtVs hO cl_X12 mm_X12_keep lkV_X12_177 ⟨⟨Nat.le_of_ble_eq_true rfl, Nat.le_of_ble_eq_true rfl⟩, Nat.le_of_ble_eq_true rfl, Nat.le_of_ble_eq_true rfl⟩ (kn' := (0, 0)) rfl (As := [vI 2, vI 17, vI 2, vI 6]) rfl (Nat.le_of_ble_eq_true rfl) (fun o' _ => t_X12_keep Γ.2.1 E o' 2 17 2 6 S3) d_X12_properLine_105 rfl (fun S5 => ?_)
    refine g_iconst hO 1 d_X12_properLine_108 (by decide) ?_
    exact g_ret hO rfl rfl ⟨Nat.le_of_ble_eq_true rfl, Nat.le_of_ble_eq_true rfl⟩ rfl rfl d_X12_properLine_109.1
set_option maxRecDepth 20000 in
theorem w_X12_properLine_53 {Γ : GC} {E : GE} (hO : gOk Γ E cX12_properLine RX12 2 rm_X12_properLine (some .boolean) "properLine") (o : Nat) (S : GS) : Go Γ E (gBsI Γ E) 2 (0, 0) 53 S [(0, vA (some o))] [] (f_X12_properLine_53 o S) := by
  unfold f_X12_properLine_53
  refine g_aload_n hO d_X12_properLine_53 (by rfl) 0 rfl ?_
  refine g_dup hO d_X12_properLine_54 rfl ?_
  refine h_getJ hO cl_X12 24 rfl wf_X12_181 d_X12_properLine_55 (fun v1 => ?_)
  refine g_aload_n hO d_X12_properLine_58 (by rfl) 0 rfl ?_
  refine h_getR hO cl_X12 22 rfl wf_X12_47 d_X12_properLine_59 (fun v2 => ?_)
  refine g_iconst hO 0 d_X12_properLine_62 (by decide) ?_
  refine h_iald hO d_X12_properLine_63 (fun v3 => ?_)
  refine g_bipush hO 40 d_X12_properLine_64 (by decide) ?_
  refine g_ic_gt (tgt := 80) hO d_X12_properLine_66.1 d_X12_properLine_66.2 (fun _ => ?_) (fun _ => ?_)
  · skip
    refine g_lconst hO 0 d_X12_properLine_80 (by decide) ?_
    exact g_sub [0] rfl (w_X12_properLine_81 hO o _ _ _ _)
  · skip
    refine g_lconst hO 1 d_X12_properLine_69 (by decide) ?_
    refine g_aload_n hO d_X12_properLine_70 (by rfl) 0 rfl ?_
    refine h_getR hO cl_X12 22 rfl wf_X12_47 d_X12_properLine_71 (fun v4 => ?_)
    refine g_iconst hO 0 d_X12_properLine_74 (by decide) ?_
    refine h_iald hO d_X12_properLine_75 (fun v5 => ?_)
    refine g_lshl hO d_X12_properLine_76 ?_
    refine g_goto (tgt := 81) hO d_X12_properLine_77.1 d_X12_properLine_77.2 ?_
    exact g_sub [0] rfl (w_X12_properLine_81 hO o _ _ _ _)
set_option maxRecDepth 20000 in
theorem w_X12_properLine {Γ : GC} {E : GE} (hO : gOk Γ E cX12_properLine RX12 2 rm_X12_properLine (some .boolean) "properLine") (o : Nat) (S : GS) : Go Γ E (gBsI Γ E) 2 (0, 0) 0 S [(0, vA (some o))] [] (f_X12_properLine o S) := by
  unfold f_X12_properLine
  refine g_aload_n hO d_X12_properLine_0 (by rfl) 0 rfl ?_
  refine h_getI hO cl_X12 14 rfl wf_X12_130 d_X12_properLine_1 (fun v1 => ?_)
  refine g_istore_n (lv' := [(1, vI v1), (0, vA (some o))]) hO d_X12_properLine_4 (by rfl) (by decide) rfl ?_
  refine g_aload_n hO d_X12_properLine_5 (by rfl) 1 rfl ?_
  refine g_iconst hO 0 d_X12_properLine_6 (by decide) ?_
  refine g_iconst hO 0 d_X12_properLine_7 (by decide) ?_
  refine g_bipush hO 40 d_X12_properLine_8 (by decide) ?_
  refine k_virtIs hO cl_X12 mm_X12_take lkV_X12_167 ⟨⟨Nat.le_of_ble_eq_true rfl, Nat.le_of_ble_eq_true rfl⟩, Nat.le_of_ble_eq_true rfl, Nat.le_of_ble_eq_true rfl⟩ (kn' := (0, 0)) rfl (As := [vI 0, vI 0, vI 40]) rfl (Nat.le_of_ble_eq_true rfl) (fun o' _ => t_X12_take Γ.2.1 E o' 0 0 40 S) d_X12_properLine_10 rfl (fun v2 S3 => ?_)
  refine g_if_ne (tgt := 18) hO d_X12_properLine_13.1 d_X12_properLine_13.2 (fun _ => ?_) (fun _ => ?_)
  · skip
    refine g_iconst hO 0 d_X12_properLine_16 (by decide) ?_
    exact g_ret hO rfl rfl ⟨Nat.le_of_ble_eq_true rfl, Nat.le_of_ble_eq_true rfl⟩ rfl rfl d_X12_properLine_17.1
  · skip
    refine g_aload_n hO d_X12_properLine_18 (by rfl) 1 rfl ?_
    refine h_getR hO cl_X12 22 rfl wf_X12_47 d_X12_properLine_19 (fun v4 => ?_)
    refine g_iconst hO 0 d_X12_properLine_22 (by decide) ?_
    refine h_iald hO d_X12_properLine_23 (fun v5 => ?_)
    refine g_bipush hO 40 d_X12_properLine_24 (by decide) ?_
    refine g_ic_gt (tgt := 53) hO d_X12_properLine_26.1 d_X12_properLine_26.2 (fun _ => ?_) (fun _ => ?_)
    · skip
      exact g_sub [1] rfl (w_X12_properLine_53 hO o _)
    · skip
      refine g_aload_n hO d_X12_properLine_29 (by rfl) 1 rfl ?_
      refine h_getJ hO cl_X12 24 rfl wf_X12_181 d_X12_properLine_30 (fun v6 => ?_)
      refine g_aload_n hO d_X12_properLine_33 (by rfl) 1 rfl ?_
      refine h_getR hO cl_X12 22 rfl wf_X12_47 d_X12_properLine_34 (fun v7 => ?_)
      refine g_iconst hO 0 d_X12_properLine_37 (by decide) ?_
      refine h_iald hO d_X12_properLine_38 (fun v8 => ?_)
      refine g_lshr hO d_X12_properLine_39 ?_
      refine g_lconst hO 1 d_X12_properLine_40 (by decide) ?_
      refine g_land hO d_X12_properLine_41 ?_
      refine g_lconst hO 1 d_X12_properLine_42 (by decide) ?_
      refine g_lcmp hO d_X12_properLine_43 ?_
      refine g_if_ne (tgt := 53) hO d_X12_properLine_44.1 d_X12_properLine_44.2 (fun _ => ?_) (fun _ => ?_)
      · skip
        refine g_aload_n hO d_X12_properLine_47 (by rfl) 1 rfl ?_
        refine g_iconst hO 2 d_X12_properLine_48 (by decide) ?_
        refine g_iload_n hO d_X12_properLine_49 (by rfl) 0 rfl ?_
        refine k_virtVs hO cl_X12 mm_X12_later lkV_X12_156 ⟨⟨Nat.le_of_ble_eq_true rfl, Nat.le_of_ble_eq_true rfl⟩, Nat.le_of_ble_eq_true rfl, Nat.le_of_ble_eq_true rfl⟩ (kn' := (0, 0)) rfl (As := [vI 2, vI v1]) rfl (Nat.le_of_ble_eq_true rfl) (fun o' _ => t_X12_later Γ.2.1 E o' 2 v1 S3) d_X12_properLine_50 rfl (fun S10 => ?_)
        exact g_sub [1] rfl (w_X12_properLine_53 hO o _)
      · skip
        exact g_sub [1] rfl (w_X12_properLine_53 hO o _)
theorem t_X12_properLine (l : Launch) (E : GE) (o : Nat) (S : GS) : ∀ a, f_X12_properLine o S = some a → Ct l E yX12_properLine cX12_properLine 2 (some .boolean) rm_X12_properLine [vA (some o)] S (some (vI a.1)) a.2 :=
  Ct_of (val := fun (b : Int32 × GS) => some (vI b.1)) (nxt := fun (b : Int32 × GS) => b.2) (by decide) (Nat.le_of_ble_eq_true rfl) (fun Γ hl hO => w_X12_properLine hO o S)
