theorem d_X10_goOn_0 : gD cX10_goOn 0 (.aload_n 0) 1 1 := ⟨by decide +kernel, rfl⟩
theorem d_X10_goOn_1 : gD cX10_goOn 1 (.getfield 35) 3 4 := ⟨by decide +kernel, rfl⟩
theorem d_X10_goOn_4 : gD cX10_goOn 4 (.istore_n 1) 1 5 := ⟨by decide +kernel, rfl⟩
theorem d_X10_goOn_5 : gD cX10_goOn 5 (.iload_n 1) 1 6 := ⟨by decide +kernel, rfl⟩
theorem d_X10_goOn_6 : gD cX10_goOn 6 (.ifCond .lt 72) 3 9 ∧ ((6 : Nat) : Int) + 72 = ((78 : Nat) : Int) := ⟨⟨by decide +kernel, rfl⟩, by decide⟩
theorem d_X10_goOn_9 : gD cX10_goOn 9 (.iconst 0) 1 10 := ⟨by decide +kernel, rfl⟩
theorem d_X10_goOn_10 : gD cX10_goOn 10 (.istore_n 2) 1 11 := ⟨by decide +kernel, rfl⟩
theorem d_X10_goOn_11 : gD cX10_goOn 11 (.iload_n 2) 1 12 := ⟨by decide +kernel, rfl⟩
theorem d_X10_goOn_12 : gD cX10_goOn 12 (.bipush 40) 2 14 := ⟨by decide +kernel, rfl⟩
theorem d_X10_goOn_14 : gD cX10_goOn 14 (.if_icmp .gt 58) 3 17 ∧ ((14 : Nat) : Int) + 58 = ((72 : Nat) : Int) := ⟨⟨by decide +kernel, rfl⟩, by decide⟩
theorem d_X10_goOn_17 : gD cX10_goOn 17 (.iload_n 1) 1 18 := ⟨by decide +kernel, rfl⟩
theorem d_X10_goOn_18 : gD cX10_goOn 18 (.aload_n 0) 1 19 := ⟨by decide +kernel, rfl⟩
theorem d_X10_goOn_19 : gD cX10_goOn 19 (.getfield 35) 3 22 := ⟨by decide +kernel, rfl⟩
theorem d_X10_goOn_22 : gD cX10_goOn 22 (.if_icmp .ne 7) 3 25 ∧ ((22 : Nat) : Int) + 7 = ((29 : Nat) : Int) := ⟨⟨by decide +kernel, rfl⟩, by decide⟩
theorem d_X10_goOn_25 : gD cX10_goOn 25 (.iconst 1) 1 26 := ⟨by decide +kernel, rfl⟩
theorem d_X10_goOn_26 : decode cX10_goOn 26 = .ok (.goto 15, 3) ∧ ((26 : Nat) : Int) + 15 = ((41 : Nat) : Int) := ⟨by decide +kernel, by decide⟩
theorem d_X10_goOn_29 : gD cX10_goOn 29 (.aload_n 0) 1 30 := ⟨by decide +kernel, rfl⟩
theorem d_X10_goOn_30 : gD cX10_goOn 30 (.getfield 16) 3 33 := ⟨by decide +kernel, rfl⟩
theorem d_X10_goOn_33 : gD cX10_goOn 33 (.iload_n 1) 1 34 := ⟨by decide +kernel, rfl⟩
theorem d_X10_goOn_34 : gD cX10_goOn 34 (.iconst 1) 1 35 := ⟨by decide +kernel, rfl⟩
theorem d_X10_goOn_35 : gD cX10_goOn 35 (.iadd) 1 36 := ⟨by decide +kernel, rfl⟩
theorem d_X10_goOn_36 : gD cX10_goOn 36 (.aaload) 1 37 := ⟨by decide +kernel, rfl⟩
theorem d_X10_goOn_37 : gD cX10_goOn 37 (.iload_n 2) 1 38 := ⟨by decide +kernel, rfl⟩
theorem d_X10_goOn_38 : gD cX10_goOn 38 (.invokestatic 61) 3 41 := ⟨by decide +kernel, rfl⟩
theorem d_X10_goOn_41 : gD cX10_goOn 41 (.istore_n 3) 1 42 := ⟨by decide +kernel, rfl⟩
theorem d_X10_goOn_42 : gD cX10_goOn 42 (.aload_n 0) 1 43 := ⟨by decide +kernel, rfl⟩
theorem d_X10_goOn_43 : gD cX10_goOn 43 (.getfield 16) 3 46 := ⟨by decide +kernel, rfl⟩
theorem d_X10_goOn_46 : gD cX10_goOn 46 (.iload_n 1) 1 47 := ⟨by decide +kernel, rfl⟩
theorem d_X10_goOn_47 : gD cX10_goOn 47 (.aaload) 1 48 := ⟨by decide +kernel, rfl⟩
theorem d_X10_goOn_48 : gD cX10_goOn 48 (.iload_n 2) 1 49 := ⟨by decide +kernel, rfl⟩
theorem d_X10_goOn_49 : gD cX10_goOn 49 (.aload_n 0) 1 50 := ⟨by decide +kernel, rfl⟩
theorem d_X10_goOn_50 : gD cX10_goOn 50 (.getfield 11) 3 53 := ⟨by decide +kernel, rfl⟩
theorem d_X10_goOn_53 : gD cX10_goOn 53 (.iload_n 1) 1 54 := ⟨by decide +kernel, rfl⟩
theorem d_X10_goOn_54 : gD cX10_goOn 54 (.aaload) 1 55 := ⟨by decide +kernel, rfl⟩
theorem d_X10_goOn_55 : gD cX10_goOn 55 (.iload_n 2) 1 56 := ⟨by decide +kernel, rfl⟩
theorem d_X10_goOn_56 : gD cX10_goOn 56 (.iaload) 1 57 := ⟨by decide +kernel, rfl⟩
theorem d_X10_goOn_57 : gD cX10_goOn 57 (.ifCond .eq 7) 3 60 ∧ ((57 : Nat) : Int) + 7 = ((64 : Nat) : Int) := ⟨⟨by decide +kernel, rfl⟩, by decide⟩
theorem d_X10_goOn_60 : gD cX10_goOn 60 (.iload_n 3) 1 61 := ⟨by decide +kernel, rfl⟩
theorem d_X10_goOn_61 : decode cX10_goOn 61 = .ok (.goto 4, 3) ∧ ((61 : Nat) : Int) + 4 = ((65 : Nat) : Int) := ⟨by decide +kernel, by decide⟩
theorem d_X10_goOn_64 : gD cX10_goOn 64 (.iconst 0) 1 65 := ⟨by decide +kernel, rfl⟩
theorem d_X10_goOn_65 : gD cX10_goOn 65 (.iastore) 1 66 := ⟨by decide +kernel, rfl⟩
theorem d_X10_goOn_66 : gD cX10_goOn 66 (.iinc 2 1) 3 69 := ⟨by decide +kernel, rfl⟩
theorem d_X10_goOn_69 : decode cX10_goOn 69 = .ok (.goto (-58), 3) ∧ ((69 : Nat) : Int) + (-58) = ((11 : Nat) : Int) := ⟨by decide +kernel, by decide⟩
theorem d_X10_goOn_72 : gD cX10_goOn 72 (.iinc 1 (-1)) 3 75 := ⟨by decide +kernel, rfl⟩
theorem d_X10_goOn_75 : decode cX10_goOn 75 = .ok (.goto (-70), 3) ∧ ((75 : Nat) : Int) + (-70) = ((5 : Nat) : Int) := ⟨by decide +kernel, by decide⟩
theorem d_X10_goOn_78 : gD cX10_goOn 78 (.return_) 1 79 := ⟨by decide +kernel, rfl⟩
abbrev rm_X10_goOn : Room := { frames := 1, cells := 0, slots := 0, locals := 23 }
set_option maxRecDepth 20000 in
theorem w_X10_goOn_65 {Γ : GC} {E : GE} (hO : gOk Γ E cX10_goOn RX10 4 rm_X10_goOn none "goOn") (o : Nat) {k5 : (Int32 → GS → Option GS)} {k11 : (Int32 → Int32 → GS → Option GS)} (hk5 : ∀ (z1 : Int32) (S1 : GS), Go Γ E (gBsV Γ E) 4 (0, 0) 5 S1 [(0, vA (some o)), (1, vI z1)] [] (k5 z1 S1)) (hk11 : ∀ (z1 : Int32) (z2 : Int32) (S1 : GS), Go Γ E (gBsV Γ E) 4 (0, 0) 11 S1 [(0, vA (some o)), (1, vI z1), (2, vI z2)] [] (k11 z1 z2 S1)) (x1 : Int32) (x2 : Int32) (y0 : Option Nat) (y1 : Int32) (y2 : Int32) (S : GS) : Go Γ E (gBsV Γ E) 4 (0, 0) 65 S [(0, vA (some o)), (1, vI x1), (2, vI x2)] [vI y2, vI y1, vA y0] (f_X10_goOn_65 k5 k11 o x1 x2 y0 y1 y2 S) := by
  unfold f_X10_goOn_65
  refine h_iast hO d_X10_goOn_65 (fun S1 => ?_)
  refine g_iinc (lv' := [(2, vI (x2 + 1)), (0, vA (some o)), (1, vI x1)]) hO 1 d_X10_goOn_66 (by decide) 2 rfl (by decide) rfl ?_
  refine g_goto (tgt := 11) hO d_X10_goOn_69.1 d_X10_goOn_69.2 ?_
  exact g_sub [1, 2, 0] rfl (hk11 _ _ _)
set_option maxRecDepth 20000 in
theorem w_X10_goOn_41 {Γ : GC} {E : GE} (hO : gOk Γ E cX10_goOn RX10 4 rm_X10_goOn none "goOn") (o : Nat) {k5 : (Int32 → GS → Option GS)} {k11 : (Int32 → Int32 → GS → Option GS)} (hk5 : ∀ (z1 : Int32) (S1 : GS), Go Γ E (gBsV Γ E) 4 (0, 0) 5 S1 [(0, vA (some o)), (1, vI z1)] [] (k5 z1 S1)) (hk11 : ∀ (z1 : Int32) (z2 : Int32) (S1 : GS), Go Γ E (gBsV Γ E) 4 (0, 0) 11 S1 [(0, vA (some o)), (1, vI z1), (2, vI z2)] [] (k11 z1 z2 S1)) (x1 : Int32) (x2 : Int32) (y0 : Int32) (S : GS) : Go Γ E (gBsV Γ E) 4 (0, 0) 41 S [(0, vA (some o)), (1, vI x1), (2, vI x2)] [vI y0] (f_X10_goOn_41 k5 k11 o x1 x2 y0 S) := by
  unfold f_X10_goOn_41
  refine g_istore_n (lv' := [(3, vI y0), (0, vA (some o)), (1, vI x1), (2, vI x2)]) hO d_X10_goOn_41 (by rfl) (by decide) rfl ?_
  refine g_aload_n hO d_X10_goOn_42 (by rfl) 1 rfl ?_
  refine h_getR hO cl_X10 1 rfl wf_X10_16 d_X10_goOn_43 (fun v1 => ?_)
  refine g_iload_n hO d_X10_goOn_46 (by rfl) 2 rfl ?_
  refine h_aald hO 21 (by omega) (by omega) d_X10_goOn_47 (fun v2 => ?_)
  refine g_iload_n hO d_X10_goOn_48 (by rfl) 3 rfl ?_
  refine g_aload_n hO d_X10_goOn_49 (by rfl) 1 rfl ?_
  refine h_getR hO cl_X10 0 rfl wf_X10_11 d_X10_goOn_50 (fun v3 => ?_)
  refine g_iload_n hO d_X10_goOn_53 (by rfl) 2 rfl ?_
  refine h_aald hO 21 (by omega) (by omega) d_X10_goOn_54 (fun v4 => ?_)
  refine g_iload_n hO d_X10_goOn_55 (by rfl) 3 rfl ?_
  refine h_iald hO d_X10_goOn_56 (fun v5 => ?_)
  refine g_if_eq (tgt := 64) hO d_X10_goOn_57.1 d_X10_goOn_57.2 (fun _ => ?_) (fun _ => ?_)
  · skip
    refine g_iconst hO 0 d_X10_goOn_64 (by decide) ?_
    exact g_sub [1, 2, 3] rfl (w_X10_goOn_65 hO o hk5 hk11 _ _ _ _ _ _)
  · skip
    refine g_iload_n hO d_X10_goOn_60 (by rfl) 0 rfl ?_
    refine g_goto (tgt := 65) hO d_X10_goOn_61.1 d_X10_goOn_61.2 ?_
    exact g_sub [1, 2, 3] rfl (w_X10_goOn_65 hO o hk5 hk11 _ _ _ _ _ _)
set_option maxRecDepth 20000 in
theorem w_X10_goOn_11 {Γ : GC} {E : GE} (hO : gOk Γ E cX10_goOn RX10 4 rm_X10_goOn none "goOn") (o : Nat) {k5 : (Int32 → GS → Option GS)} (hk5 : ∀ (z1 : Int32) (S1 : GS), Go Γ E (gBsV Γ E) 4 (0, 0) 5 S1 [(0, vA (some o)), (1, vI z1)] [] (k5 z1 S1)) : ∀ (n : Nat) (x1 : Int32) (x2 : Int32) (S : GS), Go Γ E (gBsV Γ E) 4 (0, 0) 11 S [(0, vA (some o)), (1, vI x1), (2, vI x2)] [] (f_X10_goOn_11 k5 o n x1 x2 S) := by
  intro n
  induction n with
  | zero =>
    intro x1 x2 S
    exact g_none
  | succ n ih =>
    intro x1 x2 S
    rw [f_X10_goOn_11]
    refine g_iload_n hO d_X10_goOn_11 (by rfl) 2 rfl ?_
    refine g_bipush hO 40 d_X10_goOn_12 (by decide) ?_
    refine g_ic_gt (tgt := 72) hO d_X10_goOn_14.1 d_X10_goOn_14.2 (fun _ => ?_) (fun _ => ?_)
    · skip
      refine g_iinc (lv' := [(1, vI (x1 + (-1))), (0, vA (some o)), (2, vI x2)]) hO (-1) d_X10_goOn_72 (by decide) 1 rfl (by decide) rfl ?_
      refine g_goto (tgt := 5) hO d_X10_goOn_75.1 d_X10_goOn_75.2 ?_
      exact g_sub [1, 0] rfl (hk5 _ _)
    · skip
      refine g_iload_n hO d_X10_goOn_17 (by rfl) 1 rfl ?_
      refine g_aload_n hO d_X10_goOn_18 (by rfl) 0 rfl ?_
      refine h_getI hO cl_X10 2 rfl wf_X10_35 d_X10_goOn_19 (fun v1 => ?_)
      refine g_ic_ne (tgt := 29) hO d_X10_goOn_22.1 d_X10_goOn_22.2 (fun _ => ?_) (fun _ => ?_)
      · skip
        refine g_iconst hO 1 d_X10_goOn_25 (by decide) ?_
        refine g_goto (tgt := 41) hO d_X10_goOn_26.1 d_X10_goOn_26.2 ?_
        exact g_sub [0, 1, 2] rfl (w_X10_goOn_41 hO o hk5 ih _ _ _ _)
      · skip
        refine g_aload_n hO d_X10_goOn_29 (by rfl) 0 rfl ?_
        refine h_getR hO cl_X10 1 rfl wf_X10_16 d_X10_goOn_30 (fun v2 => ?_)
        refine g_iload_n hO d_X10_goOn_33 (by rfl) 1 rfl ?_
        refine g_iconst hO 1 d_X10_goOn_34 (by decide) ?_
        refine g_iadd hO d_X10_goOn_35 ?_
        refine h_aald hO 21 (by omega) (by omega) d_X10_goOn_36 (fun v3 => ?_)
        refine g_iload_n hO d_X10_goOn_37 (by rfl) 2 rfl ?_
        refine k_statIp hO mm_X10_nearTo lkS_X10_61 ⟨⟨Nat.le_of_ble_eq_true rfl, Nat.le_of_ble_eq_true rfl⟩, Nat.le_of_ble_eq_true rfl, Nat.le_of_ble_eq_true rfl⟩ (kn' := (0, 0)) rfl (As := [vA v3, vI x2]) rfl (Nat.le_of_ble_eq_true rfl) (t_X10_nearTo Γ.2.1 E v3 x2 S) d_X10_goOn_38 rfl (fun v4 => ?_)
        exact g_sub [0, 1, 2] rfl (w_X10_goOn_41 hO o hk5 ih _ _ _ _)
set_option maxRecDepth 20000 in
theorem w_X10_goOn_5 {Γ : GC} {E : GE} (hO : gOk Γ E cX10_goOn RX10 4 rm_X10_goOn none "goOn") (o : Nat) : ∀ (n : Nat) (x1 : Int32) (S : GS), Go Γ E (gBsV Γ E) 4 (0, 0) 5 S [(0, vA (some o)), (1, vI x1)] [] (f_X10_goOn_5 o n x1 S) := by
  intro n
  induction n with
  | zero =>
    intro x1 S
    exact g_none
  | succ n ih =>
    intro x1 S
    rw [f_X10_goOn_5]
    refine g_iload_n hO d_X10_goOn_5 (by rfl) 1 rfl ?_
    refine g_if_lt (tgt := 78) hO d_X10_goOn_6.1 d_X10_goOn_6.2 (fun _ => ?_) (fun _ => ?_)
    · skip
      exact g_vret hO rfl ⟨Nat.le_of_ble_eq_true rfl, Nat.le_of_ble_eq_true rfl⟩ rfl rfl d_X10_goOn_78.1
    · skip
      refine g_iconst hO 0 d_X10_goOn_9 (by decide) ?_
      refine g_istore_n (lv' := [(2, vI 0), (0, vA (some o)), (1, vI x1)]) hO d_X10_goOn_10 (by rfl) (by decide) rfl ?_
      exact g_sub [1, 2, 0] rfl (w_X10_goOn_11 hO o ih _ _ _ _)
set_option maxRecDepth 20000 in
theorem w_X10_goOn {Γ : GC} {E : GE} (hO : gOk Γ E cX10_goOn RX10 4 rm_X10_goOn none "goOn") (o : Nat) (S : GS) : Go Γ E (gBsV Γ E) 4 (0, 0) 0 S [(0, vA (some o))] [] (f_X10_goOn o S) := by
  unfold f_X10_goOn
  refine g_aload_n hO d_X10_goOn_0 (by rfl) 0 rfl ?_
  refine h_getI hO cl_X10 2 rfl wf_X10_35 d_X10_goOn_1 (fun v1 => ?_)
  refine g_istore_n (lv' := [(1, vI v1), (0, vA (some o))]) hO d_X10_goOn_4 (by rfl) (by decide) rfl ?_
  exact g_sub [1, 0] rfl (w_X10_goOn_5 hO o _ _ _)
theorem t_X10_goOn (l : Launch) (E : GE) (o : Nat) (S : GS) : ∀ a, f_X10_goOn o S = some a → Ct l E yX10_goOn cX10_goOn 4 none rm_X10_goOn [vA (some o)] S none a :=
  Ct_of (val := fun _ => none) (nxt := fun b => b) (by decide) (Nat.le_of_ble_eq_true rfl) (fun Γ hl hO => w_X10_goOn hO o S)
theorem d_X10_waysOf_0 : gD cX10_waysOf 0 (.aload_n 2) 1 1 := ⟨by decide +kernel, rfl⟩
theorem d_X10_waysOf_1 : gD cX10_waysOf 1 (.aload_n 1) 1 2 := ⟨by decide +kernel, rfl⟩
theorem d_X10_waysOf_2 : gD cX10_waysOf 2 (.invokevirtual 19) 3 5 := ⟨by decide +kernel, rfl⟩
theorem d_X10_waysOf_5 : gD cX10_waysOf 5 (.ifCond .ne 5) 3 8 ∧ ((5 : Nat) : Int) + 5 = ((10 : Nat) : Int) := ⟨⟨by decide +kernel, rfl⟩, by decide⟩
theorem d_X10_waysOf_8 : gD cX10_waysOf 8 (.iconst (-1)) 1 9 := ⟨by decide +kernel, rfl⟩
theorem d_X10_waysOf_9 : gD cX10_waysOf 9 (.ireturn) 1 10 := ⟨by decide +kernel, rfl⟩
theorem d_X10_waysOf_10 : gD cX10_waysOf 10 (.aload_n 0) 1 11 := ⟨by decide +kernel, rfl⟩
theorem d_X10_waysOf_11 : gD cX10_waysOf 11 (.bipush 16) 2 13 := ⟨by decide +kernel, rfl⟩
theorem d_X10_waysOf_13 : gD cX10_waysOf 13 (.aload_n 2) 1 14 := ⟨by decide +kernel, rfl⟩
theorem d_X10_waysOf_14 : gD cX10_waysOf 14 (.invokevirtual 25) 3 17 := ⟨by decide +kernel, rfl⟩
theorem d_X10_waysOf_17 : gD cX10_waysOf 17 (.invokestatic 29) 3 20 := ⟨by decide +kernel, rfl⟩
theorem d_X10_waysOf_20 : gD cX10_waysOf 20 (.putfield 35) 3 23 := ⟨by decide +kernel, rfl⟩
theorem d_X10_waysOf_23 : gD cX10_waysOf 23 (.aload_n 0) 1 24 := ⟨by decide +kernel, rfl⟩
theorem d_X10_waysOf_24 : gD cX10_waysOf 24 (.aload_n 1) 1 25 := ⟨by decide +kernel, rfl⟩
theorem d_X10_waysOf_25 : gD cX10_waysOf 25 (.aload_n 2) 1 26 := ⟨by decide +kernel, rfl⟩
theorem d_X10_waysOf_26 : gD cX10_waysOf 26 (.invokevirtual 39) 3 29 := ⟨by decide +kernel, rfl⟩
theorem d_X10_waysOf_29 : gD cX10_waysOf 29 (.aload_n 0) 1 30 := ⟨by decide +kernel, rfl⟩
theorem d_X10_waysOf_30 : gD cX10_waysOf 30 (.invokevirtual 43) 3 33 := ⟨by decide +kernel, rfl⟩
theorem d_X10_waysOf_33 : gD cX10_waysOf 33 (.iconst 0) 1 34 := ⟨by decide +kernel, rfl⟩
theorem d_X10_waysOf_34 : gD cX10_waysOf 34 (.istore_n 3) 1 35 := ⟨by decide +kernel, rfl⟩
theorem d_X10_waysOf_35 : gD cX10_waysOf 35 (.iconst 0) 1 36 := ⟨by decide +kernel, rfl⟩
theorem d_X10_waysOf_36 : gD cX10_waysOf 36 (.istore 4) 2 38 := ⟨by decide +kernel, rfl⟩
theorem d_X10_waysOf_38 : gD cX10_waysOf 38 (.iload 4) 2 40 := ⟨by decide +kernel, rfl⟩
theorem d_X10_waysOf_40 : gD cX10_waysOf 40 (.bipush 40) 2 42 := ⟨by decide +kernel, rfl⟩
theorem d_X10_waysOf_42 : gD cX10_waysOf 42 (.if_icmp .gt 24) 3 45 ∧ ((42 : Nat) : Int) + 24 = ((66 : Nat) : Int) := ⟨⟨by decide +kernel, rfl⟩, by decide⟩
theorem d_X10_waysOf_45 : gD cX10_waysOf 45 (.iload_n 3) 1 46 := ⟨by decide +kernel, rfl⟩
theorem d_X10_waysOf_46 : gD cX10_waysOf 46 (.aload_n 0) 1 47 := ⟨by decide +kernel, rfl⟩
theorem d_X10_waysOf_47 : gD cX10_waysOf 47 (.getfield 11) 3 50 := ⟨by decide +kernel, rfl⟩
theorem d_X10_waysOf_50 : gD cX10_waysOf 50 (.aload_n 0) 1 51 := ⟨by decide +kernel, rfl⟩
theorem d_X10_waysOf_51 : gD cX10_waysOf 51 (.getfield 35) 3 54 := ⟨by decide +kernel, rfl⟩
theorem d_X10_waysOf_54 : gD cX10_waysOf 54 (.aaload) 1 55 := ⟨by decide +kernel, rfl⟩
theorem d_X10_waysOf_55 : gD cX10_waysOf 55 (.iload 4) 2 57 := ⟨by decide +kernel, rfl⟩
theorem d_X10_waysOf_57 : gD cX10_waysOf 57 (.iaload) 1 58 := ⟨by decide +kernel, rfl⟩
theorem d_X10_waysOf_58 : gD cX10_waysOf 58 (.iadd) 1 59 := ⟨by decide +kernel, rfl⟩
theorem d_X10_waysOf_59 : gD cX10_waysOf 59 (.istore_n 3) 1 60 := ⟨by decide +kernel, rfl⟩
theorem d_X10_waysOf_60 : gD cX10_waysOf 60 (.iinc 4 1) 3 63 := ⟨by decide +kernel, rfl⟩
theorem d_X10_waysOf_63 : decode cX10_waysOf 63 = .ok (.goto (-25), 3) ∧ ((63 : Nat) : Int) + (-25) = ((38 : Nat) : Int) := ⟨by decide +kernel, by decide⟩
theorem d_X10_waysOf_66 : gD cX10_waysOf 66 (.iload_n 3) 1 67 := ⟨by decide +kernel, rfl⟩
theorem d_X10_waysOf_67 : gD cX10_waysOf 67 (.ireturn) 1 68 := ⟨by decide +kernel, rfl⟩
abbrev rm_X10_waysOf : Room := { frames := 5, cells := 0, slots := 0, locals := 120 }
set_option maxRecDepth 20000 in
theorem w_X10_waysOf_38 {Γ : GC} {E : GE} (hO : gOk Γ E cX10_waysOf RX10 5 rm_X10_waysOf (some .int) "waysOf") (o : Nat) : ∀ (n : Nat) (x3 : Int32) (x4 : Int32) (S : GS), Go Γ E (gBsI Γ E) 5 (0, 0) 38 S [(0, vA (some o)), (3, vI x3), (4, vI x4)] [] (f_X10_waysOf_38 o n x3 x4 S) := by
  intro n
  induction n with
  | zero =>
    intro x3 x4 S
    exact g_none
  | succ n ih =>
    intro x3 x4 S
    rw [f_X10_waysOf_38]
    refine g_iload hO d_X10_waysOf_38 2 rfl ?_
    refine g_bipush hO 40 d_X10_waysOf_40 (by decide) ?_
    refine g_ic_gt (tgt := 66) hO d_X10_waysOf_42.1 d_X10_waysOf_42.2 (fun _ => ?_) (fun _ => ?_)
    · skip
      refine g_iload_n hO d_X10_waysOf_66 (by rfl) 1 rfl ?_
      exact g_ret hO rfl rfl ⟨Nat.le_of_ble_eq_true rfl, Nat.le_of_ble_eq_true rfl⟩ rfl rfl d_X10_waysOf_67.1
    · skip
      refine g_iload_n hO d_X10_waysOf_45 (by rfl) 1 rfl ?_
      refine g_aload_n hO d_X10_waysOf_46 (by rfl) 0 rfl ?_
      refine h_getR hO cl_X10 0 rfl wf_X10_11 d_X10_waysOf_47 (fun v1 => ?_)
      refine g_aload_n hO d_X10_waysOf_50 (by rfl) 0 rfl ?_
      refine h_getI hO cl_X10 2 rfl wf_X10_35 d_X10_waysOf_51 (fun v2 => ?_)
      refine h_aald hO 21 (by omega) (by omega) d_X10_waysOf_54 (fun v3 => ?_)
      refine g_iload hO d_X10_waysOf_55 2 rfl ?_
      refine h_iald hO d_X10_waysOf_57 (fun v4 => ?_)
      refine g_iadd hO d_X10_waysOf_58 ?_
      refine g_istore_n (lv' := [(3, vI (x3 + v4)), (0, vA (some o)), (4, vI x4)]) hO d_X10_waysOf_59 (by rfl) (by decide) rfl ?_
      refine g_iinc (lv' := [(4, vI (x4 + 1)), (3, vI (x3 + v4)), (0, vA (some o))]) hO 1 d_X10_waysOf_60 (by decide) 2 rfl (by decide) rfl ?_
      refine g_goto (tgt := 38) hO d_X10_waysOf_63.1 d_X10_waysOf_63.2 ?_
      exact g_sub [2, 1, 0] rfl (ih _ _ _)
set_option maxRecDepth 20000 in
theorem w_X10_waysOf {Γ : GC} {E : GE} (hO : gOk Γ E cX10_waysOf RX10 5 rm_X10_waysOf (some .int) "waysOf") (o : Nat) (x1 : Option Nat) (x2 : Option Nat) (S : GS) : Go Γ E (gBsI Γ E) 5 (0, 0) 0 S [(0, vA (some o)), (1, vA x1), (2, vA x2)] [] (f_X10_waysOf o x1 x2 S) := by
  unfold f_X10_waysOf
  refine g_aload_n hO d_X10_waysOf_0 (by rfl) 2 rfl ?_
  refine g_aload_n hO d_X10_waysOf_1 (by rfl) 1 rfl ?_
  refine k_virtIp hO cl_X8 mm_X8_seenAreIn lkV_X10_19 ⟨⟨Nat.le_of_ble_eq_true rfl, Nat.le_of_ble_eq_true rfl⟩, Nat.le_of_ble_eq_true rfl, Nat.le_of_ble_eq_true rfl⟩ (kn' := (0, 0)) rfl (As := [vA x1]) rfl (Nat.le_of_ble_eq_true rfl) (fun o' _ => t_X8_seenAreIn Γ.2.1 E o' x1 S) d_X10_waysOf_2 rfl (fun v1 => ?_)
  refine g_if_ne (tgt := 10) hO d_X10_waysOf_5.1 d_X10_waysOf_5.2 (fun _ => ?_) (fun _ => ?_)
  · skip
    refine g_iconst hO (-1) d_X10_waysOf_8 (by decide) ?_
    exact g_ret hO rfl rfl ⟨Nat.le_of_ble_eq_true rfl, Nat.le_of_ble_eq_true rfl⟩ rfl rfl d_X10_waysOf_9.1
  · skip
    refine g_aload_n hO d_X10_waysOf_10 (by rfl) 0 rfl ?_
    refine g_bipush hO 16 d_X10_waysOf_11 (by decide) ?_
    refine g_aload_n hO d_X10_waysOf_13 (by rfl) 2 rfl ?_
    refine k_virtIp hO cl_X8 mm_X8_lastMinute lkV_X10_25 ⟨⟨Nat.le_of_ble_eq_true rfl, Nat.le_of_ble_eq_true rfl⟩, Nat.le_of_ble_eq_true rfl, Nat.le_of_ble_eq_true rfl⟩ (kn' := (0, 0)) rfl (As := []) rfl (Nat.le_of_ble_eq_true rfl) (fun o' _ => t_X8_lastMinute Γ.2.1 E o' S) d_X10_waysOf_14 rfl (fun v3 => ?_)
    refine g_mmin hO wm_X10_29 wt_min wi_Math wc_min ⟨by decide, Nat.le_of_ble_eq_true rfl, Nat.zero_le _, Nat.zero_le _⟩ d_X10_waysOf_17 ?_
    refine h_putI hO cl_X10 2 rfl rfl wf_X10_35 (Or.inl rfl) d_X10_waysOf_20 (fun S5 => ?_)
    refine g_aload_n hO d_X10_waysOf_23 (by rfl) 0 rfl ?_
    refine g_aload_n hO d_X10_waysOf_24 (by rfl) 1 rfl ?_
    refine g_aload_n hO d_X10_waysOf_25 (by rfl) 2 rfl ?_
    refine k_virtVs hO cl_X10 mm_X10_come lkV_X10_39 ⟨⟨Nat.le_of_ble_eq_true rfl, Nat.le_of_ble_eq_true rfl⟩, Nat.le_of_ble_eq_true rfl, Nat.le_of_ble_eq_true rfl⟩ (kn' := (0, 0)) rfl (As := [vA x1, vA x2]) rfl (Nat.le_of_ble_eq_true rfl) (fun o' _ => t_X10_come Γ.2.1 E o' x1 x2 S5) d_X10_waysOf_26 rfl (fun S7 => ?_)
    refine g_aload_n hO d_X10_waysOf_29 (by rfl) 0 rfl ?_
    refine k_virtVs hO cl_X10 mm_X10_goOn lkV_X10_43 ⟨⟨Nat.le_of_ble_eq_true rfl, Nat.le_of_ble_eq_true rfl⟩, Nat.le_of_ble_eq_true rfl, Nat.le_of_ble_eq_true rfl⟩ (kn' := (0, 0)) rfl (As := []) rfl (Nat.le_of_ble_eq_true rfl) (fun o' _ => t_X10_goOn Γ.2.1 E o' S7) d_X10_waysOf_30 rfl (fun S9 => ?_)
    refine g_iconst hO 0 d_X10_waysOf_33 (by decide) ?_
    refine g_istore_n (lv' := [(3, vI 0), (0, vA (some o)), (1, vA x1), (2, vA x2)]) hO d_X10_waysOf_34 (by rfl) (by decide) rfl ?_
    refine g_iconst hO 0 d_X10_waysOf_35 (by decide) ?_
    refine g_istore (lv' := [(4, vI 0), (3, vI 0), (0, vA (some o)), (1, vA x1), (2, vA x2)]) hO d_X10_waysOf_36 (by decide) rfl ?_
    exact g_sub [2, 1, 0] rfl (w_X10_waysOf_38 hO o _ _ _ _)
theorem t_X10_waysOf (l : Launch) (E : GE) (o : Nat) (x1 : Option Nat) (x2 : Option Nat) (S : GS) : ∀ a, f_X10_waysOf o x1 x2 S = some a → Ct l E yX10_waysOf cX10_waysOf 5 (some .int) rm_X10_waysOf [vA (some o), vA x1, vA x2] S (some (vI a.1)) a.2 :=
  Ct_of (val := fun (b : Int32 × GS) => some (vI b.1)) (nxt := fun (b : Int32 × GS) => b.2) (by decide) (Nat.le_of_ble_eq_true rfl) (fun Γ hl hO => w_X10_waysOf hO o x1 x2 S)
theorem d_X10_leastMark_0 : gD cX10_leastMark 0 (.iload_n 1) 1 1 := ⟨by decide +kernel, rfl⟩
theorem d_X10_leastMark_1 : gD cX10_leastMark 1 (.ifCond .lt 38) 3 4 ∧ ((1 : Nat) : Int) + 38 = ((39 : Nat) : Int) := ⟨⟨by decide +kernel, rfl⟩, by decide⟩
theorem d_X10_leastMark_4 : gD cX10_leastMark 4 (.iload_n 1) 1 5 := ⟨by decide +kernel, rfl⟩
theorem d_X10_leastMark_5 : gD cX10_leastMark 5 (.aload_n 0) 1 6 := ⟨by decide +kernel, rfl⟩
theorem d_X10_leastMark_6 : gD cX10_leastMark 6 (.getfield 35) 3 9 := ⟨by decide +kernel, rfl⟩
theorem d_X10_leastMark_9 : gD cX10_leastMark 9 (.if_icmp .gt 30) 3 12 ∧ ((9 : Nat) : Int) + 30 = ((39 : Nat) : Int) := ⟨⟨by decide +kernel, rfl⟩, by decide⟩
theorem d_X10_leastMark_12 : gD cX10_leastMark 12 (.iconst 0) 1 13 := ⟨by decide +kernel, rfl⟩
theorem d_X10_leastMark_13 : gD cX10_leastMark 13 (.istore_n 2) 1 14 := ⟨by decide +kernel, rfl⟩
theorem d_X10_leastMark_14 : gD cX10_leastMark 14 (.iload_n 2) 1 15 := ⟨by decide +kernel, rfl⟩
theorem d_X10_leastMark_15 : gD cX10_leastMark 15 (.bipush 40) 2 17 := ⟨by decide +kernel, rfl⟩
theorem d_X10_leastMark_17 : gD cX10_leastMark 17 (.if_icmp .gt 22) 3 20 ∧ ((17 : Nat) : Int) + 22 = ((39 : Nat) : Int) := ⟨⟨by decide +kernel, rfl⟩, by decide⟩
theorem d_X10_leastMark_20 : gD cX10_leastMark 20 (.aload_n 0) 1 21 := ⟨by decide +kernel, rfl⟩
theorem d_X10_leastMark_21 : gD cX10_leastMark 21 (.getfield 16) 3 24 := ⟨by decide +kernel, rfl⟩
theorem d_X10_leastMark_24 : gD cX10_leastMark 24 (.iload_n 1) 1 25 := ⟨by decide +kernel, rfl⟩
theorem d_X10_leastMark_25 : gD cX10_leastMark 25 (.aaload) 1 26 := ⟨by decide +kernel, rfl⟩
theorem d_X10_leastMark_26 : gD cX10_leastMark 26 (.iload_n 2) 1 27 := ⟨by decide +kernel, rfl⟩
theorem d_X10_leastMark_27 : gD cX10_leastMark 27 (.iaload) 1 28 := ⟨by decide +kernel, rfl⟩
theorem d_X10_leastMark_28 : gD cX10_leastMark 28 (.ifCond .eq 5) 3 31 ∧ ((28 : Nat) : Int) + 5 = ((33 : Nat) : Int) := ⟨⟨by decide +kernel, rfl⟩, by decide⟩
theorem d_X10_leastMark_31 : gD cX10_leastMark 31 (.iload_n 2) 1 32 := ⟨by decide +kernel, rfl⟩
theorem d_X10_leastMark_32 : gD cX10_leastMark 32 (.ireturn) 1 33 := ⟨by decide +kernel, rfl⟩
theorem d_X10_leastMark_33 : gD cX10_leastMark 33 (.iinc 2 1) 3 36 := ⟨by decide +kernel, rfl⟩
theorem d_X10_leastMark_36 : decode cX10_leastMark 36 = .ok (.goto (-22), 3) ∧ ((36 : Nat) : Int) + (-22) = ((14 : Nat) : Int) := ⟨by decide +kernel, by decide⟩
theorem d_X10_leastMark_39 : gD cX10_leastMark 39 (.iconst (-1)) 1 40 := ⟨by decide +kernel, rfl⟩
theorem d_X10_leastMark_40 : gD cX10_leastMark 40 (.ireturn) 1 41 := ⟨by decide +kernel, rfl⟩
abbrev rm_X10_leastMark : Room := { frames := 0, cells := 0, slots := 0, locals := 0 }
set_option maxRecDepth 20000 in
theorem w_X10_leastMark_14 {Γ : GC} {E : GE} (hO : gOk Γ E cX10_leastMark RX10 3 rm_X10_leastMark (some .int) "leastMark") (o : Nat) (S : GS) : ∀ (n : Nat) (x1 : Int32) (x2 : Int32), Go Γ E (gBpI Γ E S) 3 (0, 0) 14 S [(0, vA (some o)), (1, vI x1), (2, vI x2)] [] (f_X10_leastMark_14 o S n x1 x2) := by
  intro n
  induction n with
  | zero =>
    intro x1 x2
    exact g_none
  | succ n ih =>
    intro x1 x2
    rw [f_X10_leastMark_14]
    refine g_iload_n hO d_X10_leastMark_14 (by rfl) 2 rfl ?_
    refine g_bipush hO 40 d_X10_leastMark_15 (by decide) ?_
    refine g_ic_gt (tgt := 39) hO d_X10_leastMark_17.1 d_X10_leastMark_17.2 (fun _ => ?_) (fun _ => ?_)
    · skip
      refine g_iconst hO (-1) d_X10_leastMark_39 (by decide) ?_
      exact g_ret hO rfl rfl ⟨Nat.le_of_ble_eq_true rfl, Nat.le_of_ble_eq_true rfl⟩ rfl rfl d_X10_leastMark_40.1
    · skip
      refine g_aload_n hO d_X10_leastMark_20 (by rfl) 0 rfl ?_
      refine h_getR hO cl_X10 1 rfl wf_X10_16 d_X10_leastMark_21 (fun v1 => ?_)
      refine g_iload_n hO d_X10_leastMark_24 (by rfl) 1 rfl ?_
      refine h_aald hO 21 (by omega) (by omega) d_X10_leastMark_25 (fun v2 => ?_)
      refine g_iload_n hO d_X10_leastMark_26 (by rfl) 2 rfl ?_
      refine h_iald hO d_X10_leastMark_27 (fun v3 => ?_)
      refine g_if_eq (tgt := 33) hO d_X10_leastMark_28.1 d_X10_leastMark_28.2 (fun _ => ?_) (fun _ => ?_)
      · skip
        refine g_iinc (lv' := [(2, vI (x2 + 1)), (0, vA (some o)), (1, vI x1)]) hO 1 d_X10_leastMark_33 (by decide) 2 rfl (by decide) rfl ?_
        refine g_goto (tgt := 14) hO d_X10_leastMark_36.1 d_X10_leastMark_36.2 ?_
        exact g_sub [1, 2, 0] rfl (ih _ _)
      · skip
        refine g_iload_n hO d_X10_leastMark_31 (by rfl) 2 rfl ?_
        exact g_ret hO rfl rfl ⟨Nat.le_of_ble_eq_true rfl, Nat.le_of_ble_eq_true rfl⟩ rfl rfl d_X10_leastMark_32.1
set_option maxRecDepth 20000 in
theorem w_X10_leastMark {Γ : GC} {E : GE} (hO : gOk Γ E cX10_leastMark RX10 3 rm_X10_leastMark (some .int) "leastMark") (o : Nat) (x1 : Int32) (S : GS) : Go Γ E (gBpI Γ E S) 3 (0, 0) 0 S [(0, vA (some o)), (1, vI x1)] [] (f_X10_leastMark o x1 S) := by
  unfold f_X10_leastMark
  refine g_iload_n hO d_X10_leastMark_0 (by rfl) 1 rfl ?_
  refine g_if_lt (tgt := 39) hO d_X10_leastMark_1.1 d_X10_leastMark_1.2 (fun _ => ?_) (fun _ => ?_)
  · skip
    refine g_iconst hO (-1) d_X10_leastMark_39 (by decide) ?_
    exact g_ret hO rfl rfl ⟨Nat.le_of_ble_eq_true rfl, Nat.le_of_ble_eq_true rfl⟩ rfl rfl d_X10_leastMark_40.1
  · skip
    refine g_iload_n hO d_X10_leastMark_4 (by rfl) 1 rfl ?_
    refine g_aload_n hO d_X10_leastMark_5 (by rfl) 0 rfl ?_
    refine h_getI hO cl_X10 2 rfl wf_X10_35 d_X10_leastMark_6 (fun v1 => ?_)
    refine g_ic_gt (tgt := 39) hO d_X10_leastMark_9.1 d_X10_leastMark_9.2 (fun _ => ?_) (fun _ => ?_)
    · skip
      refine g_iconst hO (-1) d_X10_leastMark_39 (by decide) ?_
      exact g_ret hO rfl rfl ⟨Nat.le_of_ble_eq_true rfl, Nat.le_of_ble_eq_true rfl⟩ rfl rfl d_X10_leastMark_40.1
    · skip
      refine g_iconst hO 0 d_X10_leastMark_12 (by decide) ?_
      refine g_istore_n (lv' := [(2, vI 0), (0, vA (some o)), (1, vI x1)]) hO d_X10_leastMark_13 (by rfl) (by decide) rfl ?_
      exact g_sub [1, 2, 0] rfl (w_X10_leastMark_14 hO o _ _ _ _)
theorem t_X10_leastMark (l : Launch) (E : GE) (o : Nat) (x1 : Int32) (S : GS) : ∀ a, f_X10_leastMark o x1 S = some a → Ct l E yX10_leastMark cX10_leastMark 3 (some .int) rm_X10_leastMark [vA (some o), vI x1] S (some (vI a)) S :=
  Ct_of (val := fun b => some (vI b)) (nxt := fun _ => S) (by decide) (Nat.le_of_ble_eq_true rfl) (fun Γ hl hO => w_X10_leastMark hO o x1 S)
theorem d_X10_mostMark_0 : gD cX10_mostMark 0 (.iload_n 1) 1 1 := ⟨by decide +kernel, rfl⟩
theorem d_X10_mostMark_1 : gD cX10_mostMark 1 (.ifCond .lt 37) 3 4 ∧ ((1 : Nat) : Int) + 37 = ((38 : Nat) : Int) := ⟨⟨by decide +kernel, rfl⟩, by decide⟩
theorem d_X10_mostMark_4 : gD cX10_mostMark 4 (.iload_n 1) 1 5 := ⟨by decide +kernel, rfl⟩
theorem d_X10_mostMark_5 : gD cX10_mostMark 5 (.aload_n 0) 1 6 := ⟨by decide +kernel, rfl⟩
theorem d_X10_mostMark_6 : gD cX10_mostMark 6 (.getfield 35) 3 9 := ⟨by decide +kernel, rfl⟩
theorem d_X10_mostMark_9 : gD cX10_mostMark 9 (.if_icmp .gt 29) 3 12 ∧ ((9 : Nat) : Int) + 29 = ((38 : Nat) : Int) := ⟨⟨by decide +kernel, rfl⟩, by decide⟩
theorem d_X10_mostMark_12 : gD cX10_mostMark 12 (.bipush 40) 2 14 := ⟨by decide +kernel, rfl⟩
theorem d_X10_mostMark_14 : gD cX10_mostMark 14 (.istore_n 2) 1 15 := ⟨by decide +kernel, rfl⟩
theorem d_X10_mostMark_15 : gD cX10_mostMark 15 (.iload_n 2) 1 16 := ⟨by decide +kernel, rfl⟩
theorem d_X10_mostMark_16 : gD cX10_mostMark 16 (.ifCond .lt 22) 3 19 ∧ ((16 : Nat) : Int) + 22 = ((38 : Nat) : Int) := ⟨⟨by decide +kernel, rfl⟩, by decide⟩
theorem d_X10_mostMark_19 : gD cX10_mostMark 19 (.aload_n 0) 1 20 := ⟨by decide +kernel, rfl⟩
theorem d_X10_mostMark_20 : gD cX10_mostMark 20 (.getfield 16) 3 23 := ⟨by decide +kernel, rfl⟩
theorem d_X10_mostMark_23 : gD cX10_mostMark 23 (.iload_n 1) 1 24 := ⟨by decide +kernel, rfl⟩
theorem d_X10_mostMark_24 : gD cX10_mostMark 24 (.aaload) 1 25 := ⟨by decide +kernel, rfl⟩
theorem d_X10_mostMark_25 : gD cX10_mostMark 25 (.iload_n 2) 1 26 := ⟨by decide +kernel, rfl⟩
theorem d_X10_mostMark_26 : gD cX10_mostMark 26 (.iaload) 1 27 := ⟨by decide +kernel, rfl⟩
theorem d_X10_mostMark_27 : gD cX10_mostMark 27 (.ifCond .eq 5) 3 30 ∧ ((27 : Nat) : Int) + 5 = ((32 : Nat) : Int) := ⟨⟨by decide +kernel, rfl⟩, by decide⟩
theorem d_X10_mostMark_30 : gD cX10_mostMark 30 (.iload_n 2) 1 31 := ⟨by decide +kernel, rfl⟩
theorem d_X10_mostMark_31 : gD cX10_mostMark 31 (.ireturn) 1 32 := ⟨by decide +kernel, rfl⟩
theorem d_X10_mostMark_32 : gD cX10_mostMark 32 (.iinc 2 (-1)) 3 35 := ⟨by decide +kernel, rfl⟩
theorem d_X10_mostMark_35 : decode cX10_mostMark 35 = .ok (.goto (-20), 3) ∧ ((35 : Nat) : Int) + (-20) = ((15 : Nat) : Int) := ⟨by decide +kernel, by decide⟩
theorem d_X10_mostMark_38 : gD cX10_mostMark 38 (.iconst (-1)) 1 39 := ⟨by decide +kernel, rfl⟩
theorem d_X10_mostMark_39 : gD cX10_mostMark 39 (.ireturn) 1 40 := ⟨by decide +kernel, rfl⟩
abbrev rm_X10_mostMark : Room := { frames := 0, cells := 0, slots := 0, locals := 0 }
set_option maxRecDepth 20000 in
theorem w_X10_mostMark_15 {Γ : GC} {E : GE} (hO : gOk Γ E cX10_mostMark RX10 3 rm_X10_mostMark (some .int) "mostMark") (o : Nat) (S : GS) : ∀ (n : Nat) (x1 : Int32) (x2 : Int32), Go Γ E (gBpI Γ E S) 3 (0, 0) 15 S [(0, vA (some o)), (1, vI x1), (2, vI x2)] [] (f_X10_mostMark_15 o S n x1 x2) := by
  intro n
  induction n with
  | zero =>
    intro x1 x2
    exact g_none
  | succ n ih =>
    intro x1 x2
    rw [f_X10_mostMark_15]
    refine g_iload_n hO d_X10_mostMark_15 (by rfl) 2 rfl ?_
    refine g_if_lt (tgt := 38) hO d_X10_mostMark_16.1 d_X10_mostMark_16.2 (fun _ => ?_) (fun _ => ?_)
    · skip
      refine g_iconst hO (-1) d_X10_mostMark_38 (by decide) ?_
      exact g_ret hO rfl rfl ⟨Nat.le_of_ble_eq_true rfl, Nat.le_of_ble_eq_true rfl⟩ rfl rfl d_X10_mostMark_39.1
    · skip
      refine g_aload_n hO d_X10_mostMark_19 (by rfl) 0 rfl ?_
      refine h_getR hO cl_X10 1 rfl wf_X10_16 d_X10_mostMark_20 (fun v1 => ?_)
      refine g_iload_n hO d_X10_mostMark_23 (by rfl) 1 rfl ?_
      refine h_aald hO 21 (by omega) (by omega) d_X10_mostMark_24 (fun v2 => ?_)
      refine g_iload_n hO d_X10_mostMark_25 (by rfl) 2 rfl ?_
      refine h_iald hO d_X10_mostMark_26 (fun v3 => ?_)
      refine g_if_eq (tgt := 32) hO d_X10_mostMark_27.1 d_X10_mostMark_27.2 (fun _ => ?_) (fun _ => ?_)
      · skip
        refine g_iinc (lv' := [(2, vI (x2 + (-1))), (0, vA (some o)), (1, vI x1)]) hO (-1) d_X10_mostMark_32 (by decide) 2 rfl (by decide) rfl ?_
        refine g_goto (tgt := 15) hO d_X10_mostMark_35.1 d_X10_mostMark_35.2 ?_
        exact g_sub [1, 2, 0] rfl (ih _ _)
      · skip
        refine g_iload_n hO d_X10_mostMark_30 (by rfl) 2 rfl ?_
        exact g_ret hO rfl rfl ⟨Nat.le_of_ble_eq_true rfl, Nat.le_of_ble_eq_true rfl⟩ rfl rfl d_X10_mostMark_31.1
set_option maxRecDepth 20000 in
theorem w_X10_mostMark {Γ : GC} {E : GE} (hO : gOk Γ E cX10_mostMark RX10 3 rm_X10_mostMark (some .int) "mostMark") (o : Nat) (x1 : Int32) (S : GS) : Go Γ E (gBpI Γ E S) 3 (0, 0) 0 S [(0, vA (some o)), (1, vI x1)] [] (f_X10_mostMark o x1 S) := by
  unfold f_X10_mostMark
  refine g_iload_n hO d_X10_mostMark_0 (by rfl) 1 rfl ?_
  refine g_if_lt (tgt := 38) hO d_X10_mostMark_1.1 d_X10_mostMark_1.2 (fun _ => ?_) (fun _ => ?_)
  · skip
    refine g_iconst hO (-1) d_X10_mostMark_38 (by decide) ?_
    exact g_ret hO rfl rfl ⟨Nat.le_of_ble_eq_true rfl, Nat.le_of_ble_eq_true rfl⟩ rfl rfl d_X10_mostMark_39.1
  · skip
    refine g_iload_n hO d_X10_mostMark_4 (by rfl) 1 rfl ?_
    refine g_aload_n hO d_X10_mostMark_5 (by rfl) 0 rfl ?_
    refine h_getI hO cl_X10 2 rfl wf_X10_35 d_X10_mostMark_6 (fun v1 => ?_)
    refine g_ic_gt (tgt := 38) hO d_X10_mostMark_9.1 d_X10_mostMark_9.2 (fun _ => ?_) (fun _ => ?_)
    · skip
      refine g_iconst hO (-1) d_X10_mostMark_38 (by decide) ?_
      exact g_ret hO rfl rfl ⟨Nat.le_of_ble_eq_true rfl, Nat.le_of_ble_eq_true rfl⟩ rfl rfl d_X10_mostMark_39.1
    · skip
      refine g_bipush hO 40 d_X10_mostMark_12 (by decide) ?_
      refine g_istore_n (lv' := [(2, vI 40), (0, vA (some o)), (1, vI x1)]) hO d_X10_mostMark_14 (by rfl) (by decide) rfl ?_
      exact g_sub [1, 2, 0] rfl (w_X10_mostMark_15 hO o _ _ _ _)
theorem t_X10_mostMark (l : Launch) (E : GE) (o : Nat) (x1 : Int32) (S : GS) : ∀ a, f_X10_mostMark o x1 S = some a → Ct l E yX10_mostMark cX10_mostMark 3 (some .int) rm_X10_mostMark [vA (some o), vI x1] S (some (vI a)) S :=
  Ct_of (val := fun b => some (vI b)) (nxt := fun _ => S) (by decide) (Nat.le_of_ble_eq_true rfl) (fun Γ hl hO => w_X10_mostMark hO o x1 S)
theorem d_X11_init_0 : gD cX11_init 0 (.aload_n 0) 1 1 := ⟨by decide +kernel, rfl⟩
theorem d_X11_init_1 : gD cX11_init 1 (.invokespecial 1) 3 4 := ⟨by decide +kernel, rfl⟩
theorem d_X11_init_4 : gD cX11_init 4 (.aload_n 0) 1 5 := ⟨by decide +kernel, rfl⟩
theorem d_X11_init_5 : gD cX11_init 5 (.new 7) 3 8 := ⟨by decide +kernel, rfl⟩
theorem d_X11_init_8 : gD cX11_init 8 (.dup) 1 9 := ⟨by decide +kernel, rfl⟩
theorem d_X11_init_9 : gD cX11_init 9 (.invokespecial 9) 3 12 := ⟨by decide +kernel, rfl⟩
theorem d_X11_init_12 : gD cX11_init 12 (.putfield 10) 3 15 := ⟨by decide +kernel, rfl⟩
theorem d_X11_init_15 : gD cX11_init 15 (.aload_n 0) 1 16 := ⟨by decide +kernel, rfl⟩
theorem d_X11_init_16 : gD cX11_init 16 (.iconst 3) 1 17 := ⟨by decide +kernel, rfl⟩
theorem d_X11_init_17 : gD cX11_init 17 (.anewarray 7) 3 20 := ⟨by decide +kernel, rfl⟩
theorem d_X11_init_20 : gD cX11_init 20 (.putfield 16) 3 23 := ⟨by decide +kernel, rfl⟩
theorem d_X11_init_23 : gD cX11_init 23 (.iconst 0) 1 24 := ⟨by decide +kernel, rfl⟩
theorem d_X11_init_24 : gD cX11_init 24 (.istore_n 1) 1 25 := ⟨by decide +kernel, rfl⟩
theorem d_X11_init_25 : gD cX11_init 25 (.iload_n 1) 1 26 := ⟨by decide +kernel, rfl⟩
theorem d_X11_init_26 : gD cX11_init 26 (.iconst 3) 1 27 := ⟨by decide +kernel, rfl⟩
theorem d_X11_init_27 : gD cX11_init 27 (.if_icmp .ge 22) 3 30 ∧ ((27 : Nat) : Int) + 22 = ((49 : Nat) : Int) := ⟨⟨by decide +kernel, rfl⟩, by decide⟩
theorem d_X11_init_30 : gD cX11_init 30 (.aload_n 0) 1 31 := ⟨by decide +kernel, rfl⟩
theorem d_X11_init_31 : gD cX11_init 31 (.getfield 16) 3 34 := ⟨by decide +kernel, rfl⟩
theorem d_X11_init_34 : gD cX11_init 34 (.iload_n 1) 1 35 := ⟨by decide +kernel, rfl⟩
theorem d_X11_init_35 : gD cX11_init 35 (.new 7) 3 38 := ⟨by decide +kernel, rfl⟩
theorem d_X11_init_38 : gD cX11_init 38 (.dup) 1 39 := ⟨by decide +kernel, rfl⟩
theorem d_X11_init_39 : gD cX11_init 39 (.invokespecial 9) 3 42 := ⟨by decide +kernel, rfl⟩
theorem d_X11_init_42 : gD cX11_init 42 (.aastore) 1 43 := ⟨by decide +kernel, rfl⟩
theorem d_X11_init_43 : gD cX11_init 43 (.iinc 1 1) 3 46 := ⟨by decide +kernel, rfl⟩
theorem d_X11_init_46 : decode cX11_init 46 = .ok (.goto (-21), 3) ∧ ((46 : Nat) : Int) + (-21) = ((25 : Nat) : Int) := ⟨by decide +kernel, by decide⟩
theorem d_X11_init_49 : gD cX11_init 49 (.aload_n 0) 1 50 := ⟨by decide +kernel, rfl⟩
theorem d_X11_init_50 : gD cX11_init 50 (.iconst 3) 1 51 := ⟨by decide +kernel, rfl⟩
theorem d_X11_init_51 : gD cX11_init 51 (.newarray .boolean) 2 53 := ⟨by decide +kernel, rfl⟩
theorem d_X11_init_53 : gD cX11_init 53 (.putfield 20) 3 56 := ⟨by decide +kernel, rfl⟩
theorem d_X11_init_56 : gD cX11_init 56 (.aload_n 0) 1 57 := ⟨by decide +kernel, rfl⟩
theorem d_X11_init_57 : gD cX11_init 57 (.new 24) 3 60 := ⟨by decide +kernel, rfl⟩
theorem d_X11_init_60 : gD cX11_init 60 (.dup) 1 61 := ⟨by decide +kernel, rfl⟩
theorem d_X11_init_61 : gD cX11_init 61 (.invokespecial 26) 3 64 := ⟨by decide +kernel, rfl⟩
theorem d_X11_init_64 : gD cX11_init 64 (.putfield 27) 3 67 := ⟨by decide +kernel, rfl⟩
theorem d_X11_init_67 : gD cX11_init 67 (.aload_n 0) 1 68 := ⟨by decide +kernel, rfl⟩
theorem d_X11_init_68 : gD cX11_init 68 (.new 31) 3 71 := ⟨by decide +kernel, rfl⟩
theorem d_X11_init_71 : gD cX11_init 71 (.dup) 1 72 := ⟨by decide +kernel, rfl⟩
theorem d_X11_init_72 : gD cX11_init 72 (.invokespecial 33) 3 75 := ⟨by decide +kernel, rfl⟩
theorem d_X11_init_75 : gD cX11_init 75 (.putfield 34) 3 78 := ⟨by decide +kernel, rfl⟩
theorem d_X11_init_78 : gD cX11_init 78 (.aload_n 0) 1 79 := ⟨by decide +kernel, rfl⟩
theorem d_X11_init_79 : gD cX11_init 79 (.new 38) 3 82 := ⟨by decide +kernel, rfl⟩
theorem d_X11_init_82 : gD cX11_init 82 (.dup) 1 83 := ⟨by decide +kernel, rfl⟩
theorem d_X11_init_83 : gD cX11_init 83 (.invokespecial 40) 3 86 := ⟨by decide +kernel, rfl⟩
theorem d_X11_init_86 : gD cX11_init 86 (.putfield 41) 3 89 := ⟨by decide +kernel, rfl⟩
theorem d_X11_init_89 : gD cX11_init 89 (.aload_n 0) 1 90 := ⟨by decide +kernel, rfl⟩
theorem d_X11_init_90 : gD cX11_init 90 (.new 45) 3 93 := ⟨by decide +kernel, rfl⟩
theorem d_X11_init_93 : gD cX11_init 93 (.dup) 1 94 := ⟨by decide +kernel, rfl⟩
theorem d_X11_init_94 : gD cX11_init 94 (.invokespecial 47) 3 97 := ⟨by decide +kernel, rfl⟩
theorem d_X11_init_97 : gD cX11_init 97 (.putfield 48) 3 100 := ⟨by decide +kernel, rfl⟩
theorem d_X11_init_100 : gD cX11_init 100 (.aload_n 0) 1 101 := ⟨by decide +kernel, rfl⟩
theorem d_X11_init_101 : gD cX11_init 101 (.new 52) 3 104 := ⟨by decide +kernel, rfl⟩
theorem d_X11_init_104 : gD cX11_init 104 (.dup) 1 105 := ⟨by decide +kernel, rfl⟩
theorem d_X11_init_105 : gD cX11_init 105 (.invokespecial 54) 3 108 := ⟨by decide +kernel, rfl⟩
theorem d_X11_init_108 : gD cX11_init 108 (.putfield 55) 3 111 := ⟨by decide +kernel, rfl⟩
theorem d_X11_init_111 : gD cX11_init 111 (.aload_n 0) 1 112 := ⟨by decide +kernel, rfl⟩
theorem d_X11_init_112 : gD cX11_init 112 (.new 59) 3 115 := ⟨by decide +kernel, rfl⟩
theorem d_X11_init_115 : gD cX11_init 115 (.dup) 1 116 := ⟨by decide +kernel, rfl⟩
theorem d_X11_init_116 : gD cX11_init 116 (.invokespecial 61) 3 119 := ⟨by decide +kernel, rfl⟩
theorem d_X11_init_119 : gD cX11_init 119 (.putfield 62) 3 122 := ⟨by decide +kernel, rfl⟩
theorem d_X11_init_122 : gD cX11_init 122 (.aload_n 0) 1 123 := ⟨by decide +kernel, rfl⟩
theorem d_X11_init_123 : gD cX11_init 123 (.new 66) 3 126 := ⟨by decide +kernel, rfl⟩
theorem d_X11_init_126 : gD cX11_init 126 (.dup) 1 127 := ⟨by decide +kernel, rfl⟩
theorem d_X11_init_127 : gD cX11_init 127 (.invokespecial 68) 3 130 := ⟨by decide +kernel, rfl⟩
theorem d_X11_init_130 : gD cX11_init 130 (.putfield 69) 3 133 := ⟨by decide +kernel, rfl⟩
theorem d_X11_init_133 : gD cX11_init 133 (.return_) 1 134 := ⟨by decide +kernel, rfl⟩
abbrev rm_X11_init : Room := { frames := 4, cells := 312, slots := 10701, locals := 75 }
set_option maxRecDepth 20000 in
theorem w_X11_init {Γ : GC} {E : GE} (hO : gOk Γ E cX11_init RX11 2 rm_X11_init none "<init>") (o : Nat) (S : GS) : Go Γ E (gBsV Γ E) 2 (0, 0) 0 S [(0, vA (some o))] [] (f_X11_init o S) := by
  unfold f_X11_init
  refine g_aload_n hO d_X11_init_0 (by rfl) 0 rfl ?_
  refine g_oinit hO wm_X11_1 wn_obj wc_obj (Nat.le_of_ble_eq_true rfl) (Nat.le_of_ble_eq_true rfl) (fun h => nomatch h) d_X11_init_1 ?_
  refine g_aload_n hO d_X11_init_4 (by rfl) 0 rfl ?_
  refine h_new hO cl_X9 tyX9 tyX9_ok dv_X9 wcl_X11_7 wins_X9 wi_X9 (kn' := (1, 11)) rfl ⟨by decide, by decide⟩ d_X11_init_5 (fun v1 S2 => ?_)
  refine g_dup hO d_X11_init_8 rfl ?_
  refine k_init hO mm_X9_init lkI_X11_9 ⟨⟨by decide, by decide⟩, by decide +kernel, by decide +kernel⟩ (kn' := (51, 1577)) (by decide +kernel) (As := []) rfl (Nat.le_of_ble_eq_true rfl) (fun o' _ => t_X9_init Γ.2.1 E o' S2) d_X11_init_9 rfl (fun S3 => ?_)
  refine h_putR hO cl_X11 0 rfl (ty := .object "GlassLaces$Told") (by decide +kernel) (Or.inl ⟨_, rfl⟩) wf_X11_10 (Or.inr ⟨rfl, rfl, rfl⟩) d_X11_init_12 (fun S4 => ?_)
  refine g_aload_n hO d_X11_init_15 (by rfl) 0 rfl ?_
  refine g_iconst hO 3 d_X11_init_16 (by decide) ?_
  refine h_nar hO 20 ⟨by decide, by decide⟩ rfl wcl_X11_7 wao_20 3 (by decide) (kn' := (52, 1580)) rfl ⟨by decide, by decide⟩ d_X11_init_17 (fun v5 S6 => ?_)
  refine h_putR hO cl_X11 1 rfl (ty := .array (.object "GlassLaces$Told")) (by decide +kernel) (Or.inr ⟨_, rfl⟩) wf_X11_16 (Or.inr ⟨rfl, rfl, rfl⟩) d_X11_init_20 (fun S7 => ?_)
  refine g_iconst hO 0 d_X11_init_23 (by decide) ?_
  refine g_istore_n (lv' := [(1, vI 0), (0, vA (some o))]) hO d_X11_init_24 (by rfl) (by decide) rfl ?_
  refine g_iload_n hO d_X11_init_25 (by rfl) 0 rfl ?_
  refine g_iconst hO 3 d_X11_init_26 (by decide) ?_
  refine g_ic_geF (tgt := 49) hO d_X11_init_27.1 d_X11_init_27.2 (by decide) ?_
  refine g_aload_n hO d_X11_init_30 (by rfl) 1 rfl ?_
  refine h_getR hO cl_X11 1 rfl wf_X11_16 d_X11_init_31 (fun v8 => ?_)
  refine g_iload_n hO d_X11_init_34 (by rfl) 0 rfl ?_
  refine h_new hO cl_X9 tyX9 tyX9_ok dv_X9 wcl_X11_7 wins_X9 wi_X9 (kn' := (53, 1591)) rfl ⟨by decide, by decide⟩ d_X11_init_35 (fun v9 S10 => ?_)
  refine g_dup hO d_X11_init_38 rfl ?_
  refine k_init hO mm_X9_init lkI_X11_9 ⟨⟨by decide, by decide⟩, by decide +kernel, by decide +kernel⟩ (kn' := (103, 3157)) (by decide +kernel) (As := []) rfl (Nat.le_of_ble_eq_true rfl) (fun o' _ => t_X9_init Γ.2.1 E o' S10) d_X11_init_39 rfl (fun S11 => ?_)
  refine h_aast hO 20 9 ⟨by decide, by decide⟩ rfl cl_X9 d_X11_init_42 (fun S12 => ?_)
  refine g_iinc (lv' := [(1, vI (0 + 1)), (0, vA (some o))]) hO 1 d_X11_init_43 (by decide) 0 rfl (by decide) rfl ?_
  refine g_goto (tgt := 25) hO d_X11_init_46.1 d_X11_init_46.2 ?_
  refine g_iload_n hO d_X11_init_25 (by rfl) 0 rfl ?_
  refine g_iconst hO 3 d_X11_init_26 (by decide) ?_
  refine g_ic_geF (tgt := 49) hO d_X11_init_27.1 d_X11_init_27.2 (by decide) ?_
  refine g_aload_n hO d_X11_init_30 (by rfl) 1 rfl ?_
  refine h_getR hO cl_X11 1 rfl wf_X11_16 d_X11_init_31 (fun v13 => ?_)
  refine g_iload_n hO d_X11_init_34 (by rfl) 0 rfl ?_
  refine h_new hO cl_X9 tyX9 tyX9_ok dv_X9 wcl_X11_7 wins_X9 wi_X9 (kn' := (104, 3168)) rfl ⟨by decide, by decide⟩ d_X11_init_35 (fun v14 S15 => ?_)
  refine g_dup hO d_X11_init_38 rfl ?_
  refine k_init hO mm_X9_init lkI_X11_9 ⟨⟨by decide, by decide⟩, by decide +kernel, by decide +kernel⟩ (kn' := (154, 4734)) (by decide +kernel) (As := []) rfl (Nat.le_of_ble_eq_true rfl) (fun o' _ => t_X9_init Γ.2.1 E o' S15) d_X11_init_39 rfl (fun S16 => ?_)
  refine h_aast hO 20 9 ⟨by decide, by decide⟩ rfl cl_X9 d_X11_init_42 (fun S17 => ?_)
  refine g_iinc (lv' := [(1, vI ((0 + 1) + 1)), (0, vA (some o))]) hO 1 d_X11_init_43 (by decide) 0 rfl (by decide) rfl ?_
  refine g_goto (tgt := 25) hO d_X11_init_46.1 d_X11_init_46.2 ?_
  refine g_iload_n hO d_X11_init_25 (by rfl) 0 rfl ?_
  refine g_iconst hO 3 d_X11_init_26 (by decide) ?_
  refine g_ic_geF (tgt := 49) hO d_X11_init_27.1 d_X11_init_27.2 (by decide) ?_
  refine g_aload_n hO d_X11_init_30 (by rfl) 1 rfl ?_
  refine h_getR hO cl_X11 1 rfl wf_X11_16 d_X11_init_31 (fun v18 => ?_)
  refine g_iload_n hO d_X11_init_34 (by rfl) 0 rfl ?_
  refine h_new hO cl_X9 tyX9 tyX9_ok dv_X9 wcl_X11_7 wins_X9 wi_X9 (kn' := (155, 4745)) rfl ⟨by decide, by decide⟩ d_X11_init_35 (fun v19 S20 => ?_)
  refine g_dup hO d_X11_init_38 rfl ?_
  refine k_init hO mm_X9_init lkI_X11_9 ⟨⟨by decide, by decide⟩, by decide +kernel, by decide +kernel⟩ (kn' := (205, 6311)) (by decide +kernel) (As := []) rfl (Nat.le_of_ble_eq_true rfl) (fun o' _ => t_X9_init Γ.2.1 E o' S20) d_X11_init_39 rfl (fun S21 => ?_)
  refine h_aast hO 20 9 ⟨by decide, by decide⟩ rfl cl_X9 d_X11_init_42 (fun S22 => ?_)
  refine g_iinc (lv' := [(1, vI (((0 + 1) + 1) + 1)), (0, vA (some o))]) hO 1 d_X11_init_43 (by decide) 0 rfl (by decide) rfl ?_
  refine g_goto (tgt := 25) hO d_X11_init_46.1 d_X11_init_46.2 ?_
  refine g_iload_n hO d_X11_init_25 (by rfl) 0 rfl ?_
  refine g_iconst hO 3 d_X11_init_26 (by decide) ?_
  refine g_ic_geT (tgt := 49) hO d_X11_init_27.1 d_X11_init_27.2 (by decide) ?_
  refine g_aload_n hO d_X11_init_49 (by rfl) 1 rfl ?_
  refine g_iconst hO 3 d_X11_init_50 (by decide) ?_
  refine h_na hO 16 (by decide) rfl wac_16 (3) (by decide) (kn' := (206, 6314)) rfl ⟨by decide, by decide⟩ d_X11_init_51 (fun v23 S24 => ?_)
  refine h_putR hO cl_X11 2 rfl (ty := .array .boolean) (by decide +kernel) (Or.inr ⟨_, rfl⟩) wf_X11_20 (Or.inr ⟨rfl, rfl, rfl⟩) d_X11_init_53 (fun S25 => ?_)
  refine g_aload_n hO d_X11_init_56 (by rfl) 1 rfl ?_
  refine h_new hO cl_X5 tyX5 tyX5_ok dv_X5 wcl_X11_24 wins_X5 wi_X5 (kn' := (207, 6327)) rfl ⟨by decide, by decide⟩ d_X11_init_57 (fun v26 S27 => ?_)
  refine g_dup hO d_X11_init_60 rfl ?_
  refine k_initN hO mm_X5_init lkIN_X11_26 ⟨⟨by decide, by decide⟩, by decide +kernel, by decide +kernel⟩ (kn' := (229, 7401)) (by decide +kernel) (As := []) rfl (Nat.le_of_ble_eq_true rfl) (fun o' _ => t_X5_init Γ.2.1 E o' S27) d_X11_init_61 rfl (fun S28 => ?_)
  refine h_putR hO cl_X11 3 rfl (ty := .object "GlassLaces$Reader") (by decide +kernel) (Or.inl ⟨_, rfl⟩) wf_X11_27 (Or.inr ⟨rfl, rfl, rfl⟩) d_X11_init_64 (fun S29 => ?_)
  refine g_aload_n hO d_X11_init_67 (by rfl) 1 rfl ?_
  refine h_new hO cl_X2 tyX2 tyX2_ok dv_X2 wcl_X11_31 wins_X2 wi_X2 (kn' := (230, 7417)) rfl ⟨by decide, by decide⟩ d_X11_init_68 (fun v30 S31 => ?_)
  refine g_dup hO d_X11_init_71 rfl ?_
  refine k_initN hO mm_X2_init lkIN_X11_33 ⟨⟨by decide, by decide⟩, by decide +kernel, by decide +kernel⟩ (kn' := (246, 7555)) (by decide +kernel) (As := []) rfl (Nat.le_of_ble_eq_true rfl) (fun o' _ => t_X2_init Γ.2.1 E o' S31) d_X11_init_72 rfl (fun S32 => ?_)
  refine h_putR hO cl_X11 4 rfl (ty := .object "GlassLaces$Hall") (by decide +kernel) (Or.inl ⟨_, rfl⟩) wf_X11_34 (Or.inr ⟨rfl, rfl, rfl⟩) d_X11_init_75 (fun S33 => ?_)
  refine g_aload_n hO d_X11_init_78 (by rfl) 1 rfl ?_
  refine h_new hO cl_X3 tyX3 tyX3_ok dv_X3 wcl_X11_38 wins_X3 wi_X3 (kn' := (247, 7559)) rfl ⟨by decide, by decide⟩ d_X11_init_79 (fun v34 S35 => ?_)
  refine g_dup hO d_X11_init_82 rfl ?_
  refine k_initN hO mm_X3_init lkIN_X11_40 ⟨⟨by decide, by decide⟩, by decide +kernel, by decide +kernel⟩ (kn' := (267, 8638)) (by decide +kernel) (As := []) rfl (Nat.le_of_ble_eq_true rfl) (fun o' _ => t_X3_init Γ.2.1 E o' S35) d_X11_init_83 rfl (fun S36 => ?_)
  refine h_putR hO cl_X11 5 rfl (ty := .object "GlassLaces$Lacing") (by decide +kernel) (Or.inl ⟨_, rfl⟩) wf_X11_41 (Or.inr ⟨rfl, rfl, rfl⟩) d_X11_init_86 (fun S37 => ?_)
  refine g_aload_n hO d_X11_init_89 (by rfl) 1 rfl ?_
  refine h_new hO cl_X4 tyX4 tyX4_ok dv_X4 wcl_X11_45 wins_X4 wi_X4 (kn' := (268, 8642)) rfl ⟨by decide, by decide⟩ d_X11_init_90 (fun v38 S39 => ?_)
  refine g_dup hO d_X11_init_93 rfl ?_
  refine k_initN hO mm_X4_init lkIN_X11_47 ⟨⟨by decide, by decide⟩, by decide +kernel, by decide +kernel⟩ (kn' := (270, 8724)) (by decide +kernel) (As := []) rfl (Nat.le_of_ble_eq_true rfl) (fun o' _ => t_X4_init Γ.2.1 E o' S39) d_X11_init_94 rfl (fun S40 => ?_)
  refine h_putR hO cl_X11 6 rfl (ty := .object "GlassLaces$Odds") (by decide +kernel) (Or.inl ⟨_, rfl⟩) wf_X11_48 (Or.inr ⟨rfl, rfl, rfl⟩) d_X11_init_97 (fun S41 => ?_)
  refine g_aload_n hO d_X11_init_100 (by rfl) 1 rfl ?_
  refine h_new hO cl_X10 tyX10 tyX10_ok dv_X10 wcl_X11_52 wins_X10 wi_X10 (kn' := (271, 8727)) rfl ⟨by decide, by decide⟩ d_X11_init_101 (fun v42 S43 => ?_)
  refine g_dup hO d_X11_init_104 rfl ?_
  refine k_initN hO mm_X10_init lkIN_X11_54 ⟨⟨by decide, by decide⟩, by decide +kernel, by decide +kernel⟩ (kn' := (307, 10155)) (by decide +kernel) (As := []) rfl (Nat.le_of_ble_eq_true rfl) (fun o' _ => t_X10_init Γ.2.1 E o' S43) d_X11_init_105 rfl (fun S44 => ?_)
  refine h_putR hO cl_X11 7 rfl (ty := .object "GlassLaces$Watch") (by decide +kernel) (Or.inl ⟨_, rfl⟩) wf_X11_55 (Or.inr ⟨rfl, rfl, rfl⟩) d_X11_init_108 (fun S45 => ?_)
  refine g_aload_n hO d_X11_init_111 (by rfl) 1 rfl ?_
  refine h_new hO cl_X1 tyX1 tyX1_ok dv_X1 wcl_X11_59 wins_X1 wi_X1 (kn' := (308, 10157)) rfl ⟨by decide, by decide⟩ d_X11_init_112 (fun v46 S47 => ?_)
  refine g_dup hO d_X11_init_115 rfl ?_
  refine k_initN hO mm_X1_init lkIN_X11_61 ⟨⟨by decide, by decide⟩, by decide +kernel, by decide +kernel⟩ (kn' := (310, 10669)) (by decide +kernel) (As := []) rfl (Nat.le_of_ble_eq_true rfl) (fun o' _ => t_X1_init Γ.2.1 E o' S47) d_X11_init_116 rfl (fun S48 => ?_)
  refine h_putR hO cl_X11 8 rfl (ty := .object "GlassLaces$Debts") (by decide +kernel) (Or.inl ⟨_, rfl⟩) wf_X11_62 (Or.inr ⟨rfl, rfl, rfl⟩) d_X11_init_119 (fun S49 => ?_)
  refine g_aload_n hO d_X11_init_122 (by rfl) 1 rfl ?_
  refine h_new hO cl_X6 tyX6 tyX6_ok dv_X6 wcl_X11_66 wins_X6 wi_X6 (kn' := (311, 10670)) rfl ⟨by decide, by decide⟩ d_X11_init_123 (fun v50 S51 => ?_)
  refine g_dup hO d_X11_init_126 rfl ?_
  refine k_initN hO mm_X6_init lkIN_X11_68 ⟨⟨by decide, by decide⟩, by decide +kernel, by decide +kernel⟩ (kn' := (312, 10701)) (by decide +kernel) (As := []) rfl (Nat.le_of_ble_eq_true rfl) (fun o' _ => t_X6_init Γ.2.1 E o' S51) d_X11_init_127 rfl (fun S52 => ?_)
  refine h_putR hO cl_X11 9 rfl (ty := .object "GlassLaces$Rota") (by decide +kernel) (Or.inl ⟨_, rfl⟩) wf_X11_69 (Or.inr ⟨rfl, rfl, rfl⟩) d_X11_init_130 (fun S53 => ?_)
  exact g_vret hO rfl ⟨Nat.le_of_ble_eq_true rfl, Nat.le_of_ble_eq_true rfl⟩ rfl rfl d_X11_init_133.1
theorem t_X11_init (l : Launch) (E : GE) (o : Nat) (S : GS) : ∀ a, f_X11_init o S = some a → Ct l E yX11_init cX11_init 2 none rm_X11_init [vA (some o)] S none a :=
  Ct_of (val := fun _ => none) (nxt := fun b => b) (by decide) (Nat.le_of_ble_eq_true rfl) (fun Γ hl hO => w_X11_init hO o S)
theorem d_X11_feed_0 : gD cX11_feed 0 (.aload_n 0) 1 1 := ⟨by decide +kernel, rfl⟩
theorem d_X11_feed_1 : gD cX11_feed 1 (.getfield 10) 3 4 := ⟨by decide +kernel, rfl⟩
theorem d_X11_feed_4 : gD cX11_feed 4 (.getfield 73) 3 7 := ⟨by decide +kernel, rfl⟩
theorem d_X11_feed_7 : gD cX11_feed 7 (.bipush 20) 2 9 := ⟨by decide +kernel, rfl⟩
theorem d_X11_feed_9 : gD cX11_feed 9 (.iadd) 1 10 := ⟨by decide +kernel, rfl⟩
theorem d_X11_feed_10 : gD cX11_feed 10 (.sipush 600) 3 13 := ⟨by decide +kernel, rfl⟩
theorem d_X11_feed_13 : gD cX11_feed 13 (.if_icmp .le 5) 3 16 ∧ ((13 : Nat) : Int) + 5 = ((18 : Nat) : Int) := ⟨⟨by decide +kernel, rfl⟩, by decide⟩
theorem d_X11_feed_16 : gD cX11_feed 16 (.iconst (-1)) 1 17 := ⟨by decide +kernel, rfl⟩
theorem d_X11_feed_17 : gD cX11_feed 17 (.ireturn) 1 18 := ⟨by decide +kernel, rfl⟩
theorem d_X11_feed_18 : gD cX11_feed 18 (.aload_n 0) 1 19 := ⟨by decide +kernel, rfl⟩
theorem d_X11_feed_19 : gD cX11_feed 19 (.getfield 10) 3 22 := ⟨by decide +kernel, rfl⟩
theorem d_X11_feed_22 : gD cX11_feed 22 (.iload_n 1) 1 23 := ⟨by decide +kernel, rfl⟩
theorem d_X11_feed_23 : gD cX11_feed 23 (.invokevirtual 77) 3 26 := ⟨by decide +kernel, rfl⟩
theorem d_X11_feed_26 : gD cX11_feed 26 (.aload_n 0) 1 27 := ⟨by decide +kernel, rfl⟩
theorem d_X11_feed_27 : gD cX11_feed 27 (.getfield 10) 3 30 := ⟨by decide +kernel, rfl⟩
theorem d_X11_feed_30 : gD cX11_feed 30 (.iload_n 2) 1 31 := ⟨by decide +kernel, rfl⟩
theorem d_X11_feed_31 : gD cX11_feed 31 (.invokevirtual 77) 3 34 := ⟨by decide +kernel, rfl⟩
theorem d_X11_feed_34 : gD cX11_feed 34 (.aload_n 0) 1 35 := ⟨by decide +kernel, rfl⟩
theorem d_X11_feed_35 : gD cX11_feed 35 (.getfield 10) 3 38 := ⟨by decide +kernel, rfl⟩
theorem d_X11_feed_38 : gD cX11_feed 38 (.iload_n 3) 1 39 := ⟨by decide +kernel, rfl⟩
theorem d_X11_feed_39 : gD cX11_feed 39 (.invokevirtual 77) 3 42 := ⟨by decide +kernel, rfl⟩
theorem d_X11_feed_42 : gD cX11_feed 42 (.aload_n 0) 1 43 := ⟨by decide +kernel, rfl⟩
theorem d_X11_feed_43 : gD cX11_feed 43 (.getfield 10) 3 46 := ⟨by decide +kernel, rfl⟩
theorem d_X11_feed_46 : gD cX11_feed 46 (.iload 4) 2 48 := ⟨by decide +kernel, rfl⟩
theorem d_X11_feed_48 : gD cX11_feed 48 (.invokevirtual 77) 3 51 := ⟨by decide +kernel, rfl⟩
theorem d_X11_feed_51 : gD cX11_feed 51 (.aload_n 0) 1 52 := ⟨by decide +kernel, rfl⟩
theorem d_X11_feed_52 : gD cX11_feed 52 (.getfield 10) 3 55 := ⟨by decide +kernel, rfl⟩
theorem d_X11_feed_55 : gD cX11_feed 55 (.iload 5) 2 57 := ⟨by decide +kernel, rfl⟩
theorem d_X11_feed_57 : gD cX11_feed 57 (.invokevirtual 77) 3 60 := ⟨by decide +kernel, rfl⟩
theorem d_X11_feed_60 : gD cX11_feed 60 (.aload_n 0) 1 61 := ⟨by decide +kernel, rfl⟩
theorem d_X11_feed_61 : gD cX11_feed 61 (.getfield 10) 3 64 := ⟨by decide +kernel, rfl⟩
theorem d_X11_feed_64 : gD cX11_feed 64 (.getfield 73) 3 67 := ⟨by decide +kernel, rfl⟩
theorem d_X11_feed_67 : gD cX11_feed 67 (.ireturn) 1 68 := ⟨by decide +kernel, rfl⟩
abbrev rm_X11_feed : Room := { frames := 1, cells := 0, slots := 0, locals := 22 }
set_option maxRecDepth 20000 in
theorem w_X11_feed {Γ : GC} {E : GE} (hO : gOk Γ E cX11_feed RX11 6 rm_X11_feed (some .int) "feed") (o : Nat) (x1 : Int32) (x2 : Int32) (x3 : Int32) (x4 : Int32) (x5 : Int32) (S : GS) : Go Γ E (gBsI Γ E) 6 (0, 0) 0 S [(0, vA (some o)), (1, vI x1), (2, vI x2), (3, vI x3), (4, vI x4), (5, vI x5)] [] (f_X11_feed o x1 x2 x3 x4 x5 S) := by
  unfold f_X11_feed
  refine g_aload_n hO d_X11_feed_0 (by rfl) 0 rfl ?_
  refine h_getR hO cl_X11 0 rfl wf_X11_10 d_X11_feed_1 (fun v1 => ?_)
  refine h_getI hO cl_X9 8 rfl wf_X11_73 d_X11_feed_4 (fun v2 => ?_)
  refine g_bipush hO 20 d_X11_feed_7 (by decide) ?_
  refine g_iadd hO d_X11_feed_9 ?_
  refine g_sipush hO 600 d_X11_feed_10 (by decide) ?_
  refine g_ic_le (tgt := 18) hO d_X11_feed_13.1 d_X11_feed_13.2 (fun _ => ?_) (fun _ => ?_)
  · skip
    refine g_aload_n hO d_X11_feed_18 (by rfl) 0 rfl ?_
    refine h_getR hO cl_X11 0 rfl wf_X11_10 d_X11_feed_19 (fun v3 => ?_)
    refine g_iload_n hO d_X11_feed_22 (by rfl) 1 rfl ?_
    refine k_virtVs hO cl_X9 mm_X9_addNumber lkV_X11_77 ⟨⟨Nat.le_of_ble_eq_true rfl, Nat.le_of_ble_eq_true rfl⟩, Nat.le_of_ble_eq_true rfl, Nat.le_of_ble_eq_true rfl⟩ (kn' := (0, 0)) rfl (As := [vI x1]) rfl (Nat.le_of_ble_eq_true rfl) (fun o' _ => t_X9_addNumber Γ.2.1 E o' x1 S) d_X11_feed_23 rfl (fun S5 => ?_)
    refine g_aload_n hO d_X11_feed_26 (by rfl) 0 rfl ?_
    refine h_getR hO cl_X11 0 rfl wf_X11_10 d_X11_feed_27 (fun v6 => ?_)
    refine g_iload_n hO d_X11_feed_30 (by rfl) 2 rfl ?_
    refine k_virtVs hO cl_X9 mm_X9_addNumber lkV_X11_77 ⟨⟨Nat.le_of_ble_eq_true rfl, Nat.le_of_ble_eq_true rfl⟩, Nat.le_of_ble_eq_true rfl, Nat.le_of_ble_eq_true rfl⟩ (kn' := (0, 0)) rfl (As := [vI x2]) rfl (Nat.le_of_ble_eq_true rfl) (fun o' _ => t_X9_addNumber Γ.2.1 E o' x2 S5) d_X11_feed_31 rfl (fun S8 => ?_)
    refine g_aload_n hO d_X11_feed_34 (by rfl) 0 rfl ?_
    refine h_getR hO cl_X11 0 rfl wf_X11_10 d_X11_feed_35 (fun v9 => ?_)
    refine g_iload_n hO d_X11_feed_38 (by rfl) 3 rfl ?_
    refine k_virtVs hO cl_X9 mm_X9_addNumber lkV_X11_77 ⟨⟨Nat.le_of_ble_eq_true rfl, Nat.le_of_ble_eq_true rfl⟩, Nat.le_of_ble_eq_true rfl, Nat.le_of_ble_eq_true rfl⟩ (kn' := (0, 0)) rfl (As := [vI x3]) rfl (Nat.le_of_ble_eq_true rfl) (fun o' _ => t_X9_addNumber Γ.2.1 E o' x3 S8) d_X11_feed_39 rfl (fun S11 => ?_)
    refine g_aload_n hO d_X11_feed_42 (by rfl) 0 rfl ?_
    refine h_getR hO cl_X11 0 rfl wf_X11_10 d_X11_feed_43 (fun v12 => ?_)
    refine g_iload hO d_X11_feed_46 4 rfl ?_
    refine k_virtVs hO cl_X9 mm_X9_addNumber lkV_X11_77 ⟨⟨Nat.le_of_ble_eq_true rfl, Nat.le_of_ble_eq_true rfl⟩, Nat.le_of_ble_eq_true rfl, Nat.le_of_ble_eq_true rfl⟩ (kn' := (0, 0)) rfl (As := [vI x4]) rfl (Nat.le_of_ble_eq_true rfl) (fun o' _ => t_X9_addNumber Γ.2.1 E o' x4 S11) d_X11_feed_48 rfl (fun S14 => ?_)
    refine g_aload_n hO d_X11_feed_51 (by rfl) 0 rfl ?_
    refine h_getR hO cl_X11 0 rfl wf_X11_10 d_X11_feed_52 (fun v15 => ?_)
    refine g_iload hO d_X11_feed_55 5 rfl ?_
    refine k_virtVs hO cl_X9 mm_X9_addNumber lkV_X11_77 ⟨⟨Nat.le_of_ble_eq_true rfl, Nat.le_of_ble_eq_true rfl⟩, Nat.le_of_ble_eq_true rfl, Nat.le_of_ble_eq_true rfl⟩ (kn' := (0, 0)) rfl (As := [vI x5]) rfl (Nat.le_of_ble_eq_true rfl) (fun o' _ => t_X9_addNumber Γ.2.1 E o' x5 S14) d_X11_feed_57 rfl (fun S17 => ?_)
    refine g_aload_n hO d_X11_feed_60 (by rfl) 0 rfl ?_
    refine h_getR hO cl_X11 0 rfl wf_X11_10 d_X11_feed_61 (fun v18 => ?_)
    refine h_getI hO cl_X9 8 rfl wf_X11_73 d_X11_feed_64 (fun v19 => ?_)
    exact g_ret hO rfl rfl ⟨Nat.le_of_ble_eq_true rfl, Nat.le_of_ble_eq_true rfl⟩ rfl rfl d_X11_feed_67.1
  · skip
    refine g_iconst hO (-1) d_X11_feed_16 (by decide) ?_
    exact g_ret hO rfl rfl ⟨Nat.le_of_ble_eq_true rfl, Nat.le_of_ble_eq_true rfl⟩ rfl rfl d_X11_feed_17.1
theorem t_X11_feed (l : Launch) (E : GE) (o : Nat) (x1 : Int32) (x2 : Int32) (x3 : Int32) (x4 : Int32) (x5 : Int32) (S : GS) : ∀ a, f_X11_feed o x1 x2 x3 x4 x5 S = some a → Ct l E yX11_feed cX11_feed 6 (some .int) rm_X11_feed [vA (some o), vI x1, vI x2, vI x3, vI x4, vI x5] S (some (vI a.1)) a.2 :=
  Ct_of (val := fun (b : Int32 × GS) => some (vI b.1)) (nxt := fun (b : Int32 × GS) => b.2) (by decide) (Nat.le_of_ble_eq_true rfl) (fun Γ hl hO => w_X11_feed hO o x1 x2 x3 x4 x5 S)
theorem d_X11_end_0 : gD cX11_end 0 (.iload_n 1) 1 1 := ⟨by decide +kernel, rfl⟩
theorem d_X11_end_1 : gD cX11_end 1 (.ifCond .lt 14) 3 4 ∧ ((1 : Nat) : Int) + 14 = ((15 : Nat) : Int) := ⟨⟨by decide +kernel, rfl⟩, by decide⟩
theorem d_X11_end_4 : gD cX11_end 4 (.iload_n 1) 1 5 := ⟨by decide +kernel, rfl⟩
theorem d_X11_end_5 : gD cX11_end 5 (.aload_n 0) 1 6 := ⟨by decide +kernel, rfl⟩
theorem d_X11_end_6 : gD cX11_end 6 (.getfield 10) 3 9 := ⟨by decide +kernel, rfl⟩
theorem d_X11_end_9 : gD cX11_end 9 (.getfield 73) 3 12 := ⟨by decide +kernel, rfl⟩
theorem d_X11_end_12 : gD cX11_end 12 (.if_icmp .le 5) 3 15 ∧ ((12 : Nat) : Int) + 5 = ((17 : Nat) : Int) := ⟨⟨by decide +kernel, rfl⟩, by decide⟩
theorem d_X11_end_15 : gD cX11_end 15 (.iconst (-1)) 1 16 := ⟨by decide +kernel, rfl⟩
theorem d_X11_end_16 : gD cX11_end 16 (.ireturn) 1 17 := ⟨by decide +kernel, rfl⟩
theorem d_X11_end_17 : gD cX11_end 17 (.aload_n 0) 1 18 := ⟨by decide +kernel, rfl⟩
theorem d_X11_end_18 : gD cX11_end 18 (.getfield 10) 3 21 := ⟨by decide +kernel, rfl⟩
theorem d_X11_end_21 : gD cX11_end 21 (.iload_n 1) 1 22 := ⟨by decide +kernel, rfl⟩
theorem d_X11_end_22 : gD cX11_end 22 (.putfield 73) 3 25 := ⟨by decide +kernel, rfl⟩
theorem d_X11_end_25 : gD cX11_end 25 (.iload_n 1) 1 26 := ⟨by decide +kernel, rfl⟩
theorem d_X11_end_26 : gD cX11_end 26 (.ireturn) 1 27 := ⟨by decide +kernel, rfl⟩
abbrev rm_X11_end : Room := { frames := 0, cells := 0, slots := 0, locals := 0 }
set_option maxRecDepth 20000 in
theorem w_X11_end {Γ : GC} {E : GE} (hO : gOk Γ E cX11_end RX11 2 rm_X11_end (some .int) "end") (o : Nat) (x1 : Int32) (S : GS) : Go Γ E (gBsI Γ E) 2 (0, 0) 0 S [(0, vA (some o)), (1, vI x1)] [] (f_X11_end o x1 S) := by
  unfold f_X11_end
  refine g_iload_n hO d_X11_end_0 (by rfl) 1 rfl ?_
  refine g_if_lt (tgt := 15) hO d_X11_end_1.1 d_X11_end_1.2 (fun _ => ?_) (fun _ => ?_)
  · skip
    refine g_iconst hO (-1) d_X11_end_15 (by decide) ?_
    exact g_ret hO rfl rfl ⟨Nat.le_of_ble_eq_true rfl, Nat.le_of_ble_eq_true rfl⟩ rfl rfl d_X11_end_16.1
  · skip
    refine g_iload_n hO d_X11_end_4 (by rfl) 1 rfl ?_
    refine g_aload_n hO d_X11_end_5 (by rfl) 0 rfl ?_
    refine h_getR hO cl_X11 0 rfl wf_X11_10 d_X11_end_6 (fun v1 => ?_)
    refine h_getI hO cl_X9 8 rfl wf_X11_73 d_X11_end_9 (fun v2 => ?_)
    refine g_ic_le (tgt := 17) hO d_X11_end_12.1 d_X11_end_12.2 (fun _ => ?_) (fun _ => ?_)
    · skip
      refine g_aload_n hO d_X11_end_17 (by rfl) 0 rfl ?_
      refine h_getR hO cl_X11 0 rfl wf_X11_10 d_X11_end_18 (fun v3 => ?_)
      refine g_iload_n hO d_X11_end_21 (by rfl) 1 rfl ?_
      refine h_putI hO cl_X9 8 rfl rfl wf_X11_73 (Or.inl rfl) d_X11_end_22 (fun S4 => ?_)
      refine g_iload_n hO d_X11_end_25 (by rfl) 1 rfl ?_
      exact g_ret hO rfl rfl ⟨Nat.le_of_ble_eq_true rfl, Nat.le_of_ble_eq_true rfl⟩ rfl rfl d_X11_end_26.1
    · skip
      refine g_iconst hO (-1) d_X11_end_15 (by decide) ?_
      exact g_ret hO rfl rfl ⟨Nat.le_of_ble_eq_true rfl, Nat.le_of_ble_eq_true rfl⟩ rfl rfl d_X11_end_16.1
theorem t_X11_end (l : Launch) (E : GE) (o : Nat) (x1 : Int32) (S : GS) : ∀ a, f_X11_end o x1 S = some a → Ct l E yX11_end cX11_end 2 (some .int) rm_X11_end [vA (some o), vI x1] S (some (vI a.1)) a.2 :=
  Ct_of (val := fun (b : Int32 × GS) => some (vI b.1)) (nxt := fun (b : Int32 × GS) => b.2) (by decide) (Nat.le_of_ble_eq_true rfl) (fun Γ hl hO => w_X11_end hO o x1 S)
theorem d_X11_text_0 : gD cX11_text 0 (.aload_n 0) 1 1 := ⟨by decide +kernel, rfl⟩
theorem d_X11_text_1 : gD cX11_text 1 (.getfield 10) 3 4 := ⟨by decide +kernel, rfl⟩
theorem d_X11_text_4 : gD cX11_text 4 (.iload_n 1) 1 5 := ⟨by decide +kernel, rfl⟩
theorem d_X11_text_5 : gD cX11_text 5 (.iload_n 2) 1 6 := ⟨by decide +kernel, rfl⟩
theorem d_X11_text_6 : gD cX11_text 6 (.invokevirtual 81) 3 9 := ⟨by decide +kernel, rfl⟩
theorem d_X11_text_9 : gD cX11_text 9 (.istore_n 3) 1 10 := ⟨by decide +kernel, rfl⟩
theorem d_X11_text_10 : gD cX11_text 10 (.iload_n 3) 1 11 := ⟨by decide +kernel, rfl⟩
theorem d_X11_text_11 : gD cX11_text 11 (.bipush (-2)) 2 13 := ⟨by decide +kernel, rfl⟩
theorem d_X11_text_13 : gD cX11_text 13 (.if_icmp .ne 15) 3 16 ∧ ((13 : Nat) : Int) + 15 = ((28 : Nat) : Int) := ⟨⟨by decide +kernel, rfl⟩, by decide⟩
theorem d_X11_text_16 : gD cX11_text 16 (.aload_n 0) 1 17 := ⟨by decide +kernel, rfl⟩
theorem d_X11_text_17 : gD cX11_text 17 (.getfield 10) 3 20 := ⟨by decide +kernel, rfl⟩
theorem d_X11_text_20 : gD cX11_text 20 (.iconst 0) 1 21 := ⟨by decide +kernel, rfl⟩
theorem d_X11_text_21 : gD cX11_text 21 (.iconst (-1)) 1 22 := ⟨by decide +kernel, rfl⟩
theorem d_X11_text_22 : gD cX11_text 22 (.invokevirtual 85) 3 25 := ⟨by decide +kernel, rfl⟩
theorem d_X11_text_25 : gD cX11_text 25 (.bipush (-2)) 2 27 := ⟨by decide +kernel, rfl⟩
theorem d_X11_text_27 : gD cX11_text 27 (.ireturn) 1 28 := ⟨by decide +kernel, rfl⟩
theorem d_X11_text_28 : gD cX11_text 28 (.aload_n 0) 1 29 := ⟨by decide +kernel, rfl⟩
theorem d_X11_text_29 : gD cX11_text 29 (.getfield 27) 3 32 := ⟨by decide +kernel, rfl⟩
theorem d_X11_text_32 : gD cX11_text 32 (.iload_n 1) 1 33 := ⟨by decide +kernel, rfl⟩
theorem d_X11_text_33 : gD cX11_text 33 (.aload_n 0) 1 34 := ⟨by decide +kernel, rfl⟩
theorem d_X11_text_34 : gD cX11_text 34 (.getfield 10) 3 37 := ⟨by decide +kernel, rfl⟩
theorem d_X11_text_37 : gD cX11_text 37 (.invokevirtual 89) 3 40 := ⟨by decide +kernel, rfl⟩
theorem d_X11_text_40 : gD cX11_text 40 (.aload_n 0) 1 41 := ⟨by decide +kernel, rfl⟩
theorem d_X11_text_41 : gD cX11_text 41 (.getfield 10) 3 44 := ⟨by decide +kernel, rfl⟩
theorem d_X11_text_44 : gD cX11_text 44 (.aload_n 0) 1 45 := ⟨by decide +kernel, rfl⟩
theorem d_X11_text_45 : gD cX11_text 45 (.getfield 27) 3 48 := ⟨by decide +kernel, rfl⟩
theorem d_X11_text_48 : gD cX11_text 48 (.getfield 93) 3 51 := ⟨by decide +kernel, rfl⟩
theorem d_X11_text_51 : gD cX11_text 51 (.aload_n 0) 1 52 := ⟨by decide +kernel, rfl⟩
theorem d_X11_text_52 : gD cX11_text 52 (.getfield 27) 3 55 := ⟨by decide +kernel, rfl⟩
theorem d_X11_text_55 : gD cX11_text 55 (.getfield 96) 3 58 := ⟨by decide +kernel, rfl⟩
theorem d_X11_text_58 : gD cX11_text 58 (.invokevirtual 85) 3 61 := ⟨by decide +kernel, rfl⟩
theorem d_X11_text_61 : gD cX11_text 61 (.aload_n 0) 1 62 := ⟨by decide +kernel, rfl⟩
theorem d_X11_text_62 : gD cX11_text 62 (.getfield 27) 3 65 := ⟨by decide +kernel, rfl⟩
theorem d_X11_text_65 : gD cX11_text 65 (.getfield 93) 3 68 := ⟨by decide +kernel, rfl⟩
theorem d_X11_text_68 : gD cX11_text 68 (.ifCond .eq 5) 3 71 ∧ ((68 : Nat) : Int) + 5 = ((73 : Nat) : Int) := ⟨⟨by decide +kernel, rfl⟩, by decide⟩
theorem d_X11_text_71 : gD cX11_text 71 (.iconst (-1)) 1 72 := ⟨by decide +kernel, rfl⟩
theorem d_X11_text_72 : gD cX11_text 72 (.ireturn) 1 73 := ⟨by decide +kernel, rfl⟩
theorem d_X11_text_73 : gD cX11_text 73 (.aload_n 0) 1 74 := ⟨by decide +kernel, rfl⟩
theorem d_X11_text_74 : gD cX11_text 74 (.getfield 10) 3 77 := ⟨by decide +kernel, rfl⟩
theorem d_X11_text_77 : gD cX11_text 77 (.iload_n 1) 1 78 := ⟨by decide +kernel, rfl⟩
theorem d_X11_text_78 : gD cX11_text 78 (.iload_n 3) 1 79 := ⟨by decide +kernel, rfl⟩
theorem d_X11_text_79 : gD cX11_text 79 (.aload_n 0) 1 80 := ⟨by decide +kernel, rfl⟩
theorem d_X11_text_80 : gD cX11_text 80 (.getfield 27) 3 83 := ⟨by decide +kernel, rfl⟩
theorem d_X11_text_83 : gD cX11_text 83 (.invokevirtual 99) 3 86 := ⟨by decide +kernel, rfl⟩
theorem d_X11_text_86 : gD cX11_text 86 (.iload_n 3) 1 87 := ⟨by decide +kernel, rfl⟩
theorem d_X11_text_87 : gD cX11_text 87 (.ireturn) 1 88 := ⟨by decide +kernel, rfl⟩
abbrev rm_X11_text : Room := { frames := 8, cells := 0, slots := 0, locals := 171 }
set_option maxRecDepth 20000 in
theorem w_X11_text {Γ : GC} {E : GE} (hO : gOk Γ E cX11_text RX11 4 rm_X11_text (some .int) "text") (o : Nat) (x1 : Int32) (x2 : Int32) (S : GS) : Go Γ E (gBsI Γ E) 4 (0, 0) 0 S [(0, vA (some o)), (1, vI x1), (2, vI x2)] [] (f_X11_text o x1 x2 S) := by
  unfold f_X11_text
  refine g_aload_n hO d_X11_text_0 (by rfl) 0 rfl ?_
  refine h_getR hO cl_X11 0 rfl wf_X11_10 d_X11_text_1 (fun v1 => ?_)
  refine g_iload_n hO d_X11_text_4 (by rfl) 1 rfl ?_
  refine g_iload_n hO d_X11_text_5 (by rfl) 2 rfl ?_
  refine k_virtIp hO cl_X9 mm_X9_numberFor lkV_X11_81 ⟨⟨Nat.le_of_ble_eq_true rfl, Nat.le_of_ble_eq_true rfl⟩, Nat.le_of_ble_eq_true rfl, Nat.le_of_ble_eq_true rfl⟩ (kn' := (0, 0)) rfl (As := [vI x1, vI x2]) rfl (Nat.le_of_ble_eq_true rfl) (fun o' _ => t_X9_numberFor Γ.2.1 E o' x1 x2 S) d_X11_text_6 rfl (fun v2 => ?_)
  refine g_istore_n (lv' := [(3, vI v2), (0, vA (some o)), (1, vI x1), (2, vI x2)]) hO d_X11_text_9 (by rfl) (by decide) rfl ?_
  refine g_iload_n hO d_X11_text_10 (by rfl) 0 rfl ?_
  refine g_bipush hO (-2) d_X11_text_11 (by decide) ?_
  refine g_ic_ne (tgt := 28) hO d_X11_text_13.1 d_X11_text_13.2 (fun _ => ?_) (fun _ => ?_)
  · skip
    refine g_aload_n hO d_X11_text_16 (by rfl) 1 rfl ?_
    refine h_getR hO cl_X11 0 rfl wf_X11_10 d_X11_text_17 (fun v4 => ?_)
    refine g_iconst hO 0 d_X11_text_20 (by decide) ?_
    refine g_iconst hO (-1) d_X11_text_21 (by decide) ?_
    refine k_virtVs hO cl_X9 mm_X9_closeTape lkV_X11_85 ⟨⟨Nat.le_of_ble_eq_true rfl, Nat.le_of_ble_eq_true rfl⟩, Nat.le_of_ble_eq_true rfl, Nat.le_of_ble_eq_true rfl⟩ (kn' := (0, 0)) rfl (As := [vI 0, vI (-1)]) rfl (Nat.le_of_ble_eq_true rfl) (fun o' _ => t_X9_closeTape Γ.2.1 E o' 0 (-1) S) d_X11_text_22 rfl (fun S6 => ?_)
    refine g_bipush hO (-2) d_X11_text_25 (by decide) ?_
    exact g_ret hO rfl rfl ⟨Nat.le_of_ble_eq_true rfl, Nat.le_of_ble_eq_true rfl⟩ rfl rfl d_X11_text_27.1
  · skip
    refine g_aload_n hO d_X11_text_28 (by rfl) 1 rfl ?_
    refine h_getR hO cl_X11 3 rfl wf_X11_27 d_X11_text_29 (fun v7 => ?_)
    refine g_iload_n hO d_X11_text_32 (by rfl) 2 rfl ?_
    refine g_aload_n hO d_X11_text_33 (by rfl) 1 rfl ?_
    refine h_getR hO cl_X11 0 rfl wf_X11_10 d_X11_text_34 (fun v8 => ?_)
    refine k_virtVs hO cl_X5 mm_X5_readAll lkV_X11_89 ⟨⟨Nat.le_of_ble_eq_true rfl, Nat.le_of_ble_eq_true rfl⟩, Nat.le_of_ble_eq_true rfl, Nat.le_of_ble_eq_true rfl⟩ (kn' := (0, 0)) rfl (As := [vI x1, vA v8]) rfl (Nat.le_of_ble_eq_true rfl) (fun o' _ => t_X5_readAll Γ.2.1 E o' x1 v8 S) d_X11_text_37 rfl (fun S10 => ?_)
    refine g_aload_n hO d_X11_text_40 (by rfl) 1 rfl ?_
    refine h_getR hO cl_X11 0 rfl wf_X11_10 d_X11_text_41 (fun v11 => ?_)
    refine g_aload_n hO d_X11_text_44 (by rfl) 1 rfl ?_
    refine h_getR hO cl_X11 3 rfl wf_X11_27 d_X11_text_45 (fun v12 => ?_)
    refine h_getI hO cl_X5 11 rfl wf_X11_93 d_X11_text_48 (fun v13 => ?_)
    refine g_aload_n hO d_X11_text_51 (by rfl) 1 rfl ?_
    refine h_getR hO cl_X11 3 rfl wf_X11_27 d_X11_text_52 (fun v14 => ?_)
    refine h_getI hO cl_X5 12 rfl wf_X11_96 d_X11_text_55 (fun v15 => ?_)
    refine k_virtVs hO cl_X9 mm_X9_closeTape lkV_X11_85 ⟨⟨Nat.le_of_ble_eq_true rfl, Nat.le_of_ble_eq_true rfl⟩, Nat.le_of_ble_eq_true rfl, Nat.le_of_ble_eq_true rfl⟩ (kn' := (0, 0)) rfl (As := [vI v13, vI v15]) rfl (Nat.le_of_ble_eq_true rfl) (fun o' _ => t_X9_closeTape Γ.2.1 E o' v13 v15 S10) d_X11_text_58 rfl (fun S17 => ?_)
    refine g_aload_n hO d_X11_text_61 (by rfl) 1 rfl ?_
    refine h_getR hO cl_X11 3 rfl wf_X11_27 d_X11_text_62 (fun v18 => ?_)
    refine h_getI hO cl_X5 11 rfl wf_X11_93 d_X11_text_65 (fun v19 => ?_)
    refine g_if_eq (tgt := 73) hO d_X11_text_68.1 d_X11_text_68.2 (fun _ => ?_) (fun _ => ?_)
    · skip
      refine g_aload_n hO d_X11_text_73 (by rfl) 1 rfl ?_
      refine h_getR hO cl_X11 0 rfl wf_X11_10 d_X11_text_74 (fun v20 => ?_)
      refine g_iload_n hO d_X11_text_77 (by rfl) 2 rfl ?_
      refine g_iload_n hO d_X11_text_78 (by rfl) 0 rfl ?_
      refine g_aload_n hO d_X11_text_79 (by rfl) 1 rfl ?_
      refine h_getR hO cl_X11 3 rfl wf_X11_27 d_X11_text_80 (fun v21 => ?_)
      refine k_virtVs hO cl_X9 mm_X9_keep lkV_X11_99 ⟨⟨Nat.le_of_ble_eq_true rfl, Nat.le_of_ble_eq_true rfl⟩, Nat.le_of_ble_eq_true rfl, Nat.le_of_ble_eq_true rfl⟩ (kn' := (0, 0)) rfl (As := [vI x1, vI v2, vA v21]) rfl (Nat.le_of_ble_eq_true rfl) (fun o' _ => t_X9_keep Γ.2.1 E o' x1 v2 v21 S17) d_X11_text_83 rfl (fun S23 => ?_)
      refine g_iload_n hO d_X11_text_86 (by rfl) 0 rfl ?_
      exact g_ret hO rfl rfl ⟨Nat.le_of_ble_eq_true rfl, Nat.le_of_ble_eq_true rfl⟩ rfl rfl d_X11_text_87.1
    · skip
      refine g_iconst hO (-1) d_X11_text_71 (by decide) ?_
      exact g_ret hO rfl rfl ⟨Nat.le_of_ble_eq_true rfl, Nat.le_of_ble_eq_true rfl⟩ rfl rfl d_X11_text_72.1
theorem t_X11_text (l : Launch) (E : GE) (o : Nat) (x1 : Int32) (x2 : Int32) (S : GS) : ∀ a, f_X11_text o x1 x2 S = some a → Ct l E yX11_text cX11_text 4 (some .int) rm_X11_text [vA (some o), vI x1, vI x2] S (some (vI a.1)) a.2 :=
  Ct_of (val := fun (b : Int32 × GS) => some (vI b.1)) (nxt := fun (b : Int32 × GS) => b.2) (by decide) (Nat.le_of_ble_eq_true rfl) (fun Γ hl hO => w_X11_text hO o x1 x2 S)
theorem d_X11_fault_0 : gD cX11_fault 0 (.iload_n 1) 1 1 := ⟨by decide +kernel, rfl⟩
theorem d_X11_fault_1 : gD cX11_fault 1 (.ifCond .ne 11) 3 4 ∧ ((1 : Nat) : Int) + 11 = ((12 : Nat) : Int) := ⟨⟨by decide +kernel, rfl⟩, by decide⟩
theorem d_X11_fault_4 : gD cX11_fault 4 (.aload_n 0) 1 5 := ⟨by decide +kernel, rfl⟩
theorem d_X11_fault_5 : gD cX11_fault 5 (.getfield 10) 3 8 := ⟨by decide +kernel, rfl⟩
theorem d_X11_fault_8 : gD cX11_fault 8 (.getfield 103) 3 11 := ⟨by decide +kernel, rfl⟩
theorem d_X11_fault_11 : gD cX11_fault 11 (.ireturn) 1 12 := ⟨by decide +kernel, rfl⟩
theorem d_X11_fault_12 : gD cX11_fault 12 (.iload_n 1) 1 13 := ⟨by decide +kernel, rfl⟩
theorem d_X11_fault_13 : gD cX11_fault 13 (.iconst 1) 1 14 := ⟨by decide +kernel, rfl⟩
theorem d_X11_fault_14 : gD cX11_fault 14 (.if_icmp .ne 13) 3 17 ∧ ((14 : Nat) : Int) + 13 = ((27 : Nat) : Int) := ⟨⟨by decide +kernel, rfl⟩, by decide⟩
theorem d_X11_fault_17 : gD cX11_fault 17 (.aload_n 0) 1 18 := ⟨by decide +kernel, rfl⟩
theorem d_X11_fault_18 : gD cX11_fault 18 (.getfield 10) 3 21 := ⟨by decide +kernel, rfl⟩
theorem d_X11_fault_21 : gD cX11_fault 21 (.getfield 104) 3 24 := ⟨by decide +kernel, rfl⟩
theorem d_X11_fault_24 : decode cX11_fault 24 = .ok (.goto 4, 3) ∧ ((24 : Nat) : Int) + 4 = ((28 : Nat) : Int) := ⟨by decide +kernel, by decide⟩
theorem d_X11_fault_27 : gD cX11_fault 27 (.iconst (-1)) 1 28 := ⟨by decide +kernel, rfl⟩
theorem d_X11_fault_28 : gD cX11_fault 28 (.ireturn) 1 29 := ⟨by decide +kernel, rfl⟩
abbrev rm_X11_fault : Room := { frames := 0, cells := 0, slots := 0, locals := 0 }
set_option maxRecDepth 20000 in
theorem w_X11_fault {Γ : GC} {E : GE} (hO : gOk Γ E cX11_fault RX11 2 rm_X11_fault (some .int) "fault") (o : Nat) (x1 : Int32) (S : GS) : Go Γ E (gBpI Γ E S) 2 (0, 0) 0 S [(0, vA (some o)), (1, vI x1)] [] (f_X11_fault o x1 S) := by
  unfold f_X11_fault
  refine g_iload_n hO d_X11_fault_0 (by rfl) 1 rfl ?_
  refine g_if_ne (tgt := 12) hO d_X11_fault_1.1 d_X11_fault_1.2 (fun _ => ?_) (fun _ => ?_)
  · skip
    refine g_aload_n hO d_X11_fault_4 (by rfl) 0 rfl ?_
    refine h_getR hO cl_X11 0 rfl wf_X11_10 d_X11_fault_5 (fun v1 => ?_)
    refine h_getI hO cl_X9 9 rfl wf_X11_103 d_X11_fault_8 (fun v2 => ?_)
    exact g_ret hO rfl rfl ⟨Nat.le_of_ble_eq_true rfl, Nat.le_of_ble_eq_true rfl⟩ rfl rfl d_X11_fault_11.1
  · skip
    refine g_iload_n hO d_X11_fault_12 (by rfl) 1 rfl ?_
    refine g_iconst hO 1 d_X11_fault_13 (by decide) ?_
    refine g_ic_ne (tgt := 27) hO d_X11_fault_14.1 d_X11_fault_14.2 (fun _ => ?_) (fun _ => ?_)
    · skip
      refine g_aload_n hO d_X11_fault_17 (by rfl) 0 rfl ?_
      refine h_getR hO cl_X11 0 rfl wf_X11_10 d_X11_fault_18 (fun v3 => ?_)
      refine h_getI hO cl_X9 10 rfl wf_X11_104 d_X11_fault_21 (fun v4 => ?_)
      refine g_goto (tgt := 28) hO d_X11_fault_24.1 d_X11_fault_24.2 ?_
      exact g_ret hO rfl rfl ⟨Nat.le_of_ble_eq_true rfl, Nat.le_of_ble_eq_true rfl⟩ rfl rfl d_X11_fault_28.1
    · skip
      refine g_iconst hO (-1) d_X11_fault_27 (by decide) ?_
      exact g_ret hO rfl rfl ⟨Nat.le_of_ble_eq_true rfl, Nat.le_of_ble_eq_true rfl⟩ rfl rfl d_X11_fault_28.1
theorem t_X11_fault (l : Launch) (E : GE) (o : Nat) (x1 : Int32) (S : GS) : ∀ a, f_X11_fault o x1 S = some a → Ct l E yX11_fault cX11_fault 2 (some .int) rm_X11_fault [vA (some o), vI x1] S (some (vI a)) S :=
  Ct_of (val := fun b => some (vI b)) (nxt := fun _ => S) (by decide) (Nat.le_of_ble_eq_true rfl) (fun Γ hl hO => w_X11_fault hO o x1 S)
theorem d_X11_court_0 : gD cX11_court 0 (.aload_n 0) 1 1 := ⟨by decide +kernel, rfl⟩
theorem d_X11_court_1 : gD cX11_court 1 (.getfield 10) 3 4 := ⟨by decide +kernel, rfl⟩
theorem d_X11_court_4 : gD cX11_court 4 (.iload_n 1) 1 5 := ⟨by decide +kernel, rfl⟩
theorem d_X11_court_5 : gD cX11_court 5 (.invokevirtual 105) 3 8 := ⟨by decide +kernel, rfl⟩
theorem d_X11_court_8 : gD cX11_court 8 (.astore_n 3) 1 9 := ⟨by decide +kernel, rfl⟩
theorem d_X11_court_9 : gD cX11_court 9 (.aload_n 3) 1 10 := ⟨by decide +kernel, rfl⟩
theorem d_X11_court_10 : gD cX11_court 10 (.ifnonnull 7) 3 13 ∧ ((10 : Nat) : Int) + 7 = ((17 : Nat) : Int) := ⟨⟨by decide +kernel, rfl⟩, by decide⟩
theorem d_X11_court_13 : gD cX11_court 13 (.iconst (-1)) 1 14 := ⟨by decide +kernel, rfl⟩
theorem d_X11_court_14 : decode cX11_court 14 = .ok (.goto 8, 3) ∧ ((14 : Nat) : Int) + 8 = ((22 : Nat) : Int) := ⟨by decide +kernel, by decide⟩
theorem d_X11_court_17 : gD cX11_court 17 (.aload_n 3) 1 18 := ⟨by decide +kernel, rfl⟩
theorem d_X11_court_18 : gD cX11_court 18 (.iload_n 2) 1 19 := ⟨by decide +kernel, rfl⟩
theorem d_X11_court_19 : gD cX11_court 19 (.invokevirtual 109) 3 22 := ⟨by decide +kernel, rfl⟩
theorem d_X11_court_22 : gD cX11_court 22 (.ireturn) 1 23 := ⟨by decide +kernel, rfl⟩
abbrev rm_X11_court : Room := { frames := 3, cells := 0, slots := 0, locals := 68 }
set_option maxRecDepth 20000 in
theorem w_X11_court {Γ : GC} {E : GE} (hO : gOk Γ E cX11_court RX11 4 rm_X11_court (some .int) "court") (o : Nat) (x1 : Int32) (x2 : Int32) (S : GS) : Go Γ E (gBpI Γ E S) 4 (0, 0) 0 S [(0, vA (some o)), (1, vI x1), (2, vI x2)] [] (f_X11_court o x1 x2 S) := by
  unfold f_X11_court
  refine g_aload_n hO d_X11_court_0 (by rfl) 0 rfl ?_
  refine h_getR hO cl_X11 0 rfl wf_X11_10 d_X11_court_1 (fun v1 => ?_)
  refine g_iload_n hO d_X11_court_4 (by rfl) 1 rfl ?_
  refine k_virtAp hO cl_X9 mm_X9_courtAt lkV_X11_105 ⟨⟨Nat.le_of_ble_eq_true rfl, Nat.le_of_ble_eq_true rfl⟩, Nat.le_of_ble_eq_true rfl, Nat.le_of_ble_eq_true rfl⟩ (kn' := (0, 0)) rfl (As := [vI x1]) rfl (Nat.le_of_ble_eq_true rfl) (fun o' _ => t_X9_courtAt Γ.2.1 E o' x1 S) d_X11_court_5 rfl (fun v2 => ?_)
  refine g_astore_n (lv' := [(3, vA v2), (0, vA (some o)), (1, vI x1), (2, vI x2)]) hO d_X11_court_8 (by rfl) (by decide) rfl ?_
  refine g_aload_n hO d_X11_court_9 (by rfl) 0 rfl ?_
  refine g_ifnonnull (tgt := 17) hO d_X11_court_10.1 d_X11_court_10.2 ?_ ?_
  · skip
    refine g_iconst hO (-1) d_X11_court_13 (by decide) ?_
    refine g_goto (tgt := 22) hO d_X11_court_14.1 d_X11_court_14.2 ?_
    exact g_ret hO rfl rfl ⟨Nat.le_of_ble_eq_true rfl, Nat.le_of_ble_eq_true rfl⟩ rfl rfl d_X11_court_22.1
  · skip
    refine g_aload_n hO d_X11_court_17 (by rfl) 0 rfl ?_
    refine g_iload_n hO d_X11_court_18 (by rfl) 3 rfl ?_
    refine k_virtIp hO cl_X0 mm_X0_tell lkV_X11_109 ⟨⟨Nat.le_of_ble_eq_true rfl, Nat.le_of_ble_eq_true rfl⟩, Nat.le_of_ble_eq_true rfl, Nat.le_of_ble_eq_true rfl⟩ (kn' := (0, 0)) rfl (As := [vI x2]) rfl (Nat.le_of_ble_eq_true rfl) (fun o' _ => t_X0_tell Γ.2.1 E o' x2 S) d_X11_court_19 rfl (fun v4 => ?_)
    exact g_ret hO rfl rfl ⟨Nat.le_of_ble_eq_true rfl, Nat.le_of_ble_eq_true rfl⟩ rfl rfl d_X11_court_22.1
theorem t_X11_court (l : Launch) (E : GE) (o : Nat) (x1 : Int32) (x2 : Int32) (S : GS) : ∀ a, f_X11_court o x1 x2 S = some a → Ct l E yX11_court cX11_court 4 (some .int) rm_X11_court [vA (some o), vI x1, vI x2] S (some (vI a)) S :=
  Ct_of (val := fun b => some (vI b)) (nxt := fun _ => S) (by decide) (Nat.le_of_ble_eq_true rfl) (fun Γ hl hO => w_X11_court hO o x1 x2 S)
theorem d_X11_lady_0 : gD cX11_lady 0 (.aload_n 0) 1 1 := ⟨by decide +kernel, rfl⟩
theorem d_X11_lady_1 : gD cX11_lady 1 (.getfield 10) 3 4 := ⟨by decide +kernel, rfl⟩
theorem d_X11_lady_4 : gD cX11_lady 4 (.iload_n 1) 1 5 := ⟨by decide +kernel, rfl⟩
theorem d_X11_lady_5 : gD cX11_lady 5 (.invokevirtual 105) 3 8 := ⟨by decide +kernel, rfl⟩
theorem d_X11_lady_8 : gD cX11_lady 8 (.astore 4) 2 10 := ⟨by decide +kernel, rfl⟩
theorem d_X11_lady_10 : gD cX11_lady 10 (.aload 4) 2 12 := ⟨by decide +kernel, rfl⟩
theorem d_X11_lady_12 : gD cX11_lady 12 (.ifnonnull 7) 3 15 ∧ ((12 : Nat) : Int) + 7 = ((19 : Nat) : Int) := ⟨⟨by decide +kernel, rfl⟩, by decide⟩
theorem d_X11_lady_15 : gD cX11_lady 15 (.iconst (-1)) 1 16 := ⟨by decide +kernel, rfl⟩
theorem d_X11_lady_16 : decode cX11_lady 16 = .ok (.goto 13, 3) ∧ ((16 : Nat) : Int) + 13 = ((29 : Nat) : Int) := ⟨by decide +kernel, by decide⟩
theorem d_X11_lady_19 : gD cX11_lady 19 (.aload 4) 2 21 := ⟨by decide +kernel, rfl⟩
theorem d_X11_lady_21 : gD cX11_lady 21 (.getfield 115) 3 24 := ⟨by decide +kernel, rfl⟩
theorem d_X11_lady_24 : gD cX11_lady 24 (.iload_n 2) 1 25 := ⟨by decide +kernel, rfl⟩
theorem d_X11_lady_25 : gD cX11_lady 25 (.iload_n 3) 1 26 := ⟨by decide +kernel, rfl⟩
theorem d_X11_lady_26 : gD cX11_lady 26 (.invokevirtual 119) 3 29 := ⟨by decide +kernel, rfl⟩
theorem d_X11_lady_29 : gD cX11_lady 29 (.ireturn) 1 30 := ⟨by decide +kernel, rfl⟩
abbrev rm_X11_lady : Room := { frames := 2, cells := 0, slots := 0, locals := 43 }
set_option maxRecDepth 20000 in
theorem w_X11_lady {Γ : GC} {E : GE} (hO : gOk Γ E cX11_lady RX11 5 rm_X11_lady (some .int) "lady") (o : Nat) (x1 : Int32) (x2 : Int32) (x3 : Int32) (S : GS) : Go Γ E (gBpI Γ E S) 5 (0, 0) 0 S [(0, vA (some o)), (1, vI x1), (2, vI x2), (3, vI x3)] [] (f_X11_lady o x1 x2 x3 S) := by
  unfold f_X11_lady
  refine g_aload_n hO d_X11_lady_0 (by rfl) 0 rfl ?_
  refine h_getR hO cl_X11 0 rfl wf_X11_10 d_X11_lady_1 (fun v1 => ?_)
  refine g_iload_n hO d_X11_lady_4 (by rfl) 1 rfl ?_
  refine k_virtAp hO cl_X9 mm_X9_courtAt lkV_X11_105 ⟨⟨Nat.le_of_ble_eq_true rfl, Nat.le_of_ble_eq_true rfl⟩, Nat.le_of_ble_eq_true rfl, Nat.le_of_ble_eq_true rfl⟩ (kn' := (0, 0)) rfl (As := [vI x1]) rfl (Nat.le_of_ble_eq_true rfl) (fun o' _ => t_X9_courtAt Γ.2.1 E o' x1 S) d_X11_lady_5 rfl (fun v2 => ?_)
  refine g_astore (lv' := [(4, vA v2), (0, vA (some o)), (1, vI x1), (2, vI x2), (3, vI x3)]) hO d_X11_lady_8 (by decide) rfl ?_
  refine g_aload hO d_X11_lady_10 0 rfl ?_
  refine g_ifnonnull (tgt := 19) hO d_X11_lady_12.1 d_X11_lady_12.2 ?_ ?_
  · skip
    refine g_iconst hO (-1) d_X11_lady_15 (by decide) ?_
    refine g_goto (tgt := 29) hO d_X11_lady_16.1 d_X11_lady_16.2 ?_
    exact g_ret hO rfl rfl ⟨Nat.le_of_ble_eq_true rfl, Nat.le_of_ble_eq_true rfl⟩ rfl rfl d_X11_lady_29.1
  · skip
    refine g_aload hO d_X11_lady_19 0 rfl ?_
    refine h_getR hO cl_X0 1 rfl wf_X11_115 d_X11_lady_21 (fun v4 => ?_)
    refine g_iload_n hO d_X11_lady_24 (by rfl) 3 rfl ?_
    refine g_iload_n hO d_X11_lady_25 (by rfl) 4 rfl ?_
    refine k_virtIp hO cl_X7 mm_X7_cell lkV_X11_119 ⟨⟨Nat.le_of_ble_eq_true rfl, Nat.le_of_ble_eq_true rfl⟩, Nat.le_of_ble_eq_true rfl, Nat.le_of_ble_eq_true rfl⟩ (kn' := (0, 0)) rfl (As := [vI x2, vI x3]) rfl (Nat.le_of_ble_eq_true rfl) (fun o' _ => t_X7_cell Γ.2.1 E o' x2 x3 S) d_X11_lady_26 rfl (fun v5 => ?_)
    exact g_ret hO rfl rfl ⟨Nat.le_of_ble_eq_true rfl, Nat.le_of_ble_eq_true rfl⟩ rfl rfl d_X11_lady_29.1
theorem t_X11_lady (l : Launch) (E : GE) (o : Nat) (x1 : Int32) (x2 : Int32) (x3 : Int32) (S : GS) : ∀ a, f_X11_lady o x1 x2 x3 S = some a → Ct l E yX11_lady cX11_lady 5 (some .int) rm_X11_lady [vA (some o), vI x1, vI x2, vI x3] S (some (vI a)) S :=
  Ct_of (val := fun b => some (vI b)) (nxt := fun _ => S) (by decide) (Nat.le_of_ble_eq_true rfl) (fun Γ hl hO => w_X11_lady hO o x1 x2 x3 S)
theorem d_X11_under_0 : gD cX11_under 0 (.aload_n 0) 1 1 := ⟨by decide +kernel, rfl⟩
theorem d_X11_under_1 : gD cX11_under 1 (.getfield 10) 3 4 := ⟨by decide +kernel, rfl⟩
theorem d_X11_under_4 : gD cX11_under 4 (.iload_n 1) 1 5 := ⟨by decide +kernel, rfl⟩
theorem d_X11_under_5 : gD cX11_under 5 (.invokevirtual 105) 3 8 := ⟨by decide +kernel, rfl⟩
theorem d_X11_under_8 : gD cX11_under 8 (.astore 5) 2 10 := ⟨by decide +kernel, rfl⟩
theorem d_X11_under_10 : gD cX11_under 10 (.aload 5) 2 12 := ⟨by decide +kernel, rfl⟩
theorem d_X11_under_12 : gD cX11_under 12 (.ifnull 36) 3 15 ∧ ((12 : Nat) : Int) + 36 = ((48 : Nat) : Int) := ⟨⟨by decide +kernel, rfl⟩, by decide⟩
theorem d_X11_under_15 : gD cX11_under 15 (.aload 5) 2 17 := ⟨by decide +kernel, rfl⟩
theorem d_X11_under_17 : gD cX11_under 17 (.getfield 115) 3 20 := ⟨by decide +kernel, rfl⟩
theorem d_X11_under_20 : gD cX11_under 20 (.iload_n 2) 1 21 := ⟨by decide +kernel, rfl⟩
theorem d_X11_under_21 : gD cX11_under 21 (.invokevirtual 124) 3 24 := ⟨by decide +kernel, rfl⟩
theorem d_X11_under_24 : gD cX11_under 24 (.ifCond .eq 24) 3 27 ∧ ((24 : Nat) : Int) + 24 = ((48 : Nat) : Int) := ⟨⟨by decide +kernel, rfl⟩, by decide⟩
theorem d_X11_under_27 : gD cX11_under 27 (.iload_n 3) 1 28 := ⟨by decide +kernel, rfl⟩
theorem d_X11_under_28 : gD cX11_under 28 (.invokestatic 128) 3 31 := ⟨by decide +kernel, rfl⟩
theorem d_X11_under_31 : gD cX11_under 31 (.ifCond .eq 17) 3 34 ∧ ((31 : Nat) : Int) + 17 = ((48 : Nat) : Int) := ⟨⟨by decide +kernel, rfl⟩, by decide⟩
theorem d_X11_under_34 : gD cX11_under 34 (.iload 4) 2 36 := ⟨by decide +kernel, rfl⟩
theorem d_X11_under_36 : gD cX11_under 36 (.bipush (-9)) 2 38 := ⟨by decide +kernel, rfl⟩
theorem d_X11_under_38 : gD cX11_under 38 (.if_icmp .lt 10) 3 41 ∧ ((38 : Nat) : Int) + 10 = ((48 : Nat) : Int) := ⟨⟨by decide +kernel, rfl⟩, by decide⟩
theorem d_X11_under_41 : gD cX11_under 41 (.iload 4) 2 43 := ⟨by decide +kernel, rfl⟩
theorem d_X11_under_43 : gD cX11_under 43 (.bipush 60) 2 45 := ⟨by decide +kernel, rfl⟩
theorem d_X11_under_45 : gD cX11_under 45 (.if_icmp .le 5) 3 48 ∧ ((45 : Nat) : Int) + 5 = ((50 : Nat) : Int) := ⟨⟨by decide +kernel, rfl⟩, by decide⟩
theorem d_X11_under_48 : gD cX11_under 48 (.iconst (-1)) 1 49 := ⟨by decide +kernel, rfl⟩
theorem d_X11_under_49 : gD cX11_under 49 (.ireturn) 1 50 := ⟨by decide +kernel, rfl⟩
theorem d_X11_under_50 : gD cX11_under 50 (.aload 5) 2 52 := ⟨by decide +kernel, rfl⟩
theorem d_X11_under_52 : gD cX11_under 52 (.iload_n 2) 1 53 := ⟨by decide +kernel, rfl⟩
theorem d_X11_under_53 : gD cX11_under 53 (.iload_n 3) 1 54 := ⟨by decide +kernel, rfl⟩
theorem d_X11_under_54 : gD cX11_under 54 (.iload 4) 2 56 := ⟨by decide +kernel, rfl⟩
theorem d_X11_under_56 : gD cX11_under 56 (.invokevirtual 131) 3 59 := ⟨by decide +kernel, rfl⟩
theorem d_X11_under_59 : gD cX11_under 59 (.ireturn) 1 60 := ⟨by decide +kernel, rfl⟩
abbrev rm_X11_under : Room := { frames := 2, cells := 0, slots := 0, locals := 45 }
set_option maxRecDepth 20000 in
theorem w_X11_under {Γ : GC} {E : GE} (hO : gOk Γ E cX11_under RX11 6 rm_X11_under (some .int) "under") (o : Nat) (x1 : Int32) (x2 : Int32) (x3 : Int32) (x4 : Int32) (S : GS) : Go Γ E (gBpI Γ E S) 6 (0, 0) 0 S [(0, vA (some o)), (1, vI x1), (2, vI x2), (3, vI x3), (4, vI x4)] [] (f_X11_under o x1 x2 x3 x4 S) := by
  unfold f_X11_under
  refine g_aload_n hO d_X11_under_0 (by rfl) 0 rfl ?_
  refine h_getR hO cl_X11 0 rfl wf_X11_10 d_X11_under_1 (fun v1 => ?_)
  refine g_iload_n hO d_X11_under_4 (by rfl) 1 rfl ?_
  refine k_virtAp hO cl_X9 mm_X9_courtAt lkV_X11_105 ⟨⟨Nat.le_of_ble_eq_true rfl, Nat.le_of_ble_eq_true rfl⟩, Nat.le_of_ble_eq_true rfl, Nat.le_of_ble_eq_true rfl⟩ (kn' := (0, 0)) rfl (As := [vI x1]) rfl (Nat.le_of_ble_eq_true rfl) (fun o' _ => t_X9_courtAt Γ.2.1 E o' x1 S) d_X11_under_5 rfl (fun v2 => ?_)
  refine g_astore (lv' := [(5, vA v2), (0, vA (some o)), (1, vI x1), (2, vI x2), (3, vI x3), (4, vI x4)]) hO d_X11_under_8 (by decide) rfl ?_
  refine g_aload hO d_X11_under_10 0 rfl ?_
  refine g_ifnull (tgt := 48) hO d_X11_under_12.1 d_X11_under_12.2 ?_ ?_
  · skip
    refine g_iconst hO (-1) d_X11_under_48 (by decide) ?_
    exact g_ret hO rfl rfl ⟨Nat.le_of_ble_eq_true rfl, Nat.le_of_ble_eq_true rfl⟩ rfl rfl d_X11_under_49.1
  · skip
    refine g_aload hO d_X11_under_15 0 rfl ?_
    refine h_getR hO cl_X0 1 rfl wf_X11_115 d_X11_under_17 (fun v4 => ?_)
    refine g_iload_n hO d_X11_under_20 (by rfl) 3 rfl ?_
    refine k_virtIp hO cl_X7 mm_X7_has lkV_X11_124 ⟨⟨Nat.le_of_ble_eq_true rfl, Nat.le_of_ble_eq_true rfl⟩, Nat.le_of_ble_eq_true rfl, Nat.le_of_ble_eq_true rfl⟩ (kn' := (0, 0)) rfl (As := [vI x2]) rfl (Nat.le_of_ble_eq_true rfl) (fun o' _ => t_X7_has Γ.2.1 E o' x2 S) d_X11_under_21 rfl (fun v5 => ?_)
    refine g_if_eq (tgt := 48) hO d_X11_under_24.1 d_X11_under_24.2 (fun _ => ?_) (fun _ => ?_)
    · skip
      refine g_iconst hO (-1) d_X11_under_48 (by decide) ?_
      exact g_ret hO rfl rfl ⟨Nat.le_of_ble_eq_true rfl, Nat.le_of_ble_eq_true rfl⟩ rfl rfl d_X11_under_49.1
    · skip
      refine g_iload_n hO d_X11_under_27 (by rfl) 4 rfl ?_
      refine k_statIp hO mm_X11_isLace lkS_X11_128 ⟨⟨Nat.le_of_ble_eq_true rfl, Nat.le_of_ble_eq_true rfl⟩, Nat.le_of_ble_eq_true rfl, Nat.le_of_ble_eq_true rfl⟩ (kn' := (0, 0)) rfl (As := [vI x3]) rfl (Nat.le_of_ble_eq_true rfl) (t_X11_isLace Γ.2.1 E x3 S) d_X11_under_28 rfl (fun v7 => ?_)
      refine g_if_eq (tgt := 48) hO d_X11_under_31.1 d_X11_under_31.2 (fun _ => ?_) (fun _ => ?_)
      · skip
        refine g_iconst hO (-1) d_X11_under_48 (by decide) ?_
        exact g_ret hO rfl rfl ⟨Nat.le_of_ble_eq_true rfl, Nat.le_of_ble_eq_true rfl⟩ rfl rfl d_X11_under_49.1
      · skip
        refine g_iload hO d_X11_under_34 5 rfl ?_
        refine g_bipush hO (-9) d_X11_under_36 (by decide) ?_
        refine g_ic_lt (tgt := 48) hO d_X11_under_38.1 d_X11_under_38.2 (fun _ => ?_) (fun _ => ?_)
        · skip
          refine g_iconst hO (-1) d_X11_under_48 (by decide) ?_
          exact g_ret hO rfl rfl ⟨Nat.le_of_ble_eq_true rfl, Nat.le_of_ble_eq_true rfl⟩ rfl rfl d_X11_under_49.1
        · skip
          refine g_iload hO d_X11_under_41 5 rfl ?_
          refine g_bipush hO 60 d_X11_under_43 (by decide) ?_
          refine g_ic_le (tgt := 50) hO d_X11_under_45.1 d_X11_under_45.2 (fun _ => ?_) (fun _ => ?_)
          · skip
            refine g_aload hO d_X11_under_50 0 rfl ?_
            refine g_iload_n hO d_X11_under_52 (by rfl) 3 rfl ?_
            refine g_iload_n hO d_X11_under_53 (by rfl) 4 rfl ?_
            refine g_iload hO d_X11_under_54 5 rfl ?_
            refine k_virtIp hO cl_X0 mm_X0_fate lkV_X11_131 ⟨⟨Nat.le_of_ble_eq_true rfl, Nat.le_of_ble_eq_true rfl⟩, Nat.le_of_ble_eq_true rfl, Nat.le_of_ble_eq_true rfl⟩ (kn' := (0, 0)) rfl (As := [vI x2, vI x3, vI x4]) rfl (Nat.le_of_ble_eq_true rfl) (fun o' _ => t_X0_fate Γ.2.1 E o' x2 x3 x4 S) d_X11_under_56 rfl (fun v9 => ?_)
            exact g_ret hO rfl rfl ⟨Nat.le_of_ble_eq_true rfl, Nat.le_of_ble_eq_true rfl⟩ rfl rfl d_X11_under_59.1
          · skip
            refine g_iconst hO (-1) d_X11_under_48 (by decide) ?_
            exact g_ret hO rfl rfl ⟨Nat.le_of_ble_eq_true rfl, Nat.le_of_ble_eq_true rfl⟩ rfl rfl d_X11_under_49.1
theorem t_X11_under (l : Launch) (E : GE) (o : Nat) (x1 : Int32) (x2 : Int32) (x3 : Int32) (x4 : Int32) (S : GS) : ∀ a, f_X11_under o x1 x2 x3 x4 S = some a → Ct l E yX11_under cX11_under 6 (some .int) rm_X11_under [vA (some o), vI x1, vI x2, vI x3, vI x4] S (some (vI a)) S :=
  Ct_of (val := fun b => some (vI b)) (nxt := fun _ => S) (by decide) (Nat.le_of_ble_eq_true rfl) (fun Γ hl hO => w_X11_under hO o x1 x2 x3 x4 S)
theorem d_X11_rowCell_0 : gD cX11_rowCell 0 (.aload_n 0) 1 1 := ⟨by decide +kernel, rfl⟩
theorem d_X11_rowCell_1 : gD cX11_rowCell 1 (.ifnonnull 6) 3 4 ∧ ((1 : Nat) : Int) + 6 = ((7 : Nat) : Int) := ⟨⟨by decide +kernel, rfl⟩, by decide⟩
theorem d_X11_rowCell_4 : gD cX11_rowCell 4 (.bipush (-2)) 2 6 := ⟨by decide +kernel, rfl⟩
theorem d_X11_rowCell_6 : gD cX11_rowCell 6 (.ireturn) 1 7 := ⟨by decide +kernel, rfl⟩
theorem d_X11_rowCell_7 : gD cX11_rowCell 7 (.iload_n 1) 1 8 := ⟨by decide +kernel, rfl⟩
theorem d_X11_rowCell_8 : gD cX11_rowCell 8 (.iconst (-1)) 1 9 := ⟨by decide +kernel, rfl⟩
theorem d_X11_rowCell_9 : gD cX11_rowCell 9 (.if_icmp .ne 17) 3 12 ∧ ((9 : Nat) : Int) + 17 = ((26 : Nat) : Int) := ⟨⟨by decide +kernel, rfl⟩, by decide⟩
theorem d_X11_rowCell_12 : gD cX11_rowCell 12 (.iload_n 2) 1 13 := ⟨by decide +kernel, rfl⟩
theorem d_X11_rowCell_13 : gD cX11_rowCell 13 (.ifCond .ne 10) 3 16 ∧ ((13 : Nat) : Int) + 10 = ((23 : Nat) : Int) := ⟨⟨by decide +kernel, rfl⟩, by decide⟩
theorem d_X11_rowCell_16 : gD cX11_rowCell 16 (.aload_n 0) 1 17 := ⟨by decide +kernel, rfl⟩
theorem d_X11_rowCell_17 : gD cX11_rowCell 17 (.getfield 143) 3 20 := ⟨by decide +kernel, rfl⟩
theorem d_X11_rowCell_20 : decode cX11_rowCell 20 = .ok (.goto 5, 3) ∧ ((20 : Nat) : Int) + 5 = ((25 : Nat) : Int) := ⟨by decide +kernel, by decide⟩
theorem d_X11_rowCell_23 : gD cX11_rowCell 23 (.bipush (-2)) 2 25 := ⟨by decide +kernel, rfl⟩
theorem d_X11_rowCell_25 : gD cX11_rowCell 25 (.ireturn) 1 26 := ⟨by decide +kernel, rfl⟩
theorem d_X11_rowCell_26 : gD cX11_rowCell 26 (.aload_n 0) 1 27 := ⟨by decide +kernel, rfl⟩
theorem d_X11_rowCell_27 : gD cX11_rowCell 27 (.iload_n 1) 1 28 := ⟨by decide +kernel, rfl⟩
theorem d_X11_rowCell_28 : gD cX11_rowCell 28 (.invokevirtual 124) 3 31 := ⟨by decide +kernel, rfl⟩
theorem d_X11_rowCell_31 : gD cX11_rowCell 31 (.ifCond .eq 24) 3 34 ∧ ((31 : Nat) : Int) + 24 = ((55 : Nat) : Int) := ⟨⟨by decide +kernel, rfl⟩, by decide⟩
theorem d_X11_rowCell_34 : gD cX11_rowCell 34 (.iload_n 2) 1 35 := ⟨by decide +kernel, rfl⟩
theorem d_X11_rowCell_35 : gD cX11_rowCell 35 (.ifCond .lt 20) 3 38 ∧ ((35 : Nat) : Int) + 20 = ((55 : Nat) : Int) := ⟨⟨by decide +kernel, rfl⟩, by decide⟩
theorem d_X11_rowCell_38 : gD cX11_rowCell 38 (.iload_n 2) 1 39 := ⟨by decide +kernel, rfl⟩
theorem d_X11_rowCell_39 : gD cX11_rowCell 39 (.aload_n 0) 1 40 := ⟨by decide +kernel, rfl⟩
theorem d_X11_rowCell_40 : gD cX11_rowCell 40 (.getfield 286) 3 43 := ⟨by decide +kernel, rfl⟩
theorem d_X11_rowCell_43 : gD cX11_rowCell 43 (.if_icmp .ge 12) 3 46 ∧ ((43 : Nat) : Int) + 12 = ((55 : Nat) : Int) := ⟨⟨by decide +kernel, rfl⟩, by decide⟩
theorem d_X11_rowCell_46 : gD cX11_rowCell 46 (.aload_n 0) 1 47 := ⟨by decide +kernel, rfl⟩
theorem d_X11_rowCell_47 : gD cX11_rowCell 47 (.iload_n 1) 1 48 := ⟨by decide +kernel, rfl⟩
theorem d_X11_rowCell_48 : gD cX11_rowCell 48 (.iload_n 2) 1 49 := ⟨by decide +kernel, rfl⟩
theorem d_X11_rowCell_49 : gD cX11_rowCell 49 (.invokevirtual 119) 3 52 := ⟨by decide +kernel, rfl⟩
theorem d_X11_rowCell_52 : decode cX11_rowCell 52 = .ok (.goto 5, 3) ∧ ((52 : Nat) : Int) + 5 = ((57 : Nat) : Int) := ⟨by decide +kernel, by decide⟩
theorem d_X11_rowCell_55 : gD cX11_rowCell 55 (.bipush (-2)) 2 57 := ⟨by decide +kernel, rfl⟩
theorem d_X11_rowCell_57 : gD cX11_rowCell 57 (.ireturn) 1 58 := ⟨by decide +kernel, rfl⟩
abbrev rm_X11_rowCell : Room := { frames := 1, cells := 0, slots := 0, locals := 22 }
set_option maxRecDepth 20000 in
theorem w_X11_rowCell {Γ : GC} {E : GE} (hO : gOk Γ E cX11_rowCell RX11 3 rm_X11_rowCell (some .int) "rowCell") (x0 : Option Nat) (x1 : Int32) (x2 : Int32) (S : GS) : Go Γ E (gBpI Γ E S) 3 (0, 0) 0 S [(0, vA x0), (1, vI x1), (2, vI x2)] [] (f_X11_rowCell x0 x1 x2 S) := by
  unfold f_X11_rowCell
  refine g_aload_n hO d_X11_rowCell_0 (by rfl) 0 rfl ?_
  refine g_ifnonnull (tgt := 7) hO d_X11_rowCell_1.1 d_X11_rowCell_1.2 ?_ ?_
  · skip
    refine g_bipush hO (-2) d_X11_rowCell_4 (by decide) ?_
    exact g_ret hO rfl rfl ⟨Nat.le_of_ble_eq_true rfl, Nat.le_of_ble_eq_true rfl⟩ rfl rfl d_X11_rowCell_6.1
  · skip
    refine g_iload_n hO d_X11_rowCell_7 (by rfl) 1 rfl ?_
    refine g_iconst hO (-1) d_X11_rowCell_8 (by decide) ?_
    refine g_ic_ne (tgt := 26) hO d_X11_rowCell_9.1 d_X11_rowCell_9.2 (fun _ => ?_) (fun _ => ?_)
    · skip
      refine g_iload_n hO d_X11_rowCell_12 (by rfl) 2 rfl ?_
      refine g_if_ne (tgt := 23) hO d_X11_rowCell_13.1 d_X11_rowCell_13.2 (fun _ => ?_) (fun _ => ?_)
      · skip
        refine g_aload_n hO d_X11_rowCell_16 (by rfl) 0 rfl ?_
        refine h_getI hO cl_X7 3 rfl wf_X11_143 d_X11_rowCell_17 (fun v1 => ?_)
        refine g_goto (tgt := 25) hO d_X11_rowCell_20.1 d_X11_rowCell_20.2 ?_
        exact g_ret hO rfl rfl ⟨Nat.le_of_ble_eq_true rfl, Nat.le_of_ble_eq_true rfl⟩ rfl rfl d_X11_rowCell_25.1
      · skip
        refine g_bipush hO (-2) d_X11_rowCell_23 (by decide) ?_
        exact g_ret hO rfl rfl ⟨Nat.le_of_ble_eq_true rfl, Nat.le_of_ble_eq_true rfl⟩ rfl rfl d_X11_rowCell_25.1
    · skip
      refine g_aload_n hO d_X11_rowCell_26 (by rfl) 0 rfl ?_
      refine g_iload_n hO d_X11_rowCell_27 (by rfl) 1 rfl ?_
      refine k_virtIp hO cl_X7 mm_X7_has lkV_X11_124 ⟨⟨Nat.le_of_ble_eq_true rfl, Nat.le_of_ble_eq_true rfl⟩, Nat.le_of_ble_eq_true rfl, Nat.le_of_ble_eq_true rfl⟩ (kn' := (0, 0)) rfl (As := [vI x1]) rfl (Nat.le_of_ble_eq_true rfl) (fun o' _ => t_X7_has Γ.2.1 E o' x1 S) d_X11_rowCell_28 rfl (fun v2 => ?_)
      refine g_if_eq (tgt := 55) hO d_X11_rowCell_31.1 d_X11_rowCell_31.2 (fun _ => ?_) (fun _ => ?_)
      · skip
        refine g_bipush hO (-2) d_X11_rowCell_55 (by decide) ?_
        exact g_ret hO rfl rfl ⟨Nat.le_of_ble_eq_true rfl, Nat.le_of_ble_eq_true rfl⟩ rfl rfl d_X11_rowCell_57.1
      · skip
        refine g_iload_n hO d_X11_rowCell_34 (by rfl) 2 rfl ?_
        refine g_if_lt (tgt := 55) hO d_X11_rowCell_35.1 d_X11_rowCell_35.2 (fun _ => ?_) (fun _ => ?_)
        · skip
          refine g_bipush hO (-2) d_X11_rowCell_55 (by decide) ?_
          exact g_ret hO rfl rfl ⟨Nat.le_of_ble_eq_true rfl, Nat.le_of_ble_eq_true rfl⟩ rfl rfl d_X11_rowCell_57.1
        · skip
          refine g_iload_n hO d_X11_rowCell_38 (by rfl) 2 rfl ?_
          refine g_aload_n hO d_X11_rowCell_39 (by rfl) 0 rfl ?_
          refine h_getI hO cl_X7 1 rfl wf_X11_286 d_X11_rowCell_40 (fun v4 => ?_)
          refine g_ic_ge (tgt := 55) hO d_X11_rowCell_43.1 d_X11_rowCell_43.2 (fun _ => ?_) (fun _ => ?_)
          · skip
            refine g_bipush hO (-2) d_X11_rowCell_55 (by decide) ?_
            exact g_ret hO rfl rfl ⟨Nat.le_of_ble_eq_true rfl, Nat.le_of_ble_eq_true rfl⟩ rfl rfl d_X11_rowCell_57.1
          · skip
            refine g_aload_n hO d_X11_rowCell_46 (by rfl) 0 rfl ?_
            refine g_iload_n hO d_X11_rowCell_47 (by rfl) 1 rfl ?_
            refine g_iload_n hO d_X11_rowCell_48 (by rfl) 2 rfl ?_
            refine k_virtIp hO cl_X7 mm_X7_cell lkV_X11_119 ⟨⟨Nat.le_of_ble_eq_true rfl, Nat.le_of_ble_eq_true rfl⟩, Nat.le_of_ble_eq_true rfl, Nat.le_of_ble_eq_true rfl⟩ (kn' := (0, 0)) rfl (As := [vI x1, vI x2]) rfl (Nat.le_of_ble_eq_true rfl) (fun o' _ => t_X7_cell Γ.2.1 E o' x1 x2 S) d_X11_rowCell_49 rfl (fun v5 => ?_)
            refine g_goto (tgt := 57) hO d_X11_rowCell_52.1 d_X11_rowCell_52.2 ?_
            exact g_ret hO rfl rfl ⟨Nat.le_of_ble_eq_true rfl, Nat.le_of_ble_eq_true rfl⟩ rfl rfl d_X11_rowCell_57.1
theorem t_X11_rowCell (l : Launch) (E : GE) (x0 : Option Nat) (x1 : Int32) (x2 : Int32) (S : GS) : ∀ a, f_X11_rowCell x0 x1 x2 S = some a → Ct l E yX11_rowCell cX11_rowCell 3 (some .int) rm_X11_rowCell [vA x0, vI x1, vI x2] S (some (vI a)) S :=
  Ct_of (val := fun b => some (vI b)) (nxt := fun _ => S) (by decide) (Nat.le_of_ble_eq_true rfl) (fun Γ hl hO => w_X11_rowCell hO x0 x1 x2 S)
theorem d_X11_deed_0 : gD cX11_deed 0 (.aload_n 0) 1 1 := ⟨by decide +kernel, rfl⟩
theorem d_X11_deed_1 : gD cX11_deed 1 (.getfield 10) 3 4 := ⟨by decide +kernel, rfl⟩
theorem d_X11_deed_4 : gD cX11_deed 4 (.iconst 1) 1 5 := ⟨by decide +kernel, rfl⟩
theorem d_X11_deed_5 : gD cX11_deed 5 (.iload_n 1) 1 6 := ⟨by decide +kernel, rfl⟩
theorem d_X11_deed_6 : gD cX11_deed 6 (.invokevirtual 135) 3 9 := ⟨by decide +kernel, rfl⟩
theorem d_X11_deed_9 : gD cX11_deed 9 (.iload_n 2) 1 10 := ⟨by decide +kernel, rfl⟩
theorem d_X11_deed_10 : gD cX11_deed 10 (.iload_n 3) 1 11 := ⟨by decide +kernel, rfl⟩
theorem d_X11_deed_11 : gD cX11_deed 11 (.invokestatic 139) 3 14 := ⟨by decide +kernel, rfl⟩
theorem d_X11_deed_14 : gD cX11_deed 14 (.ireturn) 1 15 := ⟨by decide +kernel, rfl⟩
abbrev rm_X11_deed : Room := { frames := 2, cells := 0, slots := 0, locals := 44 }
set_option maxRecDepth 20000 in
theorem w_X11_deed {Γ : GC} {E : GE} (hO : gOk Γ E cX11_deed RX11 4 rm_X11_deed (some .int) "deed") (o : Nat) (x1 : Int32) (x2 : Int32) (x3 : Int32) (S : GS) : Go Γ E (gBpI Γ E S) 4 (0, 0) 0 S [(0, vA (some o)), (1, vI x1), (2, vI x2), (3, vI x3)] [] (f_X11_deed o x1 x2 x3 S) := by
  unfold f_X11_deed
  refine g_aload_n hO d_X11_deed_0 (by rfl) 0 rfl ?_
  refine h_getR hO cl_X11 0 rfl wf_X11_10 d_X11_deed_1 (fun v1 => ?_)
  refine g_iconst hO 1 d_X11_deed_4 (by decide) ?_
  refine g_iload_n hO d_X11_deed_5 (by rfl) 1 rfl ?_
  refine k_virtAp hO cl_X9 mm_X9_rowsAt lkV_X11_135 ⟨⟨Nat.le_of_ble_eq_true rfl, Nat.le_of_ble_eq_true rfl⟩, Nat.le_of_ble_eq_true rfl, Nat.le_of_ble_eq_true rfl⟩ (kn' := (0, 0)) rfl (As := [vI 1, vI x1]) rfl (Nat.le_of_ble_eq_true rfl) (fun o' _ => t_X9_rowsAt Γ.2.1 E o' 1 x1 S) d_X11_deed_6 rfl (fun v2 => ?_)
  refine g_iload_n hO d_X11_deed_9 (by rfl) 2 rfl ?_
  refine g_iload_n hO d_X11_deed_10 (by rfl) 3 rfl ?_
  refine k_statIp hO mm_X11_rowCell lkS_X11_139 ⟨⟨Nat.le_of_ble_eq_true rfl, Nat.le_of_ble_eq_true rfl⟩, Nat.le_of_ble_eq_true rfl, Nat.le_of_ble_eq_true rfl⟩ (kn' := (0, 0)) rfl (As := [vA v2, vI x2, vI x3]) rfl (Nat.le_of_ble_eq_true rfl) (t_X11_rowCell Γ.2.1 E v2 x2 x3 S) d_X11_deed_11 rfl (fun v4 => ?_)
  exact g_ret hO rfl rfl ⟨Nat.le_of_ble_eq_true rfl, Nat.le_of_ble_eq_true rfl⟩ rfl rfl d_X11_deed_14.1
theorem t_X11_deed (l : Launch) (E : GE) (o : Nat) (x1 : Int32) (x2 : Int32) (x3 : Int32) (S : GS) : ∀ a, f_X11_deed o x1 x2 x3 S = some a → Ct l E yX11_deed cX11_deed 4 (some .int) rm_X11_deed [vA (some o), vI x1, vI x2, vI x3] S (some (vI a)) S :=
  Ct_of (val := fun b => some (vI b)) (nxt := fun _ => S) (by decide) (Nat.le_of_ble_eq_true rfl) (fun Γ hl hO => w_X11_deed hO o x1 x2 x3 S)
theorem d_X11_stop_0 : gD cX11_stop 0 (.aload_n 0) 1 1 := ⟨by decide +kernel, rfl⟩
theorem d_X11_stop_1 : gD cX11_stop 1 (.getfield 10) 3 4 := ⟨by decide +kernel, rfl⟩
theorem d_X11_stop_4 : gD cX11_stop 4 (.iload_n 1) 1 5 := ⟨by decide +kernel, rfl⟩
theorem d_X11_stop_5 : gD cX11_stop 5 (.invokevirtual 105) 3 8 := ⟨by decide +kernel, rfl⟩
theorem d_X11_stop_8 : gD cX11_stop 8 (.astore_n 3) 1 9 := ⟨by decide +kernel, rfl⟩
theorem d_X11_stop_9 : gD cX11_stop 9 (.aload_n 0) 1 10 := ⟨by decide +kernel, rfl⟩
theorem d_X11_stop_10 : gD cX11_stop 10 (.getfield 10) 3 13 := ⟨by decide +kernel, rfl⟩
theorem d_X11_stop_13 : gD cX11_stop 13 (.iconst 1) 1 14 := ⟨by decide +kernel, rfl⟩
theorem d_X11_stop_14 : gD cX11_stop 14 (.iload_n 2) 1 15 := ⟨by decide +kernel, rfl⟩
theorem d_X11_stop_15 : gD cX11_stop 15 (.invokevirtual 135) 3 18 := ⟨by decide +kernel, rfl⟩
theorem d_X11_stop_18 : gD cX11_stop 18 (.astore 4) 2 20 := ⟨by decide +kernel, rfl⟩
theorem d_X11_stop_20 : gD cX11_stop 20 (.aload_n 3) 1 21 := ⟨by decide +kernel, rfl⟩
theorem d_X11_stop_21 : gD cX11_stop 21 (.ifnull 8) 3 24 ∧ ((21 : Nat) : Int) + 8 = ((29 : Nat) : Int) := ⟨⟨by decide +kernel, rfl⟩, by decide⟩
theorem d_X11_stop_24 : gD cX11_stop 24 (.aload 4) 2 26 := ⟨by decide +kernel, rfl⟩
theorem d_X11_stop_26 : gD cX11_stop 26 (.ifnonnull 5) 3 29 ∧ ((26 : Nat) : Int) + 5 = ((31 : Nat) : Int) := ⟨⟨by decide +kernel, rfl⟩, by decide⟩
theorem d_X11_stop_29 : gD cX11_stop 29 (.iconst (-1)) 1 30 := ⟨by decide +kernel, rfl⟩
theorem d_X11_stop_30 : gD cX11_stop 30 (.ireturn) 1 31 := ⟨by decide +kernel, rfl⟩
theorem d_X11_stop_31 : gD cX11_stop 31 (.aload_n 0) 1 32 := ⟨by decide +kernel, rfl⟩
theorem d_X11_stop_32 : gD cX11_stop 32 (.getfield 34) 3 35 := ⟨by decide +kernel, rfl⟩
theorem d_X11_stop_35 : gD cX11_stop 35 (.aload_n 3) 1 36 := ⟨by decide +kernel, rfl⟩
theorem d_X11_stop_36 : gD cX11_stop 36 (.aload 4) 2 38 := ⟨by decide +kernel, rfl⟩
theorem d_X11_stop_38 : gD cX11_stop 38 (.aload 4) 2 40 := ⟨by decide +kernel, rfl⟩
theorem d_X11_stop_40 : gD cX11_stop 40 (.getfield 143) 3 43 := ⟨by decide +kernel, rfl⟩
theorem d_X11_stop_43 : gD cX11_stop 43 (.invokevirtual 146) 3 46 := ⟨by decide +kernel, rfl⟩
theorem d_X11_stop_46 : gD cX11_stop 46 (.pop) 1 47 := ⟨by decide +kernel, rfl⟩
theorem d_X11_stop_47 : gD cX11_stop 47 (.aload_n 0) 1 48 := ⟨by decide +kernel, rfl⟩
theorem d_X11_stop_48 : gD cX11_stop 48 (.getfield 34) 3 51 := ⟨by decide +kernel, rfl⟩
theorem d_X11_stop_51 : gD cX11_stop 51 (.getfield 150) 3 54 := ⟨by decide +kernel, rfl⟩
theorem d_X11_stop_54 : gD cX11_stop 54 (.ireturn) 1 55 := ⟨by decide +kernel, rfl⟩
abbrev rm_X11_stop : Room := { frames := 6, cells := 0, slots := 0, locals := 135 }
set_option maxRecDepth 20000 in
theorem w_X11_stop {Γ : GC} {E : GE} (hO : gOk Γ E cX11_stop RX11 5 rm_X11_stop (some .int) "stop") (o : Nat) (x1 : Int32) (x2 : Int32) (S : GS) : Go Γ E (gBsI Γ E) 5 (0, 0) 0 S [(0, vA (some o)), (1, vI x1), (2, vI x2)] [] (f_X11_stop o x1 x2 S) := by
  unfold f_X11_stop
  refine g_aload_n hO d_X11_stop_0 (by rfl) 0 rfl ?_
  refine h_getR hO cl_X11 0 rfl wf_X11_10 d_X11_stop_1 (fun v1 => ?_)
  refine g_iload_n hO d_X11_stop_4 (by rfl) 1 rfl ?_
  refine k_virtAp hO cl_X9 mm_X9_courtAt lkV_X11_105 ⟨⟨Nat.le_of_ble_eq_true rfl, Nat.le_of_ble_eq_true rfl⟩, Nat.le_of_ble_eq_true rfl, Nat.le_of_ble_eq_true rfl⟩ (kn' := (0, 0)) rfl (As := [vI x1]) rfl (Nat.le_of_ble_eq_true rfl) (fun o' _ => t_X9_courtAt Γ.2.1 E o' x1 S) d_X11_stop_5 rfl (fun v2 => ?_)
  refine g_astore_n (lv' := [(3, vA v2), (0, vA (some o)), (1, vI x1), (2, vI x2)]) hO d_X11_stop_8 (by rfl) (by decide) rfl ?_
  refine g_aload_n hO d_X11_stop_9 (by rfl) 1 rfl ?_
  refine h_getR hO cl_X11 0 rfl wf_X11_10 d_X11_stop_10 (fun v4 => ?_)
  refine g_iconst hO 1 d_X11_stop_13 (by decide) ?_
  refine g_iload_n hO d_X11_stop_14 (by rfl) 3 rfl ?_
  refine k_virtAp hO cl_X9 mm_X9_rowsAt lkV_X11_135 ⟨⟨Nat.le_of_ble_eq_true rfl, Nat.le_of_ble_eq_true rfl⟩, Nat.le_of_ble_eq_true rfl, Nat.le_of_ble_eq_true rfl⟩ (kn' := (0, 0)) rfl (As := [vI 1, vI x2]) rfl (Nat.le_of_ble_eq_true rfl) (fun o' _ => t_X9_rowsAt Γ.2.1 E o' 1 x2 S) d_X11_stop_15 rfl (fun v5 => ?_)
  refine g_astore (lv' := [(4, vA v5), (3, vA v2), (0, vA (some o)), (1, vI x1), (2, vI x2)]) hO d_X11_stop_18 (by decide) rfl ?_
  refine g_aload_n hO d_X11_stop_20 (by rfl) 1 rfl ?_
  refine g_ifnull (tgt := 29) hO d_X11_stop_21.1 d_X11_stop_21.2 ?_ ?_
  · skip
    refine g_iconst hO (-1) d_X11_stop_29 (by decide) ?_
    exact g_ret hO rfl rfl ⟨Nat.le_of_ble_eq_true rfl, Nat.le_of_ble_eq_true rfl⟩ rfl rfl d_X11_stop_30.1
  · skip
    refine g_aload hO d_X11_stop_24 0 rfl ?_
    refine g_ifnonnull (tgt := 31) hO d_X11_stop_26.1 d_X11_stop_26.2 ?_ ?_
    · skip
      refine g_iconst hO (-1) d_X11_stop_29 (by decide) ?_
      exact g_ret hO rfl rfl ⟨Nat.le_of_ble_eq_true rfl, Nat.le_of_ble_eq_true rfl⟩ rfl rfl d_X11_stop_30.1
    · skip
      refine g_aload_n hO d_X11_stop_31 (by rfl) 2 rfl ?_
      refine h_getR hO cl_X11 4 rfl wf_X11_34 d_X11_stop_32 (fun v7 => ?_)
      refine g_aload_n hO d_X11_stop_35 (by rfl) 1 rfl ?_
      refine g_aload hO d_X11_stop_36 0 rfl ?_
      refine g_aload hO d_X11_stop_38 0 rfl ?_
      refine h_getI hO cl_X7 3 rfl wf_X11_143 d_X11_stop_40 (fun v8 => ?_)
      refine k_virtIs hO cl_X2 mm_X2_play lkV_X11_146 ⟨⟨Nat.le_of_ble_eq_true rfl, Nat.le_of_ble_eq_true rfl⟩, Nat.le_of_ble_eq_true rfl, Nat.le_of_ble_eq_true rfl⟩ (kn' := (0, 0)) rfl (As := [vA v2, vA v5, vI v8]) rfl (Nat.le_of_ble_eq_true rfl) (fun o' _ => t_X2_play Γ.2.1 E o' v2 v5 v8 S) d_X11_stop_43 rfl (fun v9 S10 => ?_)
      refine g_pop hO d_X11_stop_46 rfl ?_
      refine g_aload_n hO d_X11_stop_47 (by rfl) 2 rfl ?_
      refine h_getR hO cl_X11 4 rfl wf_X11_34 d_X11_stop_48 (fun v11 => ?_)
      refine h_getI hO cl_X2 9 rfl wf_X11_150 d_X11_stop_51 (fun v12 => ?_)
      exact g_ret hO rfl rfl ⟨Nat.le_of_ble_eq_true rfl, Nat.le_of_ble_eq_true rfl⟩ rfl rfl d_X11_stop_54.1
theorem t_X11_stop (l : Launch) (E : GE) (o : Nat) (x1 : Int32) (x2 : Int32) (S : GS) : ∀ a, f_X11_stop o x1 x2 S = some a → Ct l E yX11_stop cX11_stop 5 (some .int) rm_X11_stop [vA (some o), vI x1, vI x2] S (some (vI a.1)) a.2 :=
  Ct_of (val := fun (b : Int32 × GS) => some (vI b.1)) (nxt := fun (b : Int32 × GS) => b.2) (by decide) (Nat.le_of_ble_eq_true rfl) (fun Γ hl hO => w_X11_stop hO o x1 x2 S)
theorem d_X11_state_0 : gD cX11_state 0 (.aload_n 0) 1 1 := ⟨by decide +kernel, rfl⟩
theorem d_X11_state_1 : gD cX11_state 1 (.getfield 34) 3 4 := ⟨by decide +kernel, rfl⟩
theorem d_X11_state_4 : gD cX11_state 4 (.aload_n 0) 1 5 := ⟨by decide +kernel, rfl⟩
theorem d_X11_state_5 : gD cX11_state 5 (.getfield 10) 3 8 := ⟨by decide +kernel, rfl⟩
theorem d_X11_state_8 : gD cX11_state 8 (.iload_n 1) 1 9 := ⟨by decide +kernel, rfl⟩
theorem d_X11_state_9 : gD cX11_state 9 (.invokevirtual 105) 3 12 := ⟨by decide +kernel, rfl⟩
theorem d_X11_state_12 : gD cX11_state 12 (.aload_n 0) 1 13 := ⟨by decide +kernel, rfl⟩
theorem d_X11_state_13 : gD cX11_state 13 (.getfield 10) 3 16 := ⟨by decide +kernel, rfl⟩
theorem d_X11_state_16 : gD cX11_state 16 (.iconst 1) 1 17 := ⟨by decide +kernel, rfl⟩
theorem d_X11_state_17 : gD cX11_state 17 (.iload_n 2) 1 18 := ⟨by decide +kernel, rfl⟩
theorem d_X11_state_18 : gD cX11_state 18 (.invokevirtual 135) 3 21 := ⟨by decide +kernel, rfl⟩
theorem d_X11_state_21 : gD cX11_state 21 (.iload_n 3) 1 22 := ⟨by decide +kernel, rfl⟩
theorem d_X11_state_22 : gD cX11_state 22 (.invokevirtual 146) 3 25 := ⟨by decide +kernel, rfl⟩
theorem d_X11_state_25 : gD cX11_state 25 (.istore 5) 2 27 := ⟨by decide +kernel, rfl⟩
theorem d_X11_state_27 : gD cX11_state 27 (.iload 5) 2 29 := ⟨by decide +kernel, rfl⟩
theorem d_X11_state_29 : gD cX11_state 29 (.ifCond .eq 15) 3 32 ∧ ((29 : Nat) : Int) + 15 = ((44 : Nat) : Int) := ⟨⟨by decide +kernel, rfl⟩, by decide⟩
theorem d_X11_state_32 : gD cX11_state 32 (.aload_n 0) 1 33 := ⟨by decide +kernel, rfl⟩
theorem d_X11_state_33 : gD cX11_state 33 (.getfield 34) 3 36 := ⟨by decide +kernel, rfl⟩
theorem d_X11_state_36 : gD cX11_state 36 (.iload 4) 2 38 := ⟨by decide +kernel, rfl⟩
theorem d_X11_state_38 : gD cX11_state 38 (.invokevirtual 153) 3 41 := ⟨by decide +kernel, rfl⟩
theorem d_X11_state_41 : decode cX11_state 41 = .ok (.goto 5, 3) ∧ ((41 : Nat) : Int) + 5 = ((46 : Nat) : Int) := ⟨by decide +kernel, by decide⟩
theorem d_X11_state_44 : gD cX11_state 44 (.bipush (-100)) 2 46 := ⟨by decide +kernel, rfl⟩
theorem d_X11_state_46 : gD cX11_state 46 (.ireturn) 1 47 := ⟨by decide +kernel, rfl⟩
abbrev rm_X11_state : Room := { frames := 6, cells := 0, slots := 0, locals := 135 }
set_option maxRecDepth 20000 in
theorem w_X11_state {Γ : GC} {E : GE} (hO : gOk Γ E cX11_state RX11 6 rm_X11_state (some .int) "state") (o : Nat) (x1 : Int32) (x2 : Int32) (x3 : Int32) (x4 : Int32) (S : GS) : Go Γ E (gBsI Γ E) 6 (0, 0) 0 S [(0, vA (some o)), (1, vI x1), (2, vI x2), (3, vI x3), (4, vI x4)] [] (f_X11_state o x1 x2 x3 x4 S) := by
  unfold f_X11_state
  refine g_aload_n hO d_X11_state_0 (by rfl) 0 rfl ?_
  refine h_getR hO cl_X11 4 rfl wf_X11_34 d_X11_state_1 (fun v1 => ?_)
  refine g_aload_n hO d_X11_state_4 (by rfl) 0 rfl ?_
  refine h_getR hO cl_X11 0 rfl wf_X11_10 d_X11_state_5 (fun v2 => ?_)
  refine g_iload_n hO d_X11_state_8 (by rfl) 1 rfl ?_
  refine k_virtAp hO cl_X9 mm_X9_courtAt lkV_X11_105 ⟨⟨Nat.le_of_ble_eq_true rfl, Nat.le_of_ble_eq_true rfl⟩, Nat.le_of_ble_eq_true rfl, Nat.le_of_ble_eq_true rfl⟩ (kn' := (0, 0)) rfl (As := [vI x1]) rfl (Nat.le_of_ble_eq_true rfl) (fun o' _ => t_X9_courtAt Γ.2.1 E o' x1 S) d_X11_state_9 rfl (fun v3 => ?_)
  refine g_aload_n hO d_X11_state_12 (by rfl) 0 rfl ?_
  refine h_getR hO cl_X11 0 rfl wf_X11_10 d_X11_state_13 (fun v5 => ?_)
  refine g_iconst hO 1 d_X11_state_16 (by decide) ?_
  refine g_iload_n hO d_X11_state_17 (by rfl) 2 rfl ?_
  refine k_virtAp hO cl_X9 mm_X9_rowsAt lkV_X11_135 ⟨⟨Nat.le_of_ble_eq_true rfl, Nat.le_of_ble_eq_true rfl⟩, Nat.le_of_ble_eq_true rfl, Nat.le_of_ble_eq_true rfl⟩ (kn' := (0, 0)) rfl (As := [vI 1, vI x2]) rfl (Nat.le_of_ble_eq_true rfl) (fun o' _ => t_X9_rowsAt Γ.2.1 E o' 1 x2 S) d_X11_state_18 rfl (fun v6 => ?_)
  refine g_iload_n hO d_X11_state_21 (by rfl) 3 rfl ?_
  refine k_virtIs hO cl_X2 mm_X2_play lkV_X11_146 ⟨⟨Nat.le_of_ble_eq_true rfl, Nat.le_of_ble_eq_true rfl⟩, Nat.le_of_ble_eq_true rfl, Nat.le_of_ble_eq_true rfl⟩ (kn' := (0, 0)) rfl (As := [vA v3, vA v6, vI x3]) rfl (Nat.le_of_ble_eq_true rfl) (fun o' _ => t_X2_play Γ.2.1 E o' v3 v6 x3 S) d_X11_state_22 rfl (fun v8 S9 => ?_)
  refine g_istore (lv' := [(5, vI v8), (0, vA (some o)), (1, vI x1), (2, vI x2), (3, vI x3), (4, vI x4)]) hO d_X11_state_25 (by decide) rfl ?_
  refine g_iload hO d_X11_state_27 0 rfl ?_
  refine g_if_eq (tgt := 44) hO d_X11_state_29.1 d_X11_state_29.2 (fun _ => ?_) (fun _ => ?_)
  · skip
    refine g_bipush hO (-100) d_X11_state_44 (by decide) ?_
    exact g_ret hO rfl rfl ⟨Nat.le_of_ble_eq_true rfl, Nat.le_of_ble_eq_true rfl⟩ rfl rfl d_X11_state_46.1
  · skip
    refine g_aload_n hO d_X11_state_32 (by rfl) 1 rfl ?_
    refine h_getR hO cl_X11 4 rfl wf_X11_34 d_X11_state_33 (fun v10 => ?_)
    refine g_iload hO d_X11_state_36 5 rfl ?_
    refine k_virtIp hO cl_X2 mm_X2_tell lkV_X11_153 ⟨⟨Nat.le_of_ble_eq_true rfl, Nat.le_of_ble_eq_true rfl⟩, Nat.le_of_ble_eq_true rfl, Nat.le_of_ble_eq_true rfl⟩ (kn' := (0, 0)) rfl (As := [vI x4]) rfl (Nat.le_of_ble_eq_true rfl) (fun o' _ => t_X2_tell Γ.2.1 E o' x4 S9) d_X11_state_38 rfl (fun v11 => ?_)
    refine g_goto (tgt := 46) hO d_X11_state_41.1 d_X11_state_41.2 ?_
    exact g_ret hO rfl rfl ⟨Nat.le_of_ble_eq_true rfl, Nat.le_of_ble_eq_true rfl⟩ rfl rfl d_X11_state_46.1
theorem t_X11_state (l : Launch) (E : GE) (o : Nat) (x1 : Int32) (x2 : Int32) (x3 : Int32) (x4 : Int32) (S : GS) : ∀ a, f_X11_state o x1 x2 x3 x4 S = some a → Ct l E yX11_state cX11_state 6 (some .int) rm_X11_state [vA (some o), vI x1, vI x2, vI x3, vI x4] S (some (vI a.1)) a.2 :=
  Ct_of (val := fun (b : Int32 × GS) => some (vI b.1)) (nxt := fun (b : Int32 × GS) => b.2) (by decide) (Nat.le_of_ble_eq_true rfl) (fun Γ hl hO => w_X11_state hO o x1 x2 x3 x4 S)
theorem d_X11_of_0 : gD cX11_of 0 (.aload_n 0) 1 1 := ⟨by decide +kernel, rfl⟩
theorem d_X11_of_1 : gD cX11_of 1 (.getfield 34) 3 4 := ⟨by decide +kernel, rfl⟩
theorem d_X11_of_4 : gD cX11_of 4 (.aload_n 0) 1 5 := ⟨by decide +kernel, rfl⟩
theorem d_X11_of_5 : gD cX11_of 5 (.getfield 10) 3 8 := ⟨by decide +kernel, rfl⟩
theorem d_X11_of_8 : gD cX11_of 8 (.iload_n 1) 1 9 := ⟨by decide +kernel, rfl⟩
theorem d_X11_of_9 : gD cX11_of 9 (.invokevirtual 105) 3 12 := ⟨by decide +kernel, rfl⟩
theorem d_X11_of_12 : gD cX11_of 12 (.aload_n 0) 1 13 := ⟨by decide +kernel, rfl⟩
theorem d_X11_of_13 : gD cX11_of 13 (.getfield 10) 3 16 := ⟨by decide +kernel, rfl⟩
theorem d_X11_of_16 : gD cX11_of 16 (.iconst 1) 1 17 := ⟨by decide +kernel, rfl⟩
theorem d_X11_of_17 : gD cX11_of 17 (.iload_n 2) 1 18 := ⟨by decide +kernel, rfl⟩
theorem d_X11_of_18 : gD cX11_of 18 (.invokevirtual 135) 3 21 := ⟨by decide +kernel, rfl⟩
theorem d_X11_of_21 : gD cX11_of 21 (.iload_n 3) 1 22 := ⟨by decide +kernel, rfl⟩
theorem d_X11_of_22 : gD cX11_of 22 (.invokevirtual 146) 3 25 := ⟨by decide +kernel, rfl⟩
theorem d_X11_of_25 : gD cX11_of 25 (.istore 6) 2 27 := ⟨by decide +kernel, rfl⟩
theorem d_X11_of_27 : gD cX11_of 27 (.iload 6) 2 29 := ⟨by decide +kernel, rfl⟩
theorem d_X11_of_29 : gD cX11_of 29 (.ifCond .eq 17) 3 32 ∧ ((29 : Nat) : Int) + 17 = ((46 : Nat) : Int) := ⟨⟨by decide +kernel, rfl⟩, by decide⟩
theorem d_X11_of_32 : gD cX11_of 32 (.aload_n 0) 1 33 := ⟨by decide +kernel, rfl⟩
theorem d_X11_of_33 : gD cX11_of 33 (.getfield 34) 3 36 := ⟨by decide +kernel, rfl⟩
theorem d_X11_of_36 : gD cX11_of 36 (.iload 4) 2 38 := ⟨by decide +kernel, rfl⟩
theorem d_X11_of_38 : gD cX11_of 38 (.iload 5) 2 40 := ⟨by decide +kernel, rfl⟩
theorem d_X11_of_40 : gD cX11_of 40 (.invokevirtual 154) 3 43 := ⟨by decide +kernel, rfl⟩
theorem d_X11_of_43 : decode cX11_of 43 = .ok (.goto 5, 3) ∧ ((43 : Nat) : Int) + 5 = ((48 : Nat) : Int) := ⟨by decide +kernel, by decide⟩
theorem d_X11_of_46 : gD cX11_of 46 (.bipush (-2)) 2 48 := ⟨by decide +kernel, rfl⟩
theorem d_X11_of_48 : gD cX11_of 48 (.ireturn) 1 49 := ⟨by decide +kernel, rfl⟩
abbrev rm_X11_of : Room := { frames := 6, cells := 0, slots := 0, locals := 135 }
set_option maxRecDepth 20000 in
theorem w_X11_of {Γ : GC} {E : GE} (hO : gOk Γ E cX11_of RX11 7 rm_X11_of (some .int) "of") (o : Nat) (x1 : Int32) (x2 : Int32) (x3 : Int32) (x4 : Int32) (x5 : Int32) (S : GS) : Go Γ E (gBsI Γ E) 7 (0, 0) 0 S [(0, vA (some o)), (1, vI x1), (2, vI x2), (3, vI x3), (4, vI x4), (5, vI x5)] [] (f_X11_of o x1 x2 x3 x4 x5 S) := by
  unfold f_X11_of
  refine g_aload_n hO d_X11_of_0 (by rfl) 0 rfl ?_
  refine h_getR hO cl_X11 4 rfl wf_X11_34 d_X11_of_1 (fun v1 => ?_)
  refine g_aload_n hO d_X11_of_4 (by rfl) 0 rfl ?_
  refine h_getR hO cl_X11 0 rfl wf_X11_10 d_X11_of_5 (fun v2 => ?_)
  refine g_iload_n hO d_X11_of_8 (by rfl) 1 rfl ?_
  refine k_virtAp hO cl_X9 mm_X9_courtAt lkV_X11_105 ⟨⟨Nat.le_of_ble_eq_true rfl, Nat.le_of_ble_eq_true rfl⟩, Nat.le_of_ble_eq_true rfl, Nat.le_of_ble_eq_true rfl⟩ (kn' := (0, 0)) rfl (As := [vI x1]) rfl (Nat.le_of_ble_eq_true rfl) (fun o' _ => t_X9_courtAt Γ.2.1 E o' x1 S) d_X11_of_9 rfl (fun v3 => ?_)
  refine g_aload_n hO d_X11_of_12 (by rfl) 0 rfl ?_
  refine h_getR hO cl_X11 0 rfl wf_X11_10 d_X11_of_13 (fun v5 => ?_)
  refine g_iconst hO 1 d_X11_of_16 (by decide) ?_
  refine g_iload_n hO d_X11_of_17 (by rfl) 2 rfl ?_
  refine k_virtAp hO cl_X9 mm_X9_rowsAt lkV_X11_135 ⟨⟨Nat.le_of_ble_eq_true rfl, Nat.le_of_ble_eq_true rfl⟩, Nat.le_of_ble_eq_true rfl, Nat.le_of_ble_eq_true rfl⟩ (kn' := (0, 0)) rfl (As := [vI 1, vI x2]) rfl (Nat.le_of_ble_eq_true rfl) (fun o' _ => t_X9_rowsAt Γ.2.1 E o' 1 x2 S) d_X11_of_18 rfl (fun v6 => ?_)
  refine g_iload_n hO d_X11_of_21 (by rfl) 3 rfl ?_
  refine k_virtIs hO cl_X2 mm_X2_play lkV_X11_146 ⟨⟨Nat.le_of_ble_eq_true rfl, Nat.le_of_ble_eq_true rfl⟩, Nat.le_of_ble_eq_true rfl, Nat.le_of_ble_eq_true rfl⟩ (kn' := (0, 0)) rfl (As := [vA v3, vA v6, vI x3]) rfl (Nat.le_of_ble_eq_true rfl) (fun o' _ => t_X2_play Γ.2.1 E o' v3 v6 x3 S) d_X11_of_22 rfl (fun v8 S9 => ?_)
  refine g_istore (lv' := [(6, vI v8), (0, vA (some o)), (1, vI x1), (2, vI x2), (3, vI x3), (4, vI x4), (5, vI x5)]) hO d_X11_of_25 (by decide) rfl ?_
  refine g_iload hO d_X11_of_27 0 rfl ?_
  refine g_if_eq (tgt := 46) hO d_X11_of_29.1 d_X11_of_29.2 (fun _ => ?_) (fun _ => ?_)
  · skip
    refine g_bipush hO (-2) d_X11_of_46 (by decide) ?_
    exact g_ret hO rfl rfl ⟨Nat.le_of_ble_eq_true rfl, Nat.le_of_ble_eq_true rfl⟩ rfl rfl d_X11_of_48.1
  · skip
    refine g_aload_n hO d_X11_of_32 (by rfl) 1 rfl ?_
    refine h_getR hO cl_X11 4 rfl wf_X11_34 d_X11_of_33 (fun v10 => ?_)
    refine g_iload hO d_X11_of_36 5 rfl ?_
    refine g_iload hO d_X11_of_38 6 rfl ?_
    refine k_virtIp hO cl_X2 mm_X2_tellOf lkV_X11_154 ⟨⟨Nat.le_of_ble_eq_true rfl, Nat.le_of_ble_eq_true rfl⟩, Nat.le_of_ble_eq_true rfl, Nat.le_of_ble_eq_true rfl⟩ (kn' := (0, 0)) rfl (As := [vI x4, vI x5]) rfl (Nat.le_of_ble_eq_true rfl) (fun o' _ => t_X2_tellOf Γ.2.1 E o' x4 x5 S9) d_X11_of_40 rfl (fun v11 => ?_)
    refine g_goto (tgt := 48) hO d_X11_of_43.1 d_X11_of_43.2 ?_
    exact g_ret hO rfl rfl ⟨Nat.le_of_ble_eq_true rfl, Nat.le_of_ble_eq_true rfl⟩ rfl rfl d_X11_of_48.1
theorem t_X11_of (l : Launch) (E : GE) (o : Nat) (x1 : Int32) (x2 : Int32) (x3 : Int32) (x4 : Int32) (x5 : Int32) (S : GS) : ∀ a, f_X11_of o x1 x2 x3 x4 x5 S = some a → Ct l E yX11_of cX11_of 7 (some .int) rm_X11_of [vA (some o), vI x1, vI x2, vI x3, vI x4, vI x5] S (some (vI a.1)) a.2 :=
  Ct_of (val := fun (b : Int32 × GS) => some (vI b.1)) (nxt := fun (b : Int32 × GS) => b.2) (by decide) (Nat.le_of_ble_eq_true rfl) (fun Γ hl hO => w_X11_of hO o x1 x2 x3 x4 x5 S)
theorem d_X11_mark_0 : gD cX11_mark 0 (.aload_n 0) 1 1 := ⟨by decide +kernel, rfl⟩
theorem d_X11_mark_1 : gD cX11_mark 1 (.getfield 10) 3 4 := ⟨by decide +kernel, rfl⟩
theorem d_X11_mark_4 : gD cX11_mark 4 (.iconst 2) 1 5 := ⟨by decide +kernel, rfl⟩
theorem d_X11_mark_5 : gD cX11_mark 5 (.iload_n 1) 1 6 := ⟨by decide +kernel, rfl⟩
theorem d_X11_mark_6 : gD cX11_mark 6 (.invokevirtual 135) 3 9 := ⟨by decide +kernel, rfl⟩
theorem d_X11_mark_9 : gD cX11_mark 9 (.iload_n 2) 1 10 := ⟨by decide +kernel, rfl⟩
theorem d_X11_mark_10 : gD cX11_mark 10 (.iconst 0) 1 11 := ⟨by decide +kernel, rfl⟩
theorem d_X11_mark_11 : gD cX11_mark 11 (.invokestatic 139) 3 14 := ⟨by decide +kernel, rfl⟩
theorem d_X11_mark_14 : gD cX11_mark 14 (.ireturn) 1 15 := ⟨by decide +kernel, rfl⟩
abbrev rm_X11_mark : Room := { frames := 2, cells := 0, slots := 0, locals := 44 }
set_option maxRecDepth 20000 in
theorem w_X11_mark {Γ : GC} {E : GE} (hO : gOk Γ E cX11_mark RX11 3 rm_X11_mark (some .int) "mark") (o : Nat) (x1 : Int32) (x2 : Int32) (S : GS) : Go Γ E (gBpI Γ E S) 3 (0, 0) 0 S [(0, vA (some o)), (1, vI x1), (2, vI x2)] [] (f_X11_mark o x1 x2 S) := by
  unfold f_X11_mark
  refine g_aload_n hO d_X11_mark_0 (by rfl) 0 rfl ?_
  refine h_getR hO cl_X11 0 rfl wf_X11_10 d_X11_mark_1 (fun v1 => ?_)
  refine g_iconst hO 2 d_X11_mark_4 (by decide) ?_
  refine g_iload_n hO d_X11_mark_5 (by rfl) 1 rfl ?_
  refine k_virtAp hO cl_X9 mm_X9_rowsAt lkV_X11_135 ⟨⟨Nat.le_of_ble_eq_true rfl, Nat.le_of_ble_eq_true rfl⟩, Nat.le_of_ble_eq_true rfl, Nat.le_of_ble_eq_true rfl⟩ (kn' := (0, 0)) rfl (As := [vI 2, vI x1]) rfl (Nat.le_of_ble_eq_true rfl) (fun o' _ => t_X9_rowsAt Γ.2.1 E o' 2 x1 S) d_X11_mark_6 rfl (fun v2 => ?_)
  refine g_iload_n hO d_X11_mark_9 (by rfl) 2 rfl ?_
  refine g_iconst hO 0 d_X11_mark_10 (by decide) ?_
  refine k_statIp hO mm_X11_rowCell lkS_X11_139 ⟨⟨Nat.le_of_ble_eq_true rfl, Nat.le_of_ble_eq_true rfl⟩, Nat.le_of_ble_eq_true rfl, Nat.le_of_ble_eq_true rfl⟩ (kn' := (0, 0)) rfl (As := [vA v2, vI x2, vI 0]) rfl (Nat.le_of_ble_eq_true rfl) (t_X11_rowCell Γ.2.1 E v2 x2 0 S) d_X11_mark_11 rfl (fun v4 => ?_)
  exact g_ret hO rfl rfl ⟨Nat.le_of_ble_eq_true rfl, Nat.le_of_ble_eq_true rfl⟩ rfl rfl d_X11_mark_14.1
theorem t_X11_mark (l : Launch) (E : GE) (o : Nat) (x1 : Int32) (x2 : Int32) (S : GS) : ∀ a, f_X11_mark o x1 x2 S = some a → Ct l E yX11_mark cX11_mark 3 (some .int) rm_X11_mark [vA (some o), vI x1, vI x2] S (some (vI a)) S :=
  Ct_of (val := fun b => some (vI b)) (nxt := fun _ => S) (by decide) (Nat.le_of_ble_eq_true rfl) (fun Γ hl hO => w_X11_mark hO o x1 x2 S)
theorem d_X11_falls_0 : gD cX11_falls 0 (.aload_n 0) 1 1 := ⟨by decide +kernel, rfl⟩
theorem d_X11_falls_1 : gD cX11_falls 1 (.getfield 10) 3 4 := ⟨by decide +kernel, rfl⟩
theorem d_X11_falls_4 : gD cX11_falls 4 (.iload_n 1) 1 5 := ⟨by decide +kernel, rfl⟩
theorem d_X11_falls_5 : gD cX11_falls 5 (.invokevirtual 105) 3 8 := ⟨by decide +kernel, rfl⟩
theorem d_X11_falls_8 : gD cX11_falls 8 (.astore 4) 2 10 := ⟨by decide +kernel, rfl⟩
theorem d_X11_falls_10 : gD cX11_falls 10 (.aload_n 0) 1 11 := ⟨by decide +kernel, rfl⟩
theorem d_X11_falls_11 : gD cX11_falls 11 (.getfield 10) 3 14 := ⟨by decide +kernel, rfl⟩
theorem d_X11_falls_14 : gD cX11_falls 14 (.iconst 2) 1 15 := ⟨by decide +kernel, rfl⟩
theorem d_X11_falls_15 : gD cX11_falls 15 (.iload_n 2) 1 16 := ⟨by decide +kernel, rfl⟩
theorem d_X11_falls_16 : gD cX11_falls 16 (.invokevirtual 135) 3 19 := ⟨by decide +kernel, rfl⟩
theorem d_X11_falls_19 : gD cX11_falls 19 (.astore 5) 2 21 := ⟨by decide +kernel, rfl⟩
theorem d_X11_falls_21 : gD cX11_falls 21 (.aload 4) 2 23 := ⟨by decide +kernel, rfl⟩
theorem d_X11_falls_23 : gD cX11_falls 23 (.ifnull 20) 3 26 ∧ ((23 : Nat) : Int) + 20 = ((43 : Nat) : Int) := ⟨⟨by decide +kernel, rfl⟩, by decide⟩
theorem d_X11_falls_26 : gD cX11_falls 26 (.aload 5) 2 28 := ⟨by decide +kernel, rfl⟩
theorem d_X11_falls_28 : gD cX11_falls 28 (.ifnull 15) 3 31 ∧ ((28 : Nat) : Int) + 15 = ((43 : Nat) : Int) := ⟨⟨by decide +kernel, rfl⟩, by decide⟩
theorem d_X11_falls_31 : gD cX11_falls 31 (.aload 4) 2 33 := ⟨by decide +kernel, rfl⟩
theorem d_X11_falls_33 : gD cX11_falls 33 (.getfield 115) 3 36 := ⟨by decide +kernel, rfl⟩
theorem d_X11_falls_36 : gD cX11_falls 36 (.iload_n 3) 1 37 := ⟨by decide +kernel, rfl⟩
theorem d_X11_falls_37 : gD cX11_falls 37 (.invokevirtual 124) 3 40 := ⟨by decide +kernel, rfl⟩
theorem d_X11_falls_40 : gD cX11_falls 40 (.ifCond .ne 5) 3 43 ∧ ((40 : Nat) : Int) + 5 = ((45 : Nat) : Int) := ⟨⟨by decide +kernel, rfl⟩, by decide⟩
theorem d_X11_falls_43 : gD cX11_falls 43 (.iconst (-1)) 1 44 := ⟨by decide +kernel, rfl⟩
theorem d_X11_falls_44 : gD cX11_falls 44 (.ireturn) 1 45 := ⟨by decide +kernel, rfl⟩
theorem d_X11_falls_45 : gD cX11_falls 45 (.aload 4) 2 47 := ⟨by decide +kernel, rfl⟩
theorem d_X11_falls_47 : gD cX11_falls 47 (.getfield 115) 3 50 := ⟨by decide +kernel, rfl⟩
theorem d_X11_falls_50 : gD cX11_falls 50 (.iload_n 3) 1 51 := ⟨by decide +kernel, rfl⟩
theorem d_X11_falls_51 : gD cX11_falls 51 (.iconst 1) 1 52 := ⟨by decide +kernel, rfl⟩
theorem d_X11_falls_52 : gD cX11_falls 52 (.invokevirtual 119) 3 55 := ⟨by decide +kernel, rfl⟩
theorem d_X11_falls_55 : gD cX11_falls 55 (.istore 6) 2 57 := ⟨by decide +kernel, rfl⟩
theorem d_X11_falls_57 : gD cX11_falls 57 (.iconst 0) 1 58 := ⟨by decide +kernel, rfl⟩
theorem d_X11_falls_58 : gD cX11_falls 58 (.istore 7) 2 60 := ⟨by decide +kernel, rfl⟩
theorem d_X11_falls_60 : gD cX11_falls 60 (.iload 7) 2 62 := ⟨by decide +kernel, rfl⟩
theorem d_X11_falls_62 : gD cX11_falls 62 (.aload 5) 2 64 := ⟨by decide +kernel, rfl⟩
theorem d_X11_falls_64 : gD cX11_falls 64 (.getfield 143) 3 67 := ⟨by decide +kernel, rfl⟩
theorem d_X11_falls_67 : gD cX11_falls 67 (.if_icmp .ge 31) 3 70 ∧ ((67 : Nat) : Int) + 31 = ((98 : Nat) : Int) := ⟨⟨by decide +kernel, rfl⟩, by decide⟩
theorem d_X11_falls_70 : gD cX11_falls 70 (.aload 4) 2 72 := ⟨by decide +kernel, rfl⟩
theorem d_X11_falls_72 : gD cX11_falls 72 (.iload_n 3) 1 73 := ⟨by decide +kernel, rfl⟩
theorem d_X11_falls_73 : gD cX11_falls 73 (.iload 6) 2 75 := ⟨by decide +kernel, rfl⟩
theorem d_X11_falls_75 : gD cX11_falls 75 (.aload 5) 2 77 := ⟨by decide +kernel, rfl⟩
theorem d_X11_falls_77 : gD cX11_falls 77 (.iload 7) 2 79 := ⟨by decide +kernel, rfl⟩
theorem d_X11_falls_79 : gD cX11_falls 79 (.iconst 0) 1 80 := ⟨by decide +kernel, rfl⟩
theorem d_X11_falls_80 : gD cX11_falls 80 (.invokevirtual 119) 3 83 := ⟨by decide +kernel, rfl⟩
theorem d_X11_falls_83 : gD cX11_falls 83 (.invokevirtual 157) 3 86 := ⟨by decide +kernel, rfl⟩
theorem d_X11_falls_86 : gD cX11_falls 86 (.ifCond .ne 6) 3 89 ∧ ((86 : Nat) : Int) + 6 = ((92 : Nat) : Int) := ⟨⟨by decide +kernel, rfl⟩, by decide⟩
theorem d_X11_falls_89 : gD cX11_falls 89 (.iload 7) 2 91 := ⟨by decide +kernel, rfl⟩
theorem d_X11_falls_91 : gD cX11_falls 91 (.ireturn) 1 92 := ⟨by decide +kernel, rfl⟩
theorem d_X11_falls_92 : gD cX11_falls 92 (.iinc 7 1) 3 95 := ⟨by decide +kernel, rfl⟩
theorem d_X11_falls_95 : decode cX11_falls 95 = .ok (.goto (-35), 3) ∧ ((95 : Nat) : Int) + (-35) = ((60 : Nat) : Int) := ⟨by decide +kernel, by decide⟩
theorem d_X11_falls_98 : gD cX11_falls 98 (.iconst (-1)) 1 99 := ⟨by decide +kernel, rfl⟩
theorem d_X11_falls_99 : gD cX11_falls 99 (.ireturn) 1 100 := ⟨by decide +kernel, rfl⟩
abbrev rm_X11_falls : Room := { frames := 3, cells := 0, slots := 0, locals := 68 }
set_option maxRecDepth 20000 in
theorem w_X11_falls_60 {Γ : GC} {E : GE} (hO : gOk Γ E cX11_falls RX11 8 rm_X11_falls (some .int) "falls") (o : Nat) (S : GS) : ∀ (n : Nat) (x3 : Int32) (x4 : Option Nat) (x5 : Option Nat) (x6 : Int32) (x7 : Int32), Go Γ E (gBpI Γ E S) 8 (0, 0) 60 S [(0, vA (some o)), (3, vI x3), (4, vA x4), (5, vA x5), (6, vI x6), (7, vI x7)] [] (f_X11_falls_60 o S n x3 x4 x5 x6 x7) := by
  intro n
  induction n with
  | zero =>
    intro x3 x4 x5 x6 x7
    exact g_none
  | succ n ih =>
    intro x3 x4 x5 x6 x7
    rw [f_X11_falls_60]
    refine g_iload hO d_X11_falls_60 5 rfl ?_
    refine g_aload hO d_X11_falls_62 3 rfl ?_
    refine h_getI hO cl_X7 3 rfl wf_X11_143 d_X11_falls_64 (fun v1 => ?_)
    refine g_ic_ge (tgt := 98) hO d_X11_falls_67.1 d_X11_falls_67.2 (fun _ => ?_) (fun _ => ?_)
    · skip
      refine g_iconst hO (-1) d_X11_falls_98 (by decide) ?_
      exact g_ret hO rfl rfl ⟨Nat.le_of_ble_eq_true rfl, Nat.le_of_ble_eq_true rfl⟩ rfl rfl d_X11_falls_99.1
    · skip
      refine g_aload hO d_X11_falls_70 2 rfl ?_
      refine g_iload_n hO d_X11_falls_72 (by rfl) 1 rfl ?_
      refine g_iload hO d_X11_falls_73 4 rfl ?_
      refine g_aload hO d_X11_falls_75 3 rfl ?_
      refine g_iload hO d_X11_falls_77 5 rfl ?_
      refine g_iconst hO 0 d_X11_falls_79 (by decide) ?_
      refine k_virtIp hO cl_X7 mm_X7_cell lkV_X11_119 ⟨⟨Nat.le_of_ble_eq_true rfl, Nat.le_of_ble_eq_true rfl⟩, Nat.le_of_ble_eq_true rfl, Nat.le_of_ble_eq_true rfl⟩ (kn' := (0, 0)) rfl (As := [vI x7, vI 0]) rfl (Nat.le_of_ble_eq_true rfl) (fun o' _ => t_X7_cell Γ.2.1 E o' x7 0 S) d_X11_falls_80 rfl (fun v2 => ?_)
      refine k_virtIp hO cl_X0 mm_X0_standsAt lkV_X11_157 ⟨⟨Nat.le_of_ble_eq_true rfl, Nat.le_of_ble_eq_true rfl⟩, Nat.le_of_ble_eq_true rfl, Nat.le_of_ble_eq_true rfl⟩ (kn' := (0, 0)) rfl (As := [vI x3, vI x6, vI v2]) rfl (Nat.le_of_ble_eq_true rfl) (fun o' _ => t_X0_standsAt Γ.2.1 E o' x3 x6 v2 S) d_X11_falls_83 rfl (fun v4 => ?_)
      refine g_if_ne (tgt := 92) hO d_X11_falls_86.1 d_X11_falls_86.2 (fun _ => ?_) (fun _ => ?_)
      · skip
        refine g_iload hO d_X11_falls_89 5 rfl ?_
        exact g_ret hO rfl rfl ⟨Nat.le_of_ble_eq_true rfl, Nat.le_of_ble_eq_true rfl⟩ rfl rfl d_X11_falls_91.1
      · skip
        refine g_iinc (lv' := [(7, vI (x7 + 1)), (0, vA (some o)), (3, vI x3), (4, vA x4), (5, vA x5), (6, vI x6)]) hO 1 d_X11_falls_92 (by decide) 5 rfl (by decide) rfl ?_
        refine g_goto (tgt := 60) hO d_X11_falls_95.1 d_X11_falls_95.2 ?_
        exact g_sub [1, 2, 3, 4, 5, 0] rfl (ih _ _ _ _ _)
set_option maxRecDepth 20000 in
theorem w_X11_falls {Γ : GC} {E : GE} (hO : gOk Γ E cX11_falls RX11 8 rm_X11_falls (some .int) "falls") (o : Nat) (x1 : Int32) (x2 : Int32) (x3 : Int32) (S : GS) : Go Γ E (gBpI Γ E S) 8 (0, 0) 0 S [(0, vA (some o)), (1, vI x1), (2, vI x2), (3, vI x3)] [] (f_X11_falls o x1 x2 x3 S) := by
  unfold f_X11_falls
  refine g_aload_n hO d_X11_falls_0 (by rfl) 0 rfl ?_
  refine h_getR hO cl_X11 0 rfl wf_X11_10 d_X11_falls_1 (fun v1 => ?_)
  refine g_iload_n hO d_X11_falls_4 (by rfl) 1 rfl ?_
  refine k_virtAp hO cl_X9 mm_X9_courtAt lkV_X11_105 ⟨⟨Nat.le_of_ble_eq_true rfl, Nat.le_of_ble_eq_true rfl⟩, Nat.le_of_ble_eq_true rfl, Nat.le_of_ble_eq_true rfl⟩ (kn' := (0, 0)) rfl (As := [vI x1]) rfl (Nat.le_of_ble_eq_true rfl) (fun o' _ => t_X9_courtAt Γ.2.1 E o' x1 S) d_X11_falls_5 rfl (fun v2 => ?_)
  refine g_astore (lv' := [(4, vA v2), (0, vA (some o)), (1, vI x1), (2, vI x2), (3, vI x3)]) hO d_X11_falls_8 (by decide) rfl ?_
  refine g_aload_n hO d_X11_falls_10 (by rfl) 1 rfl ?_
  refine h_getR hO cl_X11 0 rfl wf_X11_10 d_X11_falls_11 (fun v4 => ?_)
  refine g_iconst hO 2 d_X11_falls_14 (by decide) ?_
  refine g_iload_n hO d_X11_falls_15 (by rfl) 3 rfl ?_
  refine k_virtAp hO cl_X9 mm_X9_rowsAt lkV_X11_135 ⟨⟨Nat.le_of_ble_eq_true rfl, Nat.le_of_ble_eq_true rfl⟩, Nat.le_of_ble_eq_true rfl, Nat.le_of_ble_eq_true rfl⟩ (kn' := (0, 0)) rfl (As := [vI 2, vI x2]) rfl (Nat.le_of_ble_eq_true rfl) (fun o' _ => t_X9_rowsAt Γ.2.1 E o' 2 x2 S) d_X11_falls_16 rfl (fun v5 => ?_)
  refine g_astore (lv' := [(5, vA v5), (4, vA v2), (0, vA (some o)), (1, vI x1), (2, vI x2), (3, vI x3)]) hO d_X11_falls_19 (by decide) rfl ?_
  refine g_aload hO d_X11_falls_21 1 rfl ?_
  refine g_ifnull (tgt := 43) hO d_X11_falls_23.1 d_X11_falls_23.2 ?_ ?_
  · skip
    refine g_iconst hO (-1) d_X11_falls_43 (by decide) ?_
    exact g_ret hO rfl rfl ⟨Nat.le_of_ble_eq_true rfl, Nat.le_of_ble_eq_true rfl⟩ rfl rfl d_X11_falls_44.1
  · skip
    refine g_aload hO d_X11_falls_26 0 rfl ?_
    refine g_ifnull (tgt := 43) hO d_X11_falls_28.1 d_X11_falls_28.2 ?_ ?_
    · skip
      refine g_iconst hO (-1) d_X11_falls_43 (by decide) ?_
      exact g_ret hO rfl rfl ⟨Nat.le_of_ble_eq_true rfl, Nat.le_of_ble_eq_true rfl⟩ rfl rfl d_X11_falls_44.1
    · skip
      refine g_aload hO d_X11_falls_31 1 rfl ?_
      refine h_getR hO cl_X0 1 rfl wf_X11_115 d_X11_falls_33 (fun v7 => ?_)
      refine g_iload_n hO d_X11_falls_36 (by rfl) 5 rfl ?_
      refine k_virtIp hO cl_X7 mm_X7_has lkV_X11_124 ⟨⟨Nat.le_of_ble_eq_true rfl, Nat.le_of_ble_eq_true rfl⟩, Nat.le_of_ble_eq_true rfl, Nat.le_of_ble_eq_true rfl⟩ (kn' := (0, 0)) rfl (As := [vI x3]) rfl (Nat.le_of_ble_eq_true rfl) (fun o' _ => t_X7_has Γ.2.1 E o' x3 S) d_X11_falls_37 rfl (fun v8 => ?_)
      refine g_if_ne (tgt := 45) hO d_X11_falls_40.1 d_X11_falls_40.2 (fun _ => ?_) (fun _ => ?_)
      · skip
        refine g_iconst hO (-1) d_X11_falls_43 (by decide) ?_
        exact g_ret hO rfl rfl ⟨Nat.le_of_ble_eq_true rfl, Nat.le_of_ble_eq_true rfl⟩ rfl rfl d_X11_falls_44.1
      · skip
        refine g_aload hO d_X11_falls_45 1 rfl ?_
        refine h_getR hO cl_X0 1 rfl wf_X11_115 d_X11_falls_47 (fun v10 => ?_)
        refine g_iload_n hO d_X11_falls_50 (by rfl) 5 rfl ?_
        refine g_iconst hO 1 d_X11_falls_51 (by decide) ?_
        refine k_virtIp hO cl_X7 mm_X7_cell lkV_X11_119 ⟨⟨Nat.le_of_ble_eq_true rfl, Nat.le_of_ble_eq_true rfl⟩, Nat.le_of_ble_eq_true rfl, Nat.le_of_ble_eq_true rfl⟩ (kn' := (0, 0)) rfl (As := [vI x3, vI 1]) rfl (Nat.le_of_ble_eq_true rfl) (fun o' _ => t_X7_cell Γ.2.1 E o' x3 1 S) d_X11_falls_52 rfl (fun v11 => ?_)
        refine g_istore (lv' := [(6, vI v11), (5, vA v5), (4, vA v2), (0, vA (some o)), (1, vI x1), (2, vI x2), (3, vI x3)]) hO d_X11_falls_55 (by decide) rfl ?_
        refine g_iconst hO 0 d_X11_falls_57 (by decide) ?_
        refine g_istore (lv' := [(7, vI 0), (6, vI v11), (5, vA v5), (4, vA v2), (0, vA (some o)), (1, vI x1), (2, vI x2), (3, vI x3)]) hO d_X11_falls_58 (by decide) rfl ?_
        exact g_sub [4, 7, 3, 2, 1, 0] rfl (w_X11_falls_60 hO o _ _ _ _ _ _ _)
theorem t_X11_falls (l : Launch) (E : GE) (o : Nat) (x1 : Int32) (x2 : Int32) (x3 : Int32) (S : GS) : ∀ a, f_X11_falls o x1 x2 x3 S = some a → Ct l E yX11_falls cX11_falls 8 (some .int) rm_X11_falls [vA (some o), vI x1, vI x2, vI x3] S (some (vI a)) S :=
  Ct_of (val := fun b => some (vI b)) (nxt := fun _ => S) (by decide) (Nat.le_of_ble_eq_true rfl) (fun Γ hl hO => w_X11_falls hO o x1 x2 x3 S)
theorem d_X11_laced_0 : gD cX11_laced 0 (.aload_n 0) 1 1 := ⟨by decide +kernel, rfl⟩
theorem d_X11_laced_1 : gD cX11_laced 1 (.getfield 10) 3 4 := ⟨by decide +kernel, rfl⟩
theorem d_X11_laced_4 : gD cX11_laced 4 (.iload_n 1) 1 5 := ⟨by decide +kernel, rfl⟩
theorem d_X11_laced_5 : gD cX11_laced 5 (.invokevirtual 105) 3 8 := ⟨by decide +kernel, rfl⟩
theorem d_X11_laced_8 : gD cX11_laced 8 (.astore 6) 2 10 := ⟨by decide +kernel, rfl⟩
theorem d_X11_laced_10 : gD cX11_laced 10 (.aload_n 0) 1 11 := ⟨by decide +kernel, rfl⟩
theorem d_X11_laced_11 : gD cX11_laced 11 (.getfield 10) 3 14 := ⟨by decide +kernel, rfl⟩
theorem d_X11_laced_14 : gD cX11_laced 14 (.iconst 2) 1 15 := ⟨by decide +kernel, rfl⟩
theorem d_X11_laced_15 : gD cX11_laced 15 (.iload_n 2) 1 16 := ⟨by decide +kernel, rfl⟩
theorem d_X11_laced_16 : gD cX11_laced 16 (.invokevirtual 135) 3 19 := ⟨by decide +kernel, rfl⟩
theorem d_X11_laced_19 : gD cX11_laced 19 (.astore 7) 2 21 := ⟨by decide +kernel, rfl⟩
theorem d_X11_laced_21 : gD cX11_laced 21 (.aload 6) 2 23 := ⟨by decide +kernel, rfl⟩
theorem d_X11_laced_23 : gD cX11_laced 23 (.ifnull 20) 3 26 ∧ ((23 : Nat) : Int) + 20 = ((43 : Nat) : Int) := ⟨⟨by decide +kernel, rfl⟩, by decide⟩
theorem d_X11_laced_26 : gD cX11_laced 26 (.aload 7) 2 28 := ⟨by decide +kernel, rfl⟩
theorem d_X11_laced_28 : gD cX11_laced 28 (.ifnull 15) 3 31 ∧ ((28 : Nat) : Int) + 15 = ((43 : Nat) : Int) := ⟨⟨by decide +kernel, rfl⟩, by decide⟩
theorem d_X11_laced_31 : gD cX11_laced 31 (.aload 6) 2 33 := ⟨by decide +kernel, rfl⟩
theorem d_X11_laced_33 : gD cX11_laced 33 (.getfield 115) 3 36 := ⟨by decide +kernel, rfl⟩
theorem d_X11_laced_36 : gD cX11_laced 36 (.iload_n 3) 1 37 := ⟨by decide +kernel, rfl⟩
theorem d_X11_laced_37 : gD cX11_laced 37 (.invokevirtual 124) 3 40 := ⟨by decide +kernel, rfl⟩
theorem d_X11_laced_40 : gD cX11_laced 40 (.ifCond .ne 5) 3 43 ∧ ((40 : Nat) : Int) + 5 = ((45 : Nat) : Int) := ⟨⟨by decide +kernel, rfl⟩, by decide⟩
theorem d_X11_laced_43 : gD cX11_laced 43 (.iconst (-1)) 1 44 := ⟨by decide +kernel, rfl⟩
theorem d_X11_laced_44 : gD cX11_laced 44 (.ireturn) 1 45 := ⟨by decide +kernel, rfl⟩
theorem d_X11_laced_45 : gD cX11_laced 45 (.aload_n 0) 1 46 := ⟨by decide +kernel, rfl⟩
theorem d_X11_laced_46 : gD cX11_laced 46 (.getfield 41) 3 49 := ⟨by decide +kernel, rfl⟩
theorem d_X11_laced_49 : gD cX11_laced 49 (.aload 6) 2 51 := ⟨by decide +kernel, rfl⟩
theorem d_X11_laced_51 : gD cX11_laced 51 (.aload 7) 2 53 := ⟨by decide +kernel, rfl⟩
theorem d_X11_laced_53 : gD cX11_laced 53 (.iload_n 3) 1 54 := ⟨by decide +kernel, rfl⟩
theorem d_X11_laced_54 : gD cX11_laced 54 (.iload 4) 2 56 := ⟨by decide +kernel, rfl⟩
theorem d_X11_laced_56 : gD cX11_laced 56 (.invokevirtual 161) 3 59 := ⟨by decide +kernel, rfl⟩
theorem d_X11_laced_59 : gD cX11_laced 59 (.istore 8) 2 61 := ⟨by decide +kernel, rfl⟩
theorem d_X11_laced_61 : gD cX11_laced 61 (.iload 5) 2 63 := ⟨by decide +kernel, rfl⟩
theorem d_X11_laced_63 : gD cX11_laced 63 (.ifCond .eq 9) 3 66 ∧ ((63 : Nat) : Int) + 9 = ((72 : Nat) : Int) := ⟨⟨by decide +kernel, rfl⟩, by decide⟩
theorem d_X11_laced_66 : gD cX11_laced 66 (.iload 8) 2 68 := ⟨by decide +kernel, rfl⟩
theorem d_X11_laced_68 : gD cX11_laced 68 (.iconst (-1)) 1 69 := ⟨by decide +kernel, rfl⟩
theorem d_X11_laced_69 : gD cX11_laced 69 (.if_icmp .ne 6) 3 72 ∧ ((69 : Nat) : Int) + 6 = ((75 : Nat) : Int) := ⟨⟨by decide +kernel, rfl⟩, by decide⟩
theorem d_X11_laced_72 : gD cX11_laced 72 (.iload 8) 2 74 := ⟨by decide +kernel, rfl⟩
theorem d_X11_laced_74 : gD cX11_laced 74 (.ireturn) 1 75 := ⟨by decide +kernel, rfl⟩
theorem d_X11_laced_75 : gD cX11_laced 75 (.iload 5) 2 77 := ⟨by decide +kernel, rfl⟩
theorem d_X11_laced_77 : gD cX11_laced 77 (.bipush 10) 2 79 := ⟨by decide +kernel, rfl⟩
theorem d_X11_laced_79 : gD cX11_laced 79 (.if_icmp .lt 31) 3 82 ∧ ((79 : Nat) : Int) + 31 = ((110 : Nat) : Int) := ⟨⟨by decide +kernel, rfl⟩, by decide⟩
theorem d_X11_laced_82 : gD cX11_laced 82 (.iload 5) 2 84 := ⟨by decide +kernel, rfl⟩
theorem d_X11_laced_84 : gD cX11_laced 84 (.bipush 10) 2 86 := ⟨by decide +kernel, rfl⟩
theorem d_X11_laced_86 : gD cX11_laced 86 (.isub) 1 87 := ⟨by decide +kernel, rfl⟩
theorem d_X11_laced_87 : gD cX11_laced 87 (.aload 7) 2 89 := ⟨by decide +kernel, rfl⟩
theorem d_X11_laced_89 : gD cX11_laced 89 (.getfield 143) 3 92 := ⟨by decide +kernel, rfl⟩
theorem d_X11_laced_92 : gD cX11_laced 92 (.if_icmp .ge 18) 3 95 ∧ ((92 : Nat) : Int) + 18 = ((110 : Nat) : Int) := ⟨⟨by decide +kernel, rfl⟩, by decide⟩
theorem d_X11_laced_95 : gD cX11_laced 95 (.aload_n 0) 1 96 := ⟨by decide +kernel, rfl⟩
theorem d_X11_laced_96 : gD cX11_laced 96 (.getfield 41) 3 99 := ⟨by decide +kernel, rfl⟩
theorem d_X11_laced_99 : gD cX11_laced 99 (.iload 5) 2 101 := ⟨by decide +kernel, rfl⟩
theorem d_X11_laced_101 : gD cX11_laced 101 (.bipush 10) 2 103 := ⟨by decide +kernel, rfl⟩
theorem d_X11_laced_103 : gD cX11_laced 103 (.isub) 1 104 := ⟨by decide +kernel, rfl⟩
theorem d_X11_laced_104 : gD cX11_laced 104 (.invokevirtual 165) 3 107 := ⟨by decide +kernel, rfl⟩
theorem d_X11_laced_107 : decode cX11_laced 107 = .ok (.goto 4, 3) ∧ ((107 : Nat) : Int) + 4 = ((111 : Nat) : Int) := ⟨by decide +kernel, by decide⟩
theorem d_X11_laced_110 : gD cX11_laced 110 (.iconst (-1)) 1 111 := ⟨by decide +kernel, rfl⟩
theorem d_X11_laced_111 : gD cX11_laced 111 (.ireturn) 1 112 := ⟨by decide +kernel, rfl⟩
abbrev rm_X11_laced : Room := { frames := 4, cells := 0, slots := 0, locals := 99 }
set_option maxRecDepth 20000 in
theorem w_X11_laced {Γ : GC} {E : GE} (hO : gOk Γ E cX11_laced RX11 9 rm_X11_laced (some .int) "laced") (o : Nat) (x1 : Int32) (x2 : Int32) (x3 : Int32) (x4 : Int32) (x5 : Int32) (S : GS) : Go Γ E (gBsI Γ E) 9 (0, 0) 0 S [(0, vA (some o)), (1, vI x1), (2, vI x2), (3, vI x3), (4, vI x4), (5, vI x5)] [] (f_X11_laced o x1 x2 x3 x4 x5 S) := by
  unfold f_X11_laced
  refine g_aload_n hO d_X11_laced_0 (by rfl) 0 rfl ?_
  refine h_getR hO cl_X11 0 rfl wf_X11_10 d_X11_laced_1 (fun v1 => ?_)
  refine g_iload_n hO d_X11_laced_4 (by rfl) 1 rfl ?_
  refine k_virtAp hO cl_X9 mm_X9_courtAt lkV_X11_105 ⟨⟨Nat.le_of_ble_eq_true rfl, Nat.le_of_ble_eq_true rfl⟩, Nat.le_of_ble_eq_true rfl, Nat.le_of_ble_eq_true rfl⟩ (kn' := (0, 0)) rfl (As := [vI x1]) rfl (Nat.le_of_ble_eq_true rfl) (fun o' _ => t_X9_courtAt Γ.2.1 E o' x1 S) d_X11_laced_5 rfl (fun v2 => ?_)
  refine g_astore (lv' := [(6, vA v2), (0, vA (some o)), (1, vI x1), (2, vI x2), (3, vI x3), (4, vI x4), (5, vI x5)]) hO d_X11_laced_8 (by decide) rfl ?_
  refine g_aload_n hO d_X11_laced_10 (by rfl) 1 rfl ?_
  refine h_getR hO cl_X11 0 rfl wf_X11_10 d_X11_laced_11 (fun v4 => ?_)
  refine g_iconst hO 2 d_X11_laced_14 (by decide) ?_
  refine g_iload_n hO d_X11_laced_15 (by rfl) 3 rfl ?_
  refine k_virtAp hO cl_X9 mm_X9_rowsAt lkV_X11_135 ⟨⟨Nat.le_of_ble_eq_true rfl, Nat.le_of_ble_eq_true rfl⟩, Nat.le_of_ble_eq_true rfl, Nat.le_of_ble_eq_true rfl⟩ (kn' := (0, 0)) rfl (As := [vI 2, vI x2]) rfl (Nat.le_of_ble_eq_true rfl) (fun o' _ => t_X9_rowsAt Γ.2.1 E o' 2 x2 S) d_X11_laced_16 rfl (fun v5 => ?_)
  refine g_astore (lv' := [(7, vA v5), (6, vA v2), (0, vA (some o)), (1, vI x1), (2, vI x2), (3, vI x3), (4, vI x4), (5, vI x5)]) hO d_X11_laced_19 (by decide) rfl ?_
  refine g_aload hO d_X11_laced_21 1 rfl ?_
  refine g_ifnull (tgt := 43) hO d_X11_laced_23.1 d_X11_laced_23.2 ?_ ?_
  · skip
    refine g_iconst hO (-1) d_X11_laced_43 (by decide) ?_
    exact g_ret hO rfl rfl ⟨Nat.le_of_ble_eq_true rfl, Nat.le_of_ble_eq_true rfl⟩ rfl rfl d_X11_laced_44.1
  · skip
    refine g_aload hO d_X11_laced_26 0 rfl ?_
    refine g_ifnull (tgt := 43) hO d_X11_laced_28.1 d_X11_laced_28.2 ?_ ?_
    · skip
      refine g_iconst hO (-1) d_X11_laced_43 (by decide) ?_
      exact g_ret hO rfl rfl ⟨Nat.le_of_ble_eq_true rfl, Nat.le_of_ble_eq_true rfl⟩ rfl rfl d_X11_laced_44.1
    · skip
      refine g_aload hO d_X11_laced_31 1 rfl ?_
      refine h_getR hO cl_X0 1 rfl wf_X11_115 d_X11_laced_33 (fun v7 => ?_)
      refine g_iload_n hO d_X11_laced_36 (by rfl) 5 rfl ?_
      refine k_virtIp hO cl_X7 mm_X7_has lkV_X11_124 ⟨⟨Nat.le_of_ble_eq_true rfl, Nat.le_of_ble_eq_true rfl⟩, Nat.le_of_ble_eq_true rfl, Nat.le_of_ble_eq_true rfl⟩ (kn' := (0, 0)) rfl (As := [vI x3]) rfl (Nat.le_of_ble_eq_true rfl) (fun o' _ => t_X7_has Γ.2.1 E o' x3 S) d_X11_laced_37 rfl (fun v8 => ?_)
      refine g_if_ne (tgt := 45) hO d_X11_laced_40.1 d_X11_laced_40.2 (fun _ => ?_) (fun _ => ?_)
      · skip
        refine g_iconst hO (-1) d_X11_laced_43 (by decide) ?_
        exact g_ret hO rfl rfl ⟨Nat.le_of_ble_eq_true rfl, Nat.le_of_ble_eq_true rfl⟩ rfl rfl d_X11_laced_44.1
      · skip
        refine g_aload_n hO d_X11_laced_45 (by rfl) 2 rfl ?_
        refine h_getR hO cl_X11 5 rfl wf_X11_41 d_X11_laced_46 (fun v10 => ?_)
        refine g_aload hO d_X11_laced_49 1 rfl ?_
        refine g_aload hO d_X11_laced_51 0 rfl ?_
        refine g_iload_n hO d_X11_laced_53 (by rfl) 5 rfl ?_
        refine g_iload hO d_X11_laced_54 6 rfl ?_
        refine k_virtIs hO cl_X3 mm_X3_fewest lkV_X11_161 ⟨⟨Nat.le_of_ble_eq_true rfl, Nat.le_of_ble_eq_true rfl⟩, Nat.le_of_ble_eq_true rfl, Nat.le_of_ble_eq_true rfl⟩ (kn' := (0, 0)) rfl (As := [vA v2, vA v5, vI x3, vI x4]) rfl (Nat.le_of_ble_eq_true rfl) (fun o' _ => t_X3_fewest Γ.2.1 E o' v2 v5 x3 x4 S) d_X11_laced_56 rfl (fun v11 S12 => ?_)
        refine g_istore (lv' := [(8, vI v11), (7, vA v5), (6, vA v2), (0, vA (some o)), (1, vI x1), (2, vI x2), (3, vI x3), (4, vI x4), (5, vI x5)]) hO d_X11_laced_59 (by decide) rfl ?_
        refine g_iload hO d_X11_laced_61 8 rfl ?_
        refine g_if_eq (tgt := 72) hO d_X11_laced_63.1 d_X11_laced_63.2 (fun _ => ?_) (fun _ => ?_)
        · skip
          refine g_iload hO d_X11_laced_72 0 rfl ?_
          exact g_ret hO rfl rfl ⟨Nat.le_of_ble_eq_true rfl, Nat.le_of_ble_eq_true rfl⟩ rfl rfl d_X11_laced_74.1
        · skip
          refine g_iload hO d_X11_laced_66 0 rfl ?_
          refine g_iconst hO (-1) d_X11_laced_68 (by decide) ?_
          refine g_ic_ne (tgt := 75) hO d_X11_laced_69.1 d_X11_laced_69.2 (fun _ => ?_) (fun _ => ?_)
          · skip
            refine g_iload hO d_X11_laced_72 0 rfl ?_
            exact g_ret hO rfl rfl ⟨Nat.le_of_ble_eq_true rfl, Nat.le_of_ble_eq_true rfl⟩ rfl rfl d_X11_laced_74.1
          · skip
            refine g_iload hO d_X11_laced_75 8 rfl ?_
            refine g_bipush hO 10 d_X11_laced_77 (by decide) ?_
            refine g_ic_lt (tgt := 110) hO d_X11_laced_79.1 d_X11_laced_79.2 (fun _ => ?_) (fun _ => ?_)
            · skip
              refine g_iconst hO (-1) d_X11_laced_110 (by decide) ?_
              exact g_ret hO rfl rfl ⟨Nat.le_of_ble_eq_true rfl, Nat.le_of_ble_eq_true rfl⟩ rfl rfl d_X11_laced_111.1
            · skip
              refine g_iload hO d_X11_laced_82 8 rfl ?_
              refine g_bipush hO 10 d_X11_laced_84 (by decide) ?_
              refine g_isub hO d_X11_laced_86 ?_
              refine g_aload hO d_X11_laced_87 1 rfl ?_
              refine h_getI hO cl_X7 3 rfl wf_X11_143 d_X11_laced_89 (fun v13 => ?_)
              refine g_ic_ge (tgt := 110) hO d_X11_laced_92.1 d_X11_laced_92.2 (fun _ => ?_) (fun _ => ?_)
              · skip
                refine g_iconst hO (-1) d_X11_laced_110 (by decide) ?_
                exact g_ret hO rfl rfl ⟨Nat.le_of_ble_eq_true rfl, Nat.le_of_ble_eq_true rfl⟩ rfl rfl d_X11_laced_111.1
              · skip
                refine g_aload_n hO d_X11_laced_95 (by rfl) 3 rfl ?_
                refine h_getR hO cl_X11 5 rfl wf_X11_41 d_X11_laced_96 (fun v14 => ?_)
                refine g_iload hO d_X11_laced_99 8 rfl ?_
                refine g_bipush hO 10 d_X11_laced_101 (by decide) ?_
                refine g_isub hO d_X11_laced_103 ?_
                refine k_virtIp hO cl_X3 mm_X3_laceAt lkV_X11_165 ⟨⟨Nat.le_of_ble_eq_true rfl, Nat.le_of_ble_eq_true rfl⟩, Nat.le_of_ble_eq_true rfl, Nat.le_of_ble_eq_true rfl⟩ (kn' := (0, 0)) rfl (As := [vI (x5 - 10)]) rfl (Nat.le_of_ble_eq_true rfl) (fun o' _ => t_X3_laceAt Γ.2.1 E o' (x5 - 10) S12) d_X11_laced_104 rfl (fun v15 => ?_)
                refine g_goto (tgt := 111) hO d_X11_laced_107.1 d_X11_laced_107.2 ?_
                exact g_ret hO rfl rfl ⟨Nat.le_of_ble_eq_true rfl, Nat.le_of_ble_eq_true rfl⟩ rfl rfl d_X11_laced_111.1
theorem t_X11_laced (l : Launch) (E : GE) (o : Nat) (x1 : Int32) (x2 : Int32) (x3 : Int32) (x4 : Int32) (x5 : Int32) (S : GS) : ∀ a, f_X11_laced o x1 x2 x3 x4 x5 S = some a → Ct l E yX11_laced cX11_laced 9 (some .int) rm_X11_laced [vA (some o), vI x1, vI x2, vI x3, vI x4, vI x5] S (some (vI a.1)) a.2 :=
  Ct_of (val := fun (b : Int32 × GS) => some (vI b.1)) (nxt := fun (b : Int32 × GS) => b.2) (by decide) (Nat.le_of_ble_eq_true rfl) (fun Γ hl hO => w_X11_laced hO o x1 x2 x3 x4 x5 S)
theorem d_X11_least_0 : gD cX11_least 0 (.aload_n 0) 1 1 := ⟨by decide +kernel, rfl⟩
theorem d_X11_least_1 : gD cX11_least 1 (.getfield 10) 3 4 := ⟨by decide +kernel, rfl⟩
theorem d_X11_least_4 : gD cX11_least 4 (.iload_n 1) 1 5 := ⟨by decide +kernel, rfl⟩
theorem d_X11_least_5 : gD cX11_least 5 (.invokevirtual 105) 3 8 := ⟨by decide +kernel, rfl⟩
theorem d_X11_least_8 : gD cX11_least 8 (.astore 6) 2 10 := ⟨by decide +kernel, rfl⟩
theorem d_X11_least_10 : gD cX11_least 10 (.aload_n 0) 1 11 := ⟨by decide +kernel, rfl⟩
theorem d_X11_least_11 : gD cX11_least 11 (.getfield 10) 3 14 := ⟨by decide +kernel, rfl⟩
theorem d_X11_least_14 : gD cX11_least 14 (.iconst 2) 1 15 := ⟨by decide +kernel, rfl⟩
theorem d_X11_least_15 : gD cX11_least 15 (.iload_n 2) 1 16 := ⟨by decide +kernel, rfl⟩
theorem d_X11_least_16 : gD cX11_least 16 (.invokevirtual 135) 3 19 := ⟨by decide +kernel, rfl⟩
theorem d_X11_least_19 : gD cX11_least 19 (.astore 7) 2 21 := ⟨by decide +kernel, rfl⟩
theorem d_X11_least_21 : gD cX11_least 21 (.aload 6) 2 23 := ⟨by decide +kernel, rfl⟩
theorem d_X11_least_23 : gD cX11_least 23 (.ifnull 24) 3 26 ∧ ((23 : Nat) : Int) + 24 = ((47 : Nat) : Int) := ⟨⟨by decide +kernel, rfl⟩, by decide⟩
theorem d_X11_least_26 : gD cX11_least 26 (.aload 7) 2 28 := ⟨by decide +kernel, rfl⟩
theorem d_X11_least_28 : gD cX11_least 28 (.ifnull 19) 3 31 ∧ ((28 : Nat) : Int) + 19 = ((47 : Nat) : Int) := ⟨⟨by decide +kernel, rfl⟩, by decide⟩
theorem d_X11_least_31 : gD cX11_least 31 (.iload_n 3) 1 32 := ⟨by decide +kernel, rfl⟩
theorem d_X11_least_32 : gD cX11_least 32 (.ifCond .lt 15) 3 35 ∧ ((32 : Nat) : Int) + 15 = ((47 : Nat) : Int) := ⟨⟨by decide +kernel, rfl⟩, by decide⟩
theorem d_X11_least_35 : gD cX11_least 35 (.iload_n 3) 1 36 := ⟨by decide +kernel, rfl⟩
theorem d_X11_least_36 : gD cX11_least 36 (.aload 6) 2 38 := ⟨by decide +kernel, rfl⟩
theorem d_X11_least_38 : gD cX11_least 38 (.getfield 115) 3 41 := ⟨by decide +kernel, rfl⟩
theorem d_X11_least_41 : gD cX11_least 41 (.getfield 143) 3 44 := ⟨by decide +kernel, rfl⟩
theorem d_X11_least_44 : gD cX11_least 44 (.if_icmp .le 5) 3 47 ∧ ((44 : Nat) : Int) + 5 = ((49 : Nat) : Int) := ⟨⟨by decide +kernel, rfl⟩, by decide⟩
theorem d_X11_least_47 : gD cX11_least 47 (.iconst (-1)) 1 48 := ⟨by decide +kernel, rfl⟩
theorem d_X11_least_48 : gD cX11_least 48 (.ireturn) 1 49 := ⟨by decide +kernel, rfl⟩
theorem d_X11_least_49 : gD cX11_least 49 (.aload_n 0) 1 50 := ⟨by decide +kernel, rfl⟩
theorem d_X11_least_50 : gD cX11_least 50 (.getfield 41) 3 53 := ⟨by decide +kernel, rfl⟩
theorem d_X11_least_53 : gD cX11_least 53 (.aload 6) 2 55 := ⟨by decide +kernel, rfl⟩
theorem d_X11_least_55 : gD cX11_least 55 (.aload 7) 2 57 := ⟨by decide +kernel, rfl⟩
theorem d_X11_least_57 : gD cX11_least 57 (.iload_n 3) 1 58 := ⟨by decide +kernel, rfl⟩
theorem d_X11_least_58 : gD cX11_least 58 (.iload 4) 2 60 := ⟨by decide +kernel, rfl⟩
theorem d_X11_least_60 : gD cX11_least 60 (.invokevirtual 168) 3 63 := ⟨by decide +kernel, rfl⟩
theorem d_X11_least_63 : gD cX11_least 63 (.istore 8) 2 65 := ⟨by decide +kernel, rfl⟩
theorem d_X11_least_65 : gD cX11_least 65 (.iload 5) 2 67 := ⟨by decide +kernel, rfl⟩
theorem d_X11_least_67 : gD cX11_least 67 (.ifCond .ne 9) 3 70 ∧ ((67 : Nat) : Int) + 9 = ((76 : Nat) : Int) := ⟨⟨by decide +kernel, rfl⟩, by decide⟩
theorem d_X11_least_70 : gD cX11_least 70 (.iload 8) 2 72 := ⟨by decide +kernel, rfl⟩
theorem d_X11_least_72 : gD cX11_least 72 (.iconst (-1)) 1 73 := ⟨by decide +kernel, rfl⟩
theorem d_X11_least_73 : gD cX11_least 73 (.if_icmp .ne 8) 3 76 ∧ ((73 : Nat) : Int) + 8 = ((81 : Nat) : Int) := ⟨⟨by decide +kernel, rfl⟩, by decide⟩
theorem d_X11_least_76 : gD cX11_least 76 (.iload 8) 2 78 := ⟨by decide +kernel, rfl⟩
theorem d_X11_least_78 : decode cX11_least 78 = .ok (.goto 12, 3) ∧ ((78 : Nat) : Int) + 12 = ((90 : Nat) : Int) := ⟨by decide +kernel, by decide⟩
theorem d_X11_least_81 : gD cX11_least 81 (.aload_n 0) 1 82 := ⟨by decide +kernel, rfl⟩
theorem d_X11_least_82 : gD cX11_least 82 (.getfield 41) 3 85 := ⟨by decide +kernel, rfl⟩
theorem d_X11_least_85 : gD cX11_least 85 (.iload 8) 2 87 := ⟨by decide +kernel, rfl⟩
theorem d_X11_least_87 : gD cX11_least 87 (.invokevirtual 171) 3 90 := ⟨by decide +kernel, rfl⟩
theorem d_X11_least_90 : gD cX11_least 90 (.ireturn) 1 91 := ⟨by decide +kernel, rfl⟩
abbrev rm_X11_least : Room := { frames := 5, cells := 0, slots := 0, locals := 125 }
set_option maxRecDepth 20000 in
theorem w_X11_least_76 {Γ : GC} {E : GE} (hO : gOk Γ E cX11_least RX11 9 rm_X11_least (some .int) "least") (o : Nat) (x8 : Int32) (S : GS) : Go Γ E (gBsI Γ E) 9 (0, 0) 76 S [(0, vA (some o)), (8, vI x8)] [] (f_X11_least_76 o x8 S) := by
  unfold f_X11_least_76
  refine g_iload hO d_X11_least_76 1 rfl ?_
  refine g_goto (tgt := 90) hO d_X11_least_78.1 d_X11_least_78.2 ?_
  exact g_ret hO rfl rfl ⟨Nat.le_of_ble_eq_true rfl, Nat.le_of_ble_eq_true rfl⟩ rfl rfl d_X11_least_90.1
set_option maxRecDepth 20000 in
theorem w_X11_least {Γ : GC} {E : GE} (hO : gOk Γ E cX11_least RX11 9 rm_X11_least (some .int) "least") (o : Nat) (x1 : Int32) (x2 : Int32) (x3 : Int32) (x4 : Int32) (x5 : Int32) (S : GS) : Go Γ E (gBsI Γ E) 9 (0, 0) 0 S [(0, vA (some o)), (1, vI x1), (2, vI x2), (3, vI x3), (4, vI x4), (5, vI x5)] [] (f_X11_least o x1 x2 x3 x4 x5 S) := by
  unfold f_X11_least
  refine g_aload_n hO d_X11_least_0 (by rfl) 0 rfl ?_
  refine h_getR hO cl_X11 0 rfl wf_X11_10 d_X11_least_1 (fun v1 => ?_)
  refine g_iload_n hO d_X11_least_4 (by rfl) 1 rfl ?_
  refine k_virtAp hO cl_X9 mm_X9_courtAt lkV_X11_105 ⟨⟨Nat.le_of_ble_eq_true rfl, Nat.le_of_ble_eq_true rfl⟩, Nat.le_of_ble_eq_true rfl, Nat.le_of_ble_eq_true rfl⟩ (kn' := (0, 0)) rfl (As := [vI x1]) rfl (Nat.le_of_ble_eq_true rfl) (fun o' _ => t_X9_courtAt Γ.2.1 E o' x1 S) d_X11_least_5 rfl (fun v2 => ?_)
  refine g_astore (lv' := [(6, vA v2), (0, vA (some o)), (1, vI x1), (2, vI x2), (3, vI x3), (4, vI x4), (5, vI x5)]) hO d_X11_least_8 (by decide) rfl ?_
  refine g_aload_n hO d_X11_least_10 (by rfl) 1 rfl ?_
  refine h_getR hO cl_X11 0 rfl wf_X11_10 d_X11_least_11 (fun v4 => ?_)
  refine g_iconst hO 2 d_X11_least_14 (by decide) ?_
  refine g_iload_n hO d_X11_least_15 (by rfl) 3 rfl ?_
  refine k_virtAp hO cl_X9 mm_X9_rowsAt lkV_X11_135 ⟨⟨Nat.le_of_ble_eq_true rfl, Nat.le_of_ble_eq_true rfl⟩, Nat.le_of_ble_eq_true rfl, Nat.le_of_ble_eq_true rfl⟩ (kn' := (0, 0)) rfl (As := [vI 2, vI x2]) rfl (Nat.le_of_ble_eq_true rfl) (fun o' _ => t_X9_rowsAt Γ.2.1 E o' 2 x2 S) d_X11_least_16 rfl (fun v5 => ?_)
  refine g_astore (lv' := [(7, vA v5), (6, vA v2), (0, vA (some o)), (1, vI x1), (2, vI x2), (3, vI x3), (4, vI x4), (5, vI x5)]) hO d_X11_least_19 (by decide) rfl ?_
  refine g_aload hO d_X11_least_21 1 rfl ?_
  refine g_ifnull (tgt := 47) hO d_X11_least_23.1 d_X11_least_23.2 ?_ ?_
  · skip
    refine g_iconst hO (-1) d_X11_least_47 (by decide) ?_
    exact g_ret hO rfl rfl ⟨Nat.le_of_ble_eq_true rfl, Nat.le_of_ble_eq_true rfl⟩ rfl rfl d_X11_least_48.1
  · skip
    refine g_aload hO d_X11_least_26 0 rfl ?_
    refine g_ifnull (tgt := 47) hO d_X11_least_28.1 d_X11_least_28.2 ?_ ?_
    · skip
      refine g_iconst hO (-1) d_X11_least_47 (by decide) ?_
      exact g_ret hO rfl rfl ⟨Nat.le_of_ble_eq_true rfl, Nat.le_of_ble_eq_true rfl⟩ rfl rfl d_X11_least_48.1
    · skip
      refine g_iload_n hO d_X11_least_31 (by rfl) 5 rfl ?_
      refine g_if_lt (tgt := 47) hO d_X11_least_32.1 d_X11_least_32.2 (fun _ => ?_) (fun _ => ?_)
      · skip
        refine g_iconst hO (-1) d_X11_least_47 (by decide) ?_
        exact g_ret hO rfl rfl ⟨Nat.le_of_ble_eq_true rfl, Nat.le_of_ble_eq_true rfl⟩ rfl rfl d_X11_least_48.1
      · skip
        refine g_iload_n hO d_X11_least_35 (by rfl) 5 rfl ?_
        refine g_aload hO d_X11_least_36 1 rfl ?_
        refine h_getR hO cl_X0 1 rfl wf_X11_115 d_X11_least_38 (fun v7 => ?_)
        refine h_getI hO cl_X7 3 rfl wf_X11_143 d_X11_least_41 (fun v8 => ?_)
        refine g_ic_le (tgt := 49) hO d_X11_least_44.1 d_X11_least_44.2 (fun _ => ?_) (fun _ => ?_)
        · skip
          refine g_aload_n hO d_X11_least_49 (by rfl) 2 rfl ?_
          refine h_getR hO cl_X11 5 rfl wf_X11_41 d_X11_least_50 (fun v9 => ?_)
          refine g_aload hO d_X11_least_53 1 rfl ?_
          refine g_aload hO d_X11_least_55 0 rfl ?_
          refine g_iload_n hO d_X11_least_57 (by rfl) 5 rfl ?_
          refine g_iload hO d_X11_least_58 6 rfl ?_
          refine k_virtIs hO cl_X3 mm_X3_leastOf lkV_X11_168 ⟨⟨Nat.le_of_ble_eq_true rfl, Nat.le_of_ble_eq_true rfl⟩, Nat.le_of_ble_eq_true rfl, Nat.le_of_ble_eq_true rfl⟩ (kn' := (0, 0)) rfl (As := [vA v2, vA v5, vI x3, vI x4]) rfl (Nat.le_of_ble_eq_true rfl) (fun o' _ => t_X3_leastOf Γ.2.1 E o' v2 v5 x3 x4 S) d_X11_least_60 rfl (fun v10 S11 => ?_)
          refine g_istore (lv' := [(8, vI v10), (7, vA v5), (6, vA v2), (0, vA (some o)), (1, vI x1), (2, vI x2), (3, vI x3), (4, vI x4), (5, vI x5)]) hO d_X11_least_63 (by decide) rfl ?_
          refine g_iload hO d_X11_least_65 8 rfl ?_
          refine g_if_ne (tgt := 76) hO d_X11_least_67.1 d_X11_least_67.2 (fun _ => ?_) (fun _ => ?_)
          · skip
            refine g_iload hO d_X11_least_70 0 rfl ?_
            refine g_iconst hO (-1) d_X11_least_72 (by decide) ?_
            refine g_ic_ne (tgt := 81) hO d_X11_least_73.1 d_X11_least_73.2 (fun _ => ?_) (fun _ => ?_)
            · skip
              exact g_sub [3, 0] rfl (w_X11_least_76 hO o _ _)
            · skip
              refine g_aload_n hO d_X11_least_81 (by rfl) 3 rfl ?_
              refine h_getR hO cl_X11 5 rfl wf_X11_41 d_X11_least_82 (fun v12 => ?_)
              refine g_iload hO d_X11_least_85 0 rfl ?_
              refine k_virtIp hO cl_X3 mm_X3_knotsOf lkV_X11_171 ⟨⟨Nat.le_of_ble_eq_true rfl, Nat.le_of_ble_eq_true rfl⟩, Nat.le_of_ble_eq_true rfl, Nat.le_of_ble_eq_true rfl⟩ (kn' := (0, 0)) rfl (As := [vI v10]) rfl (Nat.le_of_ble_eq_true rfl) (fun o' _ => t_X3_knotsOf Γ.2.1 E o' v10 S11) d_X11_least_87 rfl (fun v13 => ?_)
              exact g_ret hO rfl rfl ⟨Nat.le_of_ble_eq_true rfl, Nat.le_of_ble_eq_true rfl⟩ rfl rfl d_X11_least_90.1
          · skip
            exact g_sub [3, 0] rfl (w_X11_least_76 hO o _ _)
        · skip
          refine g_iconst hO (-1) d_X11_least_47 (by decide) ?_
          exact g_ret hO rfl rfl ⟨Nat.le_of_ble_eq_true rfl, Nat.le_of_ble_eq_true rfl⟩ rfl rfl d_X11_least_48.1
theorem t_X11_least (l : Launch) (E : GE) (o : Nat) (x1 : Int32) (x2 : Int32) (x3 : Int32) (x4 : Int32) (x5 : Int32) (S : GS) : ∀ a, f_X11_least o x1 x2 x3 x4 x5 S = some a → Ct l E yX11_least cX11_least 9 (some .int) rm_X11_least [vA (some o), vI x1, vI x2, vI x3, vI x4, vI x5] S (some (vI a.1)) a.2 :=
  Ct_of (val := fun (b : Int32 × GS) => some (vI b.1)) (nxt := fun (b : Int32 × GS) => b.2) (by decide) (Nat.le_of_ble_eq_true rfl) (fun Γ hl hO => w_X11_least hO o x1 x2 x3 x4 x5 S)
theorem d_X11_dance_0 : gD cX11_dance 0 (.aload_n 0) 1 1 := ⟨by decide +kernel, rfl⟩
theorem d_X11_dance_1 : gD cX11_dance 1 (.getfield 10) 3 4 := ⟨by decide +kernel, rfl⟩
theorem d_X11_dance_4 : gD cX11_dance 4 (.iconst 2) 1 5 := ⟨by decide +kernel, rfl⟩
theorem d_X11_dance_5 : gD cX11_dance 5 (.iload_n 1) 1 6 := ⟨by decide +kernel, rfl⟩
theorem d_X11_dance_6 : gD cX11_dance 6 (.invokevirtual 135) 3 9 := ⟨by decide +kernel, rfl⟩
theorem d_X11_dance_9 : gD cX11_dance 9 (.astore_n 3) 1 10 := ⟨by decide +kernel, rfl⟩
theorem d_X11_dance_10 : gD cX11_dance 10 (.aload_n 3) 1 11 := ⟨by decide +kernel, rfl⟩
theorem d_X11_dance_11 : gD cX11_dance 11 (.ifnonnull 5) 3 14 ∧ ((11 : Nat) : Int) + 5 = ((16 : Nat) : Int) := ⟨⟨by decide +kernel, rfl⟩, by decide⟩
theorem d_X11_dance_14 : gD cX11_dance 14 (.iconst (-1)) 1 15 := ⟨by decide +kernel, rfl⟩
theorem d_X11_dance_15 : gD cX11_dance 15 (.ireturn) 1 16 := ⟨by decide +kernel, rfl⟩
theorem d_X11_dance_16 : gD cX11_dance 16 (.iconst 0) 1 17 := ⟨by decide +kernel, rfl⟩
theorem d_X11_dance_17 : gD cX11_dance 17 (.istore 4) 2 19 := ⟨by decide +kernel, rfl⟩
theorem d_X11_dance_19 : gD cX11_dance 19 (.iload 4) 2 21 := ⟨by decide +kernel, rfl⟩
theorem d_X11_dance_21 : gD cX11_dance 21 (.aload_n 3) 1 22 := ⟨by decide +kernel, rfl⟩
theorem d_X11_dance_22 : gD cX11_dance 22 (.getfield 143) 3 25 := ⟨by decide +kernel, rfl⟩
theorem d_X11_dance_25 : gD cX11_dance 25 (.if_icmp .ge 23) 3 28 ∧ ((25 : Nat) : Int) + 23 = ((48 : Nat) : Int) := ⟨⟨by decide +kernel, rfl⟩, by decide⟩
theorem d_X11_dance_28 : gD cX11_dance 28 (.aload_n 3) 1 29 := ⟨by decide +kernel, rfl⟩
theorem d_X11_dance_29 : gD cX11_dance 29 (.iload 4) 2 31 := ⟨by decide +kernel, rfl⟩
theorem d_X11_dance_31 : gD cX11_dance 31 (.iconst 0) 1 32 := ⟨by decide +kernel, rfl⟩
theorem d_X11_dance_32 : gD cX11_dance 32 (.invokevirtual 119) 3 35 := ⟨by decide +kernel, rfl⟩
theorem d_X11_dance_35 : gD cX11_dance 35 (.iload_n 2) 1 36 := ⟨by decide +kernel, rfl⟩
theorem d_X11_dance_36 : gD cX11_dance 36 (.if_icmp .ne 6) 3 39 ∧ ((36 : Nat) : Int) + 6 = ((42 : Nat) : Int) := ⟨⟨by decide +kernel, rfl⟩, by decide⟩
theorem d_X11_dance_39 : gD cX11_dance 39 (.iload 4) 2 41 := ⟨by decide +kernel, rfl⟩
theorem d_X11_dance_41 : gD cX11_dance 41 (.ireturn) 1 42 := ⟨by decide +kernel, rfl⟩
theorem d_X11_dance_42 : gD cX11_dance 42 (.iinc 4 1) 3 45 := ⟨by decide +kernel, rfl⟩
theorem d_X11_dance_45 : decode cX11_dance 45 = .ok (.goto (-26), 3) ∧ ((45 : Nat) : Int) + (-26) = ((19 : Nat) : Int) := ⟨by decide +kernel, by decide⟩
theorem d_X11_dance_48 : gD cX11_dance 48 (.iconst (-1)) 1 49 := ⟨by decide +kernel, rfl⟩
theorem d_X11_dance_49 : gD cX11_dance 49 (.ireturn) 1 50 := ⟨by decide +kernel, rfl⟩
abbrev rm_X11_dance : Room := { frames := 2, cells := 0, slots := 0, locals := 44 }
set_option maxRecDepth 20000 in
theorem w_X11_dance_19 {Γ : GC} {E : GE} (hO : gOk Γ E cX11_dance RX11 5 rm_X11_dance (some .int) "dance") (o : Nat) (S : GS) : ∀ (n : Nat) (x2 : Int32) (x3 : Option Nat) (x4 : Int32), Go Γ E (gBpI Γ E S) 5 (0, 0) 19 S [(0, vA (some o)), (2, vI x2), (3, vA x3), (4, vI x4)] [] (f_X11_dance_19 o S n x2 x3 x4) := by
  intro n
  induction n with
  | zero =>
    intro x2 x3 x4
    exact g_none
  | succ n ih =>
    intro x2 x3 x4
    rw [f_X11_dance_19]
    refine g_iload hO d_X11_dance_19 3 rfl ?_
    refine g_aload_n hO d_X11_dance_21 (by rfl) 2 rfl ?_
    refine h_getI hO cl_X7 3 rfl wf_X11_143 d_X11_dance_22 (fun v1 => ?_)
    refine g_ic_ge (tgt := 48) hO d_X11_dance_25.1 d_X11_dance_25.2 (fun _ => ?_) (fun _ => ?_)
    · skip
      refine g_iconst hO (-1) d_X11_dance_48 (by decide) ?_
      exact g_ret hO rfl rfl ⟨Nat.le_of_ble_eq_true rfl, Nat.le_of_ble_eq_true rfl⟩ rfl rfl d_X11_dance_49.1
    · skip
      refine g_aload_n hO d_X11_dance_28 (by rfl) 2 rfl ?_
      refine g_iload hO d_X11_dance_29 3 rfl ?_
      refine g_iconst hO 0 d_X11_dance_31 (by decide) ?_
      refine k_virtIp hO cl_X7 mm_X7_cell lkV_X11_119 ⟨⟨Nat.le_of_ble_eq_true rfl, Nat.le_of_ble_eq_true rfl⟩, Nat.le_of_ble_eq_true rfl, Nat.le_of_ble_eq_true rfl⟩ (kn' := (0, 0)) rfl (As := [vI x4, vI 0]) rfl (Nat.le_of_ble_eq_true rfl) (fun o' _ => t_X7_cell Γ.2.1 E o' x4 0 S) d_X11_dance_32 rfl (fun v2 => ?_)
      refine g_iload_n hO d_X11_dance_35 (by rfl) 1 rfl ?_
      refine g_ic_ne (tgt := 42) hO d_X11_dance_36.1 d_X11_dance_36.2 (fun _ => ?_) (fun _ => ?_)
      · skip
        refine g_iload hO d_X11_dance_39 3 rfl ?_
        exact g_ret hO rfl rfl ⟨Nat.le_of_ble_eq_true rfl, Nat.le_of_ble_eq_true rfl⟩ rfl rfl d_X11_dance_41.1
      · skip
        refine g_iinc (lv' := [(4, vI (x4 + 1)), (0, vA (some o)), (2, vI x2), (3, vA x3)]) hO 1 d_X11_dance_42 (by decide) 3 rfl (by decide) rfl ?_
        refine g_goto (tgt := 19) hO d_X11_dance_45.1 d_X11_dance_45.2 ?_
        exact g_sub [1, 2, 3, 0] rfl (ih _ _ _)
set_option maxRecDepth 20000 in
theorem w_X11_dance {Γ : GC} {E : GE} (hO : gOk Γ E cX11_dance RX11 5 rm_X11_dance (some .int) "dance") (o : Nat) (x1 : Int32) (x2 : Int32) (S : GS) : Go Γ E (gBpI Γ E S) 5 (0, 0) 0 S [(0, vA (some o)), (1, vI x1), (2, vI x2)] [] (f_X11_dance o x1 x2 S) := by
  unfold f_X11_dance
  refine g_aload_n hO d_X11_dance_0 (by rfl) 0 rfl ?_
  refine h_getR hO cl_X11 0 rfl wf_X11_10 d_X11_dance_1 (fun v1 => ?_)
  refine g_iconst hO 2 d_X11_dance_4 (by decide) ?_
  refine g_iload_n hO d_X11_dance_5 (by rfl) 1 rfl ?_
  refine k_virtAp hO cl_X9 mm_X9_rowsAt lkV_X11_135 ⟨⟨Nat.le_of_ble_eq_true rfl, Nat.le_of_ble_eq_true rfl⟩, Nat.le_of_ble_eq_true rfl, Nat.le_of_ble_eq_true rfl⟩ (kn' := (0, 0)) rfl (As := [vI 2, vI x1]) rfl (Nat.le_of_ble_eq_true rfl) (fun o' _ => t_X9_rowsAt Γ.2.1 E o' 2 x1 S) d_X11_dance_6 rfl (fun v2 => ?_)
  refine g_astore_n (lv' := [(3, vA v2), (0, vA (some o)), (1, vI x1), (2, vI x2)]) hO d_X11_dance_9 (by rfl) (by decide) rfl ?_
  refine g_aload_n hO d_X11_dance_10 (by rfl) 0 rfl ?_
  refine g_ifnonnull (tgt := 16) hO d_X11_dance_11.1 d_X11_dance_11.2 ?_ ?_
  · skip
    refine g_iconst hO (-1) d_X11_dance_14 (by decide) ?_
    exact g_ret hO rfl rfl ⟨Nat.le_of_ble_eq_true rfl, Nat.le_of_ble_eq_true rfl⟩ rfl rfl d_X11_dance_15.1
  · skip
    refine g_iconst hO 0 d_X11_dance_16 (by decide) ?_
    refine g_istore (lv' := [(4, vI 0), (3, vA v2), (0, vA (some o)), (1, vI x1), (2, vI x2)]) hO d_X11_dance_17 (by decide) rfl ?_
    exact g_sub [2, 4, 1, 0] rfl (w_X11_dance_19 hO o _ _ _ _ _)
theorem t_X11_dance (l : Launch) (E : GE) (o : Nat) (x1 : Int32) (x2 : Int32) (S : GS) : ∀ a, f_X11_dance o x1 x2 S = some a → Ct l E yX11_dance cX11_dance 5 (some .int) rm_X11_dance [vA (some o), vI x1, vI x2] S (some (vI a)) S :=
  Ct_of (val := fun b => some (vI b)) (nxt := fun _ => S) (by decide) (Nat.le_of_ble_eq_true rfl) (fun Γ hl hO => w_X11_dance hO o x1 x2 S)
theorem d_X11_reach_0 : gD cX11_reach 0 (.aload_n 0) 1 1 := ⟨by decide +kernel, rfl⟩
theorem d_X11_reach_1 : gD cX11_reach 1 (.getfield 10) 3 4 := ⟨by decide +kernel, rfl⟩
theorem d_X11_reach_4 : gD cX11_reach 4 (.iload_n 1) 1 5 := ⟨by decide +kernel, rfl⟩
theorem d_X11_reach_5 : gD cX11_reach 5 (.invokevirtual 105) 3 8 := ⟨by decide +kernel, rfl⟩
theorem d_X11_reach_8 : gD cX11_reach 8 (.astore 6) 2 10 := ⟨by decide +kernel, rfl⟩
theorem d_X11_reach_10 : gD cX11_reach 10 (.aload 6) 2 12 := ⟨by decide +kernel, rfl⟩
theorem d_X11_reach_12 : gD cX11_reach 12 (.ifnull 20) 3 15 ∧ ((12 : Nat) : Int) + 20 = ((32 : Nat) : Int) := ⟨⟨by decide +kernel, rfl⟩, by decide⟩
theorem d_X11_reach_15 : gD cX11_reach 15 (.iload_n 2) 1 16 := ⟨by decide +kernel, rfl⟩
theorem d_X11_reach_16 : gD cX11_reach 16 (.invokestatic 174) 3 19 := ⟨by decide +kernel, rfl⟩
theorem d_X11_reach_19 : gD cX11_reach 19 (.ifCond .eq 13) 3 22 ∧ ((19 : Nat) : Int) + 13 = ((32 : Nat) : Int) := ⟨⟨by decide +kernel, rfl⟩, by decide⟩
theorem d_X11_reach_22 : gD cX11_reach 22 (.iload_n 3) 1 23 := ⟨by decide +kernel, rfl⟩
theorem d_X11_reach_23 : gD cX11_reach 23 (.ifCond .lt 9) 3 26 ∧ ((23 : Nat) : Int) + 9 = ((32 : Nat) : Int) := ⟨⟨by decide +kernel, rfl⟩, by decide⟩
theorem d_X11_reach_26 : gD cX11_reach 26 (.iload_n 3) 1 27 := ⟨by decide +kernel, rfl⟩
theorem d_X11_reach_27 : gD cX11_reach 27 (.bipush 9) 2 29 := ⟨by decide +kernel, rfl⟩
theorem d_X11_reach_29 : gD cX11_reach 29 (.if_icmp .le 7) 3 32 ∧ ((29 : Nat) : Int) + 7 = ((36 : Nat) : Int) := ⟨⟨by decide +kernel, rfl⟩, by decide⟩
theorem d_X11_reach_32 : gD cX11_reach 32 (.ldc2_w 177) 3 35 := ⟨by decide +kernel, rfl⟩
theorem d_X11_reach_35 : gD cX11_reach 35 (.lreturn) 1 36 := ⟨by decide +kernel, rfl⟩
theorem d_X11_reach_36 : gD cX11_reach 36 (.iload 4) 2 38 := ⟨by decide +kernel, rfl⟩
theorem d_X11_reach_38 : gD cX11_reach 38 (.ifCond .eq 17) 3 41 ∧ ((38 : Nat) : Int) + 17 = ((55 : Nat) : Int) := ⟨⟨by decide +kernel, rfl⟩, by decide⟩
theorem d_X11_reach_41 : gD cX11_reach 41 (.aload_n 0) 1 42 := ⟨by decide +kernel, rfl⟩
theorem d_X11_reach_42 : gD cX11_reach 42 (.getfield 48) 3 45 := ⟨by decide +kernel, rfl⟩
theorem d_X11_reach_45 : gD cX11_reach 45 (.aload 6) 2 47 := ⟨by decide +kernel, rfl⟩
theorem d_X11_reach_47 : gD cX11_reach 47 (.iload_n 2) 1 48 := ⟨by decide +kernel, rfl⟩
theorem d_X11_reach_48 : gD cX11_reach 48 (.iload_n 3) 1 49 := ⟨by decide +kernel, rfl⟩
theorem d_X11_reach_49 : gD cX11_reach 49 (.invokevirtual 179) 3 52 := ⟨by decide +kernel, rfl⟩
theorem d_X11_reach_52 : decode cX11_reach 52 = .ok (.goto 14, 3) ∧ ((52 : Nat) : Int) + 14 = ((66 : Nat) : Int) := ⟨by decide +kernel, by decide⟩
theorem d_X11_reach_55 : gD cX11_reach 55 (.aload_n 0) 1 56 := ⟨by decide +kernel, rfl⟩
theorem d_X11_reach_56 : gD cX11_reach 56 (.getfield 48) 3 59 := ⟨by decide +kernel, rfl⟩
theorem d_X11_reach_59 : gD cX11_reach 59 (.aload 6) 2 61 := ⟨by decide +kernel, rfl⟩
theorem d_X11_reach_61 : gD cX11_reach 61 (.iload_n 2) 1 62 := ⟨by decide +kernel, rfl⟩
theorem d_X11_reach_62 : gD cX11_reach 62 (.iload_n 3) 1 63 := ⟨by decide +kernel, rfl⟩
theorem d_X11_reach_63 : gD cX11_reach 63 (.invokevirtual 183) 3 66 := ⟨by decide +kernel, rfl⟩
theorem d_X11_reach_66 : gD cX11_reach 66 (.iload 5) 2 68 := ⟨by decide +kernel, rfl⟩
theorem d_X11_reach_68 : gD cX11_reach 68 (.ifCond .eq 13) 3 71 ∧ ((68 : Nat) : Int) + 13 = ((81 : Nat) : Int) := ⟨⟨by decide +kernel, rfl⟩, by decide⟩
theorem d_X11_reach_71 : gD cX11_reach 71 (.aload_n 0) 1 72 := ⟨by decide +kernel, rfl⟩
theorem d_X11_reach_72 : gD cX11_reach 72 (.getfield 48) 3 75 := ⟨by decide +kernel, rfl⟩
theorem d_X11_reach_75 : gD cX11_reach 75 (.getfield 186) 3 78 := ⟨by decide +kernel, rfl⟩
theorem d_X11_reach_78 : decode cX11_reach 78 = .ok (.goto 10, 3) ∧ ((78 : Nat) : Int) + 10 = ((88 : Nat) : Int) := ⟨by decide +kernel, by decide⟩
theorem d_X11_reach_81 : gD cX11_reach 81 (.aload_n 0) 1 82 := ⟨by decide +kernel, rfl⟩
theorem d_X11_reach_82 : gD cX11_reach 82 (.getfield 48) 3 85 := ⟨by decide +kernel, rfl⟩
theorem d_X11_reach_85 : gD cX11_reach 85 (.getfield 190) 3 88 := ⟨by decide +kernel, rfl⟩
theorem d_X11_reach_88 : gD cX11_reach 88 (.lreturn) 1 89 := ⟨by decide +kernel, rfl⟩
abbrev rm_X11_reach : Room := { frames := 4, cells := 0, slots := 0, locals := 105 }
set_option maxRecDepth 20000 in
theorem w_X11_reach_66 {Γ : GC} {E : GE} (hO : gOk Γ E cX11_reach RX11 7 rm_X11_reach (some .long) "reach") (o : Nat) (x5 : Int32) (S : GS) : Go Γ E (gBsJ Γ E) 7 (0, 0) 66 S [(0, vA (some o)), (5, vI x5)] [] (f_X11_reach_66 o x5 S) := by
  unfold f_X11_reach_66
  refine g_iload hO d_X11_reach_66 1 rfl ?_
  refine g_if_eq (tgt := 81) hO d_X11_reach_68.1 d_X11_reach_68.2 (fun _ => ?_) (fun _ => ?_)
  · skip
    refine g_aload_n hO d_X11_reach_81 (by rfl) 0 rfl ?_
    refine h_getR hO cl_X11 6 rfl wf_X11_48 d_X11_reach_82 (fun v1 => ?_)
    refine h_getJ hO cl_X4 2 rfl wf_X11_190 d_X11_reach_85 (fun v2 => ?_)
    exact g_lret hO rfl ⟨Nat.le_of_ble_eq_true rfl, Nat.le_of_ble_eq_true rfl⟩ rfl rfl d_X11_reach_88.1
  · skip
    refine g_aload_n hO d_X11_reach_71 (by rfl) 0 rfl ?_
    refine h_getR hO cl_X11 6 rfl wf_X11_48 d_X11_reach_72 (fun v3 => ?_)
    refine h_getJ hO cl_X4 3 rfl wf_X11_186 d_X11_reach_75 (fun v4 => ?_)
    refine g_goto (tgt := 88) hO d_X11_reach_78.1 d_X11_reach_78.2 ?_
    exact g_lret hO rfl ⟨Nat.le_of_ble_eq_true rfl, Nat.le_of_ble_eq_true rfl⟩ rfl rfl d_X11_reach_88.1
set_option maxRecDepth 20000 in
theorem w_X11_reach {Γ : GC} {E : GE} (hO : gOk Γ E cX11_reach RX11 7 rm_X11_reach (some .long) "reach") (o : Nat) (x1 : Int32) (x2 : Int32) (x3 : Int32) (x4 : Int32) (x5 : Int32) (S : GS) : Go Γ E (gBsJ Γ E) 7 (0, 0) 0 S [(0, vA (some o)), (1, vI x1), (2, vI x2), (3, vI x3), (4, vI x4), (5, vI x5)] [] (f_X11_reach o x1 x2 x3 x4 x5 S) := by
  unfold f_X11_reach
  refine g_aload_n hO d_X11_reach_0 (by rfl) 0 rfl ?_
  refine h_getR hO cl_X11 0 rfl wf_X11_10 d_X11_reach_1 (fun v1 => ?_)
  refine g_iload_n hO d_X11_reach_4 (by rfl) 1 rfl ?_
  refine k_virtAp hO cl_X9 mm_X9_courtAt lkV_X11_105 ⟨⟨Nat.le_of_ble_eq_true rfl, Nat.le_of_ble_eq_true rfl⟩, Nat.le_of_ble_eq_true rfl, Nat.le_of_ble_eq_true rfl⟩ (kn' := (0, 0)) rfl (As := [vI x1]) rfl (Nat.le_of_ble_eq_true rfl) (fun o' _ => t_X9_courtAt Γ.2.1 E o' x1 S) d_X11_reach_5 rfl (fun v2 => ?_)
  refine g_astore (lv' := [(6, vA v2), (0, vA (some o)), (1, vI x1), (2, vI x2), (3, vI x3), (4, vI x4), (5, vI x5)]) hO d_X11_reach_8 (by decide) rfl ?_
  refine g_aload hO d_X11_reach_10 0 rfl ?_
  refine g_ifnull (tgt := 32) hO d_X11_reach_12.1 d_X11_reach_12.2 ?_ ?_
  · skip
    refine g_ldc2 hO (-1) d_X11_reach_32 wk_X11_177 ?_
    exact g_lret hO rfl ⟨Nat.le_of_ble_eq_true rfl, Nat.le_of_ble_eq_true rfl⟩ rfl rfl d_X11_reach_35.1
  · skip
    refine g_iload_n hO d_X11_reach_15 (by rfl) 3 rfl ?_
    refine k_statIp hO mm_X11_isMark lkS_X11_174 ⟨⟨Nat.le_of_ble_eq_true rfl, Nat.le_of_ble_eq_true rfl⟩, Nat.le_of_ble_eq_true rfl, Nat.le_of_ble_eq_true rfl⟩ (kn' := (0, 0)) rfl (As := [vI x2]) rfl (Nat.le_of_ble_eq_true rfl) (t_X11_isMark Γ.2.1 E x2 S) d_X11_reach_16 rfl (fun v4 => ?_)
    refine g_if_eq (tgt := 32) hO d_X11_reach_19.1 d_X11_reach_19.2 (fun _ => ?_) (fun _ => ?_)
    · skip
      refine g_ldc2 hO (-1) d_X11_reach_32 wk_X11_177 ?_
      exact g_lret hO rfl ⟨Nat.le_of_ble_eq_true rfl, Nat.le_of_ble_eq_true rfl⟩ rfl rfl d_X11_reach_35.1
    · skip
      refine g_iload_n hO d_X11_reach_22 (by rfl) 4 rfl ?_
      refine g_if_lt (tgt := 32) hO d_X11_reach_23.1 d_X11_reach_23.2 (fun _ => ?_) (fun _ => ?_)
      · skip
        refine g_ldc2 hO (-1) d_X11_reach_32 wk_X11_177 ?_
        exact g_lret hO rfl ⟨Nat.le_of_ble_eq_true rfl, Nat.le_of_ble_eq_true rfl⟩ rfl rfl d_X11_reach_35.1
      · skip
        refine g_iload_n hO d_X11_reach_26 (by rfl) 4 rfl ?_
        refine g_bipush hO 9 d_X11_reach_27 (by decide) ?_
        refine g_ic_le (tgt := 36) hO d_X11_reach_29.1 d_X11_reach_29.2 (fun _ => ?_) (fun _ => ?_)
        · skip
          refine g_iload hO d_X11_reach_36 5 rfl ?_
          refine g_if_eq (tgt := 55) hO d_X11_reach_38.1 d_X11_reach_38.2 (fun _ => ?_) (fun _ => ?_)
          · skip
            refine g_aload_n hO d_X11_reach_55 (by rfl) 1 rfl ?_
            refine h_getR hO cl_X11 6 rfl wf_X11_48 d_X11_reach_56 (fun v6 => ?_)
            refine g_aload hO d_X11_reach_59 0 rfl ?_
            refine g_iload_n hO d_X11_reach_61 (by rfl) 3 rfl ?_
            refine g_iload_n hO d_X11_reach_62 (by rfl) 4 rfl ?_
            refine k_virtVs hO cl_X4 mm_X4_thenAt lkV_X11_183 ⟨⟨Nat.le_of_ble_eq_true rfl, Nat.le_of_ble_eq_true rfl⟩, Nat.le_of_ble_eq_true rfl, Nat.le_of_ble_eq_true rfl⟩ (kn' := (0, 0)) rfl (As := [vA v2, vI x2, vI x3]) rfl (Nat.le_of_ble_eq_true rfl) (fun o' _ => t_X4_thenAt Γ.2.1 E o' v2 x2 x3 S) d_X11_reach_63 rfl (fun S8 => ?_)
            exact g_sub [1, 6] rfl (w_X11_reach_66 hO o _ _)
          · skip
            refine g_aload_n hO d_X11_reach_41 (by rfl) 1 rfl ?_
            refine h_getR hO cl_X11 6 rfl wf_X11_48 d_X11_reach_42 (fun v9 => ?_)
            refine g_aload hO d_X11_reach_45 0 rfl ?_
            refine g_iload_n hO d_X11_reach_47 (by rfl) 3 rfl ?_
            refine g_iload_n hO d_X11_reach_48 (by rfl) 4 rfl ?_
            refine k_virtVs hO cl_X4 mm_X4_everAt lkV_X11_179 ⟨⟨Nat.le_of_ble_eq_true rfl, Nat.le_of_ble_eq_true rfl⟩, Nat.le_of_ble_eq_true rfl, Nat.le_of_ble_eq_true rfl⟩ (kn' := (0, 0)) rfl (As := [vA v2, vI x2, vI x3]) rfl (Nat.le_of_ble_eq_true rfl) (fun o' _ => t_X4_everAt Γ.2.1 E o' v2 x2 x3 S) d_X11_reach_49 rfl (fun S11 => ?_)
            refine g_goto (tgt := 66) hO d_X11_reach_52.1 d_X11_reach_52.2 ?_
            exact g_sub [1, 6] rfl (w_X11_reach_66 hO o _ _)
        · skip
          refine g_ldc2 hO (-1) d_X11_reach_32 wk_X11_177 ?_
          exact g_lret hO rfl ⟨Nat.le_of_ble_eq_true rfl, Nat.le_of_ble_eq_true rfl⟩ rfl rfl d_X11_reach_35.1
theorem t_X11_reach (l : Launch) (E : GE) (o : Nat) (x1 : Int32) (x2 : Int32) (x3 : Int32) (x4 : Int32) (x5 : Int32) (S : GS) : ∀ a, f_X11_reach o x1 x2 x3 x4 x5 S = some a → Ct l E yX11_reach cX11_reach 7 (some .long) rm_X11_reach [vA (some o), vI x1, vI x2, vI x3, vI x4, vI x5] S (some (vJ a.1)) a.2 :=
  Ct_of (val := fun (b : Int64 × GS) => some (vJ b.1)) (nxt := fun (b : Int64 × GS) => b.2) (by decide) (Nat.le_of_ble_eq_true rfl) (fun Γ hl hO => w_X11_reach hO o x1 x2 x3 x4 x5 S)
theorem d_X11_drop_0 : gD cX11_drop 0 (.aload_n 0) 1 1 := ⟨by decide +kernel, rfl⟩
theorem d_X11_drop_1 : gD cX11_drop 1 (.getfield 10) 3 4 := ⟨by decide +kernel, rfl⟩
theorem d_X11_drop_4 : gD cX11_drop 4 (.iload_n 1) 1 5 := ⟨by decide +kernel, rfl⟩
theorem d_X11_drop_5 : gD cX11_drop 5 (.invokevirtual 105) 3 8 := ⟨by decide +kernel, rfl⟩
theorem d_X11_drop_8 : gD cX11_drop 8 (.astore 5) 2 10 := ⟨by decide +kernel, rfl⟩
theorem d_X11_drop_10 : gD cX11_drop 10 (.aload 5) 2 12 := ⟨by decide +kernel, rfl⟩
theorem d_X11_drop_12 : gD cX11_drop 12 (.ifnull 25) 3 15 ∧ ((12 : Nat) : Int) + 25 = ((37 : Nat) : Int) := ⟨⟨by decide +kernel, rfl⟩, by decide⟩
theorem d_X11_drop_15 : gD cX11_drop 15 (.aload 5) 2 17 := ⟨by decide +kernel, rfl⟩
theorem d_X11_drop_17 : gD cX11_drop 17 (.getfield 115) 3 20 := ⟨by decide +kernel, rfl⟩
theorem d_X11_drop_20 : gD cX11_drop 20 (.iload_n 2) 1 21 := ⟨by decide +kernel, rfl⟩
theorem d_X11_drop_21 : gD cX11_drop 21 (.invokevirtual 124) 3 24 := ⟨by decide +kernel, rfl⟩
theorem d_X11_drop_24 : gD cX11_drop 24 (.ifCond .eq 13) 3 27 ∧ ((24 : Nat) : Int) + 13 = ((37 : Nat) : Int) := ⟨⟨by decide +kernel, rfl⟩, by decide⟩
theorem d_X11_drop_27 : gD cX11_drop 27 (.iload_n 3) 1 28 := ⟨by decide +kernel, rfl⟩
theorem d_X11_drop_28 : gD cX11_drop 28 (.ifCond .lt 9) 3 31 ∧ ((28 : Nat) : Int) + 9 = ((37 : Nat) : Int) := ⟨⟨by decide +kernel, rfl⟩, by decide⟩
theorem d_X11_drop_31 : gD cX11_drop 31 (.iload_n 3) 1 32 := ⟨by decide +kernel, rfl⟩
theorem d_X11_drop_32 : gD cX11_drop 32 (.bipush 9) 2 34 := ⟨by decide +kernel, rfl⟩
theorem d_X11_drop_34 : gD cX11_drop 34 (.if_icmp .le 7) 3 37 ∧ ((34 : Nat) : Int) + 7 = ((41 : Nat) : Int) := ⟨⟨by decide +kernel, rfl⟩, by decide⟩
theorem d_X11_drop_37 : gD cX11_drop 37 (.ldc2_w 177) 3 40 := ⟨by decide +kernel, rfl⟩
theorem d_X11_drop_40 : gD cX11_drop 40 (.lreturn) 1 41 := ⟨by decide +kernel, rfl⟩
theorem d_X11_drop_41 : gD cX11_drop 41 (.aload_n 0) 1 42 := ⟨by decide +kernel, rfl⟩
theorem d_X11_drop_42 : gD cX11_drop 42 (.getfield 48) 3 45 := ⟨by decide +kernel, rfl⟩
theorem d_X11_drop_45 : gD cX11_drop 45 (.aload 5) 2 47 := ⟨by decide +kernel, rfl⟩
theorem d_X11_drop_47 : gD cX11_drop 47 (.iload_n 2) 1 48 := ⟨by decide +kernel, rfl⟩
theorem d_X11_drop_48 : gD cX11_drop 48 (.iload_n 3) 1 49 := ⟨by decide +kernel, rfl⟩
theorem d_X11_drop_49 : gD cX11_drop 49 (.invokevirtual 193) 3 52 := ⟨by decide +kernel, rfl⟩
theorem d_X11_drop_52 : gD cX11_drop 52 (.iload 4) 2 54 := ⟨by decide +kernel, rfl⟩
theorem d_X11_drop_54 : gD cX11_drop 54 (.ifCond .eq 13) 3 57 ∧ ((54 : Nat) : Int) + 13 = ((67 : Nat) : Int) := ⟨⟨by decide +kernel, rfl⟩, by decide⟩
theorem d_X11_drop_57 : gD cX11_drop 57 (.aload_n 0) 1 58 := ⟨by decide +kernel, rfl⟩
theorem d_X11_drop_58 : gD cX11_drop 58 (.getfield 48) 3 61 := ⟨by decide +kernel, rfl⟩
theorem d_X11_drop_61 : gD cX11_drop 61 (.getfield 186) 3 64 := ⟨by decide +kernel, rfl⟩
theorem d_X11_drop_64 : decode cX11_drop 64 = .ok (.goto 10, 3) ∧ ((64 : Nat) : Int) + 10 = ((74 : Nat) : Int) := ⟨by decide +kernel, by decide⟩
theorem d_X11_drop_67 : gD cX11_drop 67 (.aload_n 0) 1 68 := ⟨by decide +kernel, rfl⟩
theorem d_X11_drop_68 : gD cX11_drop 68 (.getfield 48) 3 71 := ⟨by decide +kernel, rfl⟩
theorem d_X11_drop_71 : gD cX11_drop 71 (.getfield 190) 3 74 := ⟨by decide +kernel, rfl⟩
theorem d_X11_drop_74 : gD cX11_drop 74 (.lreturn) 1 75 := ⟨by decide +kernel, rfl⟩
abbrev rm_X11_drop : Room := { frames := 4, cells := 0, slots := 0, locals := 107 }
set_option maxRecDepth 20000 in
theorem w_X11_drop {Γ : GC} {E : GE} (hO : gOk Γ E cX11_drop RX11 6 rm_X11_drop (some .long) "drop") (o : Nat) (x1 : Int32) (x2 : Int32) (x3 : Int32) (x4 : Int32) (S : GS) : Go Γ E (gBsJ Γ E) 6 (0, 0) 0 S [(0, vA (some o)), (1, vI x1), (2, vI x2), (3, vI x3), (4, vI x4)] [] (f_X11_drop o x1 x2 x3 x4 S) := by
  unfold f_X11_drop
  refine g_aload_n hO d_X11_drop_0 (by rfl) 0 rfl ?_
  refine h_getR hO cl_X11 0 rfl wf_X11_10 d_X11_drop_1 (fun v1 => ?_)
  refine g_iload_n hO d_X11_drop_4 (by rfl) 1 rfl ?_
  refine k_virtAp hO cl_X9 mm_X9_courtAt lkV_X11_105 ⟨⟨Nat.le_of_ble_eq_true rfl, Nat.le_of_ble_eq_true rfl⟩, Nat.le_of_ble_eq_true rfl, Nat.le_of_ble_eq_true rfl⟩ (kn' := (0, 0)) rfl (As := [vI x1]) rfl (Nat.le_of_ble_eq_true rfl) (fun o' _ => t_X9_courtAt Γ.2.1 E o' x1 S) d_X11_drop_5 rfl (fun v2 => ?_)
  refine g_astore (lv' := [(5, vA v2), (0, vA (some o)), (1, vI x1), (2, vI x2), (3, vI x3), (4, vI x4)]) hO d_X11_drop_8 (by decide) rfl ?_
  refine g_aload hO d_X11_drop_10 0 rfl ?_
  refine g_ifnull (tgt := 37) hO d_X11_drop_12.1 d_X11_drop_12.2 ?_ ?_
  · skip
    refine g_ldc2 hO (-1) d_X11_drop_37 wk_X11_177 ?_
    exact g_lret hO rfl ⟨Nat.le_of_ble_eq_true rfl, Nat.le_of_ble_eq_true rfl⟩ rfl rfl d_X11_drop_40.1
  · skip
    refine g_aload hO d_X11_drop_15 0 rfl ?_
    refine h_getR hO cl_X0 1 rfl wf_X11_115 d_X11_drop_17 (fun v4 => ?_)
    refine g_iload_n hO d_X11_drop_20 (by rfl) 3 rfl ?_
    refine k_virtIp hO cl_X7 mm_X7_has lkV_X11_124 ⟨⟨Nat.le_of_ble_eq_true rfl, Nat.le_of_ble_eq_true rfl⟩, Nat.le_of_ble_eq_true rfl, Nat.le_of_ble_eq_true rfl⟩ (kn' := (0, 0)) rfl (As := [vI x2]) rfl (Nat.le_of_ble_eq_true rfl) (fun o' _ => t_X7_has Γ.2.1 E o' x2 S) d_X11_drop_21 rfl (fun v5 => ?_)
    refine g_if_eq (tgt := 37) hO d_X11_drop_24.1 d_X11_drop_24.2 (fun _ => ?_) (fun _ => ?_)
    · skip
      refine g_ldc2 hO (-1) d_X11_drop_37 wk_X11_177 ?_
      exact g_lret hO rfl ⟨Nat.le_of_ble_eq_true rfl, Nat.le_of_ble_eq_true rfl⟩ rfl rfl d_X11_drop_40.1
    · skip
      refine g_iload_n hO d_X11_drop_27 (by rfl) 4 rfl ?_
      refine g_if_lt (tgt := 37) hO d_X11_drop_28.1 d_X11_drop_28.2 (fun _ => ?_) (fun _ => ?_)
      · skip
        refine g_ldc2 hO (-1) d_X11_drop_37 wk_X11_177 ?_
        exact g_lret hO rfl ⟨Nat.le_of_ble_eq_true rfl, Nat.le_of_ble_eq_true rfl⟩ rfl rfl d_X11_drop_40.1
      · skip
        refine g_iload_n hO d_X11_drop_31 (by rfl) 4 rfl ?_
        refine g_bipush hO 9 d_X11_drop_32 (by decide) ?_
        refine g_ic_le (tgt := 41) hO d_X11_drop_34.1 d_X11_drop_34.2 (fun _ => ?_) (fun _ => ?_)
        · skip
          refine g_aload_n hO d_X11_drop_41 (by rfl) 1 rfl ?_
          refine h_getR hO cl_X11 6 rfl wf_X11_48 d_X11_drop_42 (fun v7 => ?_)
          refine g_aload hO d_X11_drop_45 0 rfl ?_
          refine g_iload_n hO d_X11_drop_47 (by rfl) 3 rfl ?_
          refine g_iload_n hO d_X11_drop_48 (by rfl) 4 rfl ?_
          refine k_virtVs hO cl_X4 mm_X4_everFallen lkV_X11_193 ⟨⟨Nat.le_of_ble_eq_true rfl, Nat.le_of_ble_eq_true rfl⟩, Nat.le_of_ble_eq_true rfl, Nat.le_of_ble_eq_true rfl⟩ (kn' := (0, 0)) rfl (As := [vA v2, vI x2, vI x3]) rfl (Nat.le_of_ble_eq_true rfl) (fun o' _ => t_X4_everFallen Γ.2.1 E o' v2 x2 x3 S) d_X11_drop_49 rfl (fun S9 => ?_)
          refine g_iload hO d_X11_drop_52 5 rfl ?_
          refine g_if_eq (tgt := 67) hO d_X11_drop_54.1 d_X11_drop_54.2 (fun _ => ?_) (fun _ => ?_)
          · skip
            refine g_aload_n hO d_X11_drop_67 (by rfl) 1 rfl ?_
            refine h_getR hO cl_X11 6 rfl wf_X11_48 d_X11_drop_68 (fun v10 => ?_)
            refine h_getJ hO cl_X4 2 rfl wf_X11_190 d_X11_drop_71 (fun v11 => ?_)
            exact g_lret hO rfl ⟨Nat.le_of_ble_eq_true rfl, Nat.le_of_ble_eq_true rfl⟩ rfl rfl d_X11_drop_74.1
          · skip
            refine g_aload_n hO d_X11_drop_57 (by rfl) 1 rfl ?_
            refine h_getR hO cl_X11 6 rfl wf_X11_48 d_X11_drop_58 (fun v12 => ?_)
            refine h_getJ hO cl_X4 3 rfl wf_X11_186 d_X11_drop_61 (fun v13 => ?_)
            refine g_goto (tgt := 74) hO d_X11_drop_64.1 d_X11_drop_64.2 ?_
            exact g_lret hO rfl ⟨Nat.le_of_ble_eq_true rfl, Nat.le_of_ble_eq_true rfl⟩ rfl rfl d_X11_drop_74.1
        · skip
          refine g_ldc2 hO (-1) d_X11_drop_37 wk_X11_177 ?_
          exact g_lret hO rfl ⟨Nat.le_of_ble_eq_true rfl, Nat.le_of_ble_eq_true rfl⟩ rfl rfl d_X11_drop_40.1
theorem t_X11_drop (l : Launch) (E : GE) (o : Nat) (x1 : Int32) (x2 : Int32) (x3 : Int32) (x4 : Int32) (S : GS) : ∀ a, f_X11_drop o x1 x2 x3 x4 S = some a → Ct l E yX11_drop cX11_drop 6 (some .long) rm_X11_drop [vA (some o), vI x1, vI x2, vI x3, vI x4] S (some (vJ a.1)) a.2 :=
  Ct_of (val := fun (b : Int64 × GS) => some (vJ b.1)) (nxt := fun (b : Int64 × GS) => b.2) (by decide) (Nat.le_of_ble_eq_true rfl) (fun Γ hl hO => w_X11_drop hO o x1 x2 x3 x4 S)
theorem d_X11_worth_0 : gD cX11_worth 0 (.aload_n 0) 1 1 := ⟨by decide +kernel, rfl⟩
theorem d_X11_worth_1 : gD cX11_worth 1 (.getfield 10) 3 4 := ⟨by decide +kernel, rfl⟩
theorem d_X11_worth_4 : gD cX11_worth 4 (.iload_n 1) 1 5 := ⟨by decide +kernel, rfl⟩
theorem d_X11_worth_5 : gD cX11_worth 5 (.invokevirtual 105) 3 8 := ⟨by decide +kernel, rfl⟩
theorem d_X11_worth_8 : gD cX11_worth 8 (.astore 5) 2 10 := ⟨by decide +kernel, rfl⟩
theorem d_X11_worth_10 : gD cX11_worth 10 (.aload 5) 2 12 := ⟨by decide +kernel, rfl⟩
theorem d_X11_worth_12 : gD cX11_worth 12 (.ifnull 25) 3 15 ∧ ((12 : Nat) : Int) + 25 = ((37 : Nat) : Int) := ⟨⟨by decide +kernel, rfl⟩, by decide⟩
theorem d_X11_worth_15 : gD cX11_worth 15 (.aload 5) 2 17 := ⟨by decide +kernel, rfl⟩
theorem d_X11_worth_17 : gD cX11_worth 17 (.getfield 115) 3 20 := ⟨by decide +kernel, rfl⟩
theorem d_X11_worth_20 : gD cX11_worth 20 (.iload_n 2) 1 21 := ⟨by decide +kernel, rfl⟩
theorem d_X11_worth_21 : gD cX11_worth 21 (.invokevirtual 124) 3 24 := ⟨by decide +kernel, rfl⟩
theorem d_X11_worth_24 : gD cX11_worth 24 (.ifCond .eq 13) 3 27 ∧ ((24 : Nat) : Int) + 13 = ((37 : Nat) : Int) := ⟨⟨by decide +kernel, rfl⟩, by decide⟩
theorem d_X11_worth_27 : gD cX11_worth 27 (.iload_n 3) 1 28 := ⟨by decide +kernel, rfl⟩
theorem d_X11_worth_28 : gD cX11_worth 28 (.ifCond .lt 9) 3 31 ∧ ((28 : Nat) : Int) + 9 = ((37 : Nat) : Int) := ⟨⟨by decide +kernel, rfl⟩, by decide⟩
theorem d_X11_worth_31 : gD cX11_worth 31 (.iload_n 3) 1 32 := ⟨by decide +kernel, rfl⟩
theorem d_X11_worth_32 : gD cX11_worth 32 (.bipush 99) 2 34 := ⟨by decide +kernel, rfl⟩
theorem d_X11_worth_34 : gD cX11_worth 34 (.if_icmp .le 5) 3 37 ∧ ((34 : Nat) : Int) + 5 = ((39 : Nat) : Int) := ⟨⟨by decide +kernel, rfl⟩, by decide⟩
theorem d_X11_worth_37 : gD cX11_worth 37 (.iconst (-1)) 1 38 := ⟨by decide +kernel, rfl⟩
theorem d_X11_worth_38 : gD cX11_worth 38 (.ireturn) 1 39 := ⟨by decide +kernel, rfl⟩
theorem d_X11_worth_39 : gD cX11_worth 39 (.aload_n 0) 1 40 := ⟨by decide +kernel, rfl⟩
theorem d_X11_worth_40 : gD cX11_worth 40 (.getfield 48) 3 43 := ⟨by decide +kernel, rfl⟩
theorem d_X11_worth_43 : gD cX11_worth 43 (.aload 5) 2 45 := ⟨by decide +kernel, rfl⟩
theorem d_X11_worth_45 : gD cX11_worth 45 (.iload_n 2) 1 46 := ⟨by decide +kernel, rfl⟩
theorem d_X11_worth_46 : gD cX11_worth 46 (.iload_n 3) 1 47 := ⟨by decide +kernel, rfl⟩
theorem d_X11_worth_47 : gD cX11_worth 47 (.invokevirtual 196) 3 50 := ⟨by decide +kernel, rfl⟩
theorem d_X11_worth_50 : gD cX11_worth 50 (.istore 6) 2 52 := ⟨by decide +kernel, rfl⟩
theorem d_X11_worth_52 : gD cX11_worth 52 (.iload 4) 2 54 := ⟨by decide +kernel, rfl⟩
theorem d_X11_worth_54 : decode cX11_worth 54 = .ok (.tableswitch 47 0 2 #[26, 35, 44], 26) ∧ ((54 : Nat) : Int) + 47 = ((101 : Nat) : Int) := ⟨by decide +kernel, by decide⟩
theorem d_X11_worth_80 : gD cX11_worth 80 (.aload_n 0) 1 81 := ⟨by decide +kernel, rfl⟩
theorem d_X11_worth_81 : gD cX11_worth 81 (.getfield 48) 3 84 := ⟨by decide +kernel, rfl⟩
theorem d_X11_worth_84 : gD cX11_worth 84 (.getfield 190) 3 87 := ⟨by decide +kernel, rfl⟩
theorem d_X11_worth_87 : gD cX11_worth 87 (.l2i) 1 88 := ⟨by decide +kernel, rfl⟩
theorem d_X11_worth_88 : gD cX11_worth 88 (.ireturn) 1 89 := ⟨by decide +kernel, rfl⟩
theorem d_X11_worth_89 : gD cX11_worth 89 (.aload_n 0) 1 90 := ⟨by decide +kernel, rfl⟩
theorem d_X11_worth_90 : gD cX11_worth 90 (.getfield 48) 3 93 := ⟨by decide +kernel, rfl⟩
theorem d_X11_worth_93 : gD cX11_worth 93 (.getfield 186) 3 96 := ⟨by decide +kernel, rfl⟩
theorem d_X11_worth_96 : gD cX11_worth 96 (.l2i) 1 97 := ⟨by decide +kernel, rfl⟩
theorem d_X11_worth_97 : gD cX11_worth 97 (.ireturn) 1 98 := ⟨by decide +kernel, rfl⟩
theorem d_X11_worth_98 : gD cX11_worth 98 (.iload 6) 2 100 := ⟨by decide +kernel, rfl⟩
theorem d_X11_worth_100 : gD cX11_worth 100 (.ireturn) 1 101 := ⟨by decide +kernel, rfl⟩
theorem d_X11_worth_101 : gD cX11_worth 101 (.iconst (-1)) 1 102 := ⟨by decide +kernel, rfl⟩
theorem d_X11_worth_102 : gD cX11_worth 102 (.ireturn) 1 103 := ⟨by decide +kernel, rfl⟩
abbrev rm_X11_worth : Room := { frames := 6, cells := 0, slots := 0, locals := 146 }
set_option maxRecDepth 20000 in
theorem w_X11_worth {Γ : GC} {E : GE} (hO : gOk Γ E cX11_worth RX11 7 rm_X11_worth (some .int) "worth") (o : Nat) (x1 : Int32) (x2 : Int32) (x3 : Int32) (x4 : Int32) (S : GS) : Go Γ E (gBsI Γ E) 7 (0, 0) 0 S [(0, vA (some o)), (1, vI x1), (2, vI x2), (3, vI x3), (4, vI x4)] [] (f_X11_worth o x1 x2 x3 x4 S) := by
  unfold f_X11_worth
  refine g_aload_n hO d_X11_worth_0 (by rfl) 0 rfl ?_
  refine h_getR hO cl_X11 0 rfl wf_X11_10 d_X11_worth_1 (fun v1 => ?_)
  refine g_iload_n hO d_X11_worth_4 (by rfl) 1 rfl ?_
  refine k_virtAp hO cl_X9 mm_X9_courtAt lkV_X11_105 ⟨⟨Nat.le_of_ble_eq_true rfl, Nat.le_of_ble_eq_true rfl⟩, Nat.le_of_ble_eq_true rfl, Nat.le_of_ble_eq_true rfl⟩ (kn' := (0, 0)) rfl (As := [vI x1]) rfl (Nat.le_of_ble_eq_true rfl) (fun o' _ => t_X9_courtAt Γ.2.1 E o' x1 S) d_X11_worth_5 rfl (fun v2 => ?_)
  refine g_astore (lv' := [(5, vA v2), (0, vA (some o)), (1, vI x1), (2, vI x2), (3, vI x3), (4, vI x4)]) hO d_X11_worth_8 (by decide) rfl ?_
  refine g_aload hO d_X11_worth_10 0 rfl ?_
  refine g_ifnull (tgt := 37) hO d_X11_worth_12.1 d_X11_worth_12.2 ?_ ?_
  · skip
    refine g_iconst hO (-1) d_X11_worth_37 (by decide) ?_
    exact g_ret hO rfl rfl ⟨Nat.le_of_ble_eq_true rfl, Nat.le_of_ble_eq_true rfl⟩ rfl rfl d_X11_worth_38.1
  · skip
    refine g_aload hO d_X11_worth_15 0 rfl ?_
    refine h_getR hO cl_X0 1 rfl wf_X11_115 d_X11_worth_17 (fun v4 => ?_)
    refine g_iload_n hO d_X11_worth_20 (by rfl) 3 rfl ?_
    refine k_virtIp hO cl_X7 mm_X7_has lkV_X11_124 ⟨⟨Nat.le_of_ble_eq_true rfl, Nat.le_of_ble_eq_true rfl⟩, Nat.le_of_ble_eq_true rfl, Nat.le_of_ble_eq_true rfl⟩ (kn' := (0, 0)) rfl (As := [vI x2]) rfl (Nat.le_of_ble_eq_true rfl) (fun o' _ => t_X7_has Γ.2.1 E o' x2 S) d_X11_worth_21 rfl (fun v5 => ?_)
    refine g_if_eq (tgt := 37) hO d_X11_worth_24.1 d_X11_worth_24.2 (fun _ => ?_) (fun _ => ?_)
    · skip
      refine g_iconst hO (-1) d_X11_worth_37 (by decide) ?_
      exact g_ret hO rfl rfl ⟨Nat.le_of_ble_eq_true rfl, Nat.le_of_ble_eq_true rfl⟩ rfl rfl d_X11_worth_38.1
    · skip
      refine g_iload_n hO d_X11_worth_27 (by rfl) 4 rfl ?_
      refine g_if_lt (tgt := 37) hO d_X11_worth_28.1 d_X11_worth_28.2 (fun _ => ?_) (fun _ => ?_)
      · skip
        refine g_iconst hO (-1) d_X11_worth_37 (by decide) ?_
        exact g_ret hO rfl rfl ⟨Nat.le_of_ble_eq_true rfl, Nat.le_of_ble_eq_true rfl⟩ rfl rfl d_X11_worth_38.1
      · skip
        refine g_iload_n hO d_X11_worth_31 (by rfl) 4 rfl ?_
        refine g_bipush hO 99 d_X11_worth_32 (by decide) ?_
        refine g_ic_le (tgt := 39) hO d_X11_worth_34.1 d_X11_worth_34.2 (fun _ => ?_) (fun _ => ?_)
        · skip
          refine g_aload_n hO d_X11_worth_39 (by rfl) 1 rfl ?_
          refine h_getR hO cl_X11 6 rfl wf_X11_48 d_X11_worth_40 (fun v7 => ?_)
          refine g_aload hO d_X11_worth_43 0 rfl ?_
          refine g_iload_n hO d_X11_worth_45 (by rfl) 3 rfl ?_
          refine g_iload_n hO d_X11_worth_46 (by rfl) 4 rfl ?_
          refine k_virtIs hO cl_X4 mm_X4_worthOf lkV_X11_196 ⟨⟨Nat.le_of_ble_eq_true rfl, Nat.le_of_ble_eq_true rfl⟩, Nat.le_of_ble_eq_true rfl, Nat.le_of_ble_eq_true rfl⟩ (kn' := (0, 0)) rfl (As := [vA v2, vI x2, vI x3]) rfl (Nat.le_of_ble_eq_true rfl) (fun o' _ => t_X4_worthOf Γ.2.1 E o' v2 x2 x3 S) d_X11_worth_47 rfl (fun v8 S9 => ?_)
          refine g_istore (lv' := [(6, vI v8), (5, vA v2), (0, vA (some o)), (1, vI x1), (2, vI x2), (3, vI x3), (4, vI x4)]) hO d_X11_worth_50 (by decide) rfl ?_
          refine g_iload hO d_X11_worth_52 6 rfl ?_
          refine h_tsw (c := 0) (dt := 101) hO d_X11_worth_54.1 3 (by decide) (by rfl) rfl (by decide) (by decide) d_X11_worth_54.2 ⟨⟨80, by decide, ?_⟩, ⟨89, by decide, ?_⟩, ⟨98, by decide, ?_⟩, trivial⟩ ?_
          · skip
            refine g_aload_n hO d_X11_worth_80 (by rfl) 2 rfl ?_
            refine h_getR hO cl_X11 6 rfl wf_X11_48 d_X11_worth_81 (fun v10 => ?_)
            refine h_getJ hO cl_X4 2 rfl wf_X11_190 d_X11_worth_84 (fun v11 => ?_)
            refine g_l2i hO d_X11_worth_87 ?_
            exact g_ret hO rfl rfl ⟨Nat.le_of_ble_eq_true rfl, Nat.le_of_ble_eq_true rfl⟩ rfl rfl d_X11_worth_88.1
          · skip
            refine g_aload_n hO d_X11_worth_89 (by rfl) 2 rfl ?_
            refine h_getR hO cl_X11 6 rfl wf_X11_48 d_X11_worth_90 (fun v12 => ?_)
            refine h_getJ hO cl_X4 3 rfl wf_X11_186 d_X11_worth_93 (fun v13 => ?_)
            refine g_l2i hO d_X11_worth_96 ?_
            exact g_ret hO rfl rfl ⟨Nat.le_of_ble_eq_true rfl, Nat.le_of_ble_eq_true rfl⟩ rfl rfl d_X11_worth_97.1
          · skip
            refine g_iload hO d_X11_worth_98 0 rfl ?_
            exact g_ret hO rfl rfl ⟨Nat.le_of_ble_eq_true rfl, Nat.le_of_ble_eq_true rfl⟩ rfl rfl d_X11_worth_100.1
          · skip
            refine g_iconst hO (-1) d_X11_worth_101 (by decide) ?_
            exact g_ret hO rfl rfl ⟨Nat.le_of_ble_eq_true rfl, Nat.le_of_ble_eq_true rfl⟩ rfl rfl d_X11_worth_102.1
        · skip
          refine g_iconst hO (-1) d_X11_worth_37 (by decide) ?_
          exact g_ret hO rfl rfl ⟨Nat.le_of_ble_eq_true rfl, Nat.le_of_ble_eq_true rfl⟩ rfl rfl d_X11_worth_38.1
theorem t_X11_worth (l : Launch) (E : GE) (o : Nat) (x1 : Int32) (x2 : Int32) (x3 : Int32) (x4 : Int32) (S : GS) : ∀ a, f_X11_worth o x1 x2 x3 x4 S = some a → Ct l E yX11_worth cX11_worth 7 (some .int) rm_X11_worth [vA (some o), vI x1, vI x2, vI x3, vI x4] S (some (vI a.1)) a.2 :=
  Ct_of (val := fun (b : Int32 × GS) => some (vI b.1)) (nxt := fun (b : Int32 × GS) => b.2) (by decide) (Nat.le_of_ble_eq_true rfl) (fun Γ hl hO => w_X11_worth hO o x1 x2 x3 x4 S)
theorem d_X11_sight_0 : gD cX11_sight 0 (.aload_n 0) 1 1 := ⟨by decide +kernel, rfl⟩
theorem d_X11_sight_1 : gD cX11_sight 1 (.getfield 10) 3 4 := ⟨by decide +kernel, rfl⟩
theorem d_X11_sight_4 : gD cX11_sight 4 (.iload_n 1) 1 5 := ⟨by decide +kernel, rfl⟩
theorem d_X11_sight_5 : gD cX11_sight 5 (.invokevirtual 200) 3 8 := ⟨by decide +kernel, rfl⟩
theorem d_X11_sight_8 : gD cX11_sight 8 (.astore_n 3) 1 9 := ⟨by decide +kernel, rfl⟩
theorem d_X11_sight_9 : gD cX11_sight 9 (.aload_n 3) 1 10 := ⟨by decide +kernel, rfl⟩
theorem d_X11_sight_10 : gD cX11_sight 10 (.ifnonnull 7) 3 13 ∧ ((10 : Nat) : Int) + 7 = ((17 : Nat) : Int) := ⟨⟨by decide +kernel, rfl⟩, by decide⟩
theorem d_X11_sight_13 : gD cX11_sight 13 (.iconst (-1)) 1 14 := ⟨by decide +kernel, rfl⟩
theorem d_X11_sight_14 : decode cX11_sight 14 = .ok (.goto 8, 3) ∧ ((14 : Nat) : Int) + 8 = ((22 : Nat) : Int) := ⟨by decide +kernel, by decide⟩
theorem d_X11_sight_17 : gD cX11_sight 17 (.aload_n 3) 1 18 := ⟨by decide +kernel, rfl⟩
theorem d_X11_sight_18 : gD cX11_sight 18 (.iload_n 2) 1 19 := ⟨by decide +kernel, rfl⟩
theorem d_X11_sight_19 : gD cX11_sight 19 (.invokevirtual 204) 3 22 := ⟨by decide +kernel, rfl⟩
theorem d_X11_sight_22 : gD cX11_sight 22 (.ireturn) 1 23 := ⟨by decide +kernel, rfl⟩
abbrev rm_X11_sight : Room := { frames := 2, cells := 0, slots := 0, locals := 43 }
set_option maxRecDepth 20000 in
theorem w_X11_sight {Γ : GC} {E : GE} (hO : gOk Γ E cX11_sight RX11 4 rm_X11_sight (some .int) "sight") (o : Nat) (x1 : Int32) (x2 : Int32) (S : GS) : Go Γ E (gBpI Γ E S) 4 (0, 0) 0 S [(0, vA (some o)), (1, vI x1), (2, vI x2)] [] (f_X11_sight o x1 x2 S) := by
  unfold f_X11_sight
  refine g_aload_n hO d_X11_sight_0 (by rfl) 0 rfl ?_
  refine h_getR hO cl_X11 0 rfl wf_X11_10 d_X11_sight_1 (fun v1 => ?_)
  refine g_iload_n hO d_X11_sight_4 (by rfl) 1 rfl ?_
  refine k_virtAp hO cl_X9 mm_X9_sightAt lkV_X11_200 ⟨⟨Nat.le_of_ble_eq_true rfl, Nat.le_of_ble_eq_true rfl⟩, Nat.le_of_ble_eq_true rfl, Nat.le_of_ble_eq_true rfl⟩ (kn' := (0, 0)) rfl (As := [vI x1]) rfl (Nat.le_of_ble_eq_true rfl) (fun o' _ => t_X9_sightAt Γ.2.1 E o' x1 S) d_X11_sight_5 rfl (fun v2 => ?_)
  refine g_astore_n (lv' := [(3, vA v2), (0, vA (some o)), (1, vI x1), (2, vI x2)]) hO d_X11_sight_8 (by rfl) (by decide) rfl ?_
  refine g_aload_n hO d_X11_sight_9 (by rfl) 0 rfl ?_
  refine g_ifnonnull (tgt := 17) hO d_X11_sight_10.1 d_X11_sight_10.2 ?_ ?_
  · skip
    refine g_iconst hO (-1) d_X11_sight_13 (by decide) ?_
    refine g_goto (tgt := 22) hO d_X11_sight_14.1 d_X11_sight_14.2 ?_
    exact g_ret hO rfl rfl ⟨Nat.le_of_ble_eq_true rfl, Nat.le_of_ble_eq_true rfl⟩ rfl rfl d_X11_sight_22.1
  · skip
    refine g_aload_n hO d_X11_sight_17 (by rfl) 0 rfl ?_
    refine g_iload_n hO d_X11_sight_18 (by rfl) 3 rfl ?_
    refine k_virtIp hO cl_X8 mm_X8_tell lkV_X11_204 ⟨⟨Nat.le_of_ble_eq_true rfl, Nat.le_of_ble_eq_true rfl⟩, Nat.le_of_ble_eq_true rfl, Nat.le_of_ble_eq_true rfl⟩ (kn' := (0, 0)) rfl (As := [vI x2]) rfl (Nat.le_of_ble_eq_true rfl) (fun o' _ => t_X8_tell Γ.2.1 E o' x2 S) d_X11_sight_19 rfl (fun v4 => ?_)
    exact g_ret hO rfl rfl ⟨Nat.le_of_ble_eq_true rfl, Nat.le_of_ble_eq_true rfl⟩ rfl rfl d_X11_sight_22.1
theorem t_X11_sight (l : Launch) (E : GE) (o : Nat) (x1 : Int32) (x2 : Int32) (S : GS) : ∀ a, f_X11_sight o x1 x2 S = some a → Ct l E yX11_sight cX11_sight 4 (some .int) rm_X11_sight [vA (some o), vI x1, vI x2] S (some (vI a)) S :=
  Ct_of (val := fun b => some (vI b)) (nxt := fun _ => S) (by decide) (Nat.le_of_ble_eq_true rfl) (fun Γ hl hO => w_X11_sight hO o x1 x2 S)
theorem d_X11_ways_0 : gD cX11_ways 0 (.aload_n 0) 1 1 := ⟨by decide +kernel, rfl⟩
theorem d_X11_ways_1 : gD cX11_ways 1 (.getfield 10) 3 4 := ⟨by decide +kernel, rfl⟩
theorem d_X11_ways_4 : gD cX11_ways 4 (.iload_n 1) 1 5 := ⟨by decide +kernel, rfl⟩
theorem d_X11_ways_5 : gD cX11_ways 5 (.invokevirtual 105) 3 8 := ⟨by decide +kernel, rfl⟩
theorem d_X11_ways_8 : gD cX11_ways 8 (.astore_n 3) 1 9 := ⟨by decide +kernel, rfl⟩
theorem d_X11_ways_9 : gD cX11_ways 9 (.aload_n 0) 1 10 := ⟨by decide +kernel, rfl⟩
theorem d_X11_ways_10 : gD cX11_ways 10 (.getfield 10) 3 13 := ⟨by decide +kernel, rfl⟩
theorem d_X11_ways_13 : gD cX11_ways 13 (.iload_n 2) 1 14 := ⟨by decide +kernel, rfl⟩
theorem d_X11_ways_14 : gD cX11_ways 14 (.invokevirtual 200) 3 17 := ⟨by decide +kernel, rfl⟩
theorem d_X11_ways_17 : gD cX11_ways 17 (.astore 4) 2 19 := ⟨by decide +kernel, rfl⟩
theorem d_X11_ways_19 : gD cX11_ways 19 (.aload_n 3) 1 20 := ⟨by decide +kernel, rfl⟩
theorem d_X11_ways_20 : gD cX11_ways 20 (.ifnull 8) 3 23 ∧ ((20 : Nat) : Int) + 8 = ((28 : Nat) : Int) := ⟨⟨by decide +kernel, rfl⟩, by decide⟩
theorem d_X11_ways_23 : gD cX11_ways 23 (.aload 4) 2 25 := ⟨by decide +kernel, rfl⟩
theorem d_X11_ways_25 : gD cX11_ways 25 (.ifnonnull 9) 3 28 ∧ ((25 : Nat) : Int) + 9 = ((34 : Nat) : Int) := ⟨⟨by decide +kernel, rfl⟩, by decide⟩
theorem d_X11_ways_28 : gD cX11_ways 28 (.ldc2_w 177) 3 31 := ⟨by decide +kernel, rfl⟩
theorem d_X11_ways_31 : decode cX11_ways 31 = .ok (.goto 14, 3) ∧ ((31 : Nat) : Int) + 14 = ((45 : Nat) : Int) := ⟨by decide +kernel, by decide⟩
theorem d_X11_ways_34 : gD cX11_ways 34 (.aload_n 0) 1 35 := ⟨by decide +kernel, rfl⟩
theorem d_X11_ways_35 : gD cX11_ways 35 (.getfield 55) 3 38 := ⟨by decide +kernel, rfl⟩
theorem d_X11_ways_38 : gD cX11_ways 38 (.aload_n 3) 1 39 := ⟨by decide +kernel, rfl⟩
theorem d_X11_ways_39 : gD cX11_ways 39 (.aload 4) 2 41 := ⟨by decide +kernel, rfl⟩
theorem d_X11_ways_41 : gD cX11_ways 41 (.invokevirtual 207) 3 44 := ⟨by decide +kernel, rfl⟩
theorem d_X11_ways_44 : gD cX11_ways 44 (.i2l) 1 45 := ⟨by decide +kernel, rfl⟩
theorem d_X11_ways_45 : gD cX11_ways 45 (.lreturn) 1 46 := ⟨by decide +kernel, rfl⟩
abbrev rm_X11_ways : Room := { frames := 6, cells := 0, slots := 0, locals := 144 }
set_option maxRecDepth 20000 in
theorem w_X11_ways_28 {Γ : GC} {E : GE} (hO : gOk Γ E cX11_ways RX11 5 rm_X11_ways (some .long) "ways") (o : Nat) (S : GS) : Go Γ E (gBsJ Γ E) 5 (0, 0) 28 S [(0, vA (some o))] [] (f_X11_ways_28 o S) := by
  unfold f_X11_ways_28
  refine g_ldc2 hO (-1) d_X11_ways_28 wk_X11_177 ?_
  refine g_goto (tgt := 45) hO d_X11_ways_31.1 d_X11_ways_31.2 ?_
  exact g_lret hO rfl ⟨Nat.le_of_ble_eq_true rfl, Nat.le_of_ble_eq_true rfl⟩ rfl rfl d_X11_ways_45.1
set_option maxRecDepth 20000 in
theorem w_X11_ways {Γ : GC} {E : GE} (hO : gOk Γ E cX11_ways RX11 5 rm_X11_ways (some .long) "ways") (o : Nat) (x1 : Int32) (x2 : Int32) (S : GS) : Go Γ E (gBsJ Γ E) 5 (0, 0) 0 S [(0, vA (some o)), (1, vI x1), (2, vI x2)] [] (f_X11_ways o x1 x2 S) := by
  unfold f_X11_ways
  refine g_aload_n hO d_X11_ways_0 (by rfl) 0 rfl ?_
  refine h_getR hO cl_X11 0 rfl wf_X11_10 d_X11_ways_1 (fun v1 => ?_)
  refine g_iload_n hO d_X11_ways_4 (by rfl) 1 rfl ?_
  refine k_virtAp hO cl_X9 mm_X9_courtAt lkV_X11_105 ⟨⟨Nat.le_of_ble_eq_true rfl, Nat.le_of_ble_eq_true rfl⟩, Nat.le_of_ble_eq_true rfl, Nat.le_of_ble_eq_true rfl⟩ (kn' := (0, 0)) rfl (As := [vI x1]) rfl (Nat.le_of_ble_eq_true rfl) (fun o' _ => t_X9_courtAt Γ.2.1 E o' x1 S) d_X11_ways_5 rfl (fun v2 => ?_)
  refine g_astore_n (lv' := [(3, vA v2), (0, vA (some o)), (1, vI x1), (2, vI x2)]) hO d_X11_ways_8 (by rfl) (by decide) rfl ?_
  refine g_aload_n hO d_X11_ways_9 (by rfl) 1 rfl ?_
  refine h_getR hO cl_X11 0 rfl wf_X11_10 d_X11_ways_10 (fun v4 => ?_)
  refine g_iload_n hO d_X11_ways_13 (by rfl) 3 rfl ?_
  refine k_virtAp hO cl_X9 mm_X9_sightAt lkV_X11_200 ⟨⟨Nat.le_of_ble_eq_true rfl, Nat.le_of_ble_eq_true rfl⟩, Nat.le_of_ble_eq_true rfl, Nat.le_of_ble_eq_true rfl⟩ (kn' := (0, 0)) rfl (As := [vI x2]) rfl (Nat.le_of_ble_eq_true rfl) (fun o' _ => t_X9_sightAt Γ.2.1 E o' x2 S) d_X11_ways_14 rfl (fun v5 => ?_)
  refine g_astore (lv' := [(4, vA v5), (3, vA v2), (0, vA (some o)), (1, vI x1), (2, vI x2)]) hO d_X11_ways_17 (by decide) rfl ?_
  refine g_aload_n hO d_X11_ways_19 (by rfl) 1 rfl ?_
  refine g_ifnull (tgt := 28) hO d_X11_ways_20.1 d_X11_ways_20.2 ?_ ?_
  · skip
    exact g_sub [2] rfl (w_X11_ways_28 hO o _)
  · skip
    refine g_aload hO d_X11_ways_23 0 rfl ?_
    refine g_ifnonnull (tgt := 34) hO d_X11_ways_25.1 d_X11_ways_25.2 ?_ ?_
    · skip
      exact g_sub [2] rfl (w_X11_ways_28 hO o _)
    · skip
      refine g_aload_n hO d_X11_ways_34 (by rfl) 2 rfl ?_
      refine h_getR hO cl_X11 7 rfl wf_X11_55 d_X11_ways_35 (fun v7 => ?_)
      refine g_aload_n hO d_X11_ways_38 (by rfl) 1 rfl ?_
      refine g_aload hO d_X11_ways_39 0 rfl ?_
      refine k_virtIs hO cl_X10 mm_X10_waysOf lkV_X11_207 ⟨⟨Nat.le_of_ble_eq_true rfl, Nat.le_of_ble_eq_true rfl⟩, Nat.le_of_ble_eq_true rfl, Nat.le_of_ble_eq_true rfl⟩ (kn' := (0, 0)) rfl (As := [vA v2, vA v5]) rfl (Nat.le_of_ble_eq_true rfl) (fun o' _ => t_X10_waysOf Γ.2.1 E o' v2 v5 S) d_X11_ways_41 rfl (fun v8 S9 => ?_)
      refine g_i2l hO d_X11_ways_44 ?_
      exact g_lret hO rfl ⟨Nat.le_of_ble_eq_true rfl, Nat.le_of_ble_eq_true rfl⟩ rfl rfl d_X11_ways_45.1
theorem t_X11_ways (l : Launch) (E : GE) (o : Nat) (x1 : Int32) (x2 : Int32) (S : GS) : ∀ a, f_X11_ways o x1 x2 S = some a → Ct l E yX11_ways cX11_ways 5 (some .long) rm_X11_ways [vA (some o), vI x1, vI x2] S (some (vJ a.1)) a.2 :=
  Ct_of (val := fun (b : Int64 × GS) => some (vJ b.1)) (nxt := fun (b : Int64 × GS) => b.2) (by decide) (Nat.le_of_ble_eq_true rfl) (fun Γ hl hO => w_X11_ways hO o x1 x2 S)
theorem d_X11_may_0 : gD cX11_may 0 (.aload_n 0) 1 1 := ⟨by decide +kernel, rfl⟩
theorem d_X11_may_1 : gD cX11_may 1 (.getfield 10) 3 4 := ⟨by decide +kernel, rfl⟩
theorem d_X11_may_4 : gD cX11_may 4 (.iload_n 1) 1 5 := ⟨by decide +kernel, rfl⟩
theorem d_X11_may_5 : gD cX11_may 5 (.invokevirtual 105) 3 8 := ⟨by decide +kernel, rfl⟩
theorem d_X11_may_8 : gD cX11_may 8 (.astore 5) 2 10 := ⟨by decide +kernel, rfl⟩
theorem d_X11_may_10 : gD cX11_may 10 (.aload_n 0) 1 11 := ⟨by decide +kernel, rfl⟩
theorem d_X11_may_11 : gD cX11_may 11 (.getfield 10) 3 14 := ⟨by decide +kernel, rfl⟩
theorem d_X11_may_14 : gD cX11_may 14 (.iload_n 2) 1 15 := ⟨by decide +kernel, rfl⟩
theorem d_X11_may_15 : gD cX11_may 15 (.invokevirtual 200) 3 18 := ⟨by decide +kernel, rfl⟩
theorem d_X11_may_18 : gD cX11_may 18 (.astore 6) 2 20 := ⟨by decide +kernel, rfl⟩
theorem d_X11_may_20 : gD cX11_may 20 (.aload 5) 2 22 := ⟨by decide +kernel, rfl⟩
theorem d_X11_may_22 : gD cX11_may 22 (.ifnull 35) 3 25 ∧ ((22 : Nat) : Int) + 35 = ((57 : Nat) : Int) := ⟨⟨by decide +kernel, rfl⟩, by decide⟩
theorem d_X11_may_25 : gD cX11_may 25 (.aload 6) 2 27 := ⟨by decide +kernel, rfl⟩
theorem d_X11_may_27 : gD cX11_may 27 (.ifnull 30) 3 30 ∧ ((27 : Nat) : Int) + 30 = ((57 : Nat) : Int) := ⟨⟨by decide +kernel, rfl⟩, by decide⟩
theorem d_X11_may_30 : gD cX11_may 30 (.iload_n 3) 1 31 := ⟨by decide +kernel, rfl⟩
theorem d_X11_may_31 : gD cX11_may 31 (.ifCond .lt 26) 3 34 ∧ ((31 : Nat) : Int) + 26 = ((57 : Nat) : Int) := ⟨⟨by decide +kernel, rfl⟩, by decide⟩
theorem d_X11_may_34 : gD cX11_may 34 (.iload_n 3) 1 35 := ⟨by decide +kernel, rfl⟩
theorem d_X11_may_35 : gD cX11_may 35 (.aload 6) 2 37 := ⟨by decide +kernel, rfl⟩
theorem d_X11_may_37 : gD cX11_may 37 (.invokevirtual 211) 3 40 := ⟨by decide +kernel, rfl⟩
theorem d_X11_may_40 : gD cX11_may 40 (.if_icmp .gt 17) 3 43 ∧ ((40 : Nat) : Int) + 17 = ((57 : Nat) : Int) := ⟨⟨by decide +kernel, rfl⟩, by decide⟩
theorem d_X11_may_43 : gD cX11_may 43 (.aload_n 0) 1 44 := ⟨by decide +kernel, rfl⟩
theorem d_X11_may_44 : gD cX11_may 44 (.getfield 55) 3 47 := ⟨by decide +kernel, rfl⟩
theorem d_X11_may_47 : gD cX11_may 47 (.aload 5) 2 49 := ⟨by decide +kernel, rfl⟩
theorem d_X11_may_49 : gD cX11_may 49 (.aload 6) 2 51 := ⟨by decide +kernel, rfl⟩
theorem d_X11_may_51 : gD cX11_may 51 (.invokevirtual 207) 3 54 := ⟨by decide +kernel, rfl⟩
theorem d_X11_may_54 : gD cX11_may 54 (.ifCond .gt 5) 3 57 ∧ ((54 : Nat) : Int) + 5 = ((59 : Nat) : Int) := ⟨⟨by decide +kernel, rfl⟩, by decide⟩
theorem d_X11_may_57 : gD cX11_may 57 (.iconst (-1)) 1 58 := ⟨by decide +kernel, rfl⟩
theorem d_X11_may_58 : gD cX11_may 58 (.ireturn) 1 59 := ⟨by decide +kernel, rfl⟩
theorem d_X11_may_59 : gD cX11_may 59 (.aload_n 0) 1 60 := ⟨by decide +kernel, rfl⟩
theorem d_X11_may_60 : gD cX11_may 60 (.getfield 55) 3 63 := ⟨by decide +kernel, rfl⟩
theorem d_X11_may_63 : gD cX11_may 63 (.iload_n 3) 1 64 := ⟨by decide +kernel, rfl⟩
theorem d_X11_may_64 : gD cX11_may 64 (.invokevirtual 215) 3 67 := ⟨by decide +kernel, rfl⟩
theorem d_X11_may_67 : gD cX11_may 67 (.istore 7) 2 69 := ⟨by decide +kernel, rfl⟩
theorem d_X11_may_69 : gD cX11_may 69 (.aload_n 0) 1 70 := ⟨by decide +kernel, rfl⟩
theorem d_X11_may_70 : gD cX11_may 70 (.getfield 55) 3 73 := ⟨by decide +kernel, rfl⟩
theorem d_X11_may_73 : gD cX11_may 73 (.iload_n 3) 1 74 := ⟨by decide +kernel, rfl⟩
theorem d_X11_may_74 : gD cX11_may 74 (.invokevirtual 218) 3 77 := ⟨by decide +kernel, rfl⟩
theorem d_X11_may_77 : gD cX11_may 77 (.istore 8) 2 79 := ⟨by decide +kernel, rfl⟩
theorem d_X11_may_79 : gD cX11_may 79 (.iload 4) 2 81 := ⟨by decide +kernel, rfl⟩
theorem d_X11_may_81 : decode cX11_may 81 = .ok (.tableswitch 47 0 2 #[27, 30, 33], 27) ∧ ((81 : Nat) : Int) + 47 = ((128 : Nat) : Int) := ⟨by decide +kernel, by decide⟩
theorem d_X11_may_108 : gD cX11_may 108 (.iload 7) 2 110 := ⟨by decide +kernel, rfl⟩
theorem d_X11_may_110 : gD cX11_may 110 (.ireturn) 1 111 := ⟨by decide +kernel, rfl⟩
theorem d_X11_may_111 : gD cX11_may 111 (.iload 8) 2 113 := ⟨by decide +kernel, rfl⟩
theorem d_X11_may_113 : gD cX11_may 113 (.ireturn) 1 114 := ⟨by decide +kernel, rfl⟩
theorem d_X11_may_114 : gD cX11_may 114 (.iload 7) 2 116 := ⟨by decide +kernel, rfl⟩
theorem d_X11_may_116 : gD cX11_may 116 (.iload 8) 2 118 := ⟨by decide +kernel, rfl⟩
theorem d_X11_may_118 : gD cX11_may 118 (.if_icmp .ne 8) 3 121 ∧ ((118 : Nat) : Int) + 8 = ((126 : Nat) : Int) := ⟨⟨by decide +kernel, rfl⟩, by decide⟩
theorem d_X11_may_121 : gD cX11_may 121 (.iload 7) 2 123 := ⟨by decide +kernel, rfl⟩
theorem d_X11_may_123 : decode cX11_may 123 = .ok (.goto 4, 3) ∧ ((123 : Nat) : Int) + 4 = ((127 : Nat) : Int) := ⟨by decide +kernel, by decide⟩
theorem d_X11_may_126 : gD cX11_may 126 (.iconst (-1)) 1 127 := ⟨by decide +kernel, rfl⟩
theorem d_X11_may_127 : gD cX11_may 127 (.ireturn) 1 128 := ⟨by decide +kernel, rfl⟩
theorem d_X11_may_128 : gD cX11_may 128 (.iconst (-1)) 1 129 := ⟨by decide +kernel, rfl⟩
theorem d_X11_may_129 : gD cX11_may 129 (.ireturn) 1 130 := ⟨by decide +kernel, rfl⟩
abbrev rm_X11_may : Room := { frames := 6, cells := 0, slots := 0, locals := 144 }
set_option maxRecDepth 20000 in
theorem w_X11_may {Γ : GC} {E : GE} (hO : gOk Γ E cX11_may RX11 9 rm_X11_may (some .int) "may") (o : Nat) (x1 : Int32) (x2 : Int32) (x3 : Int32) (x4 : Int32) (S : GS) : Go Γ E (gBsI Γ E) 9 (0, 0) 0 S [(0, vA (some o)), (1, vI x1), (2, vI x2), (3, vI x3), (4, vI x4)] [] (f_X11_may o x1 x2 x3 x4 S) := by
  unfold f_X11_may
  refine g_aload_n hO d_X11_may_0 (by rfl) 0 rfl ?_
  refine h_getR hO cl_X11 0 rfl wf_X11_10 d_X11_may_1 (fun v1 => ?_)
  refine g_iload_n hO d_X11_may_4 (by rfl) 1 rfl ?_
  refine k_virtAp hO cl_X9 mm_X9_courtAt lkV_X11_105 ⟨⟨Nat.le_of_ble_eq_true rfl, Nat.le_of_ble_eq_true rfl⟩, Nat.le_of_ble_eq_true rfl, Nat.le_of_ble_eq_true rfl⟩ (kn' := (0, 0)) rfl (As := [vI x1]) rfl (Nat.le_of_ble_eq_true rfl) (fun o' _ => t_X9_courtAt Γ.2.1 E o' x1 S) d_X11_may_5 rfl (fun v2 => ?_)
  refine g_astore (lv' := [(5, vA v2), (0, vA (some o)), (1, vI x1), (2, vI x2), (3, vI x3), (4, vI x4)]) hO d_X11_may_8 (by decide) rfl ?_
  refine g_aload_n hO d_X11_may_10 (by rfl) 1 rfl ?_
  refine h_getR hO cl_X11 0 rfl wf_X11_10 d_X11_may_11 (fun v4 => ?_)
  refine g_iload_n hO d_X11_may_14 (by rfl) 3 rfl ?_
  refine k_virtAp hO cl_X9 mm_X9_sightAt lkV_X11_200 ⟨⟨Nat.le_of_ble_eq_true rfl, Nat.le_of_ble_eq_true rfl⟩, Nat.le_of_ble_eq_true rfl, Nat.le_of_ble_eq_true rfl⟩ (kn' := (0, 0)) rfl (As := [vI x2]) rfl (Nat.le_of_ble_eq_true rfl) (fun o' _ => t_X9_sightAt Γ.2.1 E o' x2 S) d_X11_may_15 rfl (fun v5 => ?_)
  refine g_astore (lv' := [(6, vA v5), (5, vA v2), (0, vA (some o)), (1, vI x1), (2, vI x2), (3, vI x3), (4, vI x4)]) hO d_X11_may_18 (by decide) rfl ?_
  refine g_aload hO d_X11_may_20 1 rfl ?_
  refine g_ifnull (tgt := 57) hO d_X11_may_22.1 d_X11_may_22.2 ?_ ?_
  · skip
    refine g_iconst hO (-1) d_X11_may_57 (by decide) ?_
    exact g_ret hO rfl rfl ⟨Nat.le_of_ble_eq_true rfl, Nat.le_of_ble_eq_true rfl⟩ rfl rfl d_X11_may_58.1
  · skip
    refine g_aload hO d_X11_may_25 0 rfl ?_
    refine g_ifnull (tgt := 57) hO d_X11_may_27.1 d_X11_may_27.2 ?_ ?_
    · skip
      refine g_iconst hO (-1) d_X11_may_57 (by decide) ?_
      exact g_ret hO rfl rfl ⟨Nat.le_of_ble_eq_true rfl, Nat.le_of_ble_eq_true rfl⟩ rfl rfl d_X11_may_58.1
    · skip
      refine g_iload_n hO d_X11_may_30 (by rfl) 5 rfl ?_
      refine g_if_lt (tgt := 57) hO d_X11_may_31.1 d_X11_may_31.2 (fun _ => ?_) (fun _ => ?_)
      · skip
        refine g_iconst hO (-1) d_X11_may_57 (by decide) ?_
        exact g_ret hO rfl rfl ⟨Nat.le_of_ble_eq_true rfl, Nat.le_of_ble_eq_true rfl⟩ rfl rfl d_X11_may_58.1
      · skip
        refine g_iload_n hO d_X11_may_34 (by rfl) 5 rfl ?_
        refine g_aload hO d_X11_may_35 0 rfl ?_
        refine k_virtIp hO cl_X8 mm_X8_lastMinute lkV_X11_211 ⟨⟨Nat.le_of_ble_eq_true rfl, Nat.le_of_ble_eq_true rfl⟩, Nat.le_of_ble_eq_true rfl, Nat.le_of_ble_eq_true rfl⟩ (kn' := (0, 0)) rfl (As := []) rfl (Nat.le_of_ble_eq_true rfl) (fun o' _ => t_X8_lastMinute Γ.2.1 E o' S) d_X11_may_37 rfl (fun v7 => ?_)
        refine g_ic_gt (tgt := 57) hO d_X11_may_40.1 d_X11_may_40.2 (fun _ => ?_) (fun _ => ?_)
        · skip
          refine g_iconst hO (-1) d_X11_may_57 (by decide) ?_
          exact g_ret hO rfl rfl ⟨Nat.le_of_ble_eq_true rfl, Nat.le_of_ble_eq_true rfl⟩ rfl rfl d_X11_may_58.1
        · skip
          refine g_aload_n hO d_X11_may_43 (by rfl) 2 rfl ?_
          refine h_getR hO cl_X11 7 rfl wf_X11_55 d_X11_may_44 (fun v9 => ?_)
          refine g_aload hO d_X11_may_47 1 rfl ?_
          refine g_aload hO d_X11_may_49 0 rfl ?_
          refine k_virtIs hO cl_X10 mm_X10_waysOf lkV_X11_207 ⟨⟨Nat.le_of_ble_eq_true rfl, Nat.le_of_ble_eq_true rfl⟩, Nat.le_of_ble_eq_true rfl, Nat.le_of_ble_eq_true rfl⟩ (kn' := (0, 0)) rfl (As := [vA v2, vA v5]) rfl (Nat.le_of_ble_eq_true rfl) (fun o' _ => t_X10_waysOf Γ.2.1 E o' v2 v5 S) d_X11_may_51 rfl (fun v10 S11 => ?_)
          refine g_if_gt (tgt := 59) hO d_X11_may_54.1 d_X11_may_54.2 (fun _ => ?_) (fun _ => ?_)
          · skip
            refine g_aload_n hO d_X11_may_59 (by rfl) 2 rfl ?_
            refine h_getR hO cl_X11 7 rfl wf_X11_55 d_X11_may_60 (fun v12 => ?_)
            refine g_iload_n hO d_X11_may_63 (by rfl) 5 rfl ?_
            refine k_virtIp hO cl_X10 mm_X10_leastMark lkV_X11_215 ⟨⟨Nat.le_of_ble_eq_true rfl, Nat.le_of_ble_eq_true rfl⟩, Nat.le_of_ble_eq_true rfl, Nat.le_of_ble_eq_true rfl⟩ (kn' := (0, 0)) rfl (As := [vI x3]) rfl (Nat.le_of_ble_eq_true rfl) (fun o' _ => t_X10_leastMark Γ.2.1 E o' x3 S11) d_X11_may_64 rfl (fun v13 => ?_)
            refine g_istore (lv' := [(7, vI v13), (6, vA v5), (5, vA v2), (0, vA (some o)), (1, vI x1), (2, vI x2), (3, vI x3), (4, vI x4)]) hO d_X11_may_67 (by decide) rfl ?_
            refine g_aload_n hO d_X11_may_69 (by rfl) 3 rfl ?_
            refine h_getR hO cl_X11 7 rfl wf_X11_55 d_X11_may_70 (fun v15 => ?_)
            refine g_iload_n hO d_X11_may_73 (by rfl) 6 rfl ?_
            refine k_virtIp hO cl_X10 mm_X10_mostMark lkV_X11_218 ⟨⟨Nat.le_of_ble_eq_true rfl, Nat.le_of_ble_eq_true rfl⟩, Nat.le_of_ble_eq_true rfl, Nat.le_of_ble_eq_true rfl⟩ (kn' := (0, 0)) rfl (As := [vI x3]) rfl (Nat.le_of_ble_eq_true rfl) (fun o' _ => t_X10_mostMark Γ.2.1 E o' x3 S11) d_X11_may_74 rfl (fun v16 => ?_)
            refine g_istore (lv' := [(8, vI v16), (7, vI v13), (6, vA v5), (5, vA v2), (0, vA (some o)), (1, vI x1), (2, vI x2), (3, vI x3), (4, vI x4)]) hO d_X11_may_77 (by decide) rfl ?_
            refine g_iload hO d_X11_may_79 8 rfl ?_
            refine h_tsw (c := 0) (dt := 128) hO d_X11_may_81.1 3 (by decide) (by rfl) rfl (by decide) (by decide) d_X11_may_81.2 ⟨⟨108, by decide, ?_⟩, ⟨111, by decide, ?_⟩, ⟨114, by decide, ?_⟩, trivial⟩ ?_
            · skip
              refine g_iload hO d_X11_may_108 1 rfl ?_
              exact g_ret hO rfl rfl ⟨Nat.le_of_ble_eq_true rfl, Nat.le_of_ble_eq_true rfl⟩ rfl rfl d_X11_may_110.1
            · skip
              refine g_iload hO d_X11_may_111 0 rfl ?_
              exact g_ret hO rfl rfl ⟨Nat.le_of_ble_eq_true rfl, Nat.le_of_ble_eq_true rfl⟩ rfl rfl d_X11_may_113.1
            · skip
              refine g_iload hO d_X11_may_114 1 rfl ?_
              refine g_iload hO d_X11_may_116 0 rfl ?_
              refine g_ic_ne (tgt := 126) hO d_X11_may_118.1 d_X11_may_118.2 (fun _ => ?_) (fun _ => ?_)
              · skip
                refine g_iload hO d_X11_may_121 1 rfl ?_
                refine g_goto (tgt := 127) hO d_X11_may_123.1 d_X11_may_123.2 ?_
                exact g_ret hO rfl rfl ⟨Nat.le_of_ble_eq_true rfl, Nat.le_of_ble_eq_true rfl⟩ rfl rfl d_X11_may_127.1
              · skip
                refine g_iconst hO (-1) d_X11_may_126 (by decide) ?_
                exact g_ret hO rfl rfl ⟨Nat.le_of_ble_eq_true rfl, Nat.le_of_ble_eq_true rfl⟩ rfl rfl d_X11_may_127.1
            · skip
              refine g_iconst hO (-1) d_X11_may_128 (by decide) ?_
              exact g_ret hO rfl rfl ⟨Nat.le_of_ble_eq_true rfl, Nat.le_of_ble_eq_true rfl⟩ rfl rfl d_X11_may_129.1
          · skip
            refine g_iconst hO (-1) d_X11_may_57 (by decide) ?_
            exact g_ret hO rfl rfl ⟨Nat.le_of_ble_eq_true rfl, Nat.le_of_ble_eq_true rfl⟩ rfl rfl d_X11_may_58.1
theorem t_X11_may (l : Launch) (E : GE) (o : Nat) (x1 : Int32) (x2 : Int32) (x3 : Int32) (x4 : Int32) (S : GS) : ∀ a, f_X11_may o x1 x2 x3 x4 S = some a → Ct l E yX11_may cX11_may 9 (some .int) rm_X11_may [vA (some o), vI x1, vI x2, vI x3, vI x4] S (some (vI a.1)) a.2 :=
  Ct_of (val := fun (b : Int32 × GS) => some (vI b.1)) (nxt := fun (b : Int32 × GS) => b.2) (by decide) (Nat.le_of_ble_eq_true rfl) (fun Γ hl hO => w_X11_may hO o x1 x2 x3 x4 S)
theorem d_X11_spy_0 : gD cX11_spy 0 (.aload_n 0) 1 1 := ⟨by decide +kernel, rfl⟩
theorem d_X11_spy_1 : gD cX11_spy 1 (.getfield 10) 3 4 := ⟨by decide +kernel, rfl⟩
theorem d_X11_spy_4 : gD cX11_spy 4 (.iload_n 1) 1 5 := ⟨by decide +kernel, rfl⟩
theorem d_X11_spy_5 : gD cX11_spy 5 (.invokevirtual 105) 3 8 := ⟨by decide +kernel, rfl⟩
theorem d_X11_spy_8 : gD cX11_spy 8 (.astore 4) 2 10 := ⟨by decide +kernel, rfl⟩
theorem d_X11_spy_10 : gD cX11_spy 10 (.aload_n 0) 1 11 := ⟨by decide +kernel, rfl⟩
theorem d_X11_spy_11 : gD cX11_spy 11 (.getfield 10) 3 14 := ⟨by decide +kernel, rfl⟩
theorem d_X11_spy_14 : gD cX11_spy 14 (.iload_n 2) 1 15 := ⟨by decide +kernel, rfl⟩
theorem d_X11_spy_15 : gD cX11_spy 15 (.invokevirtual 200) 3 18 := ⟨by decide +kernel, rfl⟩
theorem d_X11_spy_18 : gD cX11_spy 18 (.astore 5) 2 20 := ⟨by decide +kernel, rfl⟩
theorem d_X11_spy_20 : gD cX11_spy 20 (.aload 4) 2 22 := ⟨by decide +kernel, rfl⟩
theorem d_X11_spy_22 : gD cX11_spy 22 (.ifnull 20) 3 25 ∧ ((22 : Nat) : Int) + 20 = ((42 : Nat) : Int) := ⟨⟨by decide +kernel, rfl⟩, by decide⟩
theorem d_X11_spy_25 : gD cX11_spy 25 (.aload 5) 2 27 := ⟨by decide +kernel, rfl⟩
theorem d_X11_spy_27 : gD cX11_spy 27 (.ifnull 15) 3 30 ∧ ((27 : Nat) : Int) + 15 = ((42 : Nat) : Int) := ⟨⟨by decide +kernel, rfl⟩, by decide⟩
theorem d_X11_spy_30 : gD cX11_spy 30 (.aload 4) 2 32 := ⟨by decide +kernel, rfl⟩
theorem d_X11_spy_32 : gD cX11_spy 32 (.getfield 115) 3 35 := ⟨by decide +kernel, rfl⟩
theorem d_X11_spy_35 : gD cX11_spy 35 (.iload_n 3) 1 36 := ⟨by decide +kernel, rfl⟩
theorem d_X11_spy_36 : gD cX11_spy 36 (.invokevirtual 124) 3 39 := ⟨by decide +kernel, rfl⟩
theorem d_X11_spy_39 : gD cX11_spy 39 (.ifCond .ne 5) 3 42 ∧ ((39 : Nat) : Int) + 5 = ((44 : Nat) : Int) := ⟨⟨by decide +kernel, rfl⟩, by decide⟩
theorem d_X11_spy_42 : gD cX11_spy 42 (.iconst (-1)) 1 43 := ⟨by decide +kernel, rfl⟩
theorem d_X11_spy_43 : gD cX11_spy 43 (.ireturn) 1 44 := ⟨by decide +kernel, rfl⟩
theorem d_X11_spy_44 : gD cX11_spy 44 (.iconst 0) 1 45 := ⟨by decide +kernel, rfl⟩
theorem d_X11_spy_45 : gD cX11_spy 45 (.istore 6) 2 47 := ⟨by decide +kernel, rfl⟩
theorem d_X11_spy_47 : gD cX11_spy 47 (.iconst 0) 1 48 := ⟨by decide +kernel, rfl⟩
theorem d_X11_spy_48 : gD cX11_spy 48 (.istore 7) 2 50 := ⟨by decide +kernel, rfl⟩
theorem d_X11_spy_50 : gD cX11_spy 50 (.iload 7) 2 52 := ⟨by decide +kernel, rfl⟩
theorem d_X11_spy_52 : gD cX11_spy 52 (.bipush 30) 2 54 := ⟨by decide +kernel, rfl⟩
theorem d_X11_spy_54 : gD cX11_spy 54 (.if_icmp .gt 31) 3 57 ∧ ((54 : Nat) : Int) + 31 = ((85 : Nat) : Int) := ⟨⟨by decide +kernel, rfl⟩, by decide⟩
theorem d_X11_spy_57 : gD cX11_spy 57 (.aload 5) 2 59 := ⟨by decide +kernel, rfl⟩
theorem d_X11_spy_59 : gD cX11_spy 59 (.aload 4) 2 61 := ⟨by decide +kernel, rfl⟩
theorem d_X11_spy_61 : gD cX11_spy 61 (.iload_n 3) 1 62 := ⟨by decide +kernel, rfl⟩
theorem d_X11_spy_62 : gD cX11_spy 62 (.iload 7) 2 64 := ⟨by decide +kernel, rfl⟩
theorem d_X11_spy_64 : gD cX11_spy 64 (.invokevirtual 221) 3 67 := ⟨by decide +kernel, rfl⟩
theorem d_X11_spy_67 : gD cX11_spy 67 (.ifCond .eq 12) 3 70 ∧ ((67 : Nat) : Int) + 12 = ((79 : Nat) : Int) := ⟨⟨by decide +kernel, rfl⟩, by decide⟩
theorem d_X11_spy_70 : gD cX11_spy 70 (.iload 6) 2 72 := ⟨by decide +kernel, rfl⟩
theorem d_X11_spy_72 : gD cX11_spy 72 (.iconst 1) 1 73 := ⟨by decide +kernel, rfl⟩
theorem d_X11_spy_73 : gD cX11_spy 73 (.iload 7) 2 75 := ⟨by decide +kernel, rfl⟩
theorem d_X11_spy_75 : gD cX11_spy 75 (.ishl) 1 76 := ⟨by decide +kernel, rfl⟩
theorem d_X11_spy_76 : gD cX11_spy 76 (.ior) 1 77 := ⟨by decide +kernel, rfl⟩
theorem d_X11_spy_77 : gD cX11_spy 77 (.istore 6) 2 79 := ⟨by decide +kernel, rfl⟩
theorem d_X11_spy_79 : gD cX11_spy 79 (.iinc 7 1) 3 82 := ⟨by decide +kernel, rfl⟩
theorem d_X11_spy_82 : decode cX11_spy 82 = .ok (.goto (-32), 3) ∧ ((82 : Nat) : Int) + (-32) = ((50 : Nat) : Int) := ⟨by decide +kernel, by decide⟩
theorem d_X11_spy_85 : gD cX11_spy 85 (.iload 6) 2 87 := ⟨by decide +kernel, rfl⟩
theorem d_X11_spy_87 : gD cX11_spy 87 (.ireturn) 1 88 := ⟨by decide +kernel, rfl⟩
abbrev rm_X11_spy : Room := { frames := 4, cells := 0, slots := 0, locals := 92 }
set_option maxRecDepth 20000 in
theorem w_X11_spy_79 {Γ : GC} {E : GE} (hO : gOk Γ E cX11_spy RX11 8 rm_X11_spy (some .int) "spy") (o : Nat) (S : GS) {k50 : (Int32 → Option Nat → Option Nat → Int32 → Int32 → Option Int32)} (hk50 : ∀ (z3 : Int32) (z4 : Option Nat) (z5 : Option Nat) (z6 : Int32) (z7 : Int32), Go Γ E (gBpI Γ E S) 8 (0, 0) 50 S [(0, vA (some o)), (3, vI z3), (4, vA z4), (5, vA z5), (6, vI z6), (7, vI z7)] [] (k50 z3 z4 z5 z6 z7)) (x3 : Int32) (x4 : Option Nat) (x5 : Option Nat) (x6 : Int32) (x7 : Int32) : Go Γ E (gBpI Γ E S) 8 (0, 0) 79 S [(0, vA (some o)), (3, vI x3), (4, vA x4), (5, vA x5), (6, vI x6), (7, vI x7)] [] (f_X11_spy_79 k50 o S x3 x4 x5 x6 x7) := by
  unfold f_X11_spy_79
  refine g_iinc (lv' := [(7, vI (x7 + 1)), (0, vA (some o)), (3, vI x3), (4, vA x4), (5, vA x5), (6, vI x6)]) hO 1 d_X11_spy_79 (by decide) 5 rfl (by decide) rfl ?_
  refine g_goto (tgt := 50) hO d_X11_spy_82.1 d_X11_spy_82.2 ?_
  exact g_sub [1, 2, 3, 4, 5, 0] rfl (hk50 _ _ _ _ _)
set_option maxRecDepth 20000 in
theorem w_X11_spy_50 {Γ : GC} {E : GE} (hO : gOk Γ E cX11_spy RX11 8 rm_X11_spy (some .int) "spy") (o : Nat) (S : GS) : ∀ (n : Nat) (x3 : Int32) (x4 : Option Nat) (x5 : Option Nat) (x6 : Int32) (x7 : Int32), Go Γ E (gBpI Γ E S) 8 (0, 0) 50 S [(0, vA (some o)), (3, vI x3), (4, vA x4), (5, vA x5), (6, vI x6), (7, vI x7)] [] (f_X11_spy_50 o S n x3 x4 x5 x6 x7) := by
  intro n
  induction n with
  | zero =>
    intro x3 x4 x5 x6 x7
    exact g_none
  | succ n ih =>
    intro x3 x4 x5 x6 x7
    rw [f_X11_spy_50]
    refine g_iload hO d_X11_spy_50 5 rfl ?_
    refine g_bipush hO 30 d_X11_spy_52 (by decide) ?_
    refine g_ic_gt (tgt := 85) hO d_X11_spy_54.1 d_X11_spy_54.2 (fun _ => ?_) (fun _ => ?_)
    · skip
      refine g_iload hO d_X11_spy_85 4 rfl ?_
      exact g_ret hO rfl rfl ⟨Nat.le_of_ble_eq_true rfl, Nat.le_of_ble_eq_true rfl⟩ rfl rfl d_X11_spy_87.1
    · skip
      refine g_aload hO d_X11_spy_57 3 rfl ?_
      refine g_aload hO d_X11_spy_59 2 rfl ?_
      refine g_iload_n hO d_X11_spy_61 (by rfl) 1 rfl ?_
      refine g_iload hO d_X11_spy_62 5 rfl ?_
      refine k_virtIp hO cl_X8 mm_X8_shotsAgree lkV_X11_221 ⟨⟨Nat.le_of_ble_eq_true rfl, Nat.le_of_ble_eq_true rfl⟩, Nat.le_of_ble_eq_true rfl, Nat.le_of_ble_eq_true rfl⟩ (kn' := (0, 0)) rfl (As := [vA x4, vI x3, vI x7]) rfl (Nat.le_of_ble_eq_true rfl) (fun o' _ => t_X8_shotsAgree Γ.2.1 E o' x4 x3 x7 S) d_X11_spy_64 rfl (fun v1 => ?_)
      refine g_if_eq (tgt := 79) hO d_X11_spy_67.1 d_X11_spy_67.2 (fun _ => ?_) (fun _ => ?_)
      · skip
        exact g_sub [0, 1, 2, 3, 4, 5] rfl (w_X11_spy_79 hO o _ ih _ _ _ _ _)
      · skip
        refine g_iload hO d_X11_spy_70 4 rfl ?_
        refine g_iconst hO 1 d_X11_spy_72 (by decide) ?_
        refine g_iload hO d_X11_spy_73 5 rfl ?_
        refine g_ishl hO d_X11_spy_75 ?_
        refine g_ior hO d_X11_spy_76 ?_
        refine g_istore (lv' := [(6, vI (x6 ||| (jshl 1 x7))), (0, vA (some o)), (3, vI x3), (4, vA x4), (5, vA x5), (7, vI x7)]) hO d_X11_spy_77 (by decide) rfl ?_
        exact g_sub [1, 2, 3, 4, 0, 5] rfl (w_X11_spy_79 hO o _ ih _ _ _ _ _)
set_option maxRecDepth 20000 in
theorem w_X11_spy {Γ : GC} {E : GE} (hO : gOk Γ E cX11_spy RX11 8 rm_X11_spy (some .int) "spy") (o : Nat) (x1 : Int32) (x2 : Int32) (x3 : Int32) (S : GS) : Go Γ E (gBpI Γ E S) 8 (0, 0) 0 S [(0, vA (some o)), (1, vI x1), (2, vI x2), (3, vI x3)] [] (f_X11_spy o x1 x2 x3 S) := by
  unfold f_X11_spy
  refine g_aload_n hO d_X11_spy_0 (by rfl) 0 rfl ?_
  refine h_getR hO cl_X11 0 rfl wf_X11_10 d_X11_spy_1 (fun v1 => ?_)
  refine g_iload_n hO d_X11_spy_4 (by rfl) 1 rfl ?_
  refine k_virtAp hO cl_X9 mm_X9_courtAt lkV_X11_105 ⟨⟨Nat.le_of_ble_eq_true rfl, Nat.le_of_ble_eq_true rfl⟩, Nat.le_of_ble_eq_true rfl, Nat.le_of_ble_eq_true rfl⟩ (kn' := (0, 0)) rfl (As := [vI x1]) rfl (Nat.le_of_ble_eq_true rfl) (fun o' _ => t_X9_courtAt Γ.2.1 E o' x1 S) d_X11_spy_5 rfl (fun v2 => ?_)
  refine g_astore (lv' := [(4, vA v2), (0, vA (some o)), (1, vI x1), (2, vI x2), (3, vI x3)]) hO d_X11_spy_8 (by decide) rfl ?_
  refine g_aload_n hO d_X11_spy_10 (by rfl) 1 rfl ?_
  refine h_getR hO cl_X11 0 rfl wf_X11_10 d_X11_spy_11 (fun v4 => ?_)
  refine g_iload_n hO d_X11_spy_14 (by rfl) 3 rfl ?_
  refine k_virtAp hO cl_X9 mm_X9_sightAt lkV_X11_200 ⟨⟨Nat.le_of_ble_eq_true rfl, Nat.le_of_ble_eq_true rfl⟩, Nat.le_of_ble_eq_true rfl, Nat.le_of_ble_eq_true rfl⟩ (kn' := (0, 0)) rfl (As := [vI x2]) rfl (Nat.le_of_ble_eq_true rfl) (fun o' _ => t_X9_sightAt Γ.2.1 E o' x2 S) d_X11_spy_15 rfl (fun v5 => ?_)
  refine g_astore (lv' := [(5, vA v5), (4, vA v2), (0, vA (some o)), (1, vI x1), (2, vI x2), (3, vI x3)]) hO d_X11_spy_18 (by decide) rfl ?_
  refine g_aload hO d_X11_spy_20 1 rfl ?_
  refine g_ifnull (tgt := 42) hO d_X11_spy_22.1 d_X11_spy_22.2 ?_ ?_
  · skip
    refine g_iconst hO (-1) d_X11_spy_42 (by decide) ?_
    exact g_ret hO rfl rfl ⟨Nat.le_of_ble_eq_true rfl, Nat.le_of_ble_eq_true rfl⟩ rfl rfl d_X11_spy_43.1
  · skip
    refine g_aload hO d_X11_spy_25 0 rfl ?_
    refine g_ifnull (tgt := 42) hO d_X11_spy_27.1 d_X11_spy_27.2 ?_ ?_
    · skip
      refine g_iconst hO (-1) d_X11_spy_42 (by decide) ?_
      exact g_ret hO rfl rfl ⟨Nat.le_of_ble_eq_true rfl, Nat.le_of_ble_eq_true rfl⟩ rfl rfl d_X11_spy_43.1
    · skip
      refine g_aload hO d_X11_spy_30 1 rfl ?_
      refine h_getR hO cl_X0 1 rfl wf_X11_115 d_X11_spy_32 (fun v7 => ?_)
      refine g_iload_n hO d_X11_spy_35 (by rfl) 5 rfl ?_
      refine k_virtIp hO cl_X7 mm_X7_has lkV_X11_124 ⟨⟨Nat.le_of_ble_eq_true rfl, Nat.le_of_ble_eq_true rfl⟩, Nat.le_of_ble_eq_true rfl, Nat.le_of_ble_eq_true rfl⟩ (kn' := (0, 0)) rfl (As := [vI x3]) rfl (Nat.le_of_ble_eq_true rfl) (fun o' _ => t_X7_has Γ.2.1 E o' x3 S) d_X11_spy_36 rfl (fun v8 => ?_)
      refine g_if_ne (tgt := 44) hO d_X11_spy_39.1 d_X11_spy_39.2 (fun _ => ?_) (fun _ => ?_)
      · skip
        refine g_iconst hO (-1) d_X11_spy_42 (by decide) ?_
        exact g_ret hO rfl rfl ⟨Nat.le_of_ble_eq_true rfl, Nat.le_of_ble_eq_true rfl⟩ rfl rfl d_X11_spy_43.1
      · skip
        refine g_iconst hO 0 d_X11_spy_44 (by decide) ?_
        refine g_istore (lv' := [(6, vI 0), (5, vA v5), (4, vA v2), (0, vA (some o)), (1, vI x1), (2, vI x2), (3, vI x3)]) hO d_X11_spy_45 (by decide) rfl ?_
        refine g_iconst hO 0 d_X11_spy_47 (by decide) ?_
        refine g_istore (lv' := [(7, vI 0), (6, vI 0), (5, vA v5), (4, vA v2), (0, vA (some o)), (1, vI x1), (2, vI x2), (3, vI x3)]) hO d_X11_spy_48 (by decide) rfl ?_
        exact g_sub [4, 7, 3, 2, 1, 0] rfl (w_X11_spy_50 hO o _ _ _ _ _ _ _)
theorem t_X11_spy (l : Launch) (E : GE) (o : Nat) (x1 : Int32) (x2 : Int32) (x3 : Int32) (S : GS) : ∀ a, f_X11_spy o x1 x2 x3 S = some a → Ct l E yX11_spy cX11_spy 8 (some .int) rm_X11_spy [vA (some o), vI x1, vI x2, vI x3] S (some (vI a)) S :=
  Ct_of (val := fun b => some (vI b)) (nxt := fun _ => S) (by decide) (Nat.le_of_ble_eq_true rfl) (fun Γ hl hO => w_X11_spy hO o x1 x2 x3 S)
theorem d_X11_pawn_0 : gD cX11_pawn 0 (.aload_n 0) 1 1 := ⟨by decide +kernel, rfl⟩
theorem d_X11_pawn_1 : gD cX11_pawn 1 (.getfield 10) 3 4 := ⟨by decide +kernel, rfl⟩
theorem d_X11_pawn_4 : gD cX11_pawn 4 (.iconst 4) 1 5 := ⟨by decide +kernel, rfl⟩
theorem d_X11_pawn_5 : gD cX11_pawn 5 (.iload_n 1) 1 6 := ⟨by decide +kernel, rfl⟩
theorem d_X11_pawn_6 : gD cX11_pawn 6 (.invokevirtual 135) 3 9 := ⟨by decide +kernel, rfl⟩
theorem d_X11_pawn_9 : gD cX11_pawn 9 (.iload_n 2) 1 10 := ⟨by decide +kernel, rfl⟩
theorem d_X11_pawn_10 : gD cX11_pawn 10 (.iload_n 3) 1 11 := ⟨by decide +kernel, rfl⟩
theorem d_X11_pawn_11 : gD cX11_pawn 11 (.invokestatic 139) 3 14 := ⟨by decide +kernel, rfl⟩
theorem d_X11_pawn_14 : gD cX11_pawn 14 (.ireturn) 1 15 := ⟨by decide +kernel, rfl⟩
abbrev rm_X11_pawn : Room := { frames := 2, cells := 0, slots := 0, locals := 44 }
set_option maxRecDepth 20000 in
theorem w_X11_pawn {Γ : GC} {E : GE} (hO : gOk Γ E cX11_pawn RX11 4 rm_X11_pawn (some .int) "pawn") (o : Nat) (x1 : Int32) (x2 : Int32) (x3 : Int32) (S : GS) : Go Γ E (gBpI Γ E S) 4 (0, 0) 0 S [(0, vA (some o)), (1, vI x1), (2, vI x2), (3, vI x3)] [] (f_X11_pawn o x1 x2 x3 S) := by
  unfold f_X11_pawn
  refine g_aload_n hO d_X11_pawn_0 (by rfl) 0 rfl ?_
  refine h_getR hO cl_X11 0 rfl wf_X11_10 d_X11_pawn_1 (fun v1 => ?_)
  refine g_iconst hO 4 d_X11_pawn_4 (by decide) ?_
  refine g_iload_n hO d_X11_pawn_5 (by rfl) 1 rfl ?_
  refine k_virtAp hO cl_X9 mm_X9_rowsAt lkV_X11_135 ⟨⟨Nat.le_of_ble_eq_true rfl, Nat.le_of_ble_eq_true rfl⟩, Nat.le_of_ble_eq_true rfl, Nat.le_of_ble_eq_true rfl⟩ (kn' := (0, 0)) rfl (As := [vI 4, vI x1]) rfl (Nat.le_of_ble_eq_true rfl) (fun o' _ => t_X9_rowsAt Γ.2.1 E o' 4 x1 S) d_X11_pawn_6 rfl (fun v2 => ?_)
  refine g_iload_n hO d_X11_pawn_9 (by rfl) 2 rfl ?_
  refine g_iload_n hO d_X11_pawn_10 (by rfl) 3 rfl ?_
  refine k_statIp hO mm_X11_rowCell lkS_X11_139 ⟨⟨Nat.le_of_ble_eq_true rfl, Nat.le_of_ble_eq_true rfl⟩, Nat.le_of_ble_eq_true rfl, Nat.le_of_ble_eq_true rfl⟩ (kn' := (0, 0)) rfl (As := [vA v2, vI x2, vI x3]) rfl (Nat.le_of_ble_eq_true rfl) (t_X11_rowCell Γ.2.1 E v2 x2 x3 S) d_X11_pawn_11 rfl (fun v4 => ?_)
  exact g_ret hO rfl rfl ⟨Nat.le_of_ble_eq_true rfl, Nat.le_of_ble_eq_true rfl⟩ rfl rfl d_X11_pawn_14.1
theorem t_X11_pawn (l : Launch) (E : GE) (o : Nat) (x1 : Int32) (x2 : Int32) (x3 : Int32) (S : GS) : ∀ a, f_X11_pawn o x1 x2 x3 S = some a → Ct l E yX11_pawn cX11_pawn 4 (some .int) rm_X11_pawn [vA (some o), vI x1, vI x2, vI x3] S (some (vI a)) S :=
  Ct_of (val := fun b => some (vI b)) (nxt := fun _ => S) (by decide) (Nat.le_of_ble_eq_true rfl) (fun Γ hl hO => w_X11_pawn hO o x1 x2 x3 S)
theorem d_X11_net_0 : gD cX11_net 0 (.aload_n 0) 1 1 := ⟨by decide +kernel, rfl⟩
theorem d_X11_net_1 : gD cX11_net 1 (.getfield 10) 3 4 := ⟨by decide +kernel, rfl⟩
theorem d_X11_net_4 : gD cX11_net 4 (.iconst 4) 1 5 := ⟨by decide +kernel, rfl⟩
theorem d_X11_net_5 : gD cX11_net 5 (.iload_n 1) 1 6 := ⟨by decide +kernel, rfl⟩
theorem d_X11_net_6 : gD cX11_net 6 (.invokevirtual 135) 3 9 := ⟨by decide +kernel, rfl⟩
theorem d_X11_net_9 : gD cX11_net 9 (.astore_n 3) 1 10 := ⟨by decide +kernel, rfl⟩
theorem d_X11_net_10 : gD cX11_net 10 (.aload_n 3) 1 11 := ⟨by decide +kernel, rfl⟩
theorem d_X11_net_11 : gD cX11_net 11 (.ifnull 13) 3 14 ∧ ((11 : Nat) : Int) + 13 = ((24 : Nat) : Int) := ⟨⟨by decide +kernel, rfl⟩, by decide⟩
theorem d_X11_net_14 : gD cX11_net 14 (.iload_n 2) 1 15 := ⟨by decide +kernel, rfl⟩
theorem d_X11_net_15 : gD cX11_net 15 (.ifCond .lt 9) 3 18 ∧ ((15 : Nat) : Int) + 9 = ((24 : Nat) : Int) := ⟨⟨by decide +kernel, rfl⟩, by decide⟩
theorem d_X11_net_18 : gD cX11_net 18 (.iload_n 2) 1 19 := ⟨by decide +kernel, rfl⟩
theorem d_X11_net_19 : gD cX11_net 19 (.bipush 8) 2 21 := ⟨by decide +kernel, rfl⟩
theorem d_X11_net_21 : gD cX11_net 21 (.if_icmp .lt 7) 3 24 ∧ ((21 : Nat) : Int) + 7 = ((28 : Nat) : Int) := ⟨⟨by decide +kernel, rfl⟩, by decide⟩
theorem d_X11_net_24 : gD cX11_net 24 (.sipush (-10000)) 3 27 := ⟨by decide +kernel, rfl⟩
theorem d_X11_net_27 : gD cX11_net 27 (.ireturn) 1 28 := ⟨by decide +kernel, rfl⟩
theorem d_X11_net_28 : gD cX11_net 28 (.aload_n 3) 1 29 := ⟨by decide +kernel, rfl⟩
theorem d_X11_net_29 : gD cX11_net 29 (.iload_n 2) 1 30 := ⟨by decide +kernel, rfl⟩
theorem d_X11_net_30 : gD cX11_net 30 (.invokestatic 225) 3 33 := ⟨by decide +kernel, rfl⟩
theorem d_X11_net_33 : gD cX11_net 33 (.ireturn) 1 34 := ⟨by decide +kernel, rfl⟩
abbrev rm_X11_net : Room := { frames := 2, cells := 0, slots := 0, locals := 45 }
set_option maxRecDepth 20000 in
theorem w_X11_net {Γ : GC} {E : GE} (hO : gOk Γ E cX11_net RX11 4 rm_X11_net (some .int) "net") (o : Nat) (x1 : Int32) (x2 : Int32) (S : GS) : Go Γ E (gBpI Γ E S) 4 (0, 0) 0 S [(0, vA (some o)), (1, vI x1), (2, vI x2)] [] (f_X11_net o x1 x2 S) := by
  unfold f_X11_net
  refine g_aload_n hO d_X11_net_0 (by rfl) 0 rfl ?_
  refine h_getR hO cl_X11 0 rfl wf_X11_10 d_X11_net_1 (fun v1 => ?_)
  refine g_iconst hO 4 d_X11_net_4 (by decide) ?_
  refine g_iload_n hO d_X11_net_5 (by rfl) 1 rfl ?_
  refine k_virtAp hO cl_X9 mm_X9_rowsAt lkV_X11_135 ⟨⟨Nat.le_of_ble_eq_true rfl, Nat.le_of_ble_eq_true rfl⟩, Nat.le_of_ble_eq_true rfl, Nat.le_of_ble_eq_true rfl⟩ (kn' := (0, 0)) rfl (As := [vI 4, vI x1]) rfl (Nat.le_of_ble_eq_true rfl) (fun o' _ => t_X9_rowsAt Γ.2.1 E o' 4 x1 S) d_X11_net_6 rfl (fun v2 => ?_)
  refine g_astore_n (lv' := [(3, vA v2), (0, vA (some o)), (1, vI x1), (2, vI x2)]) hO d_X11_net_9 (by rfl) (by decide) rfl ?_
  refine g_aload_n hO d_X11_net_10 (by rfl) 0 rfl ?_
  refine g_ifnull (tgt := 24) hO d_X11_net_11.1 d_X11_net_11.2 ?_ ?_
  · skip
    refine g_sipush hO (-10000) d_X11_net_24 (by decide) ?_
    exact g_ret hO rfl rfl ⟨Nat.le_of_ble_eq_true rfl, Nat.le_of_ble_eq_true rfl⟩ rfl rfl d_X11_net_27.1
  · skip
    refine g_iload_n hO d_X11_net_14 (by rfl) 3 rfl ?_
    refine g_if_lt (tgt := 24) hO d_X11_net_15.1 d_X11_net_15.2 (fun _ => ?_) (fun _ => ?_)
    · skip
      refine g_sipush hO (-10000) d_X11_net_24 (by decide) ?_
      exact g_ret hO rfl rfl ⟨Nat.le_of_ble_eq_true rfl, Nat.le_of_ble_eq_true rfl⟩ rfl rfl d_X11_net_27.1
    · skip
      refine g_iload_n hO d_X11_net_18 (by rfl) 3 rfl ?_
      refine g_bipush hO 8 d_X11_net_19 (by decide) ?_
      refine g_ic_lt (tgt := 28) hO d_X11_net_21.1 d_X11_net_21.2 (fun _ => ?_) (fun _ => ?_)
      · skip
        refine g_aload_n hO d_X11_net_28 (by rfl) 0 rfl ?_
        refine g_iload_n hO d_X11_net_29 (by rfl) 3 rfl ?_
        refine k_statIp hO mm_X1_netOf lkS_X11_225 ⟨⟨Nat.le_of_ble_eq_true rfl, Nat.le_of_ble_eq_true rfl⟩, Nat.le_of_ble_eq_true rfl, Nat.le_of_ble_eq_true rfl⟩ (kn' := (0, 0)) rfl (As := [vA v2, vI x2]) rfl (Nat.le_of_ble_eq_true rfl) (t_X1_netOf Γ.2.1 E v2 x2 S) d_X11_net_30 rfl (fun v4 => ?_)
        exact g_ret hO rfl rfl ⟨Nat.le_of_ble_eq_true rfl, Nat.le_of_ble_eq_true rfl⟩ rfl rfl d_X11_net_33.1
      · skip
        refine g_sipush hO (-10000) d_X11_net_24 (by decide) ?_
        exact g_ret hO rfl rfl ⟨Nat.le_of_ble_eq_true rfl, Nat.le_of_ble_eq_true rfl⟩ rfl rfl d_X11_net_27.1
theorem t_X11_net (l : Launch) (E : GE) (o : Nat) (x1 : Int32) (x2 : Int32) (S : GS) : ∀ a, f_X11_net o x1 x2 S = some a → Ct l E yX11_net cX11_net 4 (some .int) rm_X11_net [vA (some o), vI x1, vI x2] S (some (vI a)) S :=
  Ct_of (val := fun b => some (vI b)) (nxt := fun _ => S) (by decide) (Nat.le_of_ble_eq_true rfl) (fun Γ hl hO => w_X11_net hO o x1 x2 S)
theorem d_X11_pays_0 : gD cX11_pays 0 (.aload_n 0) 1 1 := ⟨by decide +kernel, rfl⟩
theorem d_X11_pays_1 : gD cX11_pays 1 (.getfield 10) 3 4 := ⟨by decide +kernel, rfl⟩
theorem d_X11_pays_4 : gD cX11_pays 4 (.iconst 4) 1 5 := ⟨by decide +kernel, rfl⟩
theorem d_X11_pays_5 : gD cX11_pays 5 (.iload_n 1) 1 6 := ⟨by decide +kernel, rfl⟩
theorem d_X11_pays_6 : gD cX11_pays 6 (.invokevirtual 135) 3 9 := ⟨by decide +kernel, rfl⟩
theorem d_X11_pays_9 : gD cX11_pays 9 (.astore_n 3) 1 10 := ⟨by decide +kernel, rfl⟩
theorem d_X11_pays_10 : gD cX11_pays 10 (.aload_n 3) 1 11 := ⟨by decide +kernel, rfl⟩
theorem d_X11_pays_11 : gD cX11_pays 11 (.ifnonnull 5) 3 14 ∧ ((11 : Nat) : Int) + 5 = ((16 : Nat) : Int) := ⟨⟨by decide +kernel, rfl⟩, by decide⟩
theorem d_X11_pays_14 : gD cX11_pays 14 (.iconst (-1)) 1 15 := ⟨by decide +kernel, rfl⟩
theorem d_X11_pays_15 : gD cX11_pays 15 (.ireturn) 1 16 := ⟨by decide +kernel, rfl⟩
theorem d_X11_pays_16 : gD cX11_pays 16 (.iload_n 2) 1 17 := ⟨by decide +kernel, rfl⟩
theorem d_X11_pays_17 : gD cX11_pays 17 (.ifCond .eq 10) 3 20 ∧ ((17 : Nat) : Int) + 10 = ((27 : Nat) : Int) := ⟨⟨by decide +kernel, rfl⟩, by decide⟩
theorem d_X11_pays_20 : gD cX11_pays 20 (.aload_n 3) 1 21 := ⟨by decide +kernel, rfl⟩
theorem d_X11_pays_21 : gD cX11_pays 21 (.invokestatic 229) 3 24 := ⟨by decide +kernel, rfl⟩
theorem d_X11_pays_24 : decode cX11_pays 24 = .ok (.goto 11, 3) ∧ ((24 : Nat) : Int) + 11 = ((35 : Nat) : Int) := ⟨by decide +kernel, by decide⟩
theorem d_X11_pays_27 : gD cX11_pays 27 (.aload_n 0) 1 28 := ⟨by decide +kernel, rfl⟩
theorem d_X11_pays_28 : gD cX11_pays 28 (.getfield 62) 3 31 := ⟨by decide +kernel, rfl⟩
theorem d_X11_pays_31 : gD cX11_pays 31 (.aload_n 3) 1 32 := ⟨by decide +kernel, rfl⟩
theorem d_X11_pays_32 : gD cX11_pays 32 (.invokevirtual 233) 3 35 := ⟨by decide +kernel, rfl⟩
theorem d_X11_pays_35 : gD cX11_pays 35 (.ireturn) 1 36 := ⟨by decide +kernel, rfl⟩
abbrev rm_X11_pays : Room := { frames := 3, cells := 0, slots := 0, locals := 71 }
set_option maxRecDepth 20000 in
theorem w_X11_pays {Γ : GC} {E : GE} (hO : gOk Γ E cX11_pays RX11 4 rm_X11_pays (some .int) "pays") (o : Nat) (x1 : Int32) (x2 : Int32) (S : GS) : Go Γ E (gBsI Γ E) 4 (0, 0) 0 S [(0, vA (some o)), (1, vI x1), (2, vI x2)] [] (f_X11_pays o x1 x2 S) := by
  unfold f_X11_pays
  refine g_aload_n hO d_X11_pays_0 (by rfl) 0 rfl ?_
  refine h_getR hO cl_X11 0 rfl wf_X11_10 d_X11_pays_1 (fun v1 => ?_)
  refine g_iconst hO 4 d_X11_pays_4 (by decide) ?_
  refine g_iload_n hO d_X11_pays_5 (by rfl) 1 rfl ?_
  refine k_virtAp hO cl_X9 mm_X9_rowsAt lkV_X11_135 ⟨⟨Nat.le_of_ble_eq_true rfl, Nat.le_of_ble_eq_true rfl⟩, Nat.le_of_ble_eq_true rfl, Nat.le_of_ble_eq_true rfl⟩ (kn' := (0, 0)) rfl (As := [vI 4, vI x1]) rfl (Nat.le_of_ble_eq_true rfl) (fun o' _ => t_X9_rowsAt Γ.2.1 E o' 4 x1 S) d_X11_pays_6 rfl (fun v2 => ?_)
  refine g_astore_n (lv' := [(3, vA v2), (0, vA (some o)), (1, vI x1), (2, vI x2)]) hO d_X11_pays_9 (by rfl) (by decide) rfl ?_
  refine g_aload_n hO d_X11_pays_10 (by rfl) 0 rfl ?_
  refine g_ifnonnull (tgt := 16) hO d_X11_pays_11.1 d_X11_pays_11.2 ?_ ?_
  · skip
    refine g_iconst hO (-1) d_X11_pays_14 (by decide) ?_
    exact g_ret hO rfl rfl ⟨Nat.le_of_ble_eq_true rfl, Nat.le_of_ble_eq_true rfl⟩ rfl rfl d_X11_pays_15.1
  · skip
    refine g_iload_n hO d_X11_pays_16 (by rfl) 3 rfl ?_
    refine g_if_eq (tgt := 27) hO d_X11_pays_17.1 d_X11_pays_17.2 (fun _ => ?_) (fun _ => ?_)
    · skip
      refine g_aload_n hO d_X11_pays_27 (by rfl) 1 rfl ?_
      refine h_getR hO cl_X11 8 rfl wf_X11_62 d_X11_pays_28 (fun v4 => ?_)
      refine g_aload_n hO d_X11_pays_31 (by rfl) 0 rfl ?_
      refine k_virtIs hO cl_X1 mm_X1_fewestPayments lkV_X11_233 ⟨⟨Nat.le_of_ble_eq_true rfl, Nat.le_of_ble_eq_true rfl⟩, Nat.le_of_ble_eq_true rfl, Nat.le_of_ble_eq_true rfl⟩ (kn' := (0, 0)) rfl (As := [vA v2]) rfl (Nat.le_of_ble_eq_true rfl) (fun o' _ => t_X1_fewestPayments Γ.2.1 E o' v2 S) d_X11_pays_32 rfl (fun v5 S6 => ?_)
      exact g_ret hO rfl rfl ⟨Nat.le_of_ble_eq_true rfl, Nat.le_of_ble_eq_true rfl⟩ rfl rfl d_X11_pays_35.1
    · skip
      refine g_aload_n hO d_X11_pays_20 (by rfl) 0 rfl ?_
      refine k_statIp hO mm_X1_chainOf lkS_X11_229 ⟨⟨Nat.le_of_ble_eq_true rfl, Nat.le_of_ble_eq_true rfl⟩, Nat.le_of_ble_eq_true rfl, Nat.le_of_ble_eq_true rfl⟩ (kn' := (0, 0)) rfl (As := [vA v2]) rfl (Nat.le_of_ble_eq_true rfl) (t_X1_chainOf Γ.2.1 E v2 S) d_X11_pays_21 rfl (fun v7 => ?_)
      refine g_goto (tgt := 35) hO d_X11_pays_24.1 d_X11_pays_24.2 ?_
      exact g_ret hO rfl rfl ⟨Nat.le_of_ble_eq_true rfl, Nat.le_of_ble_eq_true rfl⟩ rfl rfl d_X11_pays_35.1
theorem t_X11_pays (l : Launch) (E : GE) (o : Nat) (x1 : Int32) (x2 : Int32) (S : GS) : ∀ a, f_X11_pays o x1 x2 S = some a → Ct l E yX11_pays cX11_pays 4 (some .int) rm_X11_pays [vA (some o), vI x1, vI x2] S (some (vI a.1)) a.2 :=
  Ct_of (val := fun (b : Int32 × GS) => some (vI b.1)) (nxt := fun (b : Int32 × GS) => b.2) (by decide) (Nat.le_of_ble_eq_true rfl) (fun Γ hl hO => w_X11_pays hO o x1 x2 S)
theorem d_X11_maid_0 : gD cX11_maid 0 (.aload_n 0) 1 1 := ⟨by decide +kernel, rfl⟩
theorem d_X11_maid_1 : gD cX11_maid 1 (.getfield 10) 3 4 := ⟨by decide +kernel, rfl⟩
theorem d_X11_maid_4 : gD cX11_maid 4 (.iconst 5) 1 5 := ⟨by decide +kernel, rfl⟩
theorem d_X11_maid_5 : gD cX11_maid 5 (.iload_n 1) 1 6 := ⟨by decide +kernel, rfl⟩
theorem d_X11_maid_6 : gD cX11_maid 6 (.invokevirtual 135) 3 9 := ⟨by decide +kernel, rfl⟩
theorem d_X11_maid_9 : gD cX11_maid 9 (.iload_n 2) 1 10 := ⟨by decide +kernel, rfl⟩
theorem d_X11_maid_10 : gD cX11_maid 10 (.iload_n 3) 1 11 := ⟨by decide +kernel, rfl⟩
theorem d_X11_maid_11 : gD cX11_maid 11 (.invokestatic 139) 3 14 := ⟨by decide +kernel, rfl⟩
theorem d_X11_maid_14 : gD cX11_maid 14 (.ireturn) 1 15 := ⟨by decide +kernel, rfl⟩
abbrev rm_X11_maid : Room := { frames := 2, cells := 0, slots := 0, locals := 44 }
set_option maxRecDepth 20000 in
theorem w_X11_maid {Γ : GC} {E : GE} (hO : gOk Γ E cX11_maid RX11 4 rm_X11_maid (some .int) "maid") (o : Nat) (x1 : Int32) (x2 : Int32) (x3 : Int32) (S : GS) : Go Γ E (gBpI Γ E S) 4 (0, 0) 0 S [(0, vA (some o)), (1, vI x1), (2, vI x2), (3, vI x3)] [] (f_X11_maid o x1 x2 x3 S) := by
  unfold f_X11_maid
  refine g_aload_n hO d_X11_maid_0 (by rfl) 0 rfl ?_
  refine h_getR hO cl_X11 0 rfl wf_X11_10 d_X11_maid_1 (fun v1 => ?_)
  refine g_iconst hO 5 d_X11_maid_4 (by decide) ?_
  refine g_iload_n hO d_X11_maid_5 (by rfl) 1 rfl ?_
  refine k_virtAp hO cl_X9 mm_X9_rowsAt lkV_X11_135 ⟨⟨Nat.le_of_ble_eq_true rfl, Nat.le_of_ble_eq_true rfl⟩, Nat.le_of_ble_eq_true rfl, Nat.le_of_ble_eq_true rfl⟩ (kn' := (0, 0)) rfl (As := [vI 5, vI x1]) rfl (Nat.le_of_ble_eq_true rfl) (fun o' _ => t_X9_rowsAt Γ.2.1 E o' 5 x1 S) d_X11_maid_6 rfl (fun v2 => ?_)
  refine g_iload_n hO d_X11_maid_9 (by rfl) 2 rfl ?_
  refine g_iload_n hO d_X11_maid_10 (by rfl) 3 rfl ?_
  refine k_statIp hO mm_X11_rowCell lkS_X11_139 ⟨⟨Nat.le_of_ble_eq_true rfl, Nat.le_of_ble_eq_true rfl⟩, Nat.le_of_ble_eq_true rfl, Nat.le_of_ble_eq_true rfl⟩ (kn' := (0, 0)) rfl (As := [vA v2, vI x2, vI x3]) rfl (Nat.le_of_ble_eq_true rfl) (t_X11_rowCell Γ.2.1 E v2 x2 x3 S) d_X11_maid_11 rfl (fun v4 => ?_)
  exact g_ret hO rfl rfl ⟨Nat.le_of_ble_eq_true rfl, Nat.le_of_ble_eq_true rfl⟩ rfl rfl d_X11_maid_14.1
theorem t_X11_maid (l : Launch) (E : GE) (o : Nat) (x1 : Int32) (x2 : Int32) (x3 : Int32) (S : GS) : ∀ a, f_X11_maid o x1 x2 x3 S = some a → Ct l E yX11_maid cX11_maid 4 (some .int) rm_X11_maid [vA (some o), vI x1, vI x2, vI x3] S (some (vI a)) S :=
  Ct_of (val := fun b => some (vI b)) (nxt := fun _ => S) (by decide) (Nat.le_of_ble_eq_true rfl) (fun Γ hl hO => w_X11_maid hO o x1 x2 x3 S)
