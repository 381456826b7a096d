theorem d_X12_properAt_0 : gD cX12_properAt 0 (.iconst (-1)) 1 1 := ⟨by decide +kernel, rfl⟩
theorem d_X12_properAt_1 : gD cX12_properAt 1 (.istore_n 2) 1 2 := ⟨by decide +kernel, rfl⟩
theorem d_X12_properAt_2 : gD cX12_properAt 2 (.iconst 0) 1 3 := ⟨by decide +kernel, rfl⟩
theorem d_X12_properAt_3 : gD cX12_properAt 3 (.istore_n 3) 1 4 := ⟨by decide +kernel, rfl⟩
theorem d_X12_properAt_4 : gD cX12_properAt 4 (.iload_n 3) 1 5 := ⟨by decide +kernel, rfl⟩
theorem d_X12_properAt_5 : gD cX12_properAt 5 (.aload_n 0) 1 6 := ⟨by decide +kernel, rfl⟩
theorem d_X12_properAt_6 : gD cX12_properAt 6 (.iconst 2) 1 7 := ⟨by decide +kernel, rfl⟩
theorem d_X12_properAt_7 : gD cX12_properAt 7 (.invokevirtual 287) 3 10 := ⟨by decide +kernel, rfl⟩
theorem d_X12_properAt_10 : gD cX12_properAt 10 (.if_icmp .ge 53) 3 13 ∧ ((10 : Nat) : Int) + 53 = ((63 : Nat) : Int) := ⟨⟨by decide +kernel, rfl⟩, by decide⟩
theorem d_X12_properAt_13 : gD cX12_properAt 13 (.aload_n 0) 1 14 := ⟨by decide +kernel, rfl⟩
theorem d_X12_properAt_14 : gD cX12_properAt 14 (.bipush 17) 2 16 := ⟨by decide +kernel, rfl⟩
theorem d_X12_properAt_16 : gD cX12_properAt 16 (.iconst 2) 1 17 := ⟨by decide +kernel, rfl⟩
theorem d_X12_properAt_17 : gD cX12_properAt 17 (.iload_n 3) 1 18 := ⟨by decide +kernel, rfl⟩
theorem d_X12_properAt_18 : gD cX12_properAt 18 (.imul) 1 19 := ⟨by decide +kernel, rfl⟩
theorem d_X12_properAt_19 : gD cX12_properAt 19 (.iadd) 1 20 := ⟨by decide +kernel, rfl⟩
theorem d_X12_properAt_20 : gD cX12_properAt 20 (.invokevirtual 287) 3 23 := ⟨by decide +kernel, rfl⟩
theorem d_X12_properAt_23 : gD cX12_properAt 23 (.istore 4) 2 25 := ⟨by decide +kernel, rfl⟩
theorem d_X12_properAt_25 : gD cX12_properAt 25 (.iload 4) 2 27 := ⟨by decide +kernel, rfl⟩
theorem d_X12_properAt_27 : gD cX12_properAt 27 (.iload_n 1) 1 28 := ⟨by decide +kernel, rfl⟩
theorem d_X12_properAt_28 : gD cX12_properAt 28 (.if_icmp .gt 27) 3 31 ∧ ((28 : Nat) : Int) + 27 = ((55 : Nat) : Int) := ⟨⟨by decide +kernel, rfl⟩, by decide⟩
theorem d_X12_properAt_31 : gD cX12_properAt 31 (.iload_n 2) 1 32 := ⟨by decide +kernel, rfl⟩
theorem d_X12_properAt_32 : gD cX12_properAt 32 (.iconst (-1)) 1 33 := ⟨by decide +kernel, rfl⟩
theorem d_X12_properAt_33 : gD cX12_properAt 33 (.if_icmp .eq 18) 3 36 ∧ ((33 : Nat) : Int) + 18 = ((51 : Nat) : Int) := ⟨⟨by decide +kernel, rfl⟩, by decide⟩
theorem d_X12_properAt_36 : gD cX12_properAt 36 (.iload 4) 2 38 := ⟨by decide +kernel, rfl⟩
theorem d_X12_properAt_38 : gD cX12_properAt 38 (.aload_n 0) 1 39 := ⟨by decide +kernel, rfl⟩
theorem d_X12_properAt_39 : gD cX12_properAt 39 (.bipush 17) 2 41 := ⟨by decide +kernel, rfl⟩
theorem d_X12_properAt_41 : gD cX12_properAt 41 (.iconst 2) 1 42 := ⟨by decide +kernel, rfl⟩
theorem d_X12_properAt_42 : gD cX12_properAt 42 (.iload_n 2) 1 43 := ⟨by decide +kernel, rfl⟩
theorem d_X12_properAt_43 : gD cX12_properAt 43 (.imul) 1 44 := ⟨by decide +kernel, rfl⟩
theorem d_X12_properAt_44 : gD cX12_properAt 44 (.iadd) 1 45 := ⟨by decide +kernel, rfl⟩
theorem d_X12_properAt_45 : gD cX12_properAt 45 (.invokevirtual 287) 3 48 := ⟨by decide +kernel, rfl⟩
theorem d_X12_properAt_48 : gD cX12_properAt 48 (.if_icmp .le 7) 3 51 ∧ ((48 : Nat) : Int) + 7 = ((55 : Nat) : Int) := ⟨⟨by decide +kernel, rfl⟩, by decide⟩
theorem d_X12_properAt_51 : gD cX12_properAt 51 (.iload_n 3) 1 52 := ⟨by decide +kernel, rfl⟩
theorem d_X12_properAt_52 : decode cX12_properAt 52 = .ok (.goto 4, 3) ∧ ((52 : Nat) : Int) + 4 = ((56 : Nat) : Int) := ⟨by decide +kernel, by decide⟩
theorem d_X12_properAt_55 : gD cX12_properAt 55 (.iload_n 2) 1 56 := ⟨by decide +kernel, rfl⟩
theorem d_X12_properAt_56 : gD cX12_properAt 56 (.istore_n 2) 1 57 := ⟨by decide +kernel, rfl⟩
theorem d_X12_properAt_57 : gD cX12_properAt 57 (.iinc 3 1) 3 60 := ⟨by decide +kernel, rfl⟩
theorem d_X12_properAt_60 : decode cX12_properAt 60 = .ok (.goto (-56), 3) ∧ ((60 : Nat) : Int) + (-56) = ((4 : Nat) : Int) := ⟨by decide +kernel, by decide⟩
theorem d_X12_properAt_63 : gD cX12_properAt 63 (.iload_n 2) 1 64 := ⟨by decide +kernel, rfl⟩
theorem d_X12_properAt_64 : gD cX12_properAt 64 (.iconst (-1)) 1 65 := ⟨by decide +kernel, rfl⟩
theorem d_X12_properAt_65 : gD cX12_properAt 65 (.if_icmp .ne 7) 3 68 ∧ ((65 : Nat) : Int) + 7 = ((72 : Nat) : Int) := ⟨⟨by decide +kernel, rfl⟩, by decide⟩
theorem d_X12_properAt_68 : gD cX12_properAt 68 (.iconst 0) 1 69 := ⟨by decide +kernel, rfl⟩
theorem d_X12_properAt_69 : decode cX12_properAt 69 = .ok (.goto 15, 3) ∧ ((69 : Nat) : Int) + 15 = ((84 : Nat) : Int) := ⟨by decide +kernel, by decide⟩
theorem d_X12_properAt_72 : gD cX12_properAt 72 (.aload_n 0) 1 73 := ⟨by decide +kernel, rfl⟩
theorem d_X12_properAt_73 : gD cX12_properAt 73 (.bipush 17) 2 75 := ⟨by decide +kernel, rfl⟩
theorem d_X12_properAt_75 : gD cX12_properAt 75 (.iconst 2) 1 76 := ⟨by decide +kernel, rfl⟩
theorem d_X12_properAt_76 : gD cX12_properAt 76 (.iload_n 2) 1 77 := ⟨by decide +kernel, rfl⟩
theorem d_X12_properAt_77 : gD cX12_properAt 77 (.imul) 1 78 := ⟨by decide +kernel, rfl⟩
theorem d_X12_properAt_78 : gD cX12_properAt 78 (.iadd) 1 79 := ⟨by decide +kernel, rfl⟩
theorem d_X12_properAt_79 : gD cX12_properAt 79 (.iconst 1) 1 80 := ⟨by decide +kernel, rfl⟩
theorem d_X12_properAt_80 : gD cX12_properAt 80 (.iadd) 1 81 := ⟨by decide +kernel, rfl⟩
theorem d_X12_properAt_81 : gD cX12_properAt 81 (.invokevirtual 287) 3 84 := ⟨by decide +kernel, rfl⟩
theorem d_X12_properAt_84 : gD cX12_properAt 84 (.ireturn) 1 85 := ⟨by decide +kernel, rfl⟩
abbrev rm_X12_properAt : Room := { frames := 1, cells := 0, slots := 0, locals := 21 }
set_option maxRecDepth 20000 in
theorem w_X12_properAt_56 {Γ : GC} {E : GE} (hO : gOk Γ E cX12_properAt RX12 5 rm_X12_properAt (some .int) "properAt") (o : Nat) (S : GS) {k4 : (Int32 → Int32 → Int32 → Option Int32)} (hk4 : ∀ (z1 : Int32) (z2 : Int32) (z3 : Int32), Go Γ E (gBpI Γ E S) 5 (0, 0) 4 S [(0, vA (some o)), (1, vI z1), (2, vI z2), (3, vI z3)] [] (k4 z1 z2 z3)) (x1 : Int32) (x3 : Int32) (y0 : Int32) : Go Γ E (gBpI Γ E S) 5 (0, 0) 56 S [(0, vA (some o)), (1, vI x1), (3, vI x3)] [vI y0] (f_X12_properAt_56 k4 o S x1 x3 y0) := by
  unfold f_X12_properAt_56
  refine g_istore_n (lv' := [(2, vI y0), (0, vA (some o)), (1, vI x1), (3, vI x3)]) hO d_X12_properAt_56 (by rfl) (by decide) rfl ?_
  refine g_iinc (lv' := [(3, vI (x3 + 1)), (2, vI y0), (0, vA (some o)), (1, vI x1)]) hO 1 d_X12_properAt_57 (by decide) 3 rfl (by decide) rfl ?_
  refine g_goto (tgt := 4) hO d_X12_properAt_60.1 d_X12_properAt_60.2 ?_
  exact g_sub [2, 3, 1, 0] rfl (hk4 _ _ _)
set_option maxRecDepth 20000 in
theorem w_X12_properAt_51 {Γ : GC} {E : GE} (hO : gOk Γ E cX12_properAt RX12 5 rm_X12_properAt (some .int) "properAt") (o : Nat) (S : GS) {k4 : (Int32 → Int32 → Int32 → Option Int32)} (hk4 : ∀ (z1 : Int32) (z2 : Int32) (z3 : Int32), Go Γ E (gBpI Γ E S) 5 (0, 0) 4 S [(0, vA (some o)), (1, vI z1), (2, vI z2), (3, vI z3)] [] (k4 z1 z2 z3)) (x1 : Int32) (x3 : Int32) : Go Γ E (gBpI Γ E S) 5 (0, 0) 51 S [(0, vA (some o)), (1, vI x1), (3, vI x3)] [] (f_X12_properAt_51 k4 o S x1 x3) := by
  unfold f_X12_properAt_51
  refine g_iload_n hO d_X12_properAt_51 (by rfl) 2 rfl ?_
  refine g_goto (tgt := 56) hO d_X12_properAt_52.1 d_X12_properAt_52.2 ?_
  exact g_sub [0, 1, 2] rfl (w_X12_properAt_56 hO o _ hk4 _ _ _)
set_option maxRecDepth 20000 in
theorem w_X12_properAt_55 {Γ : GC} {E : GE} (hO : gOk Γ E cX12_properAt RX12 5 rm_X12_properAt (some .int) "properAt") (o : Nat) (S : GS) {k4 : (Int32 → Int32 → Int32 → Option Int32)} (hk4 : ∀ (z1 : Int32) (z2 : Int32) (z3 : Int32), Go Γ E (gBpI Γ E S) 5 (0, 0) 4 S [(0, vA (some o)), (1, vI z1), (2, vI z2), (3, vI z3)] [] (k4 z1 z2 z3)) (x1 : Int32) (x2 : Int32) (x3 : Int32) : Go Γ E (gBpI Γ E S) 5 (0, 0) 55 S [(0, vA (some o)), (1, vI x1), (2, vI x2), (3, vI x3)] [] (f_X12_properAt_55 k4 o S x1 x2 x3) := by
  unfold f_X12_properAt_55
  refine g_iload_n hO d_X12_properAt_55 (by rfl) 2 rfl ?_
  exact g_sub [0, 1, 3] rfl (w_X12_properAt_56 hO o _ hk4 _ _ _)
set_option maxRecDepth 20000 in
theorem w_X12_properAt_4 {Γ : GC} {E : GE} (hO : gOk Γ E cX12_properAt RX12 5 rm_X12_properAt (some .int) "properAt") (o : Nat) (S : GS) : ∀ (n : Nat) (x1 : Int32) (x2 : Int32) (x3 : Int32), Go Γ E (gBpI Γ E S) 5 (0, 0) 4 S [(0, vA (some o)), (1, vI x1), (2, vI x2), (3, vI x3)] [] (f_X12_properAt_4 o S n x1 x2 x3) := by
  intro n
  induction n with
  | zero =>
    intro x1 x2 x3
    exact g_none
  | succ n ih =>
    intro x1 x2 x3
    rw [f_X12_properAt_4]
    refine g_iload_n hO d_X12_properAt_4 (by rfl) 3 rfl ?_
    refine g_aload_n hO d_X12_properAt_5 (by rfl) 0 rfl ?_
    refine g_iconst hO 2 d_X12_properAt_6 (by decide) ?_
    refine k_virtIp hO cl_X12 mm_X12_ofCourt lkV_X12_287 ⟨⟨Nat.le_of_ble_eq_true rfl, Nat.le_of_ble_eq_true rfl⟩, Nat.le_of_ble_eq_true rfl, Nat.le_of_ble_eq_true rfl⟩ (kn' := (0, 0)) rfl (As := [vI 2]) rfl (Nat.le_of_ble_eq_true rfl) (fun o' _ => t_X12_ofCourt Γ.2.1 E o' 2 S) d_X12_properAt_7 rfl (fun v1 => ?_)
    refine g_ic_ge (tgt := 63) hO d_X12_properAt_10.1 d_X12_properAt_10.2 (fun _ => ?_) (fun _ => ?_)
    · skip
      refine g_iload_n hO d_X12_properAt_63 (by rfl) 2 rfl ?_
      refine g_iconst hO (-1) d_X12_properAt_64 (by decide) ?_
      refine g_ic_ne (tgt := 72) hO d_X12_properAt_65.1 d_X12_properAt_65.2 (fun _ => ?_) (fun _ => ?_)
      · skip
        refine g_iconst hO 0 d_X12_properAt_68 (by decide) ?_
        refine g_goto (tgt := 84) hO d_X12_properAt_69.1 d_X12_properAt_69.2 ?_
        exact g_ret hO rfl rfl ⟨Nat.le_of_ble_eq_true rfl, Nat.le_of_ble_eq_true rfl⟩ rfl rfl d_X12_properAt_84.1
      · skip
        refine g_aload_n hO d_X12_properAt_72 (by rfl) 0 rfl ?_
        refine g_bipush hO 17 d_X12_properAt_73 (by decide) ?_
        refine g_iconst hO 2 d_X12_properAt_75 (by decide) ?_
        refine g_iload_n hO d_X12_properAt_76 (by rfl) 2 rfl ?_
        refine g_imul hO d_X12_properAt_77 ?_
        refine g_iadd hO d_X12_properAt_78 ?_
        refine g_iconst hO 1 d_X12_properAt_79 (by decide) ?_
        refine g_iadd hO d_X12_properAt_80 ?_
        refine k_virtIp hO cl_X12 mm_X12_ofCourt lkV_X12_287 ⟨⟨Nat.le_of_ble_eq_true rfl, Nat.le_of_ble_eq_true rfl⟩, Nat.le_of_ble_eq_true rfl, Nat.le_of_ble_eq_true rfl⟩ (kn' := (0, 0)) rfl (As := [vI ((17 + (2 * x2)) + 1)]) rfl (Nat.le_of_ble_eq_true rfl) (fun o' _ => t_X12_ofCourt Γ.2.1 E o' ((17 + (2 * x2)) + 1) S) d_X12_properAt_81 rfl (fun v3 => ?_)
        exact g_ret hO rfl rfl ⟨Nat.le_of_ble_eq_true rfl, Nat.le_of_ble_eq_true rfl⟩ rfl rfl d_X12_properAt_84.1
    · skip
      refine g_aload_n hO d_X12_properAt_13 (by rfl) 0 rfl ?_
      refine g_bipush hO 17 d_X12_properAt_14 (by decide) ?_
      refine g_iconst hO 2 d_X12_properAt_16 (by decide) ?_
      refine g_iload_n hO d_X12_properAt_17 (by rfl) 3 rfl ?_
      refine g_imul hO d_X12_properAt_18 ?_
      refine g_iadd hO d_X12_properAt_19 ?_
      refine k_virtIp hO cl_X12 mm_X12_ofCourt lkV_X12_287 ⟨⟨Nat.le_of_ble_eq_true rfl, Nat.le_of_ble_eq_true rfl⟩, Nat.le_of_ble_eq_true rfl, Nat.le_of_ble_eq_true rfl⟩ (kn' := (0, 0)) rfl (As := [vI (17 + (2 * x3))]) rfl (Nat.le_of_ble_eq_true rfl) (fun o' _ => t_X12_ofCourt Γ.2.1 E o' (17 + (2 * x3)) S) d_X12_properAt_20 rfl (fun v5 => ?_)
      refine g_istore (lv' := [(4, vI v5), (0, vA (some o)), (1, vI x1), (2, vI x2), (3, vI x3)]) hO d_X12_properAt_23 (by decide) rfl ?_
      refine g_iload hO d_X12_properAt_25 0 rfl ?_
      refine g_iload_n hO d_X12_properAt_27 (by rfl) 2 rfl ?_
      refine g_ic_gt (tgt := 55) hO d_X12_properAt_28.1 d_X12_properAt_28.2 (fun _ => ?_) (fun _ => ?_)
      · skip
        exact g_sub [1, 2, 3, 4] rfl (w_X12_properAt_55 hO o _ ih _ _ _)
      · skip
        refine g_iload_n hO d_X12_properAt_31 (by rfl) 3 rfl ?_
        refine g_iconst hO (-1) d_X12_properAt_32 (by decide) ?_
        refine g_ic_eq (tgt := 51) hO d_X12_properAt_33.1 d_X12_properAt_33.2 (fun _ => ?_) (fun _ => ?_)
        · skip
          exact g_sub [1, 2, 4] rfl (w_X12_properAt_51 hO o _ ih _ _)
        · skip
          refine g_iload hO d_X12_properAt_36 0 rfl ?_
          refine g_aload_n hO d_X12_properAt_38 (by rfl) 1 rfl ?_
          refine g_bipush hO 17 d_X12_properAt_39 (by decide) ?_
          refine g_iconst hO 2 d_X12_properAt_41 (by decide) ?_
          refine g_iload_n hO d_X12_properAt_42 (by rfl) 3 rfl ?_
          refine g_imul hO d_X12_properAt_43 ?_
          refine g_iadd hO d_X12_properAt_44 ?_
          refine k_virtIp hO cl_X12 mm_X12_ofCourt lkV_X12_287 ⟨⟨Nat.le_of_ble_eq_true rfl, Nat.le_of_ble_eq_true rfl⟩, Nat.le_of_ble_eq_true rfl, Nat.le_of_ble_eq_true rfl⟩ (kn' := (0, 0)) rfl (As := [vI (17 + (2 * x2))]) rfl (Nat.le_of_ble_eq_true rfl) (fun o' _ => t_X12_ofCourt Γ.2.1 E o' (17 + (2 * x2)) S) d_X12_properAt_45 rfl (fun v7 => ?_)
          refine g_ic_le (tgt := 55) hO d_X12_properAt_48.1 d_X12_properAt_48.2 (fun _ => ?_) (fun _ => ?_)
          · skip
            exact g_sub [1, 2, 3, 4] rfl (w_X12_properAt_55 hO o _ ih _ _ _)
          · skip
            exact g_sub [1, 2, 4] rfl (w_X12_properAt_51 hO o _ ih _ _)
set_option maxRecDepth 20000 in
theorem w_X12_properAt {Γ : GC} {E : GE} (hO : gOk Γ E cX12_properAt RX12 5 rm_X12_properAt (some .int) "properAt") (o : Nat) (x1 : Int32) (S : GS) : Go Γ E (gBpI Γ E S) 5 (0, 0) 0 S [(0, vA (some o)), (1, vI x1)] [] (f_X12_properAt o x1 S) := by
  unfold f_X12_properAt
  refine g_iconst hO (-1) d_X12_properAt_0 (by decide) ?_
  refine g_istore_n (lv' := [(2, vI (-1)), (0, vA (some o)), (1, vI x1)]) hO d_X12_properAt_1 (by rfl) (by decide) rfl ?_
  refine g_iconst hO 0 d_X12_properAt_2 (by decide) ?_
  refine g_istore_n (lv' := [(3, vI 0), (2, vI (-1)), (0, vA (some o)), (1, vI x1)]) hO d_X12_properAt_3 (by rfl) (by decide) rfl ?_
  exact g_sub [2, 3, 1, 0] rfl (w_X12_properAt_4 hO o _ _ _ _ _)
theorem t_X12_properAt (l : Launch) (E : GE) (o : Nat) (x1 : Int32) (S : GS) : ∀ a, f_X12_properAt o x1 S = some a → Ct l E yX12_properAt cX12_properAt 5 (some .int) rm_X12_properAt [vA (some o), vI x1] S (some (vI a)) S :=
  Ct_of (val := fun b => some (vI b)) (nxt := fun _ => S) (by decide) (Nat.le_of_ble_eq_true rfl) (fun Γ hl hO => w_X12_properAt hO o x1 S)
theorem d_X12_court_0 : gD cX12_court 0 (.aload_n 0) 1 1 := ⟨by decide +kernel, rfl⟩
theorem d_X12_court_1 : gD cX12_court 1 (.iconst 0) 1 2 := ⟨by decide +kernel, rfl⟩
theorem d_X12_court_2 : gD cX12_court 2 (.putfield 100) 3 5 := ⟨by decide +kernel, rfl⟩
theorem d_X12_court_5 : gD cX12_court 5 (.aload_n 0) 1 6 := ⟨by decide +kernel, rfl⟩
theorem d_X12_court_6 : gD cX12_court 6 (.iload_n 1) 1 7 := ⟨by decide +kernel, rfl⟩
theorem d_X12_court_7 : gD cX12_court 7 (.invokevirtual 297) 3 10 := ⟨by decide +kernel, rfl⟩
theorem d_X12_court_10 : gD cX12_court 10 (.ifCond .ne 5) 3 13 ∧ ((10 : Nat) : Int) + 5 = ((15 : Nat) : Int) := ⟨⟨by decide +kernel, rfl⟩, by decide⟩
theorem d_X12_court_13 : gD cX12_court 13 (.iconst (-1)) 1 14 := ⟨by decide +kernel, rfl⟩
theorem d_X12_court_14 : gD cX12_court 14 (.ireturn) 1 15 := ⟨by decide +kernel, rfl⟩
theorem d_X12_court_15 : gD cX12_court 15 (.iload_n 2) 1 16 := ⟨by decide +kernel, rfl⟩
theorem d_X12_court_16 : gD cX12_court 16 (.iconst 0) 1 17 := ⟨by decide +kernel, rfl⟩
theorem d_X12_court_17 : gD cX12_court 17 (.bipush 8) 2 19 := ⟨by decide +kernel, rfl⟩
theorem d_X12_court_19 : gD cX12_court 19 (.invokestatic 112) 3 22 := ⟨by decide +kernel, rfl⟩
theorem d_X12_court_22 : gD cX12_court 22 (.ifCond .eq 9) 3 25 ∧ ((22 : Nat) : Int) + 9 = ((31 : Nat) : Int) := ⟨⟨by decide +kernel, rfl⟩, by decide⟩
theorem d_X12_court_25 : gD cX12_court 25 (.aload_n 0) 1 26 := ⟨by decide +kernel, rfl⟩
theorem d_X12_court_26 : gD cX12_court 26 (.iload_n 2) 1 27 := ⟨by decide +kernel, rfl⟩
theorem d_X12_court_27 : gD cX12_court 27 (.invokevirtual 287) 3 30 := ⟨by decide +kernel, rfl⟩
theorem d_X12_court_30 : gD cX12_court 30 (.ireturn) 1 31 := ⟨by decide +kernel, rfl⟩
theorem d_X12_court_31 : gD cX12_court 31 (.iload_n 2) 1 32 := ⟨by decide +kernel, rfl⟩
theorem d_X12_court_32 : gD cX12_court 32 (.bipush 10) 2 34 := ⟨by decide +kernel, rfl⟩
theorem d_X12_court_34 : gD cX12_court 34 (.bipush 9) 2 36 := ⟨by decide +kernel, rfl⟩
theorem d_X12_court_36 : gD cX12_court 36 (.aload_n 0) 1 37 := ⟨by decide +kernel, rfl⟩
theorem d_X12_court_37 : gD cX12_court 37 (.getfield 291) 3 40 := ⟨by decide +kernel, rfl⟩
theorem d_X12_court_40 : gD cX12_court 40 (.iadd) 1 41 := ⟨by decide +kernel, rfl⟩
theorem d_X12_court_41 : gD cX12_court 41 (.invokestatic 112) 3 44 := ⟨by decide +kernel, rfl⟩
theorem d_X12_court_44 : gD cX12_court 44 (.ifCond .ne 19) 3 47 ∧ ((44 : Nat) : Int) + 19 = ((63 : Nat) : Int) := ⟨⟨by decide +kernel, rfl⟩, by decide⟩
theorem d_X12_court_47 : gD cX12_court 47 (.iload_n 2) 1 48 := ⟨by decide +kernel, rfl⟩
theorem d_X12_court_48 : gD cX12_court 48 (.bipush 20) 2 50 := ⟨by decide +kernel, rfl⟩
theorem d_X12_court_50 : gD cX12_court 50 (.bipush 19) 2 52 := ⟨by decide +kernel, rfl⟩
theorem d_X12_court_52 : gD cX12_court 52 (.aload_n 0) 1 53 := ⟨by decide +kernel, rfl⟩
theorem d_X12_court_53 : gD cX12_court 53 (.getfield 291) 3 56 := ⟨by decide +kernel, rfl⟩
theorem d_X12_court_56 : gD cX12_court 56 (.iadd) 1 57 := ⟨by decide +kernel, rfl⟩
theorem d_X12_court_57 : gD cX12_court 57 (.invokestatic 112) 3 60 := ⟨by decide +kernel, rfl⟩
theorem d_X12_court_60 : gD cX12_court 60 (.ifCond .eq 24) 3 63 ∧ ((60 : Nat) : Int) + 24 = ((84 : Nat) : Int) := ⟨⟨by decide +kernel, rfl⟩, by decide⟩
theorem d_X12_court_63 : gD cX12_court 63 (.aload_n 0) 1 64 := ⟨by decide +kernel, rfl⟩
theorem d_X12_court_64 : gD cX12_court 64 (.bipush 9) 2 66 := ⟨by decide +kernel, rfl⟩
theorem d_X12_court_66 : gD cX12_court 66 (.iconst 2) 1 67 := ⟨by decide +kernel, rfl⟩
theorem d_X12_court_67 : gD cX12_court 67 (.iload_n 2) 1 68 := ⟨by decide +kernel, rfl⟩
theorem d_X12_court_68 : gD cX12_court 68 (.bipush 10) 2 70 := ⟨by decide +kernel, rfl⟩
theorem d_X12_court_70 : gD cX12_court 70 (.irem) 1 71 := ⟨by decide +kernel, rfl⟩
theorem d_X12_court_71 : gD cX12_court 71 (.imul) 1 72 := ⟨by decide +kernel, rfl⟩
theorem d_X12_court_72 : gD cX12_court 72 (.iadd) 1 73 := ⟨by decide +kernel, rfl⟩
theorem d_X12_court_73 : gD cX12_court 73 (.iload_n 2) 1 74 := ⟨by decide +kernel, rfl⟩
theorem d_X12_court_74 : gD cX12_court 74 (.bipush 10) 2 76 := ⟨by decide +kernel, rfl⟩
theorem d_X12_court_76 : gD cX12_court 76 (.idiv) 1 77 := ⟨by decide +kernel, rfl⟩
theorem d_X12_court_77 : gD cX12_court 77 (.iadd) 1 78 := ⟨by decide +kernel, rfl⟩
theorem d_X12_court_78 : gD cX12_court 78 (.iconst 1) 1 79 := ⟨by decide +kernel, rfl⟩
theorem d_X12_court_79 : gD cX12_court 79 (.isub) 1 80 := ⟨by decide +kernel, rfl⟩
theorem d_X12_court_80 : gD cX12_court 80 (.invokevirtual 287) 3 83 := ⟨by decide +kernel, rfl⟩
theorem d_X12_court_83 : gD cX12_court 83 (.ireturn) 1 84 := ⟨by decide +kernel, rfl⟩
theorem d_X12_court_84 : gD cX12_court 84 (.iload_n 2) 1 85 := ⟨by decide +kernel, rfl⟩
theorem d_X12_court_85 : gD cX12_court 85 (.bipush 30) 2 87 := ⟨by decide +kernel, rfl⟩
theorem d_X12_court_87 : gD cX12_court 87 (.bipush 29) 2 89 := ⟨by decide +kernel, rfl⟩
theorem d_X12_court_89 : gD cX12_court 89 (.aload_n 0) 1 90 := ⟨by decide +kernel, rfl⟩
theorem d_X12_court_90 : gD cX12_court 90 (.iconst 2) 1 91 := ⟨by decide +kernel, rfl⟩
theorem d_X12_court_91 : gD cX12_court 91 (.invokevirtual 287) 3 94 := ⟨by decide +kernel, rfl⟩
theorem d_X12_court_94 : gD cX12_court 94 (.iadd) 1 95 := ⟨by decide +kernel, rfl⟩
theorem d_X12_court_95 : gD cX12_court 95 (.invokestatic 112) 3 98 := ⟨by decide +kernel, rfl⟩
theorem d_X12_court_98 : gD cX12_court 98 (.ifCond .ne 20) 3 101 ∧ ((98 : Nat) : Int) + 20 = ((118 : Nat) : Int) := ⟨⟨by decide +kernel, rfl⟩, by decide⟩
theorem d_X12_court_101 : gD cX12_court 101 (.iload_n 2) 1 102 := ⟨by decide +kernel, rfl⟩
theorem d_X12_court_102 : gD cX12_court 102 (.bipush 40) 2 104 := ⟨by decide +kernel, rfl⟩
theorem d_X12_court_104 : gD cX12_court 104 (.bipush 39) 2 106 := ⟨by decide +kernel, rfl⟩
theorem d_X12_court_106 : gD cX12_court 106 (.aload_n 0) 1 107 := ⟨by decide +kernel, rfl⟩
theorem d_X12_court_107 : gD cX12_court 107 (.iconst 2) 1 108 := ⟨by decide +kernel, rfl⟩
theorem d_X12_court_108 : gD cX12_court 108 (.invokevirtual 287) 3 111 := ⟨by decide +kernel, rfl⟩
theorem d_X12_court_111 : gD cX12_court 111 (.iadd) 1 112 := ⟨by decide +kernel, rfl⟩
theorem d_X12_court_112 : gD cX12_court 112 (.invokestatic 112) 3 115 := ⟨by decide +kernel, rfl⟩
theorem d_X12_court_115 : gD cX12_court 115 (.ifCond .eq 24) 3 118 ∧ ((115 : Nat) : Int) + 24 = ((139 : Nat) : Int) := ⟨⟨by decide +kernel, rfl⟩, by decide⟩
theorem d_X12_court_118 : gD cX12_court 118 (.aload_n 0) 1 119 := ⟨by decide +kernel, rfl⟩
theorem d_X12_court_119 : gD cX12_court 119 (.bipush 17) 2 121 := ⟨by decide +kernel, rfl⟩
theorem d_X12_court_121 : gD cX12_court 121 (.iconst 2) 1 122 := ⟨by decide +kernel, rfl⟩
theorem d_X12_court_122 : gD cX12_court 122 (.iload_n 2) 1 123 := ⟨by decide +kernel, rfl⟩
theorem d_X12_court_123 : gD cX12_court 123 (.bipush 10) 2 125 := ⟨by decide +kernel, rfl⟩
theorem d_X12_court_125 : gD cX12_court 125 (.irem) 1 126 := ⟨by decide +kernel, rfl⟩
theorem d_X12_court_126 : gD cX12_court 126 (.imul) 1 127 := ⟨by decide +kernel, rfl⟩
theorem d_X12_court_127 : gD cX12_court 127 (.iadd) 1 128 := ⟨by decide +kernel, rfl⟩
theorem d_X12_court_128 : gD cX12_court 128 (.iload_n 2) 1 129 := ⟨by decide +kernel, rfl⟩
theorem d_X12_court_129 : gD cX12_court 129 (.bipush 10) 2 131 := ⟨by decide +kernel, rfl⟩
theorem d_X12_court_131 : gD cX12_court 131 (.idiv) 1 132 := ⟨by decide +kernel, rfl⟩
theorem d_X12_court_132 : gD cX12_court 132 (.iadd) 1 133 := ⟨by decide +kernel, rfl⟩
theorem d_X12_court_133 : gD cX12_court 133 (.iconst 3) 1 134 := ⟨by decide +kernel, rfl⟩
theorem d_X12_court_134 : gD cX12_court 134 (.isub) 1 135 := ⟨by decide +kernel, rfl⟩
theorem d_X12_court_135 : gD cX12_court 135 (.invokevirtual 287) 3 138 := ⟨by decide +kernel, rfl⟩
theorem d_X12_court_138 : gD cX12_court 138 (.ireturn) 1 139 := ⟨by decide +kernel, rfl⟩
theorem d_X12_court_139 : gD cX12_court 139 (.iload_n 2) 1 140 := ⟨by decide +kernel, rfl⟩
theorem d_X12_court_140 : gD cX12_court 140 (.bipush 100) 2 142 := ⟨by decide +kernel, rfl⟩
theorem d_X12_court_142 : gD cX12_court 142 (.sipush 140) 3 145 := ⟨by decide +kernel, rfl⟩
theorem d_X12_court_145 : gD cX12_court 145 (.invokestatic 112) 3 148 := ⟨by decide +kernel, rfl⟩
theorem d_X12_court_148 : gD cX12_court 148 (.ifCond .eq 14) 3 151 ∧ ((148 : Nat) : Int) + 14 = ((162 : Nat) : Int) := ⟨⟨by decide +kernel, rfl⟩, by decide⟩
theorem d_X12_court_151 : gD cX12_court 151 (.aload_n 0) 1 152 := ⟨by decide +kernel, rfl⟩
theorem d_X12_court_152 : gD cX12_court 152 (.iload_n 2) 1 153 := ⟨by decide +kernel, rfl⟩
theorem d_X12_court_153 : gD cX12_court 153 (.bipush 100) 2 155 := ⟨by decide +kernel, rfl⟩
theorem d_X12_court_155 : gD cX12_court 155 (.isub) 1 156 := ⟨by decide +kernel, rfl⟩
theorem d_X12_court_156 : gD cX12_court 156 (.invokevirtual 300) 3 159 := ⟨by decide +kernel, rfl⟩
theorem d_X12_court_159 : decode cX12_court 159 = .ok (.goto 4, 3) ∧ ((159 : Nat) : Int) + 4 = ((163 : Nat) : Int) := ⟨by decide +kernel, by decide⟩
theorem d_X12_court_162 : gD cX12_court 162 (.iconst (-1)) 1 163 := ⟨by decide +kernel, rfl⟩
theorem d_X12_court_163 : gD cX12_court 163 (.ireturn) 1 164 := ⟨by decide +kernel, rfl⟩
abbrev rm_X12_court : Room := { frames := 3, cells := 0, slots := 0, locals := 65 }
set_option maxRecDepth 20000 in
theorem w_X12_court_63 {Γ : GC} {E : GE} (hO : gOk Γ E cX12_court RX12 3 rm_X12_court (some .int) "court") (o : Nat) (x2 : Int32) (S : GS) : Go Γ E (gBsI Γ E) 3 (0, 0) 63 S [(0, vA (some o)), (2, vI x2)] [] (f_X12_court_63 o x2 S) := by
  unfold f_X12_court_63
  refine g_aload_n hO d_X12_court_63 (by rfl) 0 rfl ?_
  refine g_bipush hO 9 d_X12_court_64 (by decide) ?_
  refine g_iconst hO 2 d_X12_court_66 (by decide) ?_
  refine g_iload_n hO d_X12_court_67 (by rfl) 1 rfl ?_
  refine g_bipush hO 10 d_X12_court_68 (by decide) ?_
  refine g_irem hO d_X12_court_70 ?_
  refine g_imul hO d_X12_court_71 ?_
  refine g_iadd hO d_X12_court_72 ?_
  refine g_iload_n hO d_X12_court_73 (by rfl) 1 rfl ?_
  refine g_bipush hO 10 d_X12_court_74 (by decide) ?_
  refine g_idiv hO d_X12_court_76 ?_
  refine g_iadd hO d_X12_court_77 ?_
  refine g_iconst hO 1 d_X12_court_78 (by decide) ?_
  refine g_isub hO d_X12_court_79 ?_
  refine k_virtIp hO cl_X12 mm_X12_ofCourt lkV_X12_287 ⟨⟨Nat.le_of_ble_eq_true rfl, Nat.le_of_ble_eq_true rfl⟩, Nat.le_of_ble_eq_true rfl, Nat.le_of_ble_eq_true rfl⟩ (kn' := (0, 0)) rfl (As := [vI (((9 + (2 * (jrem x2 10))) + (x2 / 10)) - 1)]) rfl (Nat.le_of_ble_eq_true rfl) (fun o' _ => t_X12_ofCourt Γ.2.1 E o' (((9 + (2 * (jrem x2 10))) + (x2 / 10)) - 1) S) d_X12_court_80 rfl (fun v1 => ?_)
  exact g_ret hO rfl rfl ⟨Nat.le_of_ble_eq_true rfl, Nat.le_of_ble_eq_true rfl⟩ rfl rfl d_X12_court_83.1
set_option maxRecDepth 20000 in
theorem w_X12_court_118 {Γ : GC} {E : GE} (hO : gOk Γ E cX12_court RX12 3 rm_X12_court (some .int) "court") (o : Nat) (x2 : Int32) (S : GS) : Go Γ E (gBsI Γ E) 3 (0, 0) 118 S [(0, vA (some o)), (2, vI x2)] [] (f_X12_court_118 o x2 S) := by
  unfold f_X12_court_118
  refine g_aload_n hO d_X12_court_118 (by rfl) 0 rfl ?_
  refine g_bipush hO 17 d_X12_court_119 (by decide) ?_
  refine g_iconst hO 2 d_X12_court_121 (by decide) ?_
  refine g_iload_n hO d_X12_court_122 (by rfl) 1 rfl ?_
  refine g_bipush hO 10 d_X12_court_123 (by decide) ?_
  refine g_irem hO d_X12_court_125 ?_
  refine g_imul hO d_X12_court_126 ?_
  refine g_iadd hO d_X12_court_127 ?_
  refine g_iload_n hO d_X12_court_128 (by rfl) 1 rfl ?_
  refine g_bipush hO 10 d_X12_court_129 (by decide) ?_
  refine g_idiv hO d_X12_court_131 ?_
  refine g_iadd hO d_X12_court_132 ?_
  refine g_iconst hO 3 d_X12_court_133 (by decide) ?_
  refine g_isub hO d_X12_court_134 ?_
  refine k_virtIp hO cl_X12 mm_X12_ofCourt lkV_X12_287 ⟨⟨Nat.le_of_ble_eq_true rfl, Nat.le_of_ble_eq_true rfl⟩, Nat.le_of_ble_eq_true rfl, Nat.le_of_ble_eq_true rfl⟩ (kn' := (0, 0)) rfl (As := [vI (((17 + (2 * (jrem x2 10))) + (x2 / 10)) - 3)]) rfl (Nat.le_of_ble_eq_true rfl) (fun o' _ => t_X12_ofCourt Γ.2.1 E o' (((17 + (2 * (jrem x2 10))) + (x2 / 10)) - 3) S) d_X12_court_135 rfl (fun v1 => ?_)
  exact g_ret hO rfl rfl ⟨Nat.le_of_ble_eq_true rfl, Nat.le_of_ble_eq_true rfl⟩ rfl rfl d_X12_court_138.1
set_option maxRecDepth 20000 in
theorem w_X12_court {Γ : GC} {E : GE} (hO : gOk Γ E cX12_court RX12 3 rm_X12_court (some .int) "court") (o : Nat) (x1 : Int32) (x2 : Int32) (S : GS) : Go Γ E (gBsI Γ E) 3 (0, 0) 0 S [(0, vA (some o)), (1, vI x1), (2, vI x2)] [] (f_X12_court o x1 x2 S) := by
  unfold f_X12_court
  refine g_aload_n hO d_X12_court_0 (by rfl) 0 rfl ?_
  refine g_iconst hO 0 d_X12_court_1 (by decide) ?_
  refine h_putI hO cl_X12 0 rfl rfl wf_X12_100 (Or.inl rfl) d_X12_court_2 (fun S1 => ?_)
  refine g_aload_n hO d_X12_court_5 (by rfl) 0 rfl ?_
  refine g_iload_n hO d_X12_court_6 (by rfl) 1 rfl ?_
  refine k_virtIs hO cl_X12 mm_X12_hand lkV_X12_297 ⟨⟨Nat.le_of_ble_eq_true rfl, Nat.le_of_ble_eq_true rfl⟩, Nat.le_of_ble_eq_true rfl, Nat.le_of_ble_eq_true rfl⟩ (kn' := (0, 0)) rfl (As := [vI x1]) rfl (Nat.le_of_ble_eq_true rfl) (fun o' _ => t_X12_hand Γ.2.1 E o' x1 S1) d_X12_court_7 rfl (fun v2 S3 => ?_)
  refine g_if_ne (tgt := 15) hO d_X12_court_10.1 d_X12_court_10.2 (fun _ => ?_) (fun _ => ?_)
  · skip
    refine g_iconst hO (-1) d_X12_court_13 (by decide) ?_
    exact g_ret hO rfl rfl ⟨Nat.le_of_ble_eq_true rfl, Nat.le_of_ble_eq_true rfl⟩ rfl rfl d_X12_court_14.1
  · skip
    refine g_iload_n hO d_X12_court_15 (by rfl) 2 rfl ?_
    refine g_iconst hO 0 d_X12_court_16 (by decide) ?_
    refine g_bipush hO 8 d_X12_court_17 (by decide) ?_
    refine k_statIp hO mm_X12_in lkS_X12_112 ⟨⟨Nat.le_of_ble_eq_true rfl, Nat.le_of_ble_eq_true rfl⟩, Nat.le_of_ble_eq_true rfl, Nat.le_of_ble_eq_true rfl⟩ (kn' := (0, 0)) rfl (As := [vI x2, vI 0, vI 8]) rfl (Nat.le_of_ble_eq_true rfl) (t_X12_in Γ.2.1 E x2 0 8 S3) d_X12_court_19 rfl (fun v4 => ?_)
    refine g_if_eq (tgt := 31) hO d_X12_court_22.1 d_X12_court_22.2 (fun _ => ?_) (fun _ => ?_)
    · skip
      refine g_iload_n hO d_X12_court_31 (by rfl) 2 rfl ?_
      refine g_bipush hO 10 d_X12_court_32 (by decide) ?_
      refine g_bipush hO 9 d_X12_court_34 (by decide) ?_
      refine g_aload_n hO d_X12_court_36 (by rfl) 0 rfl ?_
      refine h_getI hO cl_X12 26 rfl wf_X12_291 d_X12_court_37 (fun v6 => ?_)
      refine g_iadd hO d_X12_court_40 ?_
      refine k_statIp hO mm_X12_in lkS_X12_112 ⟨⟨Nat.le_of_ble_eq_true rfl, Nat.le_of_ble_eq_true rfl⟩, Nat.le_of_ble_eq_true rfl, Nat.le_of_ble_eq_true rfl⟩ (kn' := (0, 0)) rfl (As := [vI x2, vI 10, vI (9 + v6)]) rfl (Nat.le_of_ble_eq_true rfl) (t_X12_in Γ.2.1 E x2 10 (9 + v6) S3) d_X12_court_41 rfl (fun v7 => ?_)
      refine g_if_ne (tgt := 63) hO d_X12_court_44.1 d_X12_court_44.2 (fun _ => ?_) (fun _ => ?_)
      · skip
        refine g_iload_n hO d_X12_court_47 (by rfl) 2 rfl ?_
        refine g_bipush hO 20 d_X12_court_48 (by decide) ?_
        refine g_bipush hO 19 d_X12_court_50 (by decide) ?_
        refine g_aload_n hO d_X12_court_52 (by rfl) 0 rfl ?_
        refine h_getI hO cl_X12 26 rfl wf_X12_291 d_X12_court_53 (fun v9 => ?_)
        refine g_iadd hO d_X12_court_56 ?_
        refine k_statIp hO mm_X12_in lkS_X12_112 ⟨⟨Nat.le_of_ble_eq_true rfl, Nat.le_of_ble_eq_true rfl⟩, Nat.le_of_ble_eq_true rfl, Nat.le_of_ble_eq_true rfl⟩ (kn' := (0, 0)) rfl (As := [vI x2, vI 20, vI (19 + v9)]) rfl (Nat.le_of_ble_eq_true rfl) (t_X12_in Γ.2.1 E x2 20 (19 + v9) S3) d_X12_court_57 rfl (fun v10 => ?_)
        refine g_if_eq (tgt := 84) hO d_X12_court_60.1 d_X12_court_60.2 (fun _ => ?_) (fun _ => ?_)
        · skip
          refine g_iload_n hO d_X12_court_84 (by rfl) 2 rfl ?_
          refine g_bipush hO 30 d_X12_court_85 (by decide) ?_
          refine g_bipush hO 29 d_X12_court_87 (by decide) ?_
          refine g_aload_n hO d_X12_court_89 (by rfl) 0 rfl ?_
          refine g_iconst hO 2 d_X12_court_90 (by decide) ?_
          refine k_virtIp hO cl_X12 mm_X12_ofCourt lkV_X12_287 ⟨⟨Nat.le_of_ble_eq_true rfl, Nat.le_of_ble_eq_true rfl⟩, Nat.le_of_ble_eq_true rfl, Nat.le_of_ble_eq_true rfl⟩ (kn' := (0, 0)) rfl (As := [vI 2]) rfl (Nat.le_of_ble_eq_true rfl) (fun o' _ => t_X12_ofCourt Γ.2.1 E o' 2 S3) d_X12_court_91 rfl (fun v12 => ?_)
          refine g_iadd hO d_X12_court_94 ?_
          refine k_statIp hO mm_X12_in lkS_X12_112 ⟨⟨Nat.le_of_ble_eq_true rfl, Nat.le_of_ble_eq_true rfl⟩, Nat.le_of_ble_eq_true rfl, Nat.le_of_ble_eq_true rfl⟩ (kn' := (0, 0)) rfl (As := [vI x2, vI 30, vI (29 + v12)]) rfl (Nat.le_of_ble_eq_true rfl) (t_X12_in Γ.2.1 E x2 30 (29 + v12) S3) d_X12_court_95 rfl (fun v14 => ?_)
          refine g_if_ne (tgt := 118) hO d_X12_court_98.1 d_X12_court_98.2 (fun _ => ?_) (fun _ => ?_)
          · skip
            refine g_iload_n hO d_X12_court_101 (by rfl) 2 rfl ?_
            refine g_bipush hO 40 d_X12_court_102 (by decide) ?_
            refine g_bipush hO 39 d_X12_court_104 (by decide) ?_
            refine g_aload_n hO d_X12_court_106 (by rfl) 0 rfl ?_
            refine g_iconst hO 2 d_X12_court_107 (by decide) ?_
            refine k_virtIp hO cl_X12 mm_X12_ofCourt lkV_X12_287 ⟨⟨Nat.le_of_ble_eq_true rfl, Nat.le_of_ble_eq_true rfl⟩, Nat.le_of_ble_eq_true rfl, Nat.le_of_ble_eq_true rfl⟩ (kn' := (0, 0)) rfl (As := [vI 2]) rfl (Nat.le_of_ble_eq_true rfl) (fun o' _ => t_X12_ofCourt Γ.2.1 E o' 2 S3) d_X12_court_108 rfl (fun v16 => ?_)
            refine g_iadd hO d_X12_court_111 ?_
            refine k_statIp hO mm_X12_in lkS_X12_112 ⟨⟨Nat.le_of_ble_eq_true rfl, Nat.le_of_ble_eq_true rfl⟩, Nat.le_of_ble_eq_true rfl, Nat.le_of_ble_eq_true rfl⟩ (kn' := (0, 0)) rfl (As := [vI x2, vI 40, vI (39 + v16)]) rfl (Nat.le_of_ble_eq_true rfl) (t_X12_in Γ.2.1 E x2 40 (39 + v16) S3) d_X12_court_112 rfl (fun v18 => ?_)
            refine g_if_eq (tgt := 139) hO d_X12_court_115.1 d_X12_court_115.2 (fun _ => ?_) (fun _ => ?_)
            · skip
              refine g_iload_n hO d_X12_court_139 (by rfl) 2 rfl ?_
              refine g_bipush hO 100 d_X12_court_140 (by decide) ?_
              refine g_sipush hO 140 d_X12_court_142 (by decide) ?_
              refine k_statIp hO mm_X12_in lkS_X12_112 ⟨⟨Nat.le_of_ble_eq_true rfl, Nat.le_of_ble_eq_true rfl⟩, Nat.le_of_ble_eq_true rfl, Nat.le_of_ble_eq_true rfl⟩ (kn' := (0, 0)) rfl (As := [vI x2, vI 100, vI 140]) rfl (Nat.le_of_ble_eq_true rfl) (t_X12_in Γ.2.1 E x2 100 140 S3) d_X12_court_145 rfl (fun v20 => ?_)
              refine g_if_eq (tgt := 162) hO d_X12_court_148.1 d_X12_court_148.2 (fun _ => ?_) (fun _ => ?_)
              · skip
                refine g_iconst hO (-1) d_X12_court_162 (by decide) ?_
                exact g_ret hO rfl rfl ⟨Nat.le_of_ble_eq_true rfl, Nat.le_of_ble_eq_true rfl⟩ rfl rfl d_X12_court_163.1
              · skip
                refine g_aload_n hO d_X12_court_151 (by rfl) 0 rfl ?_
                refine g_iload_n hO d_X12_court_152 (by rfl) 2 rfl ?_
                refine g_bipush hO 100 d_X12_court_153 (by decide) ?_
                refine g_isub hO d_X12_court_155 ?_
                refine k_virtIp hO cl_X12 mm_X12_properAt lkV_X12_300 ⟨⟨Nat.le_of_ble_eq_true rfl, Nat.le_of_ble_eq_true rfl⟩, Nat.le_of_ble_eq_true rfl, Nat.le_of_ble_eq_true rfl⟩ (kn' := (0, 0)) rfl (As := [vI (x2 - 100)]) rfl (Nat.le_of_ble_eq_true rfl) (fun o' _ => t_X12_properAt Γ.2.1 E o' (x2 - 100) S3) d_X12_court_156 rfl (fun v22 => ?_)
                refine g_goto (tgt := 163) hO d_X12_court_159.1 d_X12_court_159.2 ?_
                exact g_ret hO rfl rfl ⟨Nat.le_of_ble_eq_true rfl, Nat.le_of_ble_eq_true rfl⟩ rfl rfl d_X12_court_163.1
            · skip
              exact g_sub [0, 2] rfl (w_X12_court_118 hO o _ _)
          · skip
            exact g_sub [0, 2] rfl (w_X12_court_118 hO o _ _)
        · skip
          exact g_sub [0, 2] rfl (w_X12_court_63 hO o _ _)
      · skip
        exact g_sub [0, 2] rfl (w_X12_court_63 hO o _ _)
    · skip
      refine g_aload_n hO d_X12_court_25 (by rfl) 0 rfl ?_
      refine g_iload_n hO d_X12_court_26 (by rfl) 2 rfl ?_
      refine k_virtIp hO cl_X12 mm_X12_ofCourt lkV_X12_287 ⟨⟨Nat.le_of_ble_eq_true rfl, Nat.le_of_ble_eq_true rfl⟩, Nat.le_of_ble_eq_true rfl, Nat.le_of_ble_eq_true rfl⟩ (kn' := (0, 0)) rfl (As := [vI x2]) rfl (Nat.le_of_ble_eq_true rfl) (fun o' _ => t_X12_ofCourt Γ.2.1 E o' x2 S3) d_X12_court_27 rfl (fun v24 => ?_)
      exact g_ret hO rfl rfl ⟨Nat.le_of_ble_eq_true rfl, Nat.le_of_ble_eq_true rfl⟩ rfl rfl d_X12_court_30.1
theorem t_X12_court (l : Launch) (E : GE) (o : Nat) (x1 : Int32) (x2 : Int32) (S : GS) : ∀ a, f_X12_court o x1 x2 S = some a → Ct l E yX12_court cX12_court 3 (some .int) rm_X12_court [vA (some o), vI x1, vI x2] S (some (vI a.1)) a.2 :=
  Ct_of (val := fun (b : Int32 × GS) => some (vI b.1)) (nxt := fun (b : Int32 × GS) => b.2) (by decide) (Nat.le_of_ble_eq_true rfl) (fun Γ hl hO => w_X12_court hO o x1 x2 S)
theorem d_X12_lady_0 : gD cX12_lady 0 (.aload_n 0) 1 1 := ⟨by decide +kernel, rfl⟩
theorem d_X12_lady_1 : gD cX12_lady 1 (.iconst 0) 1 2 := ⟨by decide +kernel, rfl⟩
theorem d_X12_lady_2 : gD cX12_lady 2 (.putfield 100) 3 5 := ⟨by decide +kernel, rfl⟩
theorem d_X12_lady_5 : gD cX12_lady 5 (.aload_n 0) 1 6 := ⟨by decide +kernel, rfl⟩
theorem d_X12_lady_6 : gD cX12_lady 6 (.iload_n 1) 1 7 := ⟨by decide +kernel, rfl⟩
theorem d_X12_lady_7 : gD cX12_lady 7 (.invokevirtual 297) 3 10 := ⟨by decide +kernel, rfl⟩
theorem d_X12_lady_10 : gD cX12_lady 10 (.ifCond .eq 29) 3 13 ∧ ((10 : Nat) : Int) + 29 = ((39 : Nat) : Int) := ⟨⟨by decide +kernel, rfl⟩, by decide⟩
theorem d_X12_lady_13 : gD cX12_lady 13 (.aload_n 0) 1 14 := ⟨by decide +kernel, rfl⟩
theorem d_X12_lady_14 : gD cX12_lady 14 (.iload_n 2) 1 15 := ⟨by decide +kernel, rfl⟩
theorem d_X12_lady_15 : gD cX12_lady 15 (.invokevirtual 303) 3 18 := ⟨by decide +kernel, rfl⟩
theorem d_X12_lady_18 : gD cX12_lady 18 (.ifCond .eq 21) 3 21 ∧ ((18 : Nat) : Int) + 21 = ((39 : Nat) : Int) := ⟨⟨by decide +kernel, rfl⟩, by decide⟩
theorem d_X12_lady_21 : gD cX12_lady 21 (.iload_n 3) 1 22 := ⟨by decide +kernel, rfl⟩
theorem d_X12_lady_22 : gD cX12_lady 22 (.iconst 0) 1 23 := ⟨by decide +kernel, rfl⟩
theorem d_X12_lady_23 : gD cX12_lady 23 (.iconst 4) 1 24 := ⟨by decide +kernel, rfl⟩
theorem d_X12_lady_24 : gD cX12_lady 24 (.invokestatic 112) 3 27 := ⟨by decide +kernel, rfl⟩
theorem d_X12_lady_27 : gD cX12_lady 27 (.ifCond .eq 12) 3 30 ∧ ((27 : Nat) : Int) + 12 = ((39 : Nat) : Int) := ⟨⟨by decide +kernel, rfl⟩, by decide⟩
theorem d_X12_lady_30 : gD cX12_lady 30 (.aload_n 0) 1 31 := ⟨by decide +kernel, rfl⟩
theorem d_X12_lady_31 : gD cX12_lady 31 (.iload_n 2) 1 32 := ⟨by decide +kernel, rfl⟩
theorem d_X12_lady_32 : gD cX12_lady 32 (.iload_n 3) 1 33 := ⟨by decide +kernel, rfl⟩
theorem d_X12_lady_33 : gD cX12_lady 33 (.invokevirtual 306) 3 36 := ⟨by decide +kernel, rfl⟩
theorem d_X12_lady_36 : decode cX12_lady 36 = .ok (.goto 4, 3) ∧ ((36 : Nat) : Int) + 4 = ((40 : Nat) : Int) := ⟨by decide +kernel, by decide⟩
theorem d_X12_lady_39 : gD cX12_lady 39 (.iconst (-1)) 1 40 := ⟨by decide +kernel, rfl⟩
theorem d_X12_lady_40 : gD cX12_lady 40 (.ireturn) 1 41 := ⟨by decide +kernel, rfl⟩
abbrev rm_X12_lady : Room := { frames := 3, cells := 0, slots := 0, locals := 65 }
set_option maxRecDepth 20000 in
theorem w_X12_lady {Γ : GC} {E : GE} (hO : gOk Γ E cX12_lady RX12 4 rm_X12_lady (some .int) "lady") (o : Nat) (x1 : Int32) (x2 : Int32) (x3 : Int32) (S : GS) : Go Γ E (gBsI Γ E) 4 (0, 0) 0 S [(0, vA (some o)), (1, vI x1), (2, vI x2), (3, vI x3)] [] (f_X12_lady o x1 x2 x3 S) := by
  unfold f_X12_lady
  refine g_aload_n hO d_X12_lady_0 (by rfl) 0 rfl ?_
  refine g_iconst hO 0 d_X12_lady_1 (by decide) ?_
  refine h_putI hO cl_X12 0 rfl rfl wf_X12_100 (Or.inl rfl) d_X12_lady_2 (fun S1 => ?_)
  refine g_aload_n hO d_X12_lady_5 (by rfl) 0 rfl ?_
  refine g_iload_n hO d_X12_lady_6 (by rfl) 1 rfl ?_
  refine k_virtIs hO cl_X12 mm_X12_hand lkV_X12_297 ⟨⟨Nat.le_of_ble_eq_true rfl, Nat.le_of_ble_eq_true rfl⟩, Nat.le_of_ble_eq_true rfl, Nat.le_of_ble_eq_true rfl⟩ (kn' := (0, 0)) rfl (As := [vI x1]) rfl (Nat.le_of_ble_eq_true rfl) (fun o' _ => t_X12_hand Γ.2.1 E o' x1 S1) d_X12_lady_7 rfl (fun v2 S3 => ?_)
  refine g_if_eq (tgt := 39) hO d_X12_lady_10.1 d_X12_lady_10.2 (fun _ => ?_) (fun _ => ?_)
  · skip
    refine g_iconst hO (-1) d_X12_lady_39 (by decide) ?_
    exact g_ret hO rfl rfl ⟨Nat.le_of_ble_eq_true rfl, Nat.le_of_ble_eq_true rfl⟩ rfl rfl d_X12_lady_40.1
  · skip
    refine g_aload_n hO d_X12_lady_13 (by rfl) 0 rfl ?_
    refine g_iload_n hO d_X12_lady_14 (by rfl) 2 rfl ?_
    refine k_virtIp hO cl_X12 mm_X12_isLady lkV_X12_303 ⟨⟨Nat.le_of_ble_eq_true rfl, Nat.le_of_ble_eq_true rfl⟩, Nat.le_of_ble_eq_true rfl, Nat.le_of_ble_eq_true rfl⟩ (kn' := (0, 0)) rfl (As := [vI x2]) rfl (Nat.le_of_ble_eq_true rfl) (fun o' _ => t_X12_isLady Γ.2.1 E o' x2 S3) d_X12_lady_15 rfl (fun v4 => ?_)
    refine g_if_eq (tgt := 39) hO d_X12_lady_18.1 d_X12_lady_18.2 (fun _ => ?_) (fun _ => ?_)
    · skip
      refine g_iconst hO (-1) d_X12_lady_39 (by decide) ?_
      exact g_ret hO rfl rfl ⟨Nat.le_of_ble_eq_true rfl, Nat.le_of_ble_eq_true rfl⟩ rfl rfl d_X12_lady_40.1
    · skip
      refine g_iload_n hO d_X12_lady_21 (by rfl) 3 rfl ?_
      refine g_iconst hO 0 d_X12_lady_22 (by decide) ?_
      refine g_iconst hO 4 d_X12_lady_23 (by decide) ?_
      refine k_statIp hO mm_X12_in lkS_X12_112 ⟨⟨Nat.le_of_ble_eq_true rfl, Nat.le_of_ble_eq_true rfl⟩, Nat.le_of_ble_eq_true rfl, Nat.le_of_ble_eq_true rfl⟩ (kn' := (0, 0)) rfl (As := [vI x3, vI 0, vI 4]) rfl (Nat.le_of_ble_eq_true rfl) (t_X12_in Γ.2.1 E x3 0 4 S3) d_X12_lady_24 rfl (fun v6 => ?_)
      refine g_if_eq (tgt := 39) hO d_X12_lady_27.1 d_X12_lady_27.2 (fun _ => ?_) (fun _ => ?_)
      · skip
        refine g_iconst hO (-1) d_X12_lady_39 (by decide) ?_
        exact g_ret hO rfl rfl ⟨Nat.le_of_ble_eq_true rfl, Nat.le_of_ble_eq_true rfl⟩ rfl rfl d_X12_lady_40.1
      · skip
        refine g_aload_n hO d_X12_lady_30 (by rfl) 0 rfl ?_
        refine g_iload_n hO d_X12_lady_31 (by rfl) 2 rfl ?_
        refine g_iload_n hO d_X12_lady_32 (by rfl) 3 rfl ?_
        refine k_virtIp hO cl_X12 mm_X12_ofLady lkV_X12_306 ⟨⟨Nat.le_of_ble_eq_true rfl, Nat.le_of_ble_eq_true rfl⟩, Nat.le_of_ble_eq_true rfl, Nat.le_of_ble_eq_true rfl⟩ (kn' := (0, 0)) rfl (As := [vI x2, vI x3]) rfl (Nat.le_of_ble_eq_true rfl) (fun o' _ => t_X12_ofLady Γ.2.1 E o' x2 x3 S3) d_X12_lady_33 rfl (fun v8 => ?_)
        refine g_goto (tgt := 40) hO d_X12_lady_36.1 d_X12_lady_36.2 ?_
        exact g_ret hO rfl rfl ⟨Nat.le_of_ble_eq_true rfl, Nat.le_of_ble_eq_true rfl⟩ rfl rfl d_X12_lady_40.1
theorem t_X12_lady (l : Launch) (E : GE) (o : Nat) (x1 : Int32) (x2 : Int32) (x3 : Int32) (S : GS) : ∀ a, f_X12_lady o x1 x2 x3 S = some a → Ct l E yX12_lady cX12_lady 4 (some .int) rm_X12_lady [vA (some o), vI x1, vI x2, vI x3] S (some (vI a.1)) a.2 :=
  Ct_of (val := fun (b : Int32 × GS) => some (vI b.1)) (nxt := fun (b : Int32 × GS) => b.2) (by decide) (Nat.le_of_ble_eq_true rfl) (fun Γ hl hO => w_X12_lady hO o x1 x2 x3 S)
theorem d_X12_does_0 : gD cX12_does 0 (.iload_n 2) 1 1 := ⟨by decide +kernel, rfl⟩
theorem d_X12_does_1 : gD cX12_does 1 (.iload_n 3) 1 2 := ⟨by decide +kernel, rfl⟩
theorem d_X12_does_2 : gD cX12_does 2 (.iadd) 1 3 := ⟨by decide +kernel, rfl⟩
theorem d_X12_does_3 : gD cX12_does 3 (.aload_n 0) 1 4 := ⟨by decide +kernel, rfl⟩
theorem d_X12_does_4 : gD cX12_does 4 (.iload_n 1) 1 5 := ⟨by decide +kernel, rfl⟩
theorem d_X12_does_5 : gD cX12_does 5 (.iconst 3) 1 6 := ⟨by decide +kernel, rfl⟩
theorem d_X12_does_6 : gD cX12_does 6 (.invokevirtual 306) 3 9 := ⟨by decide +kernel, rfl⟩
theorem d_X12_does_9 : gD cX12_does 9 (.if_icmp .le 5) 3 12 ∧ ((9 : Nat) : Int) + 5 = ((14 : Nat) : Int) := ⟨⟨by decide +kernel, rfl⟩, by decide⟩
theorem d_X12_does_12 : gD cX12_does 12 (.iconst 2) 1 13 := ⟨by decide +kernel, rfl⟩
theorem d_X12_does_13 : gD cX12_does 13 (.ireturn) 1 14 := ⟨by decide +kernel, rfl⟩
theorem d_X12_does_14 : gD cX12_does 14 (.iload_n 2) 1 15 := ⟨by decide +kernel, rfl⟩
theorem d_X12_does_15 : gD cX12_does 15 (.bipush 30) 2 17 := ⟨by decide +kernel, rfl⟩
theorem d_X12_does_17 : gD cX12_does 17 (.iadd) 1 18 := ⟨by decide +kernel, rfl⟩
theorem d_X12_does_18 : gD cX12_does 18 (.iload_n 3) 1 19 := ⟨by decide +kernel, rfl⟩
theorem d_X12_does_19 : gD cX12_does 19 (.isub) 1 20 := ⟨by decide +kernel, rfl⟩
theorem d_X12_does_20 : gD cX12_does 20 (.aload_n 0) 1 21 := ⟨by decide +kernel, rfl⟩
theorem d_X12_does_21 : gD cX12_does 21 (.iload_n 1) 1 22 := ⟨by decide +kernel, rfl⟩
theorem d_X12_does_22 : gD cX12_does 22 (.iconst 2) 1 23 := ⟨by decide +kernel, rfl⟩
theorem d_X12_does_23 : gD cX12_does 23 (.invokevirtual 306) 3 26 := ⟨by decide +kernel, rfl⟩
theorem d_X12_does_26 : gD cX12_does 26 (.if_icmp .le 7) 3 29 ∧ ((26 : Nat) : Int) + 7 = ((33 : Nat) : Int) := ⟨⟨by decide +kernel, rfl⟩, by decide⟩
theorem d_X12_does_29 : gD cX12_does 29 (.iconst 1) 1 30 := ⟨by decide +kernel, rfl⟩
theorem d_X12_does_30 : decode cX12_does 30 = .ok (.goto 4, 3) ∧ ((30 : Nat) : Int) + 4 = ((34 : Nat) : Int) := ⟨by decide +kernel, by decide⟩
theorem d_X12_does_33 : gD cX12_does 33 (.iconst 0) 1 34 := ⟨by decide +kernel, rfl⟩
theorem d_X12_does_34 : gD cX12_does 34 (.ireturn) 1 35 := ⟨by decide +kernel, rfl⟩
abbrev rm_X12_does : Room := { frames := 2, cells := 0, slots := 0, locals := 43 }
set_option maxRecDepth 20000 in
theorem w_X12_does {Γ : GC} {E : GE} (hO : gOk Γ E cX12_does RX12 4 rm_X12_does (some .int) "does") (o : Nat) (x1 : Int32) (x2 : Int32) (x3 : Int32) (S : GS) : Go Γ E (gBpI Γ E S) 4 (0, 0) 0 S [(0, vA (some o)), (1, vI x1), (2, vI x2), (3, vI x3)] [] (f_X12_does o x1 x2 x3 S) := by
  unfold f_X12_does
  refine g_iload_n hO d_X12_does_0 (by rfl) 2 rfl ?_
  refine g_iload_n hO d_X12_does_1 (by rfl) 3 rfl ?_
  refine g_iadd hO d_X12_does_2 ?_
  refine g_aload_n hO d_X12_does_3 (by rfl) 0 rfl ?_
  refine g_iload_n hO d_X12_does_4 (by rfl) 1 rfl ?_
  refine g_iconst hO 3 d_X12_does_5 (by decide) ?_
  refine k_virtIp hO cl_X12 mm_X12_ofLady lkV_X12_306 ⟨⟨Nat.le_of_ble_eq_true rfl, Nat.le_of_ble_eq_true rfl⟩, Nat.le_of_ble_eq_true rfl, Nat.le_of_ble_eq_true rfl⟩ (kn' := (0, 0)) rfl (As := [vI x1, vI 3]) rfl (Nat.le_of_ble_eq_true rfl) (fun o' _ => t_X12_ofLady Γ.2.1 E o' x1 3 S) d_X12_does_6 rfl (fun v1 => ?_)
  refine g_ic_le (tgt := 14) hO d_X12_does_9.1 d_X12_does_9.2 (fun _ => ?_) (fun _ => ?_)
  · skip
    refine g_iload_n hO d_X12_does_14 (by rfl) 2 rfl ?_
    refine g_bipush hO 30 d_X12_does_15 (by decide) ?_
    refine g_iadd hO d_X12_does_17 ?_
    refine g_iload_n hO d_X12_does_18 (by rfl) 3 rfl ?_
    refine g_isub hO d_X12_does_19 ?_
    refine g_aload_n hO d_X12_does_20 (by rfl) 0 rfl ?_
    refine g_iload_n hO d_X12_does_21 (by rfl) 1 rfl ?_
    refine g_iconst hO 2 d_X12_does_22 (by decide) ?_
    refine k_virtIp hO cl_X12 mm_X12_ofLady lkV_X12_306 ⟨⟨Nat.le_of_ble_eq_true rfl, Nat.le_of_ble_eq_true rfl⟩, Nat.le_of_ble_eq_true rfl, Nat.le_of_ble_eq_true rfl⟩ (kn' := (0, 0)) rfl (As := [vI x1, vI 2]) rfl (Nat.le_of_ble_eq_true rfl) (fun o' _ => t_X12_ofLady Γ.2.1 E o' x1 2 S) d_X12_does_23 rfl (fun v3 => ?_)
    refine g_ic_le (tgt := 33) hO d_X12_does_26.1 d_X12_does_26.2 (fun _ => ?_) (fun _ => ?_)
    · skip
      refine g_iconst hO 0 d_X12_does_33 (by decide) ?_
      exact g_ret hO rfl rfl ⟨Nat.le_of_ble_eq_true rfl, Nat.le_of_ble_eq_true rfl⟩ rfl rfl d_X12_does_34.1
    · skip
      refine g_iconst hO 1 d_X12_does_29 (by decide) ?_
      refine g_goto (tgt := 34) hO d_X12_does_30.1 d_X12_does_30.2 ?_
      exact g_ret hO rfl rfl ⟨Nat.le_of_ble_eq_true rfl, Nat.le_of_ble_eq_true rfl⟩ rfl rfl d_X12_does_34.1
  · skip
    refine g_iconst hO 2 d_X12_does_12 (by decide) ?_
    exact g_ret hO rfl rfl ⟨Nat.le_of_ble_eq_true rfl, Nat.le_of_ble_eq_true rfl⟩ rfl rfl d_X12_does_13.1
theorem t_X12_does (l : Launch) (E : GE) (o : Nat) (x1 : Int32) (x2 : Int32) (x3 : Int32) (S : GS) : ∀ a, f_X12_does o x1 x2 x3 S = some a → Ct l E yX12_does cX12_does 4 (some .int) rm_X12_does [vA (some o), vI x1, vI x2, vI x3] S (some (vI a)) S :=
  Ct_of (val := fun b => some (vI b)) (nxt := fun _ => S) (by decide) (Nat.le_of_ble_eq_true rfl) (fun Γ hl hO => w_X12_does hO o x1 x2 x3 S)
theorem d_X12_under_0 : gD cX12_under 0 (.aload_n 0) 1 1 := ⟨by decide +kernel, rfl⟩
theorem d_X12_under_1 : gD cX12_under 1 (.iconst 0) 1 2 := ⟨by decide +kernel, rfl⟩
theorem d_X12_under_2 : gD cX12_under 2 (.putfield 100) 3 5 := ⟨by decide +kernel, rfl⟩
theorem d_X12_under_5 : gD cX12_under 5 (.aload_n 0) 1 6 := ⟨by decide +kernel, rfl⟩
theorem d_X12_under_6 : gD cX12_under 6 (.iload_n 1) 1 7 := ⟨by decide +kernel, rfl⟩
theorem d_X12_under_7 : gD cX12_under 7 (.invokevirtual 297) 3 10 := ⟨by decide +kernel, rfl⟩
theorem d_X12_under_10 : gD cX12_under 10 (.ifCond .eq 44) 3 13 ∧ ((10 : Nat) : Int) + 44 = ((54 : Nat) : Int) := ⟨⟨by decide +kernel, rfl⟩, by decide⟩
theorem d_X12_under_13 : gD cX12_under 13 (.aload_n 0) 1 14 := ⟨by decide +kernel, rfl⟩
theorem d_X12_under_14 : gD cX12_under 14 (.iload_n 2) 1 15 := ⟨by decide +kernel, rfl⟩
theorem d_X12_under_15 : gD cX12_under 15 (.invokevirtual 303) 3 18 := ⟨by decide +kernel, rfl⟩
theorem d_X12_under_18 : gD cX12_under 18 (.ifCond .eq 36) 3 21 ∧ ((18 : Nat) : Int) + 36 = ((54 : Nat) : Int) := ⟨⟨by decide +kernel, rfl⟩, by decide⟩
theorem d_X12_under_21 : gD cX12_under 21 (.iload_n 3) 1 22 := ⟨by decide +kernel, rfl⟩
theorem d_X12_under_22 : gD cX12_under 22 (.iconst 0) 1 23 := ⟨by decide +kernel, rfl⟩
theorem d_X12_under_23 : gD cX12_under 23 (.bipush 30) 2 25 := ⟨by decide +kernel, rfl⟩
theorem d_X12_under_25 : gD cX12_under 25 (.invokestatic 112) 3 28 := ⟨by decide +kernel, rfl⟩
theorem d_X12_under_28 : gD cX12_under 28 (.ifCond .eq 26) 3 31 ∧ ((28 : Nat) : Int) + 26 = ((54 : Nat) : Int) := ⟨⟨by decide +kernel, rfl⟩, by decide⟩
theorem d_X12_under_31 : gD cX12_under 31 (.iload 4) 2 33 := ⟨by decide +kernel, rfl⟩
theorem d_X12_under_33 : gD cX12_under 33 (.bipush (-9)) 2 35 := ⟨by decide +kernel, rfl⟩
theorem d_X12_under_35 : gD cX12_under 35 (.bipush 60) 2 37 := ⟨by decide +kernel, rfl⟩
theorem d_X12_under_37 : gD cX12_under 37 (.invokestatic 112) 3 40 := ⟨by decide +kernel, rfl⟩
theorem d_X12_under_40 : gD cX12_under 40 (.ifCond .eq 14) 3 43 ∧ ((40 : Nat) : Int) + 14 = ((54 : Nat) : Int) := ⟨⟨by decide +kernel, rfl⟩, by decide⟩
theorem d_X12_under_43 : gD cX12_under 43 (.aload_n 0) 1 44 := ⟨by decide +kernel, rfl⟩
theorem d_X12_under_44 : gD cX12_under 44 (.iload_n 2) 1 45 := ⟨by decide +kernel, rfl⟩
theorem d_X12_under_45 : gD cX12_under 45 (.iload_n 3) 1 46 := ⟨by decide +kernel, rfl⟩
theorem d_X12_under_46 : gD cX12_under 46 (.iload 4) 2 48 := ⟨by decide +kernel, rfl⟩
theorem d_X12_under_48 : gD cX12_under 48 (.invokevirtual 309) 3 51 := ⟨by decide +kernel, rfl⟩
theorem d_X12_under_51 : decode cX12_under 51 = .ok (.goto 4, 3) ∧ ((51 : Nat) : Int) + 4 = ((55 : Nat) : Int) := ⟨by decide +kernel, by decide⟩
theorem d_X12_under_54 : gD cX12_under 54 (.iconst (-1)) 1 55 := ⟨by decide +kernel, rfl⟩
theorem d_X12_under_55 : gD cX12_under 55 (.ireturn) 1 56 := ⟨by decide +kernel, rfl⟩
abbrev rm_X12_under : Room := { frames := 3, cells := 0, slots := 0, locals := 66 }
set_option maxRecDepth 20000 in
theorem w_X12_under {Γ : GC} {E : GE} (hO : gOk Γ E cX12_under RX12 5 rm_X12_under (some .int) "under") (o : Nat) (x1 : Int32) (x2 : Int32) (x3 : Int32) (x4 : Int32) (S : GS) : Go Γ E (gBsI Γ E) 5 (0, 0) 0 S [(0, vA (some o)), (1, vI x1), (2, vI x2), (3, vI x3), (4, vI x4)] [] (f_X12_under o x1 x2 x3 x4 S) := by
  unfold f_X12_under
  refine g_aload_n hO d_X12_under_0 (by rfl) 0 rfl ?_
  refine g_iconst hO 0 d_X12_under_1 (by decide) ?_
  refine h_putI hO cl_X12 0 rfl rfl wf_X12_100 (Or.inl rfl) d_X12_under_2 (fun S1 => ?_)
  refine g_aload_n hO d_X12_under_5 (by rfl) 0 rfl ?_
  refine g_iload_n hO d_X12_under_6 (by rfl) 1 rfl ?_
  refine k_virtIs hO cl_X12 mm_X12_hand lkV_X12_297 ⟨⟨Nat.le_of_ble_eq_true rfl, Nat.le_of_ble_eq_true rfl⟩, Nat.le_of_ble_eq_true rfl, Nat.le_of_ble_eq_true rfl⟩ (kn' := (0, 0)) rfl (As := [vI x1]) rfl (Nat.le_of_ble_eq_true rfl) (fun o' _ => t_X12_hand Γ.2.1 E o' x1 S1) d_X12_under_7 rfl (fun v2 S3 => ?_)
  refine g_if_eq (tgt := 54) hO d_X12_under_10.1 d_X12_under_10.2 (fun _ => ?_) (fun _ => ?_)
  · skip
    refine g_iconst hO (-1) d_X12_under_54 (by decide) ?_
    exact g_ret hO rfl rfl ⟨Nat.le_of_ble_eq_true rfl, Nat.le_of_ble_eq_true rfl⟩ rfl rfl d_X12_under_55.1
  · skip
    refine g_aload_n hO d_X12_under_13 (by rfl) 0 rfl ?_
    refine g_iload_n hO d_X12_under_14 (by rfl) 2 rfl ?_
    refine k_virtIp hO cl_X12 mm_X12_isLady lkV_X12_303 ⟨⟨Nat.le_of_ble_eq_true rfl, Nat.le_of_ble_eq_true rfl⟩, Nat.le_of_ble_eq_true rfl, Nat.le_of_ble_eq_true rfl⟩ (kn' := (0, 0)) rfl (As := [vI x2]) rfl (Nat.le_of_ble_eq_true rfl) (fun o' _ => t_X12_isLady Γ.2.1 E o' x2 S3) d_X12_under_15 rfl (fun v4 => ?_)
    refine g_if_eq (tgt := 54) hO d_X12_under_18.1 d_X12_under_18.2 (fun _ => ?_) (fun _ => ?_)
    · skip
      refine g_iconst hO (-1) d_X12_under_54 (by decide) ?_
      exact g_ret hO rfl rfl ⟨Nat.le_of_ble_eq_true rfl, Nat.le_of_ble_eq_true rfl⟩ rfl rfl d_X12_under_55.1
    · skip
      refine g_iload_n hO d_X12_under_21 (by rfl) 3 rfl ?_
      refine g_iconst hO 0 d_X12_under_22 (by decide) ?_
      refine g_bipush hO 30 d_X12_under_23 (by decide) ?_
      refine k_statIp hO mm_X12_in lkS_X12_112 ⟨⟨Nat.le_of_ble_eq_true rfl, Nat.le_of_ble_eq_true rfl⟩, Nat.le_of_ble_eq_true rfl, Nat.le_of_ble_eq_true rfl⟩ (kn' := (0, 0)) rfl (As := [vI x3, vI 0, vI 30]) rfl (Nat.le_of_ble_eq_true rfl) (t_X12_in Γ.2.1 E x3 0 30 S3) d_X12_under_25 rfl (fun v6 => ?_)
      refine g_if_eq (tgt := 54) hO d_X12_under_28.1 d_X12_under_28.2 (fun _ => ?_) (fun _ => ?_)
      · skip
        refine g_iconst hO (-1) d_X12_under_54 (by decide) ?_
        exact g_ret hO rfl rfl ⟨Nat.le_of_ble_eq_true rfl, Nat.le_of_ble_eq_true rfl⟩ rfl rfl d_X12_under_55.1
      · skip
        refine g_iload hO d_X12_under_31 4 rfl ?_
        refine g_bipush hO (-9) d_X12_under_33 (by decide) ?_
        refine g_bipush hO 60 d_X12_under_35 (by decide) ?_
        refine k_statIp hO mm_X12_in lkS_X12_112 ⟨⟨Nat.le_of_ble_eq_true rfl, Nat.le_of_ble_eq_true rfl⟩, Nat.le_of_ble_eq_true rfl, Nat.le_of_ble_eq_true rfl⟩ (kn' := (0, 0)) rfl (As := [vI x4, vI (-9), vI 60]) rfl (Nat.le_of_ble_eq_true rfl) (t_X12_in Γ.2.1 E x4 (-9) 60 S3) d_X12_under_37 rfl (fun v8 => ?_)
        refine g_if_eq (tgt := 54) hO d_X12_under_40.1 d_X12_under_40.2 (fun _ => ?_) (fun _ => ?_)
        · skip
          refine g_iconst hO (-1) d_X12_under_54 (by decide) ?_
          exact g_ret hO rfl rfl ⟨Nat.le_of_ble_eq_true rfl, Nat.le_of_ble_eq_true rfl⟩ rfl rfl d_X12_under_55.1
        · skip
          refine g_aload_n hO d_X12_under_43 (by rfl) 0 rfl ?_
          refine g_iload_n hO d_X12_under_44 (by rfl) 2 rfl ?_
          refine g_iload_n hO d_X12_under_45 (by rfl) 3 rfl ?_
          refine g_iload hO d_X12_under_46 4 rfl ?_
          refine k_virtIp hO cl_X12 mm_X12_does lkV_X12_309 ⟨⟨Nat.le_of_ble_eq_true rfl, Nat.le_of_ble_eq_true rfl⟩, Nat.le_of_ble_eq_true rfl, Nat.le_of_ble_eq_true rfl⟩ (kn' := (0, 0)) rfl (As := [vI x2, vI x3, vI x4]) rfl (Nat.le_of_ble_eq_true rfl) (fun o' _ => t_X12_does Γ.2.1 E o' x2 x3 x4 S3) d_X12_under_48 rfl (fun v10 => ?_)
          refine g_goto (tgt := 55) hO d_X12_under_51.1 d_X12_under_51.2 ?_
          exact g_ret hO rfl rfl ⟨Nat.le_of_ble_eq_true rfl, Nat.le_of_ble_eq_true rfl⟩ rfl rfl d_X12_under_55.1
theorem t_X12_under (l : Launch) (E : GE) (o : Nat) (x1 : Int32) (x2 : Int32) (x3 : Int32) (x4 : Int32) (S : GS) : ∀ a, f_X12_under o x1 x2 x3 x4 S = some a → Ct l E yX12_under cX12_under 5 (some .int) rm_X12_under [vA (some o), vI x1, vI x2, vI x3, vI x4] S (some (vI a.1)) a.2 :=
  Ct_of (val := fun (b : Int32 × GS) => some (vI b.1)) (nxt := fun (b : Int32 × GS) => b.2) (by decide) (Nat.le_of_ble_eq_true rfl) (fun Γ hl hO => w_X12_under hO o x1 x2 x3 x4 S)
theorem d_X12_deeds_0 : gD cX12_deeds 0 (.aload_n 0) 1 1 := ⟨by decide +kernel, rfl⟩
theorem d_X12_deeds_1 : gD cX12_deeds 1 (.getfield 29) 3 4 := ⟨by decide +kernel, rfl⟩
theorem d_X12_deeds_4 : gD cX12_deeds 4 (.bipush 121) 2 6 := ⟨by decide +kernel, rfl⟩
theorem d_X12_deeds_6 : gD cX12_deeds 6 (.aload_n 0) 1 7 := ⟨by decide +kernel, rfl⟩
theorem d_X12_deeds_7 : gD cX12_deeds 7 (.getfield 313) 3 10 := ⟨by decide +kernel, rfl⟩
theorem d_X12_deeds_10 : gD cX12_deeds 10 (.imul) 1 11 := ⟨by decide +kernel, rfl⟩
theorem d_X12_deeds_11 : gD cX12_deeds 11 (.iaload) 1 12 := ⟨by decide +kernel, rfl⟩
theorem d_X12_deeds_12 : gD cX12_deeds 12 (.ireturn) 1 13 := ⟨by decide +kernel, rfl⟩
abbrev rm_X12_deeds : Room := { frames := 0, cells := 0, slots := 0, locals := 0 }
set_option maxRecDepth 20000 in
theorem w_X12_deeds {Γ : GC} {E : GE} (hO : gOk Γ E cX12_deeds RX12 1 rm_X12_deeds (some .int) "deeds") (o : Nat) (S : GS) : Go Γ E (gBpI Γ E S) 1 (0, 0) 0 S [(0, vA (some o))] [] (f_X12_deeds o S) := by
  unfold f_X12_deeds
  refine g_aload_n hO d_X12_deeds_0 (by rfl) 0 rfl ?_
  refine h_getR hO cl_X12 7 rfl wf_X12_29 d_X12_deeds_1 (fun v1 => ?_)
  refine g_bipush hO 121 d_X12_deeds_4 (by decide) ?_
  refine g_aload_n hO d_X12_deeds_6 (by rfl) 0 rfl ?_
  refine h_getI hO cl_X12 28 rfl wf_X12_313 d_X12_deeds_7 (fun v2 => ?_)
  refine g_imul hO d_X12_deeds_10 ?_
  refine h_iald hO d_X12_deeds_11 (fun v3 => ?_)
  exact g_ret hO rfl rfl ⟨Nat.le_of_ble_eq_true rfl, Nat.le_of_ble_eq_true rfl⟩ rfl rfl d_X12_deeds_12.1
theorem t_X12_deeds (l : Launch) (E : GE) (o : Nat) (S : GS) : ∀ a, f_X12_deeds o S = some a → Ct l E yX12_deeds cX12_deeds 1 (some .int) rm_X12_deeds [vA (some o)] S (some (vI a)) S :=
  Ct_of (val := fun b => some (vI b)) (nxt := fun _ => S) (by decide) (Nat.le_of_ble_eq_true rfl) (fun Γ hl hO => w_X12_deeds hO o S)
theorem d_X12_deedOf_0 : gD cX12_deedOf 0 (.aload_n 0) 1 1 := ⟨by decide +kernel, rfl⟩
theorem d_X12_deedOf_1 : gD cX12_deedOf 1 (.getfield 29) 3 4 := ⟨by decide +kernel, rfl⟩
theorem d_X12_deedOf_4 : gD cX12_deedOf 4 (.bipush 121) 2 6 := ⟨by decide +kernel, rfl⟩
theorem d_X12_deedOf_6 : gD cX12_deedOf 6 (.aload_n 0) 1 7 := ⟨by decide +kernel, rfl⟩
theorem d_X12_deedOf_7 : gD cX12_deedOf 7 (.getfield 313) 3 10 := ⟨by decide +kernel, rfl⟩
theorem d_X12_deedOf_10 : gD cX12_deedOf 10 (.imul) 1 11 := ⟨by decide +kernel, rfl⟩
theorem d_X12_deedOf_11 : gD cX12_deedOf 11 (.iconst 1) 1 12 := ⟨by decide +kernel, rfl⟩
theorem d_X12_deedOf_12 : gD cX12_deedOf 12 (.iadd) 1 13 := ⟨by decide +kernel, rfl⟩
theorem d_X12_deedOf_13 : gD cX12_deedOf 13 (.iconst 3) 1 14 := ⟨by decide +kernel, rfl⟩
theorem d_X12_deedOf_14 : gD cX12_deedOf 14 (.iload_n 1) 1 15 := ⟨by decide +kernel, rfl⟩
theorem d_X12_deedOf_15 : gD cX12_deedOf 15 (.imul) 1 16 := ⟨by decide +kernel, rfl⟩
theorem d_X12_deedOf_16 : gD cX12_deedOf 16 (.iadd) 1 17 := ⟨by decide +kernel, rfl⟩
theorem d_X12_deedOf_17 : gD cX12_deedOf 17 (.iload_n 2) 1 18 := ⟨by decide +kernel, rfl⟩
theorem d_X12_deedOf_18 : gD cX12_deedOf 18 (.iadd) 1 19 := ⟨by decide +kernel, rfl⟩
theorem d_X12_deedOf_19 : gD cX12_deedOf 19 (.iaload) 1 20 := ⟨by decide +kernel, rfl⟩
theorem d_X12_deedOf_20 : gD cX12_deedOf 20 (.ireturn) 1 21 := ⟨by decide +kernel, rfl⟩
abbrev rm_X12_deedOf : Room := { frames := 0, cells := 0, slots := 0, locals := 0 }
set_option maxRecDepth 20000 in
theorem w_X12_deedOf {Γ : GC} {E : GE} (hO : gOk Γ E cX12_deedOf RX12 3 rm_X12_deedOf (some .int) "deedOf") (o : Nat) (x1 : Int32) (x2 : Int32) (S : GS) : Go Γ E (gBpI Γ E S) 3 (0, 0) 0 S [(0, vA (some o)), (1, vI x1), (2, vI x2)] [] (f_X12_deedOf o x1 x2 S) := by
  unfold f_X12_deedOf
  refine g_aload_n hO d_X12_deedOf_0 (by rfl) 0 rfl ?_
  refine h_getR hO cl_X12 7 rfl wf_X12_29 d_X12_deedOf_1 (fun v1 => ?_)
  refine g_bipush hO 121 d_X12_deedOf_4 (by decide) ?_
  refine g_aload_n hO d_X12_deedOf_6 (by rfl) 0 rfl ?_
  refine h_getI hO cl_X12 28 rfl wf_X12_313 d_X12_deedOf_7 (fun v2 => ?_)
  refine g_imul hO d_X12_deedOf_10 ?_
  refine g_iconst hO 1 d_X12_deedOf_11 (by decide) ?_
  refine g_iadd hO d_X12_deedOf_12 ?_
  refine g_iconst hO 3 d_X12_deedOf_13 (by decide) ?_
  refine g_iload_n hO d_X12_deedOf_14 (by rfl) 1 rfl ?_
  refine g_imul hO d_X12_deedOf_15 ?_
  refine g_iadd hO d_X12_deedOf_16 ?_
  refine g_iload_n hO d_X12_deedOf_17 (by rfl) 2 rfl ?_
  refine g_iadd hO d_X12_deedOf_18 ?_
  refine h_iald hO d_X12_deedOf_19 (fun v3 => ?_)
  exact g_ret hO rfl rfl ⟨Nat.le_of_ble_eq_true rfl, Nat.le_of_ble_eq_true rfl⟩ rfl rfl d_X12_deedOf_20.1
theorem t_X12_deedOf (l : Launch) (E : GE) (o : Nat) (x1 : Int32) (x2 : Int32) (S : GS) : ∀ a, f_X12_deedOf o x1 x2 S = some a → Ct l E yX12_deedOf cX12_deedOf 3 (some .int) rm_X12_deedOf [vA (some o), vI x1, vI x2] S (some (vI a)) S :=
  Ct_of (val := fun b => some (vI b)) (nxt := fun _ => S) (by decide) (Nat.le_of_ble_eq_true rfl) (fun Γ hl hO => w_X12_deedOf hO o x1 x2 S)
theorem d_X12_hasBall_0 : gD cX12_hasBall 0 (.aload_n 0) 1 1 := ⟨by decide +kernel, rfl⟩
theorem d_X12_hasBall_1 : gD cX12_hasBall 1 (.iload_n 1) 1 2 := ⟨by decide +kernel, rfl⟩
theorem d_X12_hasBall_2 : gD cX12_hasBall 2 (.putfield 313) 3 5 := ⟨by decide +kernel, rfl⟩
theorem d_X12_hasBall_5 : gD cX12_hasBall 5 (.aload_n 0) 1 6 := ⟨by decide +kernel, rfl⟩
theorem d_X12_hasBall_6 : gD cX12_hasBall 6 (.iconst 1) 1 7 := ⟨by decide +kernel, rfl⟩
theorem d_X12_hasBall_7 : gD cX12_hasBall 7 (.iload_n 1) 1 8 := ⟨by decide +kernel, rfl⟩
theorem d_X12_hasBall_8 : gD cX12_hasBall 8 (.invokevirtual 275) 3 11 := ⟨by decide +kernel, rfl⟩
theorem d_X12_hasBall_11 : gD cX12_hasBall 11 (.ireturn) 1 12 := ⟨by decide +kernel, rfl⟩
abbrev rm_X12_hasBall : Room := { frames := 2, cells := 0, slots := 0, locals := 44 }
set_option maxRecDepth 20000 in
theorem w_X12_hasBall {Γ : GC} {E : GE} (hO : gOk Γ E cX12_hasBall RX12 2 rm_X12_hasBall (some .boolean) "hasBall") (o : Nat) (x1 : Int32) (S : GS) : Go Γ E (gBsI Γ E) 2 (0, 0) 0 S [(0, vA (some o)), (1, vI x1)] [] (f_X12_hasBall o x1 S) := by
  unfold f_X12_hasBall
  refine g_aload_n hO d_X12_hasBall_0 (by rfl) 0 rfl ?_
  refine g_iload_n hO d_X12_hasBall_1 (by rfl) 1 rfl ?_
  refine h_putI hO cl_X12 28 rfl rfl wf_X12_313 (Or.inl rfl) d_X12_hasBall_2 (fun S1 => ?_)
  refine g_aload_n hO d_X12_hasBall_5 (by rfl) 0 rfl ?_
  refine g_iconst hO 1 d_X12_hasBall_6 (by decide) ?_
  refine g_iload_n hO d_X12_hasBall_7 (by rfl) 1 rfl ?_
  refine k_virtIp hO cl_X12 mm_X12_is lkV_X12_275 ⟨⟨Nat.le_of_ble_eq_true rfl, Nat.le_of_ble_eq_true rfl⟩, Nat.le_of_ble_eq_true rfl, Nat.le_of_ble_eq_true rfl⟩ (kn' := (0, 0)) rfl (As := [vI 1, vI x1]) rfl (Nat.le_of_ble_eq_true rfl) (fun o' _ => t_X12_is Γ.2.1 E o' 1 x1 S1) d_X12_hasBall_8 rfl (fun v2 => ?_)
  exact g_zret hO rfl ⟨Nat.le_of_ble_eq_true rfl, Nat.le_of_ble_eq_true rfl⟩ rfl rfl d_X12_hasBall_11.1
theorem t_X12_hasBall (l : Launch) (E : GE) (o : Nat) (x1 : Int32) (S : GS) : ∀ a, f_X12_hasBall o x1 S = some a → Ct l E yX12_hasBall cX12_hasBall 2 (some .boolean) rm_X12_hasBall [vA (some o), vI x1] S (some (vI a.1)) a.2 :=
  Ct_of (val := fun (b : Int32 × GS) => some (vI b.1)) (nxt := fun (b : Int32 × GS) => b.2) (by decide) (Nat.le_of_ble_eq_true rfl) (fun Γ hl hO => w_X12_hasBall hO o x1 S)
theorem d_X12_deed_0 : gD cX12_deed 0 (.aload_n 0) 1 1 := ⟨by decide +kernel, rfl⟩
theorem d_X12_deed_1 : gD cX12_deed 1 (.iconst 0) 1 2 := ⟨by decide +kernel, rfl⟩
theorem d_X12_deed_2 : gD cX12_deed 2 (.putfield 100) 3 5 := ⟨by decide +kernel, rfl⟩
theorem d_X12_deed_5 : gD cX12_deed 5 (.aload_n 0) 1 6 := ⟨by decide +kernel, rfl⟩
theorem d_X12_deed_6 : gD cX12_deed 6 (.iload_n 1) 1 7 := ⟨by decide +kernel, rfl⟩
theorem d_X12_deed_7 : gD cX12_deed 7 (.invokevirtual 316) 3 10 := ⟨by decide +kernel, rfl⟩
theorem d_X12_deed_10 : gD cX12_deed 10 (.ifCond .ne 6) 3 13 ∧ ((10 : Nat) : Int) + 6 = ((16 : Nat) : Int) := ⟨⟨by decide +kernel, rfl⟩, by decide⟩
theorem d_X12_deed_13 : gD cX12_deed 13 (.bipush (-2)) 2 15 := ⟨by decide +kernel, rfl⟩
theorem d_X12_deed_15 : gD cX12_deed 15 (.ireturn) 1 16 := ⟨by decide +kernel, rfl⟩
theorem d_X12_deed_16 : gD cX12_deed 16 (.iload_n 2) 1 17 := ⟨by decide +kernel, rfl⟩
theorem d_X12_deed_17 : gD cX12_deed 17 (.iconst (-1)) 1 18 := ⟨by decide +kernel, rfl⟩
theorem d_X12_deed_18 : gD cX12_deed 18 (.if_icmp .ne 17) 3 21 ∧ ((18 : Nat) : Int) + 17 = ((35 : Nat) : Int) := ⟨⟨by decide +kernel, rfl⟩, by decide⟩
theorem d_X12_deed_21 : gD cX12_deed 21 (.iload_n 3) 1 22 := ⟨by decide +kernel, rfl⟩
theorem d_X12_deed_22 : gD cX12_deed 22 (.ifCond .ne 10) 3 25 ∧ ((22 : Nat) : Int) + 10 = ((32 : Nat) : Int) := ⟨⟨by decide +kernel, rfl⟩, by decide⟩
theorem d_X12_deed_25 : gD cX12_deed 25 (.aload_n 0) 1 26 := ⟨by decide +kernel, rfl⟩
theorem d_X12_deed_26 : gD cX12_deed 26 (.invokevirtual 319) 3 29 := ⟨by decide +kernel, rfl⟩
theorem d_X12_deed_29 : decode cX12_deed 29 = .ok (.goto 5, 3) ∧ ((29 : Nat) : Int) + 5 = ((34 : Nat) : Int) := ⟨by decide +kernel, by decide⟩
theorem d_X12_deed_32 : gD cX12_deed 32 (.bipush (-2)) 2 34 := ⟨by decide +kernel, rfl⟩
theorem d_X12_deed_34 : gD cX12_deed 34 (.ireturn) 1 35 := ⟨by decide +kernel, rfl⟩
theorem d_X12_deed_35 : gD cX12_deed 35 (.iload_n 2) 1 36 := ⟨by decide +kernel, rfl⟩
theorem d_X12_deed_36 : gD cX12_deed 36 (.iconst 0) 1 37 := ⟨by decide +kernel, rfl⟩
theorem d_X12_deed_37 : gD cX12_deed 37 (.aload_n 0) 1 38 := ⟨by decide +kernel, rfl⟩
theorem d_X12_deed_38 : gD cX12_deed 38 (.invokevirtual 319) 3 41 := ⟨by decide +kernel, rfl⟩
theorem d_X12_deed_41 : gD cX12_deed 41 (.iconst 1) 1 42 := ⟨by decide +kernel, rfl⟩
theorem d_X12_deed_42 : gD cX12_deed 42 (.isub) 1 43 := ⟨by decide +kernel, rfl⟩
theorem d_X12_deed_43 : gD cX12_deed 43 (.invokestatic 112) 3 46 := ⟨by decide +kernel, rfl⟩
theorem d_X12_deed_46 : gD cX12_deed 46 (.ifCond .eq 21) 3 49 ∧ ((46 : Nat) : Int) + 21 = ((67 : Nat) : Int) := ⟨⟨by decide +kernel, rfl⟩, by decide⟩
theorem d_X12_deed_49 : gD cX12_deed 49 (.iload_n 3) 1 50 := ⟨by decide +kernel, rfl⟩
theorem d_X12_deed_50 : gD cX12_deed 50 (.iconst 0) 1 51 := ⟨by decide +kernel, rfl⟩
theorem d_X12_deed_51 : gD cX12_deed 51 (.iconst 2) 1 52 := ⟨by decide +kernel, rfl⟩
theorem d_X12_deed_52 : gD cX12_deed 52 (.invokestatic 112) 3 55 := ⟨by decide +kernel, rfl⟩
theorem d_X12_deed_55 : gD cX12_deed 55 (.ifCond .eq 12) 3 58 ∧ ((55 : Nat) : Int) + 12 = ((67 : Nat) : Int) := ⟨⟨by decide +kernel, rfl⟩, by decide⟩
theorem d_X12_deed_58 : gD cX12_deed 58 (.aload_n 0) 1 59 := ⟨by decide +kernel, rfl⟩
theorem d_X12_deed_59 : gD cX12_deed 59 (.iload_n 2) 1 60 := ⟨by decide +kernel, rfl⟩
theorem d_X12_deed_60 : gD cX12_deed 60 (.iload_n 3) 1 61 := ⟨by decide +kernel, rfl⟩
theorem d_X12_deed_61 : gD cX12_deed 61 (.invokevirtual 322) 3 64 := ⟨by decide +kernel, rfl⟩
theorem d_X12_deed_64 : decode cX12_deed 64 = .ok (.goto 5, 3) ∧ ((64 : Nat) : Int) + 5 = ((69 : Nat) : Int) := ⟨by decide +kernel, by decide⟩
theorem d_X12_deed_67 : gD cX12_deed 67 (.bipush (-2)) 2 69 := ⟨by decide +kernel, rfl⟩
theorem d_X12_deed_69 : gD cX12_deed 69 (.ireturn) 1 70 := ⟨by decide +kernel, rfl⟩
abbrev rm_X12_deed : Room := { frames := 3, cells := 0, slots := 0, locals := 65 }
set_option maxRecDepth 20000 in
theorem w_X12_deed {Γ : GC} {E : GE} (hO : gOk Γ E cX12_deed RX12 4 rm_X12_deed (some .int) "deed") (o : Nat) (x1 : Int32) (x2 : Int32) (x3 : Int32) (S : GS) : Go Γ E (gBsI Γ E) 4 (0, 0) 0 S [(0, vA (some o)), (1, vI x1), (2, vI x2), (3, vI x3)] [] (f_X12_deed o x1 x2 x3 S) := by
  unfold f_X12_deed
  refine g_aload_n hO d_X12_deed_0 (by rfl) 0 rfl ?_
  refine g_iconst hO 0 d_X12_deed_1 (by decide) ?_
  refine h_putI hO cl_X12 0 rfl rfl wf_X12_100 (Or.inl rfl) d_X12_deed_2 (fun S1 => ?_)
  refine g_aload_n hO d_X12_deed_5 (by rfl) 0 rfl ?_
  refine g_iload_n hO d_X12_deed_6 (by rfl) 1 rfl ?_
  refine k_virtIs hO cl_X12 mm_X12_hasBall lkV_X12_316 ⟨⟨Nat.le_of_ble_eq_true rfl, Nat.le_of_ble_eq_true rfl⟩, Nat.le_of_ble_eq_true rfl, Nat.le_of_ble_eq_true rfl⟩ (kn' := (0, 0)) rfl (As := [vI x1]) rfl (Nat.le_of_ble_eq_true rfl) (fun o' _ => t_X12_hasBall Γ.2.1 E o' x1 S1) d_X12_deed_7 rfl (fun v2 S3 => ?_)
  refine g_if_ne (tgt := 16) hO d_X12_deed_10.1 d_X12_deed_10.2 (fun _ => ?_) (fun _ => ?_)
  · skip
    refine g_bipush hO (-2) d_X12_deed_13 (by decide) ?_
    exact g_ret hO rfl rfl ⟨Nat.le_of_ble_eq_true rfl, Nat.le_of_ble_eq_true rfl⟩ rfl rfl d_X12_deed_15.1
  · skip
    refine g_iload_n hO d_X12_deed_16 (by rfl) 2 rfl ?_
    refine g_iconst hO (-1) d_X12_deed_17 (by decide) ?_
    refine g_ic_ne (tgt := 35) hO d_X12_deed_18.1 d_X12_deed_18.2 (fun _ => ?_) (fun _ => ?_)
    · skip
      refine g_iload_n hO d_X12_deed_21 (by rfl) 3 rfl ?_
      refine g_if_ne (tgt := 32) hO d_X12_deed_22.1 d_X12_deed_22.2 (fun _ => ?_) (fun _ => ?_)
      · skip
        refine g_aload_n hO d_X12_deed_25 (by rfl) 0 rfl ?_
        refine k_virtIp hO cl_X12 mm_X12_deeds lkV_X12_319 ⟨⟨Nat.le_of_ble_eq_true rfl, Nat.le_of_ble_eq_true rfl⟩, Nat.le_of_ble_eq_true rfl, Nat.le_of_ble_eq_true rfl⟩ (kn' := (0, 0)) rfl (As := []) rfl (Nat.le_of_ble_eq_true rfl) (fun o' _ => t_X12_deeds Γ.2.1 E o' S3) d_X12_deed_26 rfl (fun v4 => ?_)
        refine g_goto (tgt := 34) hO d_X12_deed_29.1 d_X12_deed_29.2 ?_
        exact g_ret hO rfl rfl ⟨Nat.le_of_ble_eq_true rfl, Nat.le_of_ble_eq_true rfl⟩ rfl rfl d_X12_deed_34.1
      · skip
        refine g_bipush hO (-2) d_X12_deed_32 (by decide) ?_
        exact g_ret hO rfl rfl ⟨Nat.le_of_ble_eq_true rfl, Nat.le_of_ble_eq_true rfl⟩ rfl rfl d_X12_deed_34.1
    · skip
      refine g_iload_n hO d_X12_deed_35 (by rfl) 2 rfl ?_
      refine g_iconst hO 0 d_X12_deed_36 (by decide) ?_
      refine g_aload_n hO d_X12_deed_37 (by rfl) 0 rfl ?_
      refine k_virtIp hO cl_X12 mm_X12_deeds lkV_X12_319 ⟨⟨Nat.le_of_ble_eq_true rfl, Nat.le_of_ble_eq_true rfl⟩, Nat.le_of_ble_eq_true rfl, Nat.le_of_ble_eq_true rfl⟩ (kn' := (0, 0)) rfl (As := []) rfl (Nat.le_of_ble_eq_true rfl) (fun o' _ => t_X12_deeds Γ.2.1 E o' S3) d_X12_deed_38 rfl (fun v6 => ?_)
      refine g_iconst hO 1 d_X12_deed_41 (by decide) ?_
      refine g_isub hO d_X12_deed_42 ?_
      refine k_statIp hO mm_X12_in lkS_X12_112 ⟨⟨Nat.le_of_ble_eq_true rfl, Nat.le_of_ble_eq_true rfl⟩, Nat.le_of_ble_eq_true rfl, Nat.le_of_ble_eq_true rfl⟩ (kn' := (0, 0)) rfl (As := [vI x2, vI 0, vI (v6 - 1)]) rfl (Nat.le_of_ble_eq_true rfl) (t_X12_in Γ.2.1 E x2 0 (v6 - 1) S3) d_X12_deed_43 rfl (fun v8 => ?_)
      refine g_if_eq (tgt := 67) hO d_X12_deed_46.1 d_X12_deed_46.2 (fun _ => ?_) (fun _ => ?_)
      · skip
        refine g_bipush hO (-2) d_X12_deed_67 (by decide) ?_
        exact g_ret hO rfl rfl ⟨Nat.le_of_ble_eq_true rfl, Nat.le_of_ble_eq_true rfl⟩ rfl rfl d_X12_deed_69.1
      · skip
        refine g_iload_n hO d_X12_deed_49 (by rfl) 3 rfl ?_
        refine g_iconst hO 0 d_X12_deed_50 (by decide) ?_
        refine g_iconst hO 2 d_X12_deed_51 (by decide) ?_
        refine k_statIp hO mm_X12_in lkS_X12_112 ⟨⟨Nat.le_of_ble_eq_true rfl, Nat.le_of_ble_eq_true rfl⟩, Nat.le_of_ble_eq_true rfl, Nat.le_of_ble_eq_true rfl⟩ (kn' := (0, 0)) rfl (As := [vI x3, vI 0, vI 2]) rfl (Nat.le_of_ble_eq_true rfl) (t_X12_in Γ.2.1 E x3 0 2 S3) d_X12_deed_52 rfl (fun v10 => ?_)
        refine g_if_eq (tgt := 67) hO d_X12_deed_55.1 d_X12_deed_55.2 (fun _ => ?_) (fun _ => ?_)
        · skip
          refine g_bipush hO (-2) d_X12_deed_67 (by decide) ?_
          exact g_ret hO rfl rfl ⟨Nat.le_of_ble_eq_true rfl, Nat.le_of_ble_eq_true rfl⟩ rfl rfl d_X12_deed_69.1
        · skip
          refine g_aload_n hO d_X12_deed_58 (by rfl) 0 rfl ?_
          refine g_iload_n hO d_X12_deed_59 (by rfl) 2 rfl ?_
          refine g_iload_n hO d_X12_deed_60 (by rfl) 3 rfl ?_
          refine k_virtIp hO cl_X12 mm_X12_deedOf lkV_X12_322 ⟨⟨Nat.le_of_ble_eq_true rfl, Nat.le_of_ble_eq_true rfl⟩, Nat.le_of_ble_eq_true rfl, Nat.le_of_ble_eq_true rfl⟩ (kn' := (0, 0)) rfl (As := [vI x2, vI x3]) rfl (Nat.le_of_ble_eq_true rfl) (fun o' _ => t_X12_deedOf Γ.2.1 E o' x2 x3 S3) d_X12_deed_61 rfl (fun v12 => ?_)
          refine g_goto (tgt := 69) hO d_X12_deed_64.1 d_X12_deed_64.2 ?_
          exact g_ret hO rfl rfl ⟨Nat.le_of_ble_eq_true rfl, Nat.le_of_ble_eq_true rfl⟩ rfl rfl d_X12_deed_69.1
theorem t_X12_deed (l : Launch) (E : GE) (o : Nat) (x1 : Int32) (x2 : Int32) (x3 : Int32) (S : GS) : ∀ a, f_X12_deed o x1 x2 x3 S = some a → Ct l E yX12_deed cX12_deed 4 (some .int) rm_X12_deed [vA (some o), vI x1, vI x2, vI x3] S (some (vI a.1)) a.2 :=
  Ct_of (val := fun (b : Int32 × GS) => some (vI b.1)) (nxt := fun (b : Int32 × GS) => b.2) (by decide) (Nat.le_of_ble_eq_true rfl) (fun Γ hl hO => w_X12_deed hO o x1 x2 x3 S)
theorem d_X12_begin_0 : gD cX12_begin 0 (.aload_n 0) 1 1 := ⟨by decide +kernel, rfl⟩
theorem d_X12_begin_1 : gD cX12_begin 1 (.aload_n 0) 1 2 := ⟨by decide +kernel, rfl⟩
theorem d_X12_begin_2 : gD cX12_begin 2 (.iconst 5) 1 3 := ⟨by decide +kernel, rfl⟩
theorem d_X12_begin_3 : gD cX12_begin 3 (.invokevirtual 287) 3 6 := ⟨by decide +kernel, rfl⟩
theorem d_X12_begin_6 : gD cX12_begin 6 (.putfield 325) 3 9 := ⟨by decide +kernel, rfl⟩
theorem d_X12_begin_9 : gD cX12_begin 9 (.aload_n 0) 1 10 := ⟨by decide +kernel, rfl⟩
theorem d_X12_begin_10 : gD cX12_begin 10 (.iconst 0) 1 11 := ⟨by decide +kernel, rfl⟩
theorem d_X12_begin_11 : gD cX12_begin 11 (.putfield 328) 3 14 := ⟨by decide +kernel, rfl⟩
theorem d_X12_begin_14 : gD cX12_begin 14 (.aload_n 0) 1 15 := ⟨by decide +kernel, rfl⟩
theorem d_X12_begin_15 : gD cX12_begin 15 (.iconst 1) 1 16 := ⟨by decide +kernel, rfl⟩
theorem d_X12_begin_16 : gD cX12_begin 16 (.aload_n 0) 1 17 := ⟨by decide +kernel, rfl⟩
theorem d_X12_begin_17 : gD cX12_begin 17 (.getfield 294) 3 20 := ⟨by decide +kernel, rfl⟩
theorem d_X12_begin_20 : gD cX12_begin 20 (.ishl) 1 21 := ⟨by decide +kernel, rfl⟩
theorem d_X12_begin_21 : gD cX12_begin 21 (.iconst 1) 1 22 := ⟨by decide +kernel, rfl⟩
theorem d_X12_begin_22 : gD cX12_begin 22 (.isub) 1 23 := ⟨by decide +kernel, rfl⟩
theorem d_X12_begin_23 : gD cX12_begin 23 (.putfield 331) 3 26 := ⟨by decide +kernel, rfl⟩
theorem d_X12_begin_26 : gD cX12_begin 26 (.aload_n 0) 1 27 := ⟨by decide +kernel, rfl⟩
theorem d_X12_begin_27 : gD cX12_begin 27 (.iconst 0) 1 28 := ⟨by decide +kernel, rfl⟩
theorem d_X12_begin_28 : gD cX12_begin 28 (.putfield 334) 3 31 := ⟨by decide +kernel, rfl⟩
theorem d_X12_begin_31 : gD cX12_begin 31 (.aload_n 0) 1 32 := ⟨by decide +kernel, rfl⟩
theorem d_X12_begin_32 : gD cX12_begin 32 (.iconst 0) 1 33 := ⟨by decide +kernel, rfl⟩
theorem d_X12_begin_33 : gD cX12_begin 33 (.putfield 337) 3 36 := ⟨by decide +kernel, rfl⟩
theorem d_X12_begin_36 : gD cX12_begin 36 (.aload_n 0) 1 37 := ⟨by decide +kernel, rfl⟩
theorem d_X12_begin_37 : gD cX12_begin 37 (.iconst 0) 1 38 := ⟨by decide +kernel, rfl⟩
theorem d_X12_begin_38 : gD cX12_begin 38 (.putfield 340) 3 41 := ⟨by decide +kernel, rfl⟩
theorem d_X12_begin_41 : gD cX12_begin 41 (.aload_n 0) 1 42 := ⟨by decide +kernel, rfl⟩
theorem d_X12_begin_42 : gD cX12_begin 42 (.iconst 0) 1 43 := ⟨by decide +kernel, rfl⟩
theorem d_X12_begin_43 : gD cX12_begin 43 (.putfield 343) 3 46 := ⟨by decide +kernel, rfl⟩
theorem d_X12_begin_46 : gD cX12_begin 46 (.aload_n 0) 1 47 := ⟨by decide +kernel, rfl⟩
theorem d_X12_begin_47 : gD cX12_begin 47 (.iconst 0) 1 48 := ⟨by decide +kernel, rfl⟩
theorem d_X12_begin_48 : gD cX12_begin 48 (.putfield 346) 3 51 := ⟨by decide +kernel, rfl⟩
theorem d_X12_begin_51 : gD cX12_begin 51 (.aload_n 0) 1 52 := ⟨by decide +kernel, rfl⟩
theorem d_X12_begin_52 : gD cX12_begin 52 (.iconst (-1)) 1 53 := ⟨by decide +kernel, rfl⟩
theorem d_X12_begin_53 : gD cX12_begin 53 (.putfield 349) 3 56 := ⟨by decide +kernel, rfl⟩
theorem d_X12_begin_56 : gD cX12_begin 56 (.aload_n 0) 1 57 := ⟨by decide +kernel, rfl⟩
theorem d_X12_begin_57 : gD cX12_begin 57 (.iconst 1) 1 58 := ⟨by decide +kernel, rfl⟩
theorem d_X12_begin_58 : gD cX12_begin 58 (.aload_n 0) 1 59 := ⟨by decide +kernel, rfl⟩
theorem d_X12_begin_59 : gD cX12_begin 59 (.getfield 291) 3 62 := ⟨by decide +kernel, rfl⟩
theorem d_X12_begin_62 : gD cX12_begin 62 (.ishl) 1 63 := ⟨by decide +kernel, rfl⟩
theorem d_X12_begin_63 : gD cX12_begin 63 (.iconst 1) 1 64 := ⟨by decide +kernel, rfl⟩
theorem d_X12_begin_64 : gD cX12_begin 64 (.isub) 1 65 := ⟨by decide +kernel, rfl⟩
theorem d_X12_begin_65 : gD cX12_begin 65 (.putfield 352) 3 68 := ⟨by decide +kernel, rfl⟩
theorem d_X12_begin_68 : gD cX12_begin 68 (.iconst 0) 1 69 := ⟨by decide +kernel, rfl⟩
theorem d_X12_begin_69 : gD cX12_begin 69 (.istore_n 1) 1 70 := ⟨by decide +kernel, rfl⟩
theorem d_X12_begin_70 : gD cX12_begin 70 (.iload_n 1) 1 71 := ⟨by decide +kernel, rfl⟩
theorem d_X12_begin_71 : gD cX12_begin 71 (.aload_n 0) 1 72 := ⟨by decide +kernel, rfl⟩
theorem d_X12_begin_72 : gD cX12_begin 72 (.getfield 294) 3 75 := ⟨by decide +kernel, rfl⟩
theorem d_X12_begin_75 : gD cX12_begin 75 (.if_icmp .ge 54) 3 78 ∧ ((75 : Nat) : Int) + 54 = ((129 : Nat) : Int) := ⟨⟨by decide +kernel, rfl⟩, by decide⟩
theorem d_X12_begin_78 : gD cX12_begin 78 (.aload_n 0) 1 79 := ⟨by decide +kernel, rfl⟩
theorem d_X12_begin_79 : gD cX12_begin 79 (.getfield 53) 3 82 := ⟨by decide +kernel, rfl⟩
theorem d_X12_begin_82 : gD cX12_begin 82 (.iload_n 1) 1 83 := ⟨by decide +kernel, rfl⟩
theorem d_X12_begin_83 : gD cX12_begin 83 (.aload_n 0) 1 84 := ⟨by decide +kernel, rfl⟩
theorem d_X12_begin_84 : gD cX12_begin 84 (.iload_n 1) 1 85 := ⟨by decide +kernel, rfl⟩
theorem d_X12_begin_85 : gD cX12_begin 85 (.iconst 0) 1 86 := ⟨by decide +kernel, rfl⟩
theorem d_X12_begin_86 : gD cX12_begin 86 (.invokevirtual 306) 3 89 := ⟨by decide +kernel, rfl⟩
theorem d_X12_begin_89 : gD cX12_begin 89 (.iastore) 1 90 := ⟨by decide +kernel, rfl⟩
theorem d_X12_begin_90 : gD cX12_begin 90 (.aload_n 0) 1 91 := ⟨by decide +kernel, rfl⟩
theorem d_X12_begin_91 : gD cX12_begin 91 (.getfield 56) 3 94 := ⟨by decide +kernel, rfl⟩
theorem d_X12_begin_94 : gD cX12_begin 94 (.iload_n 1) 1 95 := ⟨by decide +kernel, rfl⟩
theorem d_X12_begin_95 : gD cX12_begin 95 (.aload_n 0) 1 96 := ⟨by decide +kernel, rfl⟩
theorem d_X12_begin_96 : gD cX12_begin 96 (.iload_n 1) 1 97 := ⟨by decide +kernel, rfl⟩
theorem d_X12_begin_97 : gD cX12_begin 97 (.iconst 1) 1 98 := ⟨by decide +kernel, rfl⟩
theorem d_X12_begin_98 : gD cX12_begin 98 (.invokevirtual 306) 3 101 := ⟨by decide +kernel, rfl⟩
theorem d_X12_begin_101 : gD cX12_begin 101 (.iastore) 1 102 := ⟨by decide +kernel, rfl⟩
theorem d_X12_begin_102 : gD cX12_begin 102 (.aload_n 0) 1 103 := ⟨by decide +kernel, rfl⟩
theorem d_X12_begin_103 : gD cX12_begin 103 (.getfield 59) 3 106 := ⟨by decide +kernel, rfl⟩
theorem d_X12_begin_106 : gD cX12_begin 106 (.iload_n 1) 1 107 := ⟨by decide +kernel, rfl⟩
theorem d_X12_begin_107 : gD cX12_begin 107 (.iconst 0) 1 108 := ⟨by decide +kernel, rfl⟩
theorem d_X12_begin_108 : gD cX12_begin 108 (.iastore) 1 109 := ⟨by decide +kernel, rfl⟩
theorem d_X12_begin_109 : gD cX12_begin 109 (.aload_n 0) 1 110 := ⟨by decide +kernel, rfl⟩
theorem d_X12_begin_110 : gD cX12_begin 110 (.getfield 62) 3 113 := ⟨by decide +kernel, rfl⟩
theorem d_X12_begin_113 : gD cX12_begin 113 (.iload_n 1) 1 114 := ⟨by decide +kernel, rfl⟩
theorem d_X12_begin_114 : gD cX12_begin 114 (.iconst 0) 1 115 := ⟨by decide +kernel, rfl⟩
theorem d_X12_begin_115 : gD cX12_begin 115 (.iastore) 1 116 := ⟨by decide +kernel, rfl⟩
theorem d_X12_begin_116 : gD cX12_begin 116 (.aload_n 0) 1 117 := ⟨by decide +kernel, rfl⟩
theorem d_X12_begin_117 : gD cX12_begin 117 (.getfield 65) 3 120 := ⟨by decide +kernel, rfl⟩
theorem d_X12_begin_120 : gD cX12_begin 120 (.iload_n 1) 1 121 := ⟨by decide +kernel, rfl⟩
theorem d_X12_begin_121 : gD cX12_begin 121 (.iconst (-1)) 1 122 := ⟨by decide +kernel, rfl⟩
theorem d_X12_begin_122 : gD cX12_begin 122 (.iastore) 1 123 := ⟨by decide +kernel, rfl⟩
theorem d_X12_begin_123 : gD cX12_begin 123 (.iinc 1 1) 3 126 := ⟨by decide +kernel, rfl⟩
theorem d_X12_begin_126 : decode cX12_begin 126 = .ok (.goto (-56), 3) ∧ ((126 : Nat) : Int) + (-56) = ((70 : Nat) : Int) := ⟨by decide +kernel, by decide⟩
theorem d_X12_begin_129 : gD cX12_begin 129 (.return_) 1 130 := ⟨by decide +kernel, rfl⟩
abbrev rm_X12_begin : Room := { frames := 2, cells := 0, slots := 0, locals := 43 }
set_option maxRecDepth 20000 in
theorem w_X12_begin_70 {Γ : GC} {E : GE} (hO : gOk Γ E cX12_begin RX12 2 rm_X12_begin none "begin") (o : Nat) : ∀ (n : Nat) (x1 : Int32) (S : GS), Go Γ E (gBsV Γ E) 2 (0, 0) 70 S [(0, vA (some o)), (1, vI x1)] [] (f_X12_begin_70 o n x1 S) := by
  intro n
  induction n with
  | zero =>
    intro x1 S
    exact g_none
  | succ n ih =>
    intro x1 S
    rw [f_X12_begin_70]
    refine g_iload_n hO d_X12_begin_70 (by rfl) 1 rfl ?_
    refine g_aload_n hO d_X12_begin_71 (by rfl) 0 rfl ?_
    refine h_getI hO cl_X12 27 rfl wf_X12_294 d_X12_begin_72 (fun v1 => ?_)
    refine g_ic_ge (tgt := 129) hO d_X12_begin_75.1 d_X12_begin_75.2 (fun _ => ?_) (fun _ => ?_)
    · skip
      exact g_vret hO rfl ⟨Nat.le_of_ble_eq_true rfl, Nat.le_of_ble_eq_true rfl⟩ rfl rfl d_X12_begin_129.1
    · skip
      refine g_aload_n hO d_X12_begin_78 (by rfl) 0 rfl ?_
      refine h_getR hO cl_X12 40 rfl wf_X12_53 d_X12_begin_79 (fun v2 => ?_)
      refine g_iload_n hO d_X12_begin_82 (by rfl) 1 rfl ?_
      refine g_aload_n hO d_X12_begin_83 (by rfl) 0 rfl ?_
      refine g_iload_n hO d_X12_begin_84 (by rfl) 1 rfl ?_
      refine g_iconst hO 0 d_X12_begin_85 (by decide) ?_
      refine k_virtIp hO cl_X12 mm_X12_ofLady lkV_X12_306 ⟨⟨Nat.le_of_ble_eq_true rfl, Nat.le_of_ble_eq_true rfl⟩, Nat.le_of_ble_eq_true rfl, Nat.le_of_ble_eq_true rfl⟩ (kn' := (0, 0)) rfl (As := [vI x1, vI 0]) rfl (Nat.le_of_ble_eq_true rfl) (fun o' _ => t_X12_ofLady Γ.2.1 E o' x1 0 S) d_X12_begin_86 rfl (fun v3 => ?_)
      refine h_iast hO d_X12_begin_89 (fun S5 => ?_)
      refine g_aload_n hO d_X12_begin_90 (by rfl) 0 rfl ?_
      refine h_getR hO cl_X12 41 rfl wf_X12_56 d_X12_begin_91 (fun v6 => ?_)
      refine g_iload_n hO d_X12_begin_94 (by rfl) 1 rfl ?_
      refine g_aload_n hO d_X12_begin_95 (by rfl) 0 rfl ?_
      refine g_iload_n hO d_X12_begin_96 (by rfl) 1 rfl ?_
      refine g_iconst hO 1 d_X12_begin_97 (by decide) ?_
      refine k_virtIp hO cl_X12 mm_X12_ofLady lkV_X12_306 ⟨⟨Nat.le_of_ble_eq_true rfl, Nat.le_of_ble_eq_true rfl⟩, Nat.le_of_ble_eq_true rfl, Nat.le_of_ble_eq_true rfl⟩ (kn' := (0, 0)) rfl (As := [vI x1, vI 1]) rfl (Nat.le_of_ble_eq_true rfl) (fun o' _ => t_X12_ofLady Γ.2.1 E o' x1 1 S5) d_X12_begin_98 rfl (fun v7 => ?_)
      refine h_iast hO d_X12_begin_101 (fun S9 => ?_)
      refine g_aload_n hO d_X12_begin_102 (by rfl) 0 rfl ?_
      refine h_getR hO cl_X12 42 rfl wf_X12_59 d_X12_begin_103 (fun v10 => ?_)
      refine g_iload_n hO d_X12_begin_106 (by rfl) 1 rfl ?_
      refine g_iconst hO 0 d_X12_begin_107 (by decide) ?_
      refine h_iast hO d_X12_begin_108 (fun S11 => ?_)
      refine g_aload_n hO d_X12_begin_109 (by rfl) 0 rfl ?_
      refine h_getR hO cl_X12 43 rfl wf_X12_62 d_X12_begin_110 (fun v12 => ?_)
      refine g_iload_n hO d_X12_begin_113 (by rfl) 1 rfl ?_
      refine g_iconst hO 0 d_X12_begin_114 (by decide) ?_
      refine h_iast hO d_X12_begin_115 (fun S13 => ?_)
      refine g_aload_n hO d_X12_begin_116 (by rfl) 0 rfl ?_
      refine h_getR hO cl_X12 44 rfl wf_X12_65 d_X12_begin_117 (fun v14 => ?_)
      refine g_iload_n hO d_X12_begin_120 (by rfl) 1 rfl ?_
      refine g_iconst hO (-1) d_X12_begin_121 (by decide) ?_
      refine h_iast hO d_X12_begin_122 (fun S15 => ?_)
      refine g_iinc (lv' := [(1, vI (x1 + 1)), (0, vA (some o))]) hO 1 d_X12_begin_123 (by decide) 1 rfl (by decide) rfl ?_
      refine g_goto (tgt := 70) hO d_X12_begin_126.1 d_X12_begin_126.2 ?_
      exact g_sub [1, 0] rfl (ih _ _)
set_option maxRecDepth 20000 in
theorem w_X12_begin {Γ : GC} {E : GE} (hO : gOk Γ E cX12_begin RX12 2 rm_X12_begin none "begin") (o : Nat) (S : GS) : Go Γ E (gBsV Γ E) 2 (0, 0) 0 S [(0, vA (some o))] [] (f_X12_begin o S) := by
  unfold f_X12_begin
  refine g_aload_n hO d_X12_begin_0 (by rfl) 0 rfl ?_
  refine g_aload_n hO d_X12_begin_1 (by rfl) 0 rfl ?_
  refine g_iconst hO 5 d_X12_begin_2 (by decide) ?_
  refine k_virtIp hO cl_X12 mm_X12_ofCourt lkV_X12_287 ⟨⟨Nat.le_of_ble_eq_true rfl, Nat.le_of_ble_eq_true rfl⟩, Nat.le_of_ble_eq_true rfl, Nat.le_of_ble_eq_true rfl⟩ (kn' := (0, 0)) rfl (As := [vI 5]) rfl (Nat.le_of_ble_eq_true rfl) (fun o' _ => t_X12_ofCourt Γ.2.1 E o' 5 S) d_X12_begin_3 rfl (fun v1 => ?_)
  refine h_putI hO cl_X12 29 rfl rfl wf_X12_325 (Or.inl rfl) d_X12_begin_6 (fun S3 => ?_)
  refine g_aload_n hO d_X12_begin_9 (by rfl) 0 rfl ?_
  refine g_iconst hO 0 d_X12_begin_10 (by decide) ?_
  refine h_putI hO cl_X12 30 rfl rfl wf_X12_328 (Or.inl rfl) d_X12_begin_11 (fun S4 => ?_)
  refine g_aload_n hO d_X12_begin_14 (by rfl) 0 rfl ?_
  refine g_iconst hO 1 d_X12_begin_15 (by decide) ?_
  refine g_aload_n hO d_X12_begin_16 (by rfl) 0 rfl ?_
  refine h_getI hO cl_X12 27 rfl wf_X12_294 d_X12_begin_17 (fun v5 => ?_)
  refine g_ishl hO d_X12_begin_20 ?_
  refine g_iconst hO 1 d_X12_begin_21 (by decide) ?_
  refine g_isub hO d_X12_begin_22 ?_
  refine h_putI hO cl_X12 31 rfl rfl wf_X12_331 (Or.inl rfl) d_X12_begin_23 (fun S6 => ?_)
  refine g_aload_n hO d_X12_begin_26 (by rfl) 0 rfl ?_
  refine g_iconst hO 0 d_X12_begin_27 (by decide) ?_
  refine h_putI hO cl_X12 32 rfl rfl wf_X12_334 (Or.inl rfl) d_X12_begin_28 (fun S7 => ?_)
  refine g_aload_n hO d_X12_begin_31 (by rfl) 0 rfl ?_
  refine g_iconst hO 0 d_X12_begin_32 (by decide) ?_
  refine h_putI hO cl_X12 33 rfl rfl wf_X12_337 (Or.inl rfl) d_X12_begin_33 (fun S8 => ?_)
  refine g_aload_n hO d_X12_begin_36 (by rfl) 0 rfl ?_
  refine g_iconst hO 0 d_X12_begin_37 (by decide) ?_
  refine h_putI hO cl_X12 34 rfl rfl wf_X12_340 (Or.inl rfl) d_X12_begin_38 (fun S9 => ?_)
  refine g_aload_n hO d_X12_begin_41 (by rfl) 0 rfl ?_
  refine g_iconst hO 0 d_X12_begin_42 (by decide) ?_
  refine h_putI hO cl_X12 35 rfl rfl wf_X12_343 (Or.inl rfl) d_X12_begin_43 (fun S10 => ?_)
  refine g_aload_n hO d_X12_begin_46 (by rfl) 0 rfl ?_
  refine g_iconst hO 0 d_X12_begin_47 (by decide) ?_
  refine h_putI hO cl_X12 36 rfl rfl wf_X12_346 (Or.inl rfl) d_X12_begin_48 (fun S11 => ?_)
  refine g_aload_n hO d_X12_begin_51 (by rfl) 0 rfl ?_
  refine g_iconst hO (-1) d_X12_begin_52 (by decide) ?_
  refine h_putI hO cl_X12 37 rfl rfl wf_X12_349 (Or.inl rfl) d_X12_begin_53 (fun S12 => ?_)
  refine g_aload_n hO d_X12_begin_56 (by rfl) 0 rfl ?_
  refine g_iconst hO 1 d_X12_begin_57 (by decide) ?_
  refine g_aload_n hO d_X12_begin_58 (by rfl) 0 rfl ?_
  refine h_getI hO cl_X12 26 rfl wf_X12_291 d_X12_begin_59 (fun v13 => ?_)
  refine g_ishl hO d_X12_begin_62 ?_
  refine g_iconst hO 1 d_X12_begin_63 (by decide) ?_
  refine g_isub hO d_X12_begin_64 ?_
  refine h_putI hO cl_X12 38 rfl rfl wf_X12_352 (Or.inl rfl) d_X12_begin_65 (fun S14 => ?_)
  refine g_iconst hO 0 d_X12_begin_68 (by decide) ?_
  refine g_istore_n (lv' := [(1, vI 0), (0, vA (some o))]) hO d_X12_begin_69 (by rfl) (by decide) rfl ?_
  exact g_sub [1, 0] rfl (w_X12_begin_70 hO o _ _ _)
theorem t_X12_begin (l : Launch) (E : GE) (o : Nat) (S : GS) : ∀ a, f_X12_begin o S = some a → Ct l E yX12_begin cX12_begin 2 none rm_X12_begin [vA (some o)] S none a :=
  Ct_of (val := fun _ => none) (nxt := fun b => b) (by decide) (Nat.le_of_ble_eq_true rfl) (fun Γ hl hO => w_X12_begin hO o S)
theorem d_X12_airOf_0 : gD cX12_airOf 0 (.aload_n 0) 1 1 := ⟨by decide +kernel, rfl⟩
theorem d_X12_airOf_1 : gD cX12_airOf 1 (.getfield 352) 3 4 := ⟨by decide +kernel, rfl⟩
theorem d_X12_airOf_4 : gD cX12_airOf 4 (.iload_n 1) 1 5 := ⟨by decide +kernel, rfl⟩
theorem d_X12_airOf_5 : gD cX12_airOf 5 (.invokestatic 104) 3 8 := ⟨by decide +kernel, rfl⟩
theorem d_X12_airOf_8 : gD cX12_airOf 8 (.ifCond .eq 10) 3 11 ∧ ((8 : Nat) : Int) + 10 = ((18 : Nat) : Int) := ⟨⟨by decide +kernel, rfl⟩, by decide⟩
theorem d_X12_airOf_11 : gD cX12_airOf 11 (.aload_n 0) 1 12 := ⟨by decide +kernel, rfl⟩
theorem d_X12_airOf_12 : gD cX12_airOf 12 (.getfield 325) 3 15 := ⟨by decide +kernel, rfl⟩
theorem d_X12_airOf_15 : decode cX12_airOf 15 = .ok (.goto 9, 3) ∧ ((15 : Nat) : Int) + 9 = ((24 : Nat) : Int) := ⟨by decide +kernel, by decide⟩
theorem d_X12_airOf_18 : gD cX12_airOf 18 (.aload_n 0) 1 19 := ⟨by decide +kernel, rfl⟩
theorem d_X12_airOf_19 : gD cX12_airOf 19 (.getfield 50) 3 22 := ⟨by decide +kernel, rfl⟩
theorem d_X12_airOf_22 : gD cX12_airOf 22 (.iload_n 1) 1 23 := ⟨by decide +kernel, rfl⟩
theorem d_X12_airOf_23 : gD cX12_airOf 23 (.iaload) 1 24 := ⟨by decide +kernel, rfl⟩
theorem d_X12_airOf_24 : gD cX12_airOf 24 (.ireturn) 1 25 := ⟨by decide +kernel, rfl⟩
abbrev rm_X12_airOf : Room := { frames := 1, cells := 0, slots := 0, locals := 21 }
set_option maxRecDepth 20000 in
theorem w_X12_airOf {Γ : GC} {E : GE} (hO : gOk Γ E cX12_airOf RX12 2 rm_X12_airOf (some .int) "airOf") (o : Nat) (x1 : Int32) (S : GS) : Go Γ E (gBpI Γ E S) 2 (0, 0) 0 S [(0, vA (some o)), (1, vI x1)] [] (f_X12_airOf o x1 S) := by
  unfold f_X12_airOf
  refine g_aload_n hO d_X12_airOf_0 (by rfl) 0 rfl ?_
  refine h_getI hO cl_X12 38 rfl wf_X12_352 d_X12_airOf_1 (fun v1 => ?_)
  refine g_iload_n hO d_X12_airOf_4 (by rfl) 1 rfl ?_
  refine k_statIp hO mm_X12_has lkS_X12_104 ⟨⟨Nat.le_of_ble_eq_true rfl, Nat.le_of_ble_eq_true rfl⟩, Nat.le_of_ble_eq_true rfl, Nat.le_of_ble_eq_true rfl⟩ (kn' := (0, 0)) rfl (As := [vI v1, vI x1]) rfl (Nat.le_of_ble_eq_true rfl) (t_X12_has Γ.2.1 E v1 x1 S) d_X12_airOf_5 rfl (fun v2 => ?_)
  refine g_if_eq (tgt := 18) hO d_X12_airOf_8.1 d_X12_airOf_8.2 (fun _ => ?_) (fun _ => ?_)
  · skip
    refine g_aload_n hO d_X12_airOf_18 (by rfl) 0 rfl ?_
    refine h_getR hO cl_X12 39 rfl wf_X12_50 d_X12_airOf_19 (fun v4 => ?_)
    refine g_iload_n hO d_X12_airOf_22 (by rfl) 1 rfl ?_
    refine h_iald hO d_X12_airOf_23 (fun v5 => ?_)
    exact g_ret hO rfl rfl ⟨Nat.le_of_ble_eq_true rfl, Nat.le_of_ble_eq_true rfl⟩ rfl rfl d_X12_airOf_24.1
  · skip
    refine g_aload_n hO d_X12_airOf_11 (by rfl) 0 rfl ?_
    refine h_getI hO cl_X12 29 rfl wf_X12_325 d_X12_airOf_12 (fun v6 => ?_)
    refine g_goto (tgt := 24) hO d_X12_airOf_15.1 d_X12_airOf_15.2 ?_
    exact g_ret hO rfl rfl ⟨Nat.le_of_ble_eq_true rfl, Nat.le_of_ble_eq_true rfl⟩ rfl rfl d_X12_airOf_24.1
theorem t_X12_airOf (l : Launch) (E : GE) (o : Nat) (x1 : Int32) (S : GS) : ∀ a, f_X12_airOf o x1 S = some a → Ct l E yX12_airOf cX12_airOf 2 (some .int) rm_X12_airOf [vA (some o), vI x1] S (some (vI a)) S :=
  Ct_of (val := fun b => some (vI b)) (nxt := fun _ => S) (by decide) (Nat.le_of_ble_eq_true rfl) (fun Γ hl hO => w_X12_airOf hO o x1 S)
theorem d_X12_pressureOf_0 : gD cX12_pressureOf 0 (.aload_n 0) 1 1 := ⟨by decide +kernel, rfl⟩
theorem d_X12_pressureOf_1 : gD cX12_pressureOf 1 (.iload_n 1) 1 2 := ⟨by decide +kernel, rfl⟩
theorem d_X12_pressureOf_2 : gD cX12_pressureOf 2 (.invokevirtual 355) 3 5 := ⟨by decide +kernel, rfl⟩
theorem d_X12_pressureOf_5 : gD cX12_pressureOf 5 (.aload_n 0) 1 6 := ⟨by decide +kernel, rfl⟩
theorem d_X12_pressureOf_6 : gD cX12_pressureOf 6 (.iload_n 1) 1 7 := ⟨by decide +kernel, rfl⟩
theorem d_X12_pressureOf_7 : gD cX12_pressureOf 7 (.invokevirtual 358) 3 10 := ⟨by decide +kernel, rfl⟩
theorem d_X12_pressureOf_10 : gD cX12_pressureOf 10 (.isub) 1 11 := ⟨by decide +kernel, rfl⟩
theorem d_X12_pressureOf_11 : gD cX12_pressureOf 11 (.ireturn) 1 12 := ⟨by decide +kernel, rfl⟩
abbrev rm_X12_pressureOf : Room := { frames := 2, cells := 0, slots := 0, locals := 42 }
set_option maxRecDepth 20000 in
theorem w_X12_pressureOf {Γ : GC} {E : GE} (hO : gOk Γ E cX12_pressureOf RX12 2 rm_X12_pressureOf (some .int) "pressureOf") (o : Nat) (x1 : Int32) (S : GS) : Go Γ E (gBpI Γ E S) 2 (0, 0) 0 S [(0, vA (some o)), (1, vI x1)] [] (f_X12_pressureOf o x1 S) := by
  unfold f_X12_pressureOf
  refine g_aload_n hO d_X12_pressureOf_0 (by rfl) 0 rfl ?_
  refine g_iload_n hO d_X12_pressureOf_1 (by rfl) 1 rfl ?_
  refine k_virtIp hO cl_X12 mm_X12_airOf lkV_X12_355 ⟨⟨Nat.le_of_ble_eq_true rfl, Nat.le_of_ble_eq_true rfl⟩, Nat.le_of_ble_eq_true rfl, Nat.le_of_ble_eq_true rfl⟩ (kn' := (0, 0)) rfl (As := [vI x1]) rfl (Nat.le_of_ble_eq_true rfl) (fun o' _ => t_X12_airOf Γ.2.1 E o' x1 S) d_X12_pressureOf_2 rfl (fun v1 => ?_)
  refine g_aload_n hO d_X12_pressureOf_5 (by rfl) 0 rfl ?_
  refine g_iload_n hO d_X12_pressureOf_6 (by rfl) 1 rfl ?_
  refine k_virtIp hO cl_X12 mm_X12_heightOf lkV_X12_358 ⟨⟨Nat.le_of_ble_eq_true rfl, Nat.le_of_ble_eq_true rfl⟩, Nat.le_of_ble_eq_true rfl, Nat.le_of_ble_eq_true rfl⟩ (kn' := (0, 0)) rfl (As := [vI x1]) rfl (Nat.le_of_ble_eq_true rfl) (fun o' _ => t_X12_heightOf Γ.2.1 E o' x1 S) d_X12_pressureOf_7 rfl (fun v3 => ?_)
  refine g_isub hO d_X12_pressureOf_10 ?_
  exact g_ret hO rfl rfl ⟨Nat.le_of_ble_eq_true rfl, Nat.le_of_ble_eq_true rfl⟩ rfl rfl d_X12_pressureOf_11.1
theorem t_X12_pressureOf (l : Launch) (E : GE) (o : Nat) (x1 : Int32) (S : GS) : ∀ a, f_X12_pressureOf o x1 S = some a → Ct l E yX12_pressureOf cX12_pressureOf 2 (some .int) rm_X12_pressureOf [vA (some o), vI x1] S (some (vI a)) S :=
  Ct_of (val := fun b => some (vI b)) (nxt := fun _ => S) (by decide) (Nat.le_of_ble_eq_true rfl) (fun Γ hl hO => w_X12_pressureOf hO o x1 S)
theorem d_X12_opensOr_0 : gD cX12_opensOr 0 (.aload_n 0) 1 1 := ⟨by decide +kernel, rfl⟩
theorem d_X12_opensOr_1 : gD cX12_opensOr 1 (.iload_n 1) 1 2 := ⟨by decide +kernel, rfl⟩
theorem d_X12_opensOr_2 : gD cX12_opensOr 2 (.invokevirtual 361) 3 5 := ⟨by decide +kernel, rfl⟩
theorem d_X12_opensOr_5 : gD cX12_opensOr 5 (.ifCond .eq 15) 3 8 ∧ ((5 : Nat) : Int) + 15 = ((20 : Nat) : Int) := ⟨⟨by decide +kernel, rfl⟩, by decide⟩
theorem d_X12_opensOr_8 : gD cX12_opensOr 8 (.aload_n 0) 1 9 := ⟨by decide +kernel, rfl⟩
theorem d_X12_opensOr_9 : gD cX12_opensOr 9 (.getfield 352) 3 12 := ⟨by decide +kernel, rfl⟩
theorem d_X12_opensOr_12 : gD cX12_opensOr 12 (.iload_n 1) 1 13 := ⟨by decide +kernel, rfl⟩
theorem d_X12_opensOr_13 : gD cX12_opensOr 13 (.invokestatic 104) 3 16 := ⟨by decide +kernel, rfl⟩
theorem d_X12_opensOr_16 : gD cX12_opensOr 16 (.iload_n 2) 1 17 := ⟨by decide +kernel, rfl⟩
theorem d_X12_opensOr_17 : gD cX12_opensOr 17 (.if_icmp .ne 5) 3 20 ∧ ((17 : Nat) : Int) + 5 = ((22 : Nat) : Int) := ⟨⟨by decide +kernel, rfl⟩, by decide⟩
theorem d_X12_opensOr_20 : gD cX12_opensOr 20 (.iconst 0) 1 21 := ⟨by decide +kernel, rfl⟩
theorem d_X12_opensOr_21 : gD cX12_opensOr 21 (.ireturn) 1 22 := ⟨by decide +kernel, rfl⟩
theorem d_X12_opensOr_22 : gD cX12_opensOr 22 (.aload_n 0) 1 23 := ⟨by decide +kernel, rfl⟩
theorem d_X12_opensOr_23 : gD cX12_opensOr 23 (.getfield 50) 3 26 := ⟨by decide +kernel, rfl⟩
theorem d_X12_opensOr_26 : gD cX12_opensOr 26 (.iload_n 1) 1 27 := ⟨by decide +kernel, rfl⟩
theorem d_X12_opensOr_27 : gD cX12_opensOr 27 (.aload_n 0) 1 28 := ⟨by decide +kernel, rfl⟩
theorem d_X12_opensOr_28 : gD cX12_opensOr 28 (.getfield 325) 3 31 := ⟨by decide +kernel, rfl⟩
theorem d_X12_opensOr_31 : gD cX12_opensOr 31 (.iastore) 1 32 := ⟨by decide +kernel, rfl⟩
theorem d_X12_opensOr_32 : gD cX12_opensOr 32 (.aload_n 0) 1 33 := ⟨by decide +kernel, rfl⟩
theorem d_X12_opensOr_33 : gD cX12_opensOr 33 (.dup) 1 34 := ⟨by decide +kernel, rfl⟩
theorem d_X12_opensOr_34 : gD cX12_opensOr 34 (.getfield 352) 3 37 := ⟨by decide +kernel, rfl⟩
theorem d_X12_opensOr_37 : gD cX12_opensOr 37 (.iconst 1) 1 38 := ⟨by decide +kernel, rfl⟩
theorem d_X12_opensOr_38 : gD cX12_opensOr 38 (.iload_n 1) 1 39 := ⟨by decide +kernel, rfl⟩
theorem d_X12_opensOr_39 : gD cX12_opensOr 39 (.ishl) 1 40 := ⟨by decide +kernel, rfl⟩
theorem d_X12_opensOr_40 : gD cX12_opensOr 40 (.ixor) 1 41 := ⟨by decide +kernel, rfl⟩
theorem d_X12_opensOr_41 : gD cX12_opensOr 41 (.putfield 352) 3 44 := ⟨by decide +kernel, rfl⟩
theorem d_X12_opensOr_44 : gD cX12_opensOr 44 (.iconst 1) 1 45 := ⟨by decide +kernel, rfl⟩
theorem d_X12_opensOr_45 : gD cX12_opensOr 45 (.ireturn) 1 46 := ⟨by decide +kernel, rfl⟩
abbrev rm_X12_opensOr : Room := { frames := 2, cells := 0, slots := 0, locals := 43 }
set_option maxRecDepth 20000 in
theorem w_X12_opensOr {Γ : GC} {E : GE} (hO : gOk Γ E cX12_opensOr RX12 3 rm_X12_opensOr (some .boolean) "opensOr") (o : Nat) (x1 : Int32) (x2 : Int32) (S : GS) : Go Γ E (gBsI Γ E) 3 (0, 0) 0 S [(0, vA (some o)), (1, vI x1), (2, vI x2)] [] (f_X12_opensOr o x1 x2 S) := by
  unfold f_X12_opensOr
  refine g_aload_n hO d_X12_opensOr_0 (by rfl) 0 rfl ?_
  refine g_iload_n hO d_X12_opensOr_1 (by rfl) 1 rfl ?_
  refine k_virtIp hO cl_X12 mm_X12_isRoom lkV_X12_361 ⟨⟨Nat.le_of_ble_eq_true rfl, Nat.le_of_ble_eq_true rfl⟩, Nat.le_of_ble_eq_true rfl, Nat.le_of_ble_eq_true rfl⟩ (kn' := (0, 0)) rfl (As := [vI x1]) rfl (Nat.le_of_ble_eq_true rfl) (fun o' _ => t_X12_isRoom Γ.2.1 E o' x1 S) d_X12_opensOr_2 rfl (fun v1 => ?_)
  refine g_if_eq (tgt := 20) hO d_X12_opensOr_5.1 d_X12_opensOr_5.2 (fun _ => ?_) (fun _ => ?_)
  · skip
    refine g_iconst hO 0 d_X12_opensOr_20 (by decide) ?_
    exact g_ret hO rfl rfl ⟨Nat.le_of_ble_eq_true rfl, Nat.le_of_ble_eq_true rfl⟩ rfl rfl d_X12_opensOr_21.1
  · skip
    refine g_aload_n hO d_X12_opensOr_8 (by rfl) 0 rfl ?_
    refine h_getI hO cl_X12 38 rfl wf_X12_352 d_X12_opensOr_9 (fun v3 => ?_)
    refine g_iload_n hO d_X12_opensOr_12 (by rfl) 1 rfl ?_
    refine k_statIp hO mm_X12_has lkS_X12_104 ⟨⟨Nat.le_of_ble_eq_true rfl, Nat.le_of_ble_eq_true rfl⟩, Nat.le_of_ble_eq_true rfl, Nat.le_of_ble_eq_true rfl⟩ (kn' := (0, 0)) rfl (As := [vI v3, vI x1]) rfl (Nat.le_of_ble_eq_true rfl) (t_X12_has Γ.2.1 E v3 x1 S) d_X12_opensOr_13 rfl (fun v4 => ?_)
    refine g_iload_n hO d_X12_opensOr_16 (by rfl) 2 rfl ?_
    refine g_ic_ne (tgt := 22) hO d_X12_opensOr_17.1 d_X12_opensOr_17.2 (fun _ => ?_) (fun _ => ?_)
    · skip
      refine g_iconst hO 0 d_X12_opensOr_20 (by decide) ?_
      exact g_ret hO rfl rfl ⟨Nat.le_of_ble_eq_true rfl, Nat.le_of_ble_eq_true rfl⟩ rfl rfl d_X12_opensOr_21.1
    · skip
      refine g_aload_n hO d_X12_opensOr_22 (by rfl) 0 rfl ?_
      refine h_getR hO cl_X12 39 rfl wf_X12_50 d_X12_opensOr_23 (fun v6 => ?_)
      refine g_iload_n hO d_X12_opensOr_26 (by rfl) 1 rfl ?_
      refine g_aload_n hO d_X12_opensOr_27 (by rfl) 0 rfl ?_
      refine h_getI hO cl_X12 29 rfl wf_X12_325 d_X12_opensOr_28 (fun v7 => ?_)
      refine h_iast hO d_X12_opensOr_31 (fun S8 => ?_)
      refine g_aload_n hO d_X12_opensOr_32 (by rfl) 0 rfl ?_
      refine g_dup hO d_X12_opensOr_33 rfl ?_
      refine h_getI hO cl_X12 38 rfl wf_X12_352 d_X12_opensOr_34 (fun v9 => ?_)
      refine g_iconst hO 1 d_X12_opensOr_37 (by decide) ?_
      refine g_iload_n hO d_X12_opensOr_38 (by rfl) 1 rfl ?_
      refine g_ishl hO d_X12_opensOr_39 ?_
      refine g_ixor hO d_X12_opensOr_40 ?_
      refine h_putI hO cl_X12 38 rfl rfl wf_X12_352 (Or.inl rfl) d_X12_opensOr_41 (fun S10 => ?_)
      refine g_iconst hO 1 d_X12_opensOr_44 (by decide) ?_
      exact g_ret hO rfl rfl ⟨Nat.le_of_ble_eq_true rfl, Nat.le_of_ble_eq_true rfl⟩ rfl rfl d_X12_opensOr_45.1
theorem t_X12_opensOr (l : Launch) (E : GE) (o : Nat) (x1 : Int32) (x2 : Int32) (S : GS) : ∀ a, f_X12_opensOr o x1 x2 S = some a → Ct l E yX12_opensOr cX12_opensOr 3 (some .boolean) rm_X12_opensOr [vA (some o), vI x1, vI x2] S (some (vI a.1)) a.2 :=
  Ct_of (val := fun (b : Int32 × GS) => some (vI b.1)) (nxt := fun (b : Int32 × GS) => b.2) (by decide) (Nat.le_of_ble_eq_true rfl) (fun Γ hl hO => w_X12_opensOr hO o x1 x2 S)
theorem d_X12_sighs_0 : gD cX12_sighs 0 (.aload_n 0) 1 1 := ⟨by decide +kernel, rfl⟩
theorem d_X12_sighs_1 : gD cX12_sighs 1 (.iload_n 1) 1 2 := ⟨by decide +kernel, rfl⟩
theorem d_X12_sighs_2 : gD cX12_sighs 2 (.invokevirtual 303) 3 5 := ⟨by decide +kernel, rfl⟩
theorem d_X12_sighs_5 : gD cX12_sighs 5 (.ifCond .eq 14) 3 8 ∧ ((5 : Nat) : Int) + 14 = ((19 : Nat) : Int) := ⟨⟨by decide +kernel, rfl⟩, by decide⟩
theorem d_X12_sighs_8 : gD cX12_sighs 8 (.aload_n 0) 1 9 := ⟨by decide +kernel, rfl⟩
theorem d_X12_sighs_9 : gD cX12_sighs 9 (.getfield 331) 3 12 := ⟨by decide +kernel, rfl⟩
theorem d_X12_sighs_12 : gD cX12_sighs 12 (.iload_n 1) 1 13 := ⟨by decide +kernel, rfl⟩
theorem d_X12_sighs_13 : gD cX12_sighs 13 (.invokestatic 104) 3 16 := ⟨by decide +kernel, rfl⟩
theorem d_X12_sighs_16 : gD cX12_sighs 16 (.ifCond .ne 5) 3 19 ∧ ((16 : Nat) : Int) + 5 = ((21 : Nat) : Int) := ⟨⟨by decide +kernel, rfl⟩, by decide⟩
theorem d_X12_sighs_19 : gD cX12_sighs 19 (.iconst 0) 1 20 := ⟨by decide +kernel, rfl⟩
theorem d_X12_sighs_20 : gD cX12_sighs 20 (.ireturn) 1 21 := ⟨by decide +kernel, rfl⟩
theorem d_X12_sighs_21 : gD cX12_sighs 21 (.aload_n 0) 1 22 := ⟨by decide +kernel, rfl⟩
theorem d_X12_sighs_22 : gD cX12_sighs 22 (.getfield 53) 3 25 := ⟨by decide +kernel, rfl⟩
theorem d_X12_sighs_25 : gD cX12_sighs 25 (.iload_n 1) 1 26 := ⟨by decide +kernel, rfl⟩
theorem d_X12_sighs_26 : gD cX12_sighs 26 (.iaload) 1 27 := ⟨by decide +kernel, rfl⟩
theorem d_X12_sighs_27 : gD cX12_sighs 27 (.istore_n 2) 1 28 := ⟨by decide +kernel, rfl⟩
theorem d_X12_sighs_28 : gD cX12_sighs 28 (.aload_n 0) 1 29 := ⟨by decide +kernel, rfl⟩
theorem d_X12_sighs_29 : gD cX12_sighs 29 (.getfield 352) 3 32 := ⟨by decide +kernel, rfl⟩
theorem d_X12_sighs_32 : gD cX12_sighs 32 (.iload_n 2) 1 33 := ⟨by decide +kernel, rfl⟩
theorem d_X12_sighs_33 : gD cX12_sighs 33 (.invokestatic 104) 3 36 := ⟨by decide +kernel, rfl⟩
theorem d_X12_sighs_36 : gD cX12_sighs 36 (.ifCond .ne 36) 3 39 ∧ ((36 : Nat) : Int) + 36 = ((72 : Nat) : Int) := ⟨⟨by decide +kernel, rfl⟩, by decide⟩
theorem d_X12_sighs_39 : gD cX12_sighs 39 (.aload_n 0) 1 40 := ⟨by decide +kernel, rfl⟩
theorem d_X12_sighs_40 : gD cX12_sighs 40 (.bipush 9) 2 42 := ⟨by decide +kernel, rfl⟩
theorem d_X12_sighs_42 : gD cX12_sighs 42 (.iconst 2) 1 43 := ⟨by decide +kernel, rfl⟩
theorem d_X12_sighs_43 : gD cX12_sighs 43 (.iload_n 2) 1 44 := ⟨by decide +kernel, rfl⟩
theorem d_X12_sighs_44 : gD cX12_sighs 44 (.imul) 1 45 := ⟨by decide +kernel, rfl⟩
theorem d_X12_sighs_45 : gD cX12_sighs 45 (.iadd) 1 46 := ⟨by decide +kernel, rfl⟩
theorem d_X12_sighs_46 : gD cX12_sighs 46 (.invokevirtual 287) 3 49 := ⟨by decide +kernel, rfl⟩
theorem d_X12_sighs_49 : gD cX12_sighs 49 (.iconst 3) 1 50 := ⟨by decide +kernel, rfl⟩
theorem d_X12_sighs_50 : gD cX12_sighs 50 (.if_icmp .gt 22) 3 53 ∧ ((50 : Nat) : Int) + 22 = ((72 : Nat) : Int) := ⟨⟨by decide +kernel, rfl⟩, by decide⟩
theorem d_X12_sighs_53 : gD cX12_sighs 53 (.aload_n 0) 1 54 := ⟨by decide +kernel, rfl⟩
theorem d_X12_sighs_54 : gD cX12_sighs 54 (.getfield 50) 3 57 := ⟨by decide +kernel, rfl⟩
theorem d_X12_sighs_57 : gD cX12_sighs 57 (.iload_n 2) 1 58 := ⟨by decide +kernel, rfl⟩
theorem d_X12_sighs_58 : gD cX12_sighs 58 (.bipush 40) 2 60 := ⟨by decide +kernel, rfl⟩
theorem d_X12_sighs_60 : gD cX12_sighs 60 (.aload_n 0) 1 61 := ⟨by decide +kernel, rfl⟩
theorem d_X12_sighs_61 : gD cX12_sighs 61 (.getfield 50) 3 64 := ⟨by decide +kernel, rfl⟩
theorem d_X12_sighs_64 : gD cX12_sighs 64 (.iload_n 2) 1 65 := ⟨by decide +kernel, rfl⟩
theorem d_X12_sighs_65 : gD cX12_sighs 65 (.iaload) 1 66 := ⟨by decide +kernel, rfl⟩
theorem d_X12_sighs_66 : gD cX12_sighs 66 (.iconst 1) 1 67 := ⟨by decide +kernel, rfl⟩
theorem d_X12_sighs_67 : gD cX12_sighs 67 (.iadd) 1 68 := ⟨by decide +kernel, rfl⟩
theorem d_X12_sighs_68 : gD cX12_sighs 68 (.invokestatic 364) 3 71 := ⟨by decide +kernel, rfl⟩
theorem d_X12_sighs_71 : gD cX12_sighs 71 (.iastore) 1 72 := ⟨by decide +kernel, rfl⟩
theorem d_X12_sighs_72 : gD cX12_sighs 72 (.iconst 1) 1 73 := ⟨by decide +kernel, rfl⟩
theorem d_X12_sighs_73 : gD cX12_sighs 73 (.ireturn) 1 74 := ⟨by decide +kernel, rfl⟩
abbrev rm_X12_sighs : Room := { frames := 2, cells := 0, slots := 0, locals := 43 }
set_option maxRecDepth 20000 in
theorem w_X12_sighs {Γ : GC} {E : GE} (hO : gOk Γ E cX12_sighs RX12 3 rm_X12_sighs (some .boolean) "sighs") (o : Nat) (x1 : Int32) (S : GS) : Go Γ E (gBsI Γ E) 3 (0, 0) 0 S [(0, vA (some o)), (1, vI x1)] [] (f_X12_sighs o x1 S) := by
  unfold f_X12_sighs
  refine g_aload_n hO d_X12_sighs_0 (by rfl) 0 rfl ?_
  refine g_iload_n hO d_X12_sighs_1 (by rfl) 1 rfl ?_
  refine k_virtIp hO cl_X12 mm_X12_isLady lkV_X12_303 ⟨⟨Nat.le_of_ble_eq_true rfl, Nat.le_of_ble_eq_true rfl⟩, Nat.le_of_ble_eq_true rfl, Nat.le_of_ble_eq_true rfl⟩ (kn' := (0, 0)) rfl (As := [vI x1]) rfl (Nat.le_of_ble_eq_true rfl) (fun o' _ => t_X12_isLady Γ.2.1 E o' x1 S) d_X12_sighs_2 rfl (fun v1 => ?_)
  refine g_if_eq (tgt := 19) hO d_X12_sighs_5.1 d_X12_sighs_5.2 (fun _ => ?_) (fun _ => ?_)
  · skip
    refine g_iconst hO 0 d_X12_sighs_19 (by decide) ?_
    exact g_ret hO rfl rfl ⟨Nat.le_of_ble_eq_true rfl, Nat.le_of_ble_eq_true rfl⟩ rfl rfl d_X12_sighs_20.1
  · skip
    refine g_aload_n hO d_X12_sighs_8 (by rfl) 0 rfl ?_
    refine h_getI hO cl_X12 31 rfl wf_X12_331 d_X12_sighs_9 (fun v3 => ?_)
    refine g_iload_n hO d_X12_sighs_12 (by rfl) 1 rfl ?_
    refine k_statIp hO mm_X12_has lkS_X12_104 ⟨⟨Nat.le_of_ble_eq_true rfl, Nat.le_of_ble_eq_true rfl⟩, Nat.le_of_ble_eq_true rfl, Nat.le_of_ble_eq_true rfl⟩ (kn' := (0, 0)) rfl (As := [vI v3, vI x1]) rfl (Nat.le_of_ble_eq_true rfl) (t_X12_has Γ.2.1 E v3 x1 S) d_X12_sighs_13 rfl (fun v4 => ?_)
    refine g_if_ne (tgt := 21) hO d_X12_sighs_16.1 d_X12_sighs_16.2 (fun _ => ?_) (fun _ => ?_)
    · skip
      refine g_iconst hO 0 d_X12_sighs_19 (by decide) ?_
      exact g_ret hO rfl rfl ⟨Nat.le_of_ble_eq_true rfl, Nat.le_of_ble_eq_true rfl⟩ rfl rfl d_X12_sighs_20.1
    · skip
      refine g_aload_n hO d_X12_sighs_21 (by rfl) 0 rfl ?_
      refine h_getR hO cl_X12 40 rfl wf_X12_53 d_X12_sighs_22 (fun v6 => ?_)
      refine g_iload_n hO d_X12_sighs_25 (by rfl) 1 rfl ?_
      refine h_iald hO d_X12_sighs_26 (fun v7 => ?_)
      refine g_istore_n (lv' := [(2, vI v7), (0, vA (some o)), (1, vI x1)]) hO d_X12_sighs_27 (by rfl) (by decide) rfl ?_
      refine g_aload_n hO d_X12_sighs_28 (by rfl) 1 rfl ?_
      refine h_getI hO cl_X12 38 rfl wf_X12_352 d_X12_sighs_29 (fun v8 => ?_)
      refine g_iload_n hO d_X12_sighs_32 (by rfl) 0 rfl ?_
      refine k_statIp hO mm_X12_has lkS_X12_104 ⟨⟨Nat.le_of_ble_eq_true rfl, Nat.le_of_ble_eq_true rfl⟩, Nat.le_of_ble_eq_true rfl, Nat.le_of_ble_eq_true rfl⟩ (kn' := (0, 0)) rfl (As := [vI v8, vI v7]) rfl (Nat.le_of_ble_eq_true rfl) (t_X12_has Γ.2.1 E v8 v7 S) d_X12_sighs_33 rfl (fun v9 => ?_)
      refine g_if_ne (tgt := 72) hO d_X12_sighs_36.1 d_X12_sighs_36.2 (fun _ => ?_) (fun _ => ?_)
      · skip
        refine g_aload_n hO d_X12_sighs_39 (by rfl) 1 rfl ?_
        refine g_bipush hO 9 d_X12_sighs_40 (by decide) ?_
        refine g_iconst hO 2 d_X12_sighs_42 (by decide) ?_
        refine g_iload_n hO d_X12_sighs_43 (by rfl) 0 rfl ?_
        refine g_imul hO d_X12_sighs_44 ?_
        refine g_iadd hO d_X12_sighs_45 ?_
        refine k_virtIp hO cl_X12 mm_X12_ofCourt lkV_X12_287 ⟨⟨Nat.le_of_ble_eq_true rfl, Nat.le_of_ble_eq_true rfl⟩, Nat.le_of_ble_eq_true rfl, Nat.le_of_ble_eq_true rfl⟩ (kn' := (0, 0)) rfl (As := [vI (9 + (2 * v7))]) rfl (Nat.le_of_ble_eq_true rfl) (fun o' _ => t_X12_ofCourt Γ.2.1 E o' (9 + (2 * v7)) S) d_X12_sighs_46 rfl (fun v11 => ?_)
        refine g_iconst hO 3 d_X12_sighs_49 (by decide) ?_
        refine g_ic_gt (tgt := 72) hO d_X12_sighs_50.1 d_X12_sighs_50.2 (fun _ => ?_) (fun _ => ?_)
        · skip
          refine g_iconst hO 1 d_X12_sighs_72 (by decide) ?_
          exact g_ret hO rfl rfl ⟨Nat.le_of_ble_eq_true rfl, Nat.le_of_ble_eq_true rfl⟩ rfl rfl d_X12_sighs_73.1
        · skip
          refine g_aload_n hO d_X12_sighs_53 (by rfl) 1 rfl ?_
          refine h_getR hO cl_X12 39 rfl wf_X12_50 d_X12_sighs_54 (fun v13 => ?_)
          refine g_iload_n hO d_X12_sighs_57 (by rfl) 0 rfl ?_
          refine g_bipush hO 40 d_X12_sighs_58 (by decide) ?_
          refine g_aload_n hO d_X12_sighs_60 (by rfl) 1 rfl ?_
          refine h_getR hO cl_X12 39 rfl wf_X12_50 d_X12_sighs_61 (fun v14 => ?_)
          refine g_iload_n hO d_X12_sighs_64 (by rfl) 0 rfl ?_
          refine h_iald hO d_X12_sighs_65 (fun v15 => ?_)
          refine g_iconst hO 1 d_X12_sighs_66 (by decide) ?_
          refine g_iadd hO d_X12_sighs_67 ?_
          refine k_statIp hO mm_X12_lesser lkS_X12_364 ⟨⟨Nat.le_of_ble_eq_true rfl, Nat.le_of_ble_eq_true rfl⟩, Nat.le_of_ble_eq_true rfl, Nat.le_of_ble_eq_true rfl⟩ (kn' := (0, 0)) rfl (As := [vI 40, vI (v15 + 1)]) rfl (Nat.le_of_ble_eq_true rfl) (t_X12_lesser Γ.2.1 E 40 (v15 + 1) S) d_X12_sighs_68 rfl (fun v16 => ?_)
          refine h_iast hO d_X12_sighs_71 (fun S18 => ?_)
          refine g_iconst hO 1 d_X12_sighs_72 (by decide) ?_
          exact g_ret hO rfl rfl ⟨Nat.le_of_ble_eq_true rfl, Nat.le_of_ble_eq_true rfl⟩ rfl rfl d_X12_sighs_73.1
      · skip
        refine g_iconst hO 1 d_X12_sighs_72 (by decide) ?_
        exact g_ret hO rfl rfl ⟨Nat.le_of_ble_eq_true rfl, Nat.le_of_ble_eq_true rfl⟩ rfl rfl d_X12_sighs_73.1
theorem t_X12_sighs (l : Launch) (E : GE) (o : Nat) (x1 : Int32) (S : GS) : ∀ a, f_X12_sighs o x1 S = some a → Ct l E yX12_sighs cX12_sighs 3 (some .boolean) rm_X12_sighs [vA (some o), vI x1] S (some (vI a.1)) a.2 :=
  Ct_of (val := fun (b : Int32 × GS) => some (vI b.1)) (nxt := fun (b : Int32 × GS) => b.2) (by decide) (Nat.le_of_ble_eq_true rfl) (fun Γ hl hO => w_X12_sighs hO o x1 S)
theorem d_X12_laces_0 : gD cX12_laces 0 (.aload_n 0) 1 1 := ⟨by decide +kernel, rfl⟩
theorem d_X12_laces_1 : gD cX12_laces 1 (.iload_n 1) 1 2 := ⟨by decide +kernel, rfl⟩
theorem d_X12_laces_2 : gD cX12_laces 2 (.invokevirtual 303) 3 5 := ⟨by decide +kernel, rfl⟩
theorem d_X12_laces_5 : gD cX12_laces 5 (.ifCond .eq 31) 3 8 ∧ ((5 : Nat) : Int) + 31 = ((36 : Nat) : Int) := ⟨⟨by decide +kernel, rfl⟩, by decide⟩
theorem d_X12_laces_8 : gD cX12_laces 8 (.aload_n 0) 1 9 := ⟨by decide +kernel, rfl⟩
theorem d_X12_laces_9 : gD cX12_laces 9 (.getfield 337) 3 12 := ⟨by decide +kernel, rfl⟩
theorem d_X12_laces_12 : gD cX12_laces 12 (.iload_n 1) 1 13 := ⟨by decide +kernel, rfl⟩
theorem d_X12_laces_13 : gD cX12_laces 13 (.invokestatic 104) 3 16 := ⟨by decide +kernel, rfl⟩
theorem d_X12_laces_16 : gD cX12_laces 16 (.ifCond .ne 20) 3 19 ∧ ((16 : Nat) : Int) + 20 = ((36 : Nat) : Int) := ⟨⟨by decide +kernel, rfl⟩, by decide⟩
theorem d_X12_laces_19 : gD cX12_laces 19 (.aload_n 0) 1 20 := ⟨by decide +kernel, rfl⟩
theorem d_X12_laces_20 : gD cX12_laces 20 (.getfield 56) 3 23 := ⟨by decide +kernel, rfl⟩
theorem d_X12_laces_23 : gD cX12_laces 23 (.iload_n 1) 1 24 := ⟨by decide +kernel, rfl⟩
theorem d_X12_laces_24 : gD cX12_laces 24 (.iaload) 1 25 := ⟨by decide +kernel, rfl⟩
theorem d_X12_laces_25 : gD cX12_laces 25 (.iload_n 2) 1 26 := ⟨by decide +kernel, rfl⟩
theorem d_X12_laces_26 : gD cX12_laces 26 (.iadd) 1 27 := ⟨by decide +kernel, rfl⟩
theorem d_X12_laces_27 : gD cX12_laces 27 (.iconst 0) 1 28 := ⟨by decide +kernel, rfl⟩
theorem d_X12_laces_28 : gD cX12_laces 28 (.bipush 30) 2 30 := ⟨by decide +kernel, rfl⟩
theorem d_X12_laces_30 : gD cX12_laces 30 (.invokestatic 112) 3 33 := ⟨by decide +kernel, rfl⟩
theorem d_X12_laces_33 : gD cX12_laces 33 (.ifCond .ne 5) 3 36 ∧ ((33 : Nat) : Int) + 5 = ((38 : Nat) : Int) := ⟨⟨by decide +kernel, rfl⟩, by decide⟩
theorem d_X12_laces_36 : gD cX12_laces 36 (.iconst 0) 1 37 := ⟨by decide +kernel, rfl⟩
theorem d_X12_laces_37 : gD cX12_laces 37 (.ireturn) 1 38 := ⟨by decide +kernel, rfl⟩
theorem d_X12_laces_38 : gD cX12_laces 38 (.aload_n 0) 1 39 := ⟨by decide +kernel, rfl⟩
theorem d_X12_laces_39 : gD cX12_laces 39 (.getfield 56) 3 42 := ⟨by decide +kernel, rfl⟩
theorem d_X12_laces_42 : gD cX12_laces 42 (.iload_n 1) 1 43 := ⟨by decide +kernel, rfl⟩
theorem d_X12_laces_43 : gD cX12_laces 43 (.dup2) 1 44 := ⟨by decide +kernel, rfl⟩
theorem d_X12_laces_44 : gD cX12_laces 44 (.iaload) 1 45 := ⟨by decide +kernel, rfl⟩
theorem d_X12_laces_45 : gD cX12_laces 45 (.iload_n 2) 1 46 := ⟨by decide +kernel, rfl⟩
theorem d_X12_laces_46 : gD cX12_laces 46 (.iadd) 1 47 := ⟨by decide +kernel, rfl⟩
theorem d_X12_laces_47 : gD cX12_laces 47 (.iastore) 1 48 := ⟨by decide +kernel, rfl⟩
theorem d_X12_laces_48 : gD cX12_laces 48 (.aload_n 0) 1 49 := ⟨by decide +kernel, rfl⟩
theorem d_X12_laces_49 : gD cX12_laces 49 (.dup) 1 50 := ⟨by decide +kernel, rfl⟩
theorem d_X12_laces_50 : gD cX12_laces 50 (.getfield 340) 3 53 := ⟨by decide +kernel, rfl⟩
theorem d_X12_laces_53 : gD cX12_laces 53 (.iload_n 2) 1 54 := ⟨by decide +kernel, rfl⟩
theorem d_X12_laces_54 : gD cX12_laces 54 (.invokestatic 367) 3 57 := ⟨by decide +kernel, rfl⟩
theorem d_X12_laces_57 : gD cX12_laces 57 (.iadd) 1 58 := ⟨by decide +kernel, rfl⟩
theorem d_X12_laces_58 : gD cX12_laces 58 (.putfield 340) 3 61 := ⟨by decide +kernel, rfl⟩
theorem d_X12_laces_61 : gD cX12_laces 61 (.iconst 1) 1 62 := ⟨by decide +kernel, rfl⟩
theorem d_X12_laces_62 : gD cX12_laces 62 (.ireturn) 1 63 := ⟨by decide +kernel, rfl⟩
abbrev rm_X12_laces : Room := { frames := 2, cells := 0, slots := 0, locals := 43 }
set_option maxRecDepth 20000 in
theorem w_X12_laces {Γ : GC} {E : GE} (hO : gOk Γ E cX12_laces RX12 3 rm_X12_laces (some .boolean) "laces") (o : Nat) (x1 : Int32) (x2 : Int32) (S : GS) : Go Γ E (gBsI Γ E) 3 (0, 0) 0 S [(0, vA (some o)), (1, vI x1), (2, vI x2)] [] (f_X12_laces o x1 x2 S) := by
  unfold f_X12_laces
  refine g_aload_n hO d_X12_laces_0 (by rfl) 0 rfl ?_
  refine g_iload_n hO d_X12_laces_1 (by rfl) 1 rfl ?_
  refine k_virtIp hO cl_X12 mm_X12_isLady lkV_X12_303 ⟨⟨Nat.le_of_ble_eq_true rfl, Nat.le_of_ble_eq_true rfl⟩, Nat.le_of_ble_eq_true rfl, Nat.le_of_ble_eq_true rfl⟩ (kn' := (0, 0)) rfl (As := [vI x1]) rfl (Nat.le_of_ble_eq_true rfl) (fun o' _ => t_X12_isLady Γ.2.1 E o' x1 S) d_X12_laces_2 rfl (fun v1 => ?_)
  refine g_if_eq (tgt := 36) hO d_X12_laces_5.1 d_X12_laces_5.2 (fun _ => ?_) (fun _ => ?_)
  · skip
    refine g_iconst hO 0 d_X12_laces_36 (by decide) ?_
    exact g_ret hO rfl rfl ⟨Nat.le_of_ble_eq_true rfl, Nat.le_of_ble_eq_true rfl⟩ rfl rfl d_X12_laces_37.1
  · skip
    refine g_aload_n hO d_X12_laces_8 (by rfl) 0 rfl ?_
    refine h_getI hO cl_X12 33 rfl wf_X12_337 d_X12_laces_9 (fun v3 => ?_)
    refine g_iload_n hO d_X12_laces_12 (by rfl) 1 rfl ?_
    refine k_statIp hO mm_X12_has lkS_X12_104 ⟨⟨Nat.le_of_ble_eq_true rfl, Nat.le_of_ble_eq_true rfl⟩, Nat.le_of_ble_eq_true rfl, Nat.le_of_ble_eq_true rfl⟩ (kn' := (0, 0)) rfl (As := [vI v3, vI x1]) rfl (Nat.le_of_ble_eq_true rfl) (t_X12_has Γ.2.1 E v3 x1 S) d_X12_laces_13 rfl (fun v4 => ?_)
    refine g_if_ne (tgt := 36) hO d_X12_laces_16.1 d_X12_laces_16.2 (fun _ => ?_) (fun _ => ?_)
    · skip
      refine g_aload_n hO d_X12_laces_19 (by rfl) 0 rfl ?_
      refine h_getR hO cl_X12 41 rfl wf_X12_56 d_X12_laces_20 (fun v6 => ?_)
      refine g_iload_n hO d_X12_laces_23 (by rfl) 1 rfl ?_
      refine h_iald hO d_X12_laces_24 (fun v7 => ?_)
      refine g_iload_n hO d_X12_laces_25 (by rfl) 2 rfl ?_
      refine g_iadd hO d_X12_laces_26 ?_
      refine g_iconst hO 0 d_X12_laces_27 (by decide) ?_
      refine g_bipush hO 30 d_X12_laces_28 (by decide) ?_
      refine k_statIp hO mm_X12_in lkS_X12_112 ⟨⟨Nat.le_of_ble_eq_true rfl, Nat.le_of_ble_eq_true rfl⟩, Nat.le_of_ble_eq_true rfl, Nat.le_of_ble_eq_true rfl⟩ (kn' := (0, 0)) rfl (As := [vI (v7 + x2), vI 0, vI 30]) rfl (Nat.le_of_ble_eq_true rfl) (t_X12_in Γ.2.1 E (v7 + x2) 0 30 S) d_X12_laces_30 rfl (fun v8 => ?_)
      refine g_if_ne (tgt := 38) hO d_X12_laces_33.1 d_X12_laces_33.2 (fun _ => ?_) (fun _ => ?_)
      · skip
        refine g_iconst hO 0 d_X12_laces_36 (by decide) ?_
        exact g_ret hO rfl rfl ⟨Nat.le_of_ble_eq_true rfl, Nat.le_of_ble_eq_true rfl⟩ rfl rfl d_X12_laces_37.1
      · skip
        refine g_aload_n hO d_X12_laces_38 (by rfl) 0 rfl ?_
        refine h_getR hO cl_X12 41 rfl wf_X12_56 d_X12_laces_39 (fun v10 => ?_)
        refine g_iload_n hO d_X12_laces_42 (by rfl) 1 rfl ?_
        refine g_dup2 hO d_X12_laces_43 rfl rfl ?_
        refine h_iald hO d_X12_laces_44 (fun v11 => ?_)
        refine g_iload_n hO d_X12_laces_45 (by rfl) 2 rfl ?_
        refine g_iadd hO d_X12_laces_46 ?_
        refine h_iast hO d_X12_laces_47 (fun S12 => ?_)
        refine g_aload_n hO d_X12_laces_48 (by rfl) 0 rfl ?_
        refine g_dup hO d_X12_laces_49 rfl ?_
        refine h_getI hO cl_X12 34 rfl wf_X12_340 d_X12_laces_50 (fun v13 => ?_)
        refine g_iload_n hO d_X12_laces_53 (by rfl) 2 rfl ?_
        refine k_statIp hO mm_X12_size lkS_X12_367 ⟨⟨Nat.le_of_ble_eq_true rfl, Nat.le_of_ble_eq_true rfl⟩, Nat.le_of_ble_eq_true rfl, Nat.le_of_ble_eq_true rfl⟩ (kn' := (0, 0)) rfl (As := [vI x2]) rfl (Nat.le_of_ble_eq_true rfl) (t_X12_size Γ.2.1 E x2 S12) d_X12_laces_54 rfl (fun v14 => ?_)
        refine g_iadd hO d_X12_laces_57 ?_
        refine h_putI hO cl_X12 34 rfl rfl wf_X12_340 (Or.inl rfl) d_X12_laces_58 (fun S16 => ?_)
        refine g_iconst hO 1 d_X12_laces_61 (by decide) ?_
        exact g_ret hO rfl rfl ⟨Nat.le_of_ble_eq_true rfl, Nat.le_of_ble_eq_true rfl⟩ rfl rfl d_X12_laces_62.1
    · skip
      refine g_iconst hO 0 d_X12_laces_36 (by decide) ?_
      exact g_ret hO rfl rfl ⟨Nat.le_of_ble_eq_true rfl, Nat.le_of_ble_eq_true rfl⟩ rfl rfl d_X12_laces_37.1
theorem t_X12_laces (l : Launch) (E : GE) (o : Nat) (x1 : Int32) (x2 : Int32) (S : GS) : ∀ a, f_X12_laces o x1 x2 S = some a → Ct l E yX12_laces cX12_laces 3 (some .boolean) rm_X12_laces [vA (some o), vI x1, vI x2] S (some (vI a.1)) a.2 :=
  Ct_of (val := fun (b : Int32 × GS) => some (vI b.1)) (nxt := fun (b : Int32 × GS) => b.2) (by decide) (Nat.le_of_ble_eq_true rfl) (fun Γ hl hO => w_X12_laces hO o x1 x2 S)
theorem d_X12_goes_0 : gD cX12_goes 0 (.aload_n 0) 1 1 := ⟨by decide +kernel, rfl⟩
theorem d_X12_goes_1 : gD cX12_goes 1 (.iload_n 1) 1 2 := ⟨by decide +kernel, rfl⟩
theorem d_X12_goes_2 : gD cX12_goes 2 (.invokevirtual 303) 3 5 := ⟨by decide +kernel, rfl⟩
theorem d_X12_goes_5 : gD cX12_goes 5 (.ifCond .eq 22) 3 8 ∧ ((5 : Nat) : Int) + 22 = ((27 : Nat) : Int) := ⟨⟨by decide +kernel, rfl⟩, by decide⟩
theorem d_X12_goes_8 : gD cX12_goes 8 (.aload_n 0) 1 9 := ⟨by decide +kernel, rfl⟩
theorem d_X12_goes_9 : gD cX12_goes 9 (.iload_n 2) 1 10 := ⟨by decide +kernel, rfl⟩
theorem d_X12_goes_10 : gD cX12_goes 10 (.invokevirtual 361) 3 13 := ⟨by decide +kernel, rfl⟩
theorem d_X12_goes_13 : gD cX12_goes 13 (.ifCond .eq 14) 3 16 ∧ ((13 : Nat) : Int) + 14 = ((27 : Nat) : Int) := ⟨⟨by decide +kernel, rfl⟩, by decide⟩
theorem d_X12_goes_16 : gD cX12_goes 16 (.aload_n 0) 1 17 := ⟨by decide +kernel, rfl⟩
theorem d_X12_goes_17 : gD cX12_goes 17 (.getfield 331) 3 20 := ⟨by decide +kernel, rfl⟩
theorem d_X12_goes_20 : gD cX12_goes 20 (.iload_n 1) 1 21 := ⟨by decide +kernel, rfl⟩
theorem d_X12_goes_21 : gD cX12_goes 21 (.invokestatic 104) 3 24 := ⟨by decide +kernel, rfl⟩
theorem d_X12_goes_24 : gD cX12_goes 24 (.ifCond .ne 5) 3 27 ∧ ((24 : Nat) : Int) + 5 = ((29 : Nat) : Int) := ⟨⟨by decide +kernel, rfl⟩, by decide⟩
theorem d_X12_goes_27 : gD cX12_goes 27 (.iconst 0) 1 28 := ⟨by decide +kernel, rfl⟩
theorem d_X12_goes_28 : gD cX12_goes 28 (.ireturn) 1 29 := ⟨by decide +kernel, rfl⟩
theorem d_X12_goes_29 : gD cX12_goes 29 (.aload_n 0) 1 30 := ⟨by decide +kernel, rfl⟩
theorem d_X12_goes_30 : gD cX12_goes 30 (.getfield 53) 3 33 := ⟨by decide +kernel, rfl⟩
theorem d_X12_goes_33 : gD cX12_goes 33 (.iload_n 1) 1 34 := ⟨by decide +kernel, rfl⟩
theorem d_X12_goes_34 : gD cX12_goes 34 (.iload_n 2) 1 35 := ⟨by decide +kernel, rfl⟩
theorem d_X12_goes_35 : gD cX12_goes 35 (.iastore) 1 36 := ⟨by decide +kernel, rfl⟩
theorem d_X12_goes_36 : gD cX12_goes 36 (.iconst 1) 1 37 := ⟨by decide +kernel, rfl⟩
theorem d_X12_goes_37 : gD cX12_goes 37 (.ireturn) 1 38 := ⟨by decide +kernel, rfl⟩
abbrev rm_X12_goes : Room := { frames := 2, cells := 0, slots := 0, locals := 43 }
set_option maxRecDepth 20000 in
theorem w_X12_goes {Γ : GC} {E : GE} (hO : gOk Γ E cX12_goes RX12 3 rm_X12_goes (some .boolean) "goes") (o : Nat) (x1 : Int32) (x2 : Int32) (S : GS) : Go Γ E (gBsI Γ E) 3 (0, 0) 0 S [(0, vA (some o)), (1, vI x1), (2, vI x2)] [] (f_X12_goes o x1 x2 S) := by
  unfold f_X12_goes
  refine g_aload_n hO d_X12_goes_0 (by rfl) 0 rfl ?_
  refine g_iload_n hO d_X12_goes_1 (by rfl) 1 rfl ?_
  refine k_virtIp hO cl_X12 mm_X12_isLady lkV_X12_303 ⟨⟨Nat.le_of_ble_eq_true rfl, Nat.le_of_ble_eq_true rfl⟩, Nat.le_of_ble_eq_true rfl, Nat.le_of_ble_eq_true rfl⟩ (kn' := (0, 0)) rfl (As := [vI x1]) rfl (Nat.le_of_ble_eq_true rfl) (fun o' _ => t_X12_isLady Γ.2.1 E o' x1 S) d_X12_goes_2 rfl (fun v1 => ?_)
  refine g_if_eq (tgt := 27) hO d_X12_goes_5.1 d_X12_goes_5.2 (fun _ => ?_) (fun _ => ?_)
  · skip
    refine g_iconst hO 0 d_X12_goes_27 (by decide) ?_
    exact g_ret hO rfl rfl ⟨Nat.le_of_ble_eq_true rfl, Nat.le_of_ble_eq_true rfl⟩ rfl rfl d_X12_goes_28.1
  · skip
    refine g_aload_n hO d_X12_goes_8 (by rfl) 0 rfl ?_
    refine g_iload_n hO d_X12_goes_9 (by rfl) 2 rfl ?_
    refine k_virtIp hO cl_X12 mm_X12_isRoom lkV_X12_361 ⟨⟨Nat.le_of_ble_eq_true rfl, Nat.le_of_ble_eq_true rfl⟩, Nat.le_of_ble_eq_true rfl, Nat.le_of_ble_eq_true rfl⟩ (kn' := (0, 0)) rfl (As := [vI x2]) rfl (Nat.le_of_ble_eq_true rfl) (fun o' _ => t_X12_isRoom Γ.2.1 E o' x2 S) d_X12_goes_10 rfl (fun v3 => ?_)
    refine g_if_eq (tgt := 27) hO d_X12_goes_13.1 d_X12_goes_13.2 (fun _ => ?_) (fun _ => ?_)
    · skip
      refine g_iconst hO 0 d_X12_goes_27 (by decide) ?_
      exact g_ret hO rfl rfl ⟨Nat.le_of_ble_eq_true rfl, Nat.le_of_ble_eq_true rfl⟩ rfl rfl d_X12_goes_28.1
    · skip
      refine g_aload_n hO d_X12_goes_16 (by rfl) 0 rfl ?_
      refine h_getI hO cl_X12 31 rfl wf_X12_331 d_X12_goes_17 (fun v5 => ?_)
      refine g_iload_n hO d_X12_goes_20 (by rfl) 1 rfl ?_
      refine k_statIp hO mm_X12_has lkS_X12_104 ⟨⟨Nat.le_of_ble_eq_true rfl, Nat.le_of_ble_eq_true rfl⟩, Nat.le_of_ble_eq_true rfl, Nat.le_of_ble_eq_true rfl⟩ (kn' := (0, 0)) rfl (As := [vI v5, vI x1]) rfl (Nat.le_of_ble_eq_true rfl) (t_X12_has Γ.2.1 E v5 x1 S) d_X12_goes_21 rfl (fun v6 => ?_)
      refine g_if_ne (tgt := 29) hO d_X12_goes_24.1 d_X12_goes_24.2 (fun _ => ?_) (fun _ => ?_)
      · skip
        refine g_iconst hO 0 d_X12_goes_27 (by decide) ?_
        exact g_ret hO rfl rfl ⟨Nat.le_of_ble_eq_true rfl, Nat.le_of_ble_eq_true rfl⟩ rfl rfl d_X12_goes_28.1
      · skip
        refine g_aload_n hO d_X12_goes_29 (by rfl) 0 rfl ?_
        refine h_getR hO cl_X12 40 rfl wf_X12_53 d_X12_goes_30 (fun v8 => ?_)
        refine g_iload_n hO d_X12_goes_33 (by rfl) 1 rfl ?_
        refine g_iload_n hO d_X12_goes_34 (by rfl) 2 rfl ?_
        refine h_iast hO d_X12_goes_35 (fun S9 => ?_)
        refine g_iconst hO 1 d_X12_goes_36 (by decide) ?_
        exact g_ret hO rfl rfl ⟨Nat.le_of_ble_eq_true rfl, Nat.le_of_ble_eq_true rfl⟩ rfl rfl d_X12_goes_37.1
theorem t_X12_goes (l : Launch) (E : GE) (o : Nat) (x1 : Int32) (x2 : Int32) (S : GS) : ∀ a, f_X12_goes o x1 x2 S = some a → Ct l E yX12_goes cX12_goes 3 (some .boolean) rm_X12_goes [vA (some o), vI x1, vI x2] S (some (vI a.1)) a.2 :=
  Ct_of (val := fun (b : Int32 × GS) => some (vI b.1)) (nxt := fun (b : Int32 × GS) => b.2) (by decide) (Nat.le_of_ble_eq_true rfl) (fun Γ hl hO => w_X12_goes hO o x1 x2 S)
theorem d_X12_looksAt_0 : gD cX12_looksAt 0 (.aload_n 0) 1 1 := ⟨by decide +kernel, rfl⟩
theorem d_X12_looksAt_1 : gD cX12_looksAt 1 (.iload_n 1) 1 2 := ⟨by decide +kernel, rfl⟩
theorem d_X12_looksAt_2 : gD cX12_looksAt 2 (.aload_n 0) 1 3 := ⟨by decide +kernel, rfl⟩
theorem d_X12_looksAt_3 : gD cX12_looksAt 3 (.getfield 56) 3 6 := ⟨by decide +kernel, rfl⟩
theorem d_X12_looksAt_6 : gD cX12_looksAt 6 (.iload_n 1) 1 7 := ⟨by decide +kernel, rfl⟩
theorem d_X12_looksAt_7 : gD cX12_looksAt 7 (.iaload) 1 8 := ⟨by decide +kernel, rfl⟩
theorem d_X12_looksAt_8 : gD cX12_looksAt 8 (.aload_n 0) 1 9 := ⟨by decide +kernel, rfl⟩
theorem d_X12_looksAt_9 : gD cX12_looksAt 9 (.aload_n 0) 1 10 := ⟨by decide +kernel, rfl⟩
theorem d_X12_looksAt_10 : gD cX12_looksAt 10 (.getfield 53) 3 13 := ⟨by decide +kernel, rfl⟩
theorem d_X12_looksAt_13 : gD cX12_looksAt 13 (.iload_n 1) 1 14 := ⟨by decide +kernel, rfl⟩
theorem d_X12_looksAt_14 : gD cX12_looksAt 14 (.iaload) 1 15 := ⟨by decide +kernel, rfl⟩
theorem d_X12_looksAt_15 : gD cX12_looksAt 15 (.invokevirtual 369) 3 18 := ⟨by decide +kernel, rfl⟩
theorem d_X12_looksAt_18 : gD cX12_looksAt 18 (.invokevirtual 309) 3 21 := ⟨by decide +kernel, rfl⟩
theorem d_X12_looksAt_21 : gD cX12_looksAt 21 (.istore_n 2) 1 22 := ⟨by decide +kernel, rfl⟩
theorem d_X12_looksAt_22 : gD cX12_looksAt 22 (.iload_n 2) 1 23 := ⟨by decide +kernel, rfl⟩
theorem d_X12_looksAt_23 : gD cX12_looksAt 23 (.ifCond .ne 4) 3 26 ∧ ((23 : Nat) : Int) + 4 = ((27 : Nat) : Int) := ⟨⟨by decide +kernel, rfl⟩, by decide⟩
theorem d_X12_looksAt_26 : gD cX12_looksAt 26 (.return_) 1 27 := ⟨by decide +kernel, rfl⟩
theorem d_X12_looksAt_27 : gD cX12_looksAt 27 (.aload_n 0) 1 28 := ⟨by decide +kernel, rfl⟩
theorem d_X12_looksAt_28 : gD cX12_looksAt 28 (.dup) 1 29 := ⟨by decide +kernel, rfl⟩
theorem d_X12_looksAt_29 : gD cX12_looksAt 29 (.getfield 331) 3 32 := ⟨by decide +kernel, rfl⟩
theorem d_X12_looksAt_32 : gD cX12_looksAt 32 (.iconst 1) 1 33 := ⟨by decide +kernel, rfl⟩
theorem d_X12_looksAt_33 : gD cX12_looksAt 33 (.iload_n 1) 1 34 := ⟨by decide +kernel, rfl⟩
theorem d_X12_looksAt_34 : gD cX12_looksAt 34 (.ishl) 1 35 := ⟨by decide +kernel, rfl⟩
theorem d_X12_looksAt_35 : gD cX12_looksAt 35 (.iconst (-1)) 1 36 := ⟨by decide +kernel, rfl⟩
theorem d_X12_looksAt_36 : gD cX12_looksAt 36 (.ixor) 1 37 := ⟨by decide +kernel, rfl⟩
theorem d_X12_looksAt_37 : gD cX12_looksAt 37 (.iand) 1 38 := ⟨by decide +kernel, rfl⟩
theorem d_X12_looksAt_38 : gD cX12_looksAt 38 (.putfield 331) 3 41 := ⟨by decide +kernel, rfl⟩
theorem d_X12_looksAt_41 : gD cX12_looksAt 41 (.aload_n 0) 1 42 := ⟨by decide +kernel, rfl⟩
theorem d_X12_looksAt_42 : gD cX12_looksAt 42 (.getfield 65) 3 45 := ⟨by decide +kernel, rfl⟩
theorem d_X12_looksAt_45 : gD cX12_looksAt 45 (.iload_n 1) 1 46 := ⟨by decide +kernel, rfl⟩
theorem d_X12_looksAt_46 : gD cX12_looksAt 46 (.aload_n 0) 1 47 := ⟨by decide +kernel, rfl⟩
theorem d_X12_looksAt_47 : gD cX12_looksAt 47 (.getfield 328) 3 50 := ⟨by decide +kernel, rfl⟩
theorem d_X12_looksAt_50 : gD cX12_looksAt 50 (.iastore) 1 51 := ⟨by decide +kernel, rfl⟩
theorem d_X12_looksAt_51 : gD cX12_looksAt 51 (.iload_n 2) 1 52 := ⟨by decide +kernel, rfl⟩
theorem d_X12_looksAt_52 : gD cX12_looksAt 52 (.iconst 2) 1 53 := ⟨by decide +kernel, rfl⟩
theorem d_X12_looksAt_53 : gD cX12_looksAt 53 (.if_icmp .ne 18) 3 56 ∧ ((53 : Nat) : Int) + 18 = ((71 : Nat) : Int) := ⟨⟨by decide +kernel, rfl⟩, by decide⟩
theorem d_X12_looksAt_56 : gD cX12_looksAt 56 (.aload_n 0) 1 57 := ⟨by decide +kernel, rfl⟩
theorem d_X12_looksAt_57 : gD cX12_looksAt 57 (.dup) 1 58 := ⟨by decide +kernel, rfl⟩
theorem d_X12_looksAt_58 : gD cX12_looksAt 58 (.getfield 337) 3 61 := ⟨by decide +kernel, rfl⟩
theorem d_X12_looksAt_61 : gD cX12_looksAt 61 (.iconst 1) 1 62 := ⟨by decide +kernel, rfl⟩
theorem d_X12_looksAt_62 : gD cX12_looksAt 62 (.iload_n 1) 1 63 := ⟨by decide +kernel, rfl⟩
theorem d_X12_looksAt_63 : gD cX12_looksAt 63 (.ishl) 1 64 := ⟨by decide +kernel, rfl⟩
theorem d_X12_looksAt_64 : gD cX12_looksAt 64 (.ior) 1 65 := ⟨by decide +kernel, rfl⟩
theorem d_X12_looksAt_65 : gD cX12_looksAt 65 (.putfield 337) 3 68 := ⟨by decide +kernel, rfl⟩
theorem d_X12_looksAt_68 : decode cX12_looksAt 68 = .ok (.goto 36, 3) ∧ ((68 : Nat) : Int) + 36 = ((104 : Nat) : Int) := ⟨by decide +kernel, by decide⟩
theorem d_X12_looksAt_71 : gD cX12_looksAt 71 (.aload_n 0) 1 72 := ⟨by decide +kernel, rfl⟩
theorem d_X12_looksAt_72 : gD cX12_looksAt 72 (.dup) 1 73 := ⟨by decide +kernel, rfl⟩
theorem d_X12_looksAt_73 : gD cX12_looksAt 73 (.getfield 334) 3 76 := ⟨by decide +kernel, rfl⟩
theorem d_X12_looksAt_76 : gD cX12_looksAt 76 (.iconst 1) 1 77 := ⟨by decide +kernel, rfl⟩
theorem d_X12_looksAt_77 : gD cX12_looksAt 77 (.iload_n 1) 1 78 := ⟨by decide +kernel, rfl⟩
theorem d_X12_looksAt_78 : gD cX12_looksAt 78 (.ishl) 1 79 := ⟨by decide +kernel, rfl⟩
theorem d_X12_looksAt_79 : gD cX12_looksAt 79 (.ior) 1 80 := ⟨by decide +kernel, rfl⟩
theorem d_X12_looksAt_80 : gD cX12_looksAt 80 (.putfield 334) 3 83 := ⟨by decide +kernel, rfl⟩
theorem d_X12_looksAt_83 : gD cX12_looksAt 83 (.aload_n 0) 1 84 := ⟨by decide +kernel, rfl⟩
theorem d_X12_looksAt_84 : gD cX12_looksAt 84 (.getfield 59) 3 87 := ⟨by decide +kernel, rfl⟩
theorem d_X12_looksAt_87 : gD cX12_looksAt 87 (.iload_n 1) 1 88 := ⟨by decide +kernel, rfl⟩
theorem d_X12_looksAt_88 : gD cX12_looksAt 88 (.aload_n 0) 1 89 := ⟨by decide +kernel, rfl⟩
theorem d_X12_looksAt_89 : gD cX12_looksAt 89 (.iconst 4) 1 90 := ⟨by decide +kernel, rfl⟩
theorem d_X12_looksAt_90 : gD cX12_looksAt 90 (.invokevirtual 287) 3 93 := ⟨by decide +kernel, rfl⟩
theorem d_X12_looksAt_93 : gD cX12_looksAt 93 (.iastore) 1 94 := ⟨by decide +kernel, rfl⟩
theorem d_X12_looksAt_94 : gD cX12_looksAt 94 (.aload_n 0) 1 95 := ⟨by decide +kernel, rfl⟩
theorem d_X12_looksAt_95 : gD cX12_looksAt 95 (.getfield 62) 3 98 := ⟨by decide +kernel, rfl⟩
theorem d_X12_looksAt_98 : gD cX12_looksAt 98 (.iload_n 1) 1 99 := ⟨by decide +kernel, rfl⟩
theorem d_X12_looksAt_99 : gD cX12_looksAt 99 (.dup2) 1 100 := ⟨by decide +kernel, rfl⟩
theorem d_X12_looksAt_100 : gD cX12_looksAt 100 (.iaload) 1 101 := ⟨by decide +kernel, rfl⟩
theorem d_X12_looksAt_101 : gD cX12_looksAt 101 (.iconst 1) 1 102 := ⟨by decide +kernel, rfl⟩
theorem d_X12_looksAt_102 : gD cX12_looksAt 102 (.iadd) 1 103 := ⟨by decide +kernel, rfl⟩
theorem d_X12_looksAt_103 : gD cX12_looksAt 103 (.iastore) 1 104 := ⟨by decide +kernel, rfl⟩
theorem d_X12_looksAt_104 : gD cX12_looksAt 104 (.return_) 1 105 := ⟨by decide +kernel, rfl⟩
abbrev rm_X12_looksAt : Room := { frames := 3, cells := 0, slots := 0, locals := 66 }
set_option maxRecDepth 20000 in
theorem w_X12_looksAt {Γ : GC} {E : GE} (hO : gOk Γ E cX12_looksAt RX12 3 rm_X12_looksAt none "looksAt") (o : Nat) (x1 : Int32) (S : GS) : Go Γ E (gBsV Γ E) 3 (0, 0) 0 S [(0, vA (some o)), (1, vI x1)] [] (f_X12_looksAt o x1 S) := by
  unfold f_X12_looksAt
  refine g_aload_n hO d_X12_looksAt_0 (by rfl) 0 rfl ?_
  refine g_iload_n hO d_X12_looksAt_1 (by rfl) 1 rfl ?_
  refine g_aload_n hO d_X12_looksAt_2 (by rfl) 0 rfl ?_
  refine h_getR hO cl_X12 41 rfl wf_X12_56 d_X12_looksAt_3 (fun v1 => ?_)
  refine g_iload_n hO d_X12_looksAt_6 (by rfl) 1 rfl ?_
  refine h_iald hO d_X12_looksAt_7 (fun v2 => ?_)
  refine g_aload_n hO d_X12_looksAt_8 (by rfl) 0 rfl ?_
  refine g_aload_n hO d_X12_looksAt_9 (by rfl) 0 rfl ?_
  refine h_getR hO cl_X12 40 rfl wf_X12_53 d_X12_looksAt_10 (fun v3 => ?_)
  refine g_iload_n hO d_X12_looksAt_13 (by rfl) 1 rfl ?_
  refine h_iald hO d_X12_looksAt_14 (fun v4 => ?_)
  refine k_virtIp hO cl_X12 mm_X12_pressureOf lkV_X12_369 ⟨⟨Nat.le_of_ble_eq_true rfl, Nat.le_of_ble_eq_true rfl⟩, Nat.le_of_ble_eq_true rfl, Nat.le_of_ble_eq_true rfl⟩ (kn' := (0, 0)) rfl (As := [vI v4]) rfl (Nat.le_of_ble_eq_true rfl) (fun o' _ => t_X12_pressureOf Γ.2.1 E o' v4 S) d_X12_looksAt_15 rfl (fun v5 => ?_)
  refine k_virtIp hO cl_X12 mm_X12_does lkV_X12_309 ⟨⟨Nat.le_of_ble_eq_true rfl, Nat.le_of_ble_eq_true rfl⟩, Nat.le_of_ble_eq_true rfl, Nat.le_of_ble_eq_true rfl⟩ (kn' := (0, 0)) rfl (As := [vI x1, vI v2, vI v5]) rfl (Nat.le_of_ble_eq_true rfl) (fun o' _ => t_X12_does Γ.2.1 E o' x1 v2 v5 S) d_X12_looksAt_18 rfl (fun v7 => ?_)
  refine g_istore_n (lv' := [(2, vI v7), (0, vA (some o)), (1, vI x1)]) hO d_X12_looksAt_21 (by rfl) (by decide) rfl ?_
  refine g_iload_n hO d_X12_looksAt_22 (by rfl) 0 rfl ?_
  refine g_if_ne (tgt := 27) hO d_X12_looksAt_23.1 d_X12_looksAt_23.2 (fun _ => ?_) (fun _ => ?_)
  · skip
    exact g_vret hO rfl ⟨Nat.le_of_ble_eq_true rfl, Nat.le_of_ble_eq_true rfl⟩ rfl rfl d_X12_looksAt_26.1
  · skip
    refine g_aload_n hO d_X12_looksAt_27 (by rfl) 1 rfl ?_
    refine g_dup hO d_X12_looksAt_28 rfl ?_
    refine h_getI hO cl_X12 31 rfl wf_X12_331 d_X12_looksAt_29 (fun v9 => ?_)
    refine g_iconst hO 1 d_X12_looksAt_32 (by decide) ?_
    refine g_iload_n hO d_X12_looksAt_33 (by rfl) 2 rfl ?_
    refine g_ishl hO d_X12_looksAt_34 ?_
    refine g_iconst hO (-1) d_X12_looksAt_35 (by decide) ?_
    refine g_ixor hO d_X12_looksAt_36 ?_
    refine g_iand hO d_X12_looksAt_37 ?_
    refine h_putI hO cl_X12 31 rfl rfl wf_X12_331 (Or.inl rfl) d_X12_looksAt_38 (fun S10 => ?_)
    refine g_aload_n hO d_X12_looksAt_41 (by rfl) 1 rfl ?_
    refine h_getR hO cl_X12 44 rfl wf_X12_65 d_X12_looksAt_42 (fun v11 => ?_)
    refine g_iload_n hO d_X12_looksAt_45 (by rfl) 2 rfl ?_
    refine g_aload_n hO d_X12_looksAt_46 (by rfl) 1 rfl ?_
    refine h_getI hO cl_X12 30 rfl wf_X12_328 d_X12_looksAt_47 (fun v12 => ?_)
    refine h_iast hO d_X12_looksAt_50 (fun S13 => ?_)
    refine g_iload_n hO d_X12_looksAt_51 (by rfl) 0 rfl ?_
    refine g_iconst hO 2 d_X12_looksAt_52 (by decide) ?_
    refine g_ic_ne (tgt := 71) hO d_X12_looksAt_53.1 d_X12_looksAt_53.2 (fun _ => ?_) (fun _ => ?_)
    · skip
      refine g_aload_n hO d_X12_looksAt_56 (by rfl) 1 rfl ?_
      refine g_dup hO d_X12_looksAt_57 rfl ?_
      refine h_getI hO cl_X12 33 rfl wf_X12_337 d_X12_looksAt_58 (fun v14 => ?_)
      refine g_iconst hO 1 d_X12_looksAt_61 (by decide) ?_
      refine g_iload_n hO d_X12_looksAt_62 (by rfl) 2 rfl ?_
      refine g_ishl hO d_X12_looksAt_63 ?_
      refine g_ior hO d_X12_looksAt_64 ?_
      refine h_putI hO cl_X12 33 rfl rfl wf_X12_337 (Or.inl rfl) d_X12_looksAt_65 (fun S15 => ?_)
      refine g_goto (tgt := 104) hO d_X12_looksAt_68.1 d_X12_looksAt_68.2 ?_
      exact g_vret hO rfl ⟨Nat.le_of_ble_eq_true rfl, Nat.le_of_ble_eq_true rfl⟩ rfl rfl d_X12_looksAt_104.1
    · skip
      refine g_aload_n hO d_X12_looksAt_71 (by rfl) 1 rfl ?_
      refine g_dup hO d_X12_looksAt_72 rfl ?_
      refine h_getI hO cl_X12 32 rfl wf_X12_334 d_X12_looksAt_73 (fun v16 => ?_)
      refine g_iconst hO 1 d_X12_looksAt_76 (by decide) ?_
      refine g_iload_n hO d_X12_looksAt_77 (by rfl) 2 rfl ?_
      refine g_ishl hO d_X12_looksAt_78 ?_
      refine g_ior hO d_X12_looksAt_79 ?_
      refine h_putI hO cl_X12 32 rfl rfl wf_X12_334 (Or.inl rfl) d_X12_looksAt_80 (fun S17 => ?_)
      refine g_aload_n hO d_X12_looksAt_83 (by rfl) 1 rfl ?_
      refine h_getR hO cl_X12 42 rfl wf_X12_59 d_X12_looksAt_84 (fun v18 => ?_)
      refine g_iload_n hO d_X12_looksAt_87 (by rfl) 2 rfl ?_
      refine g_aload_n hO d_X12_looksAt_88 (by rfl) 1 rfl ?_
      refine g_iconst hO 4 d_X12_looksAt_89 (by decide) ?_
      refine k_virtIp hO cl_X12 mm_X12_ofCourt lkV_X12_287 ⟨⟨Nat.le_of_ble_eq_true rfl, Nat.le_of_ble_eq_true rfl⟩, Nat.le_of_ble_eq_true rfl, Nat.le_of_ble_eq_true rfl⟩ (kn' := (0, 0)) rfl (As := [vI 4]) rfl (Nat.le_of_ble_eq_true rfl) (fun o' _ => t_X12_ofCourt Γ.2.1 E o' 4 S17) d_X12_looksAt_90 rfl (fun v19 => ?_)
      refine h_iast hO d_X12_looksAt_93 (fun S21 => ?_)
      refine g_aload_n hO d_X12_looksAt_94 (by rfl) 1 rfl ?_
      refine h_getR hO cl_X12 43 rfl wf_X12_62 d_X12_looksAt_95 (fun v22 => ?_)
      refine g_iload_n hO d_X12_looksAt_98 (by rfl) 2 rfl ?_
      refine g_dup2 hO d_X12_looksAt_99 rfl rfl ?_
      refine h_iald hO d_X12_looksAt_100 (fun v23 => ?_)
      refine g_iconst hO 1 d_X12_looksAt_101 (by decide) ?_
      refine g_iadd hO d_X12_looksAt_102 ?_
      refine h_iast hO d_X12_looksAt_103 (fun S24 => ?_)
      exact g_vret hO rfl ⟨Nat.le_of_ble_eq_true rfl, Nat.le_of_ble_eq_true rfl⟩ rfl rfl d_X12_looksAt_104.1
theorem t_X12_looksAt (l : Launch) (E : GE) (o : Nat) (x1 : Int32) (S : GS) : ∀ a, f_X12_looksAt o x1 S = some a → Ct l E yX12_looksAt cX12_looksAt 3 none rm_X12_looksAt [vA (some o), vI x1] S none a :=
  Ct_of (val := fun _ => none) (nxt := fun b => b) (by decide) (Nat.le_of_ble_eq_true rfl) (fun Γ hl hO => w_X12_looksAt hO o x1 S)
theorem d_X12_tells_0 : gD cX12_tells 0 (.aload_n 0) 1 1 := ⟨by decide +kernel, rfl⟩
theorem d_X12_tells_1 : gD cX12_tells 1 (.getfield 331) 3 4 := ⟨by decide +kernel, rfl⟩
theorem d_X12_tells_4 : gD cX12_tells 4 (.iload_n 1) 1 5 := ⟨by decide +kernel, rfl⟩
theorem d_X12_tells_5 : gD cX12_tells 5 (.invokestatic 104) 3 8 := ⟨by decide +kernel, rfl⟩
theorem d_X12_tells_8 : gD cX12_tells 8 (.ifCond .eq 26) 3 11 ∧ ((8 : Nat) : Int) + 26 = ((34 : Nat) : Int) := ⟨⟨by decide +kernel, rfl⟩, by decide⟩
theorem d_X12_tells_11 : gD cX12_tells 11 (.aload_n 0) 1 12 := ⟨by decide +kernel, rfl⟩
theorem d_X12_tells_12 : gD cX12_tells 12 (.iload_n 1) 1 13 := ⟨by decide +kernel, rfl⟩
theorem d_X12_tells_13 : gD cX12_tells 13 (.iconst 4) 1 14 := ⟨by decide +kernel, rfl⟩
theorem d_X12_tells_14 : gD cX12_tells 14 (.invokevirtual 306) 3 17 := ⟨by decide +kernel, rfl⟩
theorem d_X12_tells_17 : gD cX12_tells 17 (.aload_n 0) 1 18 := ⟨by decide +kernel, rfl⟩
theorem d_X12_tells_18 : gD cX12_tells 18 (.aload_n 0) 1 19 := ⟨by decide +kernel, rfl⟩
theorem d_X12_tells_19 : gD cX12_tells 19 (.getfield 53) 3 22 := ⟨by decide +kernel, rfl⟩
theorem d_X12_tells_22 : gD cX12_tells 22 (.iload_n 1) 1 23 := ⟨by decide +kernel, rfl⟩
theorem d_X12_tells_23 : gD cX12_tells 23 (.iaload) 1 24 := ⟨by decide +kernel, rfl⟩
theorem d_X12_tells_24 : gD cX12_tells 24 (.invokevirtual 369) 3 27 := ⟨by decide +kernel, rfl⟩
theorem d_X12_tells_27 : gD cX12_tells 27 (.if_icmp .gt 7) 3 30 ∧ ((27 : Nat) : Int) + 7 = ((34 : Nat) : Int) := ⟨⟨by decide +kernel, rfl⟩, by decide⟩
theorem d_X12_tells_30 : gD cX12_tells 30 (.iconst 1) 1 31 := ⟨by decide +kernel, rfl⟩
theorem d_X12_tells_31 : decode cX12_tells 31 = .ok (.goto 4, 3) ∧ ((31 : Nat) : Int) + 4 = ((35 : Nat) : Int) := ⟨by decide +kernel, by decide⟩
theorem d_X12_tells_34 : gD cX12_tells 34 (.iconst 0) 1 35 := ⟨by decide +kernel, rfl⟩
theorem d_X12_tells_35 : gD cX12_tells 35 (.ireturn) 1 36 := ⟨by decide +kernel, rfl⟩
abbrev rm_X12_tells : Room := { frames := 3, cells := 0, slots := 0, locals := 63 }
set_option maxRecDepth 20000 in
theorem w_X12_tells {Γ : GC} {E : GE} (hO : gOk Γ E cX12_tells RX12 2 rm_X12_tells (some .boolean) "tells") (o : Nat) (x1 : Int32) (S : GS) : Go Γ E (gBpI Γ E S) 2 (0, 0) 0 S [(0, vA (some o)), (1, vI x1)] [] (f_X12_tells o x1 S) := by
  unfold f_X12_tells
  refine g_aload_n hO d_X12_tells_0 (by rfl) 0 rfl ?_
  refine h_getI hO cl_X12 31 rfl wf_X12_331 d_X12_tells_1 (fun v1 => ?_)
  refine g_iload_n hO d_X12_tells_4 (by rfl) 1 rfl ?_
  refine k_statIp hO mm_X12_has lkS_X12_104 ⟨⟨Nat.le_of_ble_eq_true rfl, Nat.le_of_ble_eq_true rfl⟩, Nat.le_of_ble_eq_true rfl, Nat.le_of_ble_eq_true rfl⟩ (kn' := (0, 0)) rfl (As := [vI v1, vI x1]) rfl (Nat.le_of_ble_eq_true rfl) (t_X12_has Γ.2.1 E v1 x1 S) d_X12_tells_5 rfl (fun v2 => ?_)
  refine g_if_eq (tgt := 34) hO d_X12_tells_8.1 d_X12_tells_8.2 (fun _ => ?_) (fun _ => ?_)
  · skip
    refine g_iconst hO 0 d_X12_tells_34 (by decide) ?_
    exact g_ret hO rfl rfl ⟨Nat.le_of_ble_eq_true rfl, Nat.le_of_ble_eq_true rfl⟩ rfl rfl d_X12_tells_35.1
  · skip
    refine g_aload_n hO d_X12_tells_11 (by rfl) 0 rfl ?_
    refine g_iload_n hO d_X12_tells_12 (by rfl) 1 rfl ?_
    refine g_iconst hO 4 d_X12_tells_13 (by decide) ?_
    refine k_virtIp hO cl_X12 mm_X12_ofLady lkV_X12_306 ⟨⟨Nat.le_of_ble_eq_true rfl, Nat.le_of_ble_eq_true rfl⟩, Nat.le_of_ble_eq_true rfl, Nat.le_of_ble_eq_true rfl⟩ (kn' := (0, 0)) rfl (As := [vI x1, vI 4]) rfl (Nat.le_of_ble_eq_true rfl) (fun o' _ => t_X12_ofLady Γ.2.1 E o' x1 4 S) d_X12_tells_14 rfl (fun v4 => ?_)
    refine g_aload_n hO d_X12_tells_17 (by rfl) 0 rfl ?_
    refine g_aload_n hO d_X12_tells_18 (by rfl) 0 rfl ?_
    refine h_getR hO cl_X12 40 rfl wf_X12_53 d_X12_tells_19 (fun v6 => ?_)
    refine g_iload_n hO d_X12_tells_22 (by rfl) 1 rfl ?_
    refine h_iald hO d_X12_tells_23 (fun v7 => ?_)
    refine k_virtIp hO cl_X12 mm_X12_pressureOf lkV_X12_369 ⟨⟨Nat.le_of_ble_eq_true rfl, Nat.le_of_ble_eq_true rfl⟩, Nat.le_of_ble_eq_true rfl, Nat.le_of_ble_eq_true rfl⟩ (kn' := (0, 0)) rfl (As := [vI v7]) rfl (Nat.le_of_ble_eq_true rfl) (fun o' _ => t_X12_pressureOf Γ.2.1 E o' v7 S) d_X12_tells_24 rfl (fun v8 => ?_)
    refine g_ic_gt (tgt := 34) hO d_X12_tells_27.1 d_X12_tells_27.2 (fun _ => ?_) (fun _ => ?_)
    · skip
      refine g_iconst hO 0 d_X12_tells_34 (by decide) ?_
      exact g_ret hO rfl rfl ⟨Nat.le_of_ble_eq_true rfl, Nat.le_of_ble_eq_true rfl⟩ rfl rfl d_X12_tells_35.1
    · skip
      refine g_iconst hO 1 d_X12_tells_30 (by decide) ?_
      refine g_goto (tgt := 35) hO d_X12_tells_31.1 d_X12_tells_31.2 ?_
      exact g_ret hO rfl rfl ⟨Nat.le_of_ble_eq_true rfl, Nat.le_of_ble_eq_true rfl⟩ rfl rfl d_X12_tells_35.1
theorem t_X12_tells (l : Launch) (E : GE) (o : Nat) (x1 : Int32) (S : GS) : ∀ a, f_X12_tells o x1 S = some a → Ct l E yX12_tells cX12_tells 2 (some .boolean) rm_X12_tells [vA (some o), vI x1] S (some (vI a)) S :=
  Ct_of (val := fun b => some (vI b)) (nxt := fun _ => S) (by decide) (Nat.le_of_ble_eq_true rfl) (fun Γ hl hO => w_X12_tells hO o x1 S)
theorem d_X12_minute_0 : gD cX12_minute 0 (.aload_n 0) 1 1 := ⟨by decide +kernel, rfl⟩
theorem d_X12_minute_1 : gD cX12_minute 1 (.dup) 1 2 := ⟨by decide +kernel, rfl⟩
theorem d_X12_minute_2 : gD cX12_minute 2 (.getfield 328) 3 5 := ⟨by decide +kernel, rfl⟩
theorem d_X12_minute_5 : gD cX12_minute 5 (.iconst 1) 1 6 := ⟨by decide +kernel, rfl⟩
theorem d_X12_minute_6 : gD cX12_minute 6 (.iadd) 1 7 := ⟨by decide +kernel, rfl⟩
theorem d_X12_minute_7 : gD cX12_minute 7 (.putfield 328) 3 10 := ⟨by decide +kernel, rfl⟩
theorem d_X12_minute_10 : gD cX12_minute 10 (.iconst 0) 1 11 := ⟨by decide +kernel, rfl⟩
theorem d_X12_minute_11 : gD cX12_minute 11 (.istore_n 1) 1 12 := ⟨by decide +kernel, rfl⟩
theorem d_X12_minute_12 : gD cX12_minute 12 (.iload_n 1) 1 13 := ⟨by decide +kernel, rfl⟩
theorem d_X12_minute_13 : gD cX12_minute 13 (.aload_n 0) 1 14 := ⟨by decide +kernel, rfl⟩
theorem d_X12_minute_14 : gD cX12_minute 14 (.getfield 291) 3 17 := ⟨by decide +kernel, rfl⟩
theorem d_X12_minute_17 : gD cX12_minute 17 (.if_icmp .ge 64) 3 20 ∧ ((17 : Nat) : Int) + 64 = ((81 : Nat) : Int) := ⟨⟨by decide +kernel, rfl⟩, by decide⟩
theorem d_X12_minute_20 : gD cX12_minute 20 (.aload_n 0) 1 21 := ⟨by decide +kernel, rfl⟩
theorem d_X12_minute_21 : gD cX12_minute 21 (.getfield 352) 3 24 := ⟨by decide +kernel, rfl⟩
theorem d_X12_minute_24 : gD cX12_minute 24 (.iload_n 1) 1 25 := ⟨by decide +kernel, rfl⟩
theorem d_X12_minute_25 : gD cX12_minute 25 (.invokestatic 104) 3 28 := ⟨by decide +kernel, rfl⟩
theorem d_X12_minute_28 : gD cX12_minute 28 (.ifCond .ne 47) 3 31 ∧ ((28 : Nat) : Int) + 47 = ((75 : Nat) : Int) := ⟨⟨by decide +kernel, rfl⟩, by decide⟩
theorem d_X12_minute_31 : gD cX12_minute 31 (.aload_n 0) 1 32 := ⟨by decide +kernel, rfl⟩
theorem d_X12_minute_32 : gD cX12_minute 32 (.getfield 50) 3 35 := ⟨by decide +kernel, rfl⟩
theorem d_X12_minute_35 : gD cX12_minute 35 (.iload_n 1) 1 36 := ⟨by decide +kernel, rfl⟩
theorem d_X12_minute_36 : gD cX12_minute 36 (.dup2) 1 37 := ⟨by decide +kernel, rfl⟩
theorem d_X12_minute_37 : gD cX12_minute 37 (.iaload) 1 38 := ⟨by decide +kernel, rfl⟩
theorem d_X12_minute_38 : gD cX12_minute 38 (.aload_n 0) 1 39 := ⟨by decide +kernel, rfl⟩
theorem d_X12_minute_39 : gD cX12_minute 39 (.getfield 50) 3 42 := ⟨by decide +kernel, rfl⟩
theorem d_X12_minute_42 : gD cX12_minute 42 (.iload_n 1) 1 43 := ⟨by decide +kernel, rfl⟩
theorem d_X12_minute_43 : gD cX12_minute 43 (.iaload) 1 44 := ⟨by decide +kernel, rfl⟩
theorem d_X12_minute_44 : gD cX12_minute 44 (.aload_n 0) 1 45 := ⟨by decide +kernel, rfl⟩
theorem d_X12_minute_45 : gD cX12_minute 45 (.getfield 325) 3 48 := ⟨by decide +kernel, rfl⟩
theorem d_X12_minute_48 : gD cX12_minute 48 (.if_icmp .ge 7) 3 51 ∧ ((48 : Nat) : Int) + 7 = ((55 : Nat) : Int) := ⟨⟨by decide +kernel, rfl⟩, by decide⟩
theorem d_X12_minute_51 : gD cX12_minute 51 (.iconst 1) 1 52 := ⟨by decide +kernel, rfl⟩
theorem d_X12_minute_52 : decode cX12_minute 52 = .ok (.goto 21, 3) ∧ ((52 : Nat) : Int) + 21 = ((73 : Nat) : Int) := ⟨by decide +kernel, by decide⟩
theorem d_X12_minute_55 : gD cX12_minute 55 (.aload_n 0) 1 56 := ⟨by decide +kernel, rfl⟩
theorem d_X12_minute_56 : gD cX12_minute 56 (.getfield 50) 3 59 := ⟨by decide +kernel, rfl⟩
theorem d_X12_minute_59 : gD cX12_minute 59 (.iload_n 1) 1 60 := ⟨by decide +kernel, rfl⟩
theorem d_X12_minute_60 : gD cX12_minute 60 (.iaload) 1 61 := ⟨by decide +kernel, rfl⟩
theorem d_X12_minute_61 : gD cX12_minute 61 (.aload_n 0) 1 62 := ⟨by decide +kernel, rfl⟩
theorem d_X12_minute_62 : gD cX12_minute 62 (.getfield 325) 3 65 := ⟨by decide +kernel, rfl⟩
theorem d_X12_minute_65 : gD cX12_minute 65 (.if_icmp .le 7) 3 68 ∧ ((65 : Nat) : Int) + 7 = ((72 : Nat) : Int) := ⟨⟨by decide +kernel, rfl⟩, by decide⟩
theorem d_X12_minute_68 : gD cX12_minute 68 (.iconst (-1)) 1 69 := ⟨by decide +kernel, rfl⟩
theorem d_X12_minute_69 : decode cX12_minute 69 = .ok (.goto 4, 3) ∧ ((69 : Nat) : Int) + 4 = ((73 : Nat) : Int) := ⟨by decide +kernel, by decide⟩
theorem d_X12_minute_72 : gD cX12_minute 72 (.iconst 0) 1 73 := ⟨by decide +kernel, rfl⟩
theorem d_X12_minute_73 : gD cX12_minute 73 (.iadd) 1 74 := ⟨by decide +kernel, rfl⟩
theorem d_X12_minute_74 : gD cX12_minute 74 (.iastore) 1 75 := ⟨by decide +kernel, rfl⟩
theorem d_X12_minute_75 : gD cX12_minute 75 (.iinc 1 1) 3 78 := ⟨by decide +kernel, rfl⟩
theorem d_X12_minute_78 : decode cX12_minute 78 = .ok (.goto (-66), 3) ∧ ((78 : Nat) : Int) + (-66) = ((12 : Nat) : Int) := ⟨by decide +kernel, by decide⟩
theorem d_X12_minute_81 : gD cX12_minute 81 (.iconst 0) 1 82 := ⟨by decide +kernel, rfl⟩
theorem d_X12_minute_82 : gD cX12_minute 82 (.istore_n 1) 1 83 := ⟨by decide +kernel, rfl⟩
theorem d_X12_minute_83 : gD cX12_minute 83 (.iload_n 1) 1 84 := ⟨by decide +kernel, rfl⟩
theorem d_X12_minute_84 : gD cX12_minute 84 (.aload_n 0) 1 85 := ⟨by decide +kernel, rfl⟩
theorem d_X12_minute_85 : gD cX12_minute 85 (.getfield 294) 3 88 := ⟨by decide +kernel, rfl⟩
theorem d_X12_minute_88 : gD cX12_minute 88 (.if_icmp .ge 65) 3 91 ∧ ((88 : Nat) : Int) + 65 = ((153 : Nat) : Int) := ⟨⟨by decide +kernel, rfl⟩, by decide⟩
theorem d_X12_minute_91 : gD cX12_minute 91 (.aload_n 0) 1 92 := ⟨by decide +kernel, rfl⟩
theorem d_X12_minute_92 : gD cX12_minute 92 (.getfield 334) 3 95 := ⟨by decide +kernel, rfl⟩
theorem d_X12_minute_95 : gD cX12_minute 95 (.iload_n 1) 1 96 := ⟨by decide +kernel, rfl⟩
theorem d_X12_minute_96 : gD cX12_minute 96 (.invokestatic 104) 3 99 := ⟨by decide +kernel, rfl⟩
theorem d_X12_minute_99 : gD cX12_minute 99 (.ifCond .eq 48) 3 102 ∧ ((99 : Nat) : Int) + 48 = ((147 : Nat) : Int) := ⟨⟨by decide +kernel, rfl⟩, by decide⟩
theorem d_X12_minute_102 : gD cX12_minute 102 (.aload_n 0) 1 103 := ⟨by decide +kernel, rfl⟩
theorem d_X12_minute_103 : gD cX12_minute 103 (.getfield 59) 3 106 := ⟨by decide +kernel, rfl⟩
theorem d_X12_minute_106 : gD cX12_minute 106 (.iload_n 1) 1 107 := ⟨by decide +kernel, rfl⟩
theorem d_X12_minute_107 : gD cX12_minute 107 (.dup2) 1 108 := ⟨by decide +kernel, rfl⟩
theorem d_X12_minute_108 : gD cX12_minute 108 (.iaload) 1 109 := ⟨by decide +kernel, rfl⟩
theorem d_X12_minute_109 : gD cX12_minute 109 (.iconst 1) 1 110 := ⟨by decide +kernel, rfl⟩
theorem d_X12_minute_110 : gD cX12_minute 110 (.isub) 1 111 := ⟨by decide +kernel, rfl⟩
theorem d_X12_minute_111 : gD cX12_minute 111 (.iastore) 1 112 := ⟨by decide +kernel, rfl⟩
theorem d_X12_minute_112 : gD cX12_minute 112 (.aload_n 0) 1 113 := ⟨by decide +kernel, rfl⟩
theorem d_X12_minute_113 : gD cX12_minute 113 (.getfield 59) 3 116 := ⟨by decide +kernel, rfl⟩
theorem d_X12_minute_116 : gD cX12_minute 116 (.iload_n 1) 1 117 := ⟨by decide +kernel, rfl⟩
theorem d_X12_minute_117 : gD cX12_minute 117 (.iaload) 1 118 := ⟨by decide +kernel, rfl⟩
theorem d_X12_minute_118 : gD cX12_minute 118 (.ifCond .ne 29) 3 121 ∧ ((118 : Nat) : Int) + 29 = ((147 : Nat) : Int) := ⟨⟨by decide +kernel, rfl⟩, by decide⟩
theorem d_X12_minute_121 : gD cX12_minute 121 (.aload_n 0) 1 122 := ⟨by decide +kernel, rfl⟩
theorem d_X12_minute_122 : gD cX12_minute 122 (.dup) 1 123 := ⟨by decide +kernel, rfl⟩
theorem d_X12_minute_123 : gD cX12_minute 123 (.getfield 334) 3 126 := ⟨by decide +kernel, rfl⟩
theorem d_X12_minute_126 : gD cX12_minute 126 (.iconst 1) 1 127 := ⟨by decide +kernel, rfl⟩
theorem d_X12_minute_127 : gD cX12_minute 127 (.iload_n 1) 1 128 := ⟨by decide +kernel, rfl⟩
theorem d_X12_minute_128 : gD cX12_minute 128 (.ishl) 1 129 := ⟨by decide +kernel, rfl⟩
theorem d_X12_minute_129 : gD cX12_minute 129 (.iconst (-1)) 1 130 := ⟨by decide +kernel, rfl⟩
theorem d_X12_minute_130 : gD cX12_minute 130 (.ixor) 1 131 := ⟨by decide +kernel, rfl⟩
theorem d_X12_minute_131 : gD cX12_minute 131 (.iand) 1 132 := ⟨by decide +kernel, rfl⟩
theorem d_X12_minute_132 : gD cX12_minute 132 (.putfield 334) 3 135 := ⟨by decide +kernel, rfl⟩
theorem d_X12_minute_135 : gD cX12_minute 135 (.aload_n 0) 1 136 := ⟨by decide +kernel, rfl⟩
theorem d_X12_minute_136 : gD cX12_minute 136 (.dup) 1 137 := ⟨by decide +kernel, rfl⟩
theorem d_X12_minute_137 : gD cX12_minute 137 (.getfield 331) 3 140 := ⟨by decide +kernel, rfl⟩
theorem d_X12_minute_140 : gD cX12_minute 140 (.iconst 1) 1 141 := ⟨by decide +kernel, rfl⟩
theorem d_X12_minute_141 : gD cX12_minute 141 (.iload_n 1) 1 142 := ⟨by decide +kernel, rfl⟩
theorem d_X12_minute_142 : gD cX12_minute 142 (.ishl) 1 143 := ⟨by decide +kernel, rfl⟩
theorem d_X12_minute_143 : gD cX12_minute 143 (.ior) 1 144 := ⟨by decide +kernel, rfl⟩
theorem d_X12_minute_144 : gD cX12_minute 144 (.putfield 331) 3 147 := ⟨by decide +kernel, rfl⟩
theorem d_X12_minute_147 : gD cX12_minute 147 (.iinc 1 1) 3 150 := ⟨by decide +kernel, rfl⟩
theorem d_X12_minute_150 : decode cX12_minute 150 = .ok (.goto (-67), 3) ∧ ((150 : Nat) : Int) + (-67) = ((83 : Nat) : Int) := ⟨by decide +kernel, by decide⟩
theorem d_X12_minute_153 : gD cX12_minute 153 (.iconst 0) 1 154 := ⟨by decide +kernel, rfl⟩
theorem d_X12_minute_154 : gD cX12_minute 154 (.istore_n 1) 1 155 := ⟨by decide +kernel, rfl⟩
theorem d_X12_minute_155 : gD cX12_minute 155 (.iload_n 1) 1 156 := ⟨by decide +kernel, rfl⟩
theorem d_X12_minute_156 : gD cX12_minute 156 (.aload_n 0) 1 157 := ⟨by decide +kernel, rfl⟩
theorem d_X12_minute_157 : gD cX12_minute 157 (.getfield 294) 3 160 := ⟨by decide +kernel, rfl⟩
theorem d_X12_minute_160 : gD cX12_minute 160 (.if_icmp .ge 25) 3 163 ∧ ((160 : Nat) : Int) + 25 = ((185 : Nat) : Int) := ⟨⟨by decide +kernel, rfl⟩, by decide⟩
theorem d_X12_minute_163 : gD cX12_minute 163 (.aload_n 0) 1 164 := ⟨by decide +kernel, rfl⟩
theorem d_X12_minute_164 : gD cX12_minute 164 (.getfield 331) 3 167 := ⟨by decide +kernel, rfl⟩
theorem d_X12_minute_167 : gD cX12_minute 167 (.iload_n 1) 1 168 := ⟨by decide +kernel, rfl⟩
theorem d_X12_minute_168 : gD cX12_minute 168 (.invokestatic 104) 3 171 := ⟨by decide +kernel, rfl⟩
theorem d_X12_minute_171 : gD cX12_minute 171 (.ifCond .eq 8) 3 174 ∧ ((171 : Nat) : Int) + 8 = ((179 : Nat) : Int) := ⟨⟨by decide +kernel, rfl⟩, by decide⟩
theorem d_X12_minute_174 : gD cX12_minute 174 (.aload_n 0) 1 175 := ⟨by decide +kernel, rfl⟩
theorem d_X12_minute_175 : gD cX12_minute 175 (.iload_n 1) 1 176 := ⟨by decide +kernel, rfl⟩
theorem d_X12_minute_176 : gD cX12_minute 176 (.invokevirtual 372) 3 179 := ⟨by decide +kernel, rfl⟩
theorem d_X12_minute_179 : gD cX12_minute 179 (.iinc 1 1) 3 182 := ⟨by decide +kernel, rfl⟩
theorem d_X12_minute_182 : decode cX12_minute 182 = .ok (.goto (-27), 3) ∧ ((182 : Nat) : Int) + (-27) = ((155 : Nat) : Int) := ⟨by decide +kernel, by decide⟩
theorem d_X12_minute_185 : gD cX12_minute 185 (.iconst 0) 1 186 := ⟨by decide +kernel, rfl⟩
theorem d_X12_minute_186 : gD cX12_minute 186 (.istore_n 1) 1 187 := ⟨by decide +kernel, rfl⟩
theorem d_X12_minute_187 : gD cX12_minute 187 (.iload_n 1) 1 188 := ⟨by decide +kernel, rfl⟩
theorem d_X12_minute_188 : gD cX12_minute 188 (.aload_n 0) 1 189 := ⟨by decide +kernel, rfl⟩
theorem d_X12_minute_189 : gD cX12_minute 189 (.getfield 294) 3 192 := ⟨by decide +kernel, rfl⟩
theorem d_X12_minute_192 : gD cX12_minute 192 (.if_icmp .ge 67) 3 195 ∧ ((192 : Nat) : Int) + 67 = ((259 : Nat) : Int) := ⟨⟨by decide +kernel, rfl⟩, by decide⟩
theorem d_X12_minute_195 : gD cX12_minute 195 (.iconst 0) 1 196 := ⟨by decide +kernel, rfl⟩
theorem d_X12_minute_196 : gD cX12_minute 196 (.istore_n 2) 1 197 := ⟨by decide +kernel, rfl⟩
theorem d_X12_minute_197 : gD cX12_minute 197 (.iload_n 2) 1 198 := ⟨by decide +kernel, rfl⟩
theorem d_X12_minute_198 : gD cX12_minute 198 (.iload_n 1) 1 199 := ⟨by decide +kernel, rfl⟩
theorem d_X12_minute_199 : gD cX12_minute 199 (.if_icmp .ge 54) 3 202 ∧ ((199 : Nat) : Int) + 54 = ((253 : Nat) : Int) := ⟨⟨by decide +kernel, rfl⟩, by decide⟩
theorem d_X12_minute_202 : gD cX12_minute 202 (.aload_n 0) 1 203 := ⟨by decide +kernel, rfl⟩
theorem d_X12_minute_203 : gD cX12_minute 203 (.dup) 1 204 := ⟨by decide +kernel, rfl⟩
theorem d_X12_minute_204 : gD cX12_minute 204 (.getfield 343) 3 207 := ⟨by decide +kernel, rfl⟩
theorem d_X12_minute_207 : gD cX12_minute 207 (.aload_n 0) 1 208 := ⟨by decide +kernel, rfl⟩
theorem d_X12_minute_208 : gD cX12_minute 208 (.iload_n 1) 1 209 := ⟨by decide +kernel, rfl⟩
theorem d_X12_minute_209 : gD cX12_minute 209 (.invokevirtual 375) 3 212 := ⟨by decide +kernel, rfl⟩
theorem d_X12_minute_212 : gD cX12_minute 212 (.ifCond .eq 30) 3 215 ∧ ((212 : Nat) : Int) + 30 = ((242 : Nat) : Int) := ⟨⟨by decide +kernel, rfl⟩, by decide⟩
theorem d_X12_minute_215 : gD cX12_minute 215 (.aload_n 0) 1 216 := ⟨by decide +kernel, rfl⟩
theorem d_X12_minute_216 : gD cX12_minute 216 (.iload_n 2) 1 217 := ⟨by decide +kernel, rfl⟩
theorem d_X12_minute_217 : gD cX12_minute 217 (.invokevirtual 375) 3 220 := ⟨by decide +kernel, rfl⟩
theorem d_X12_minute_220 : gD cX12_minute 220 (.ifCond .eq 22) 3 223 ∧ ((220 : Nat) : Int) + 22 = ((242 : Nat) : Int) := ⟨⟨by decide +kernel, rfl⟩, by decide⟩
theorem d_X12_minute_223 : gD cX12_minute 223 (.aload_n 0) 1 224 := ⟨by decide +kernel, rfl⟩
theorem d_X12_minute_224 : gD cX12_minute 224 (.getfield 53) 3 227 := ⟨by decide +kernel, rfl⟩
theorem d_X12_minute_227 : gD cX12_minute 227 (.iload_n 1) 1 228 := ⟨by decide +kernel, rfl⟩
theorem d_X12_minute_228 : gD cX12_minute 228 (.iaload) 1 229 := ⟨by decide +kernel, rfl⟩
theorem d_X12_minute_229 : gD cX12_minute 229 (.aload_n 0) 1 230 := ⟨by decide +kernel, rfl⟩
theorem d_X12_minute_230 : gD cX12_minute 230 (.getfield 53) 3 233 := ⟨by decide +kernel, rfl⟩
theorem d_X12_minute_233 : gD cX12_minute 233 (.iload_n 2) 1 234 := ⟨by decide +kernel, rfl⟩
theorem d_X12_minute_234 : gD cX12_minute 234 (.iaload) 1 235 := ⟨by decide +kernel, rfl⟩
theorem d_X12_minute_235 : gD cX12_minute 235 (.if_icmp .ne 7) 3 238 ∧ ((235 : Nat) : Int) + 7 = ((242 : Nat) : Int) := ⟨⟨by decide +kernel, rfl⟩, by decide⟩
theorem d_X12_minute_238 : gD cX12_minute 238 (.iconst 1) 1 239 := ⟨by decide +kernel, rfl⟩
theorem d_X12_minute_239 : decode cX12_minute 239 = .ok (.goto 4, 3) ∧ ((239 : Nat) : Int) + 4 = ((243 : Nat) : Int) := ⟨by decide +kernel, by decide⟩
theorem d_X12_minute_242 : gD cX12_minute 242 (.iconst 0) 1 243 := ⟨by decide +kernel, rfl⟩
theorem d_X12_minute_243 : gD cX12_minute 243 (.iadd) 1 244 := ⟨by decide +kernel, rfl⟩
theorem d_X12_minute_244 : gD cX12_minute 244 (.putfield 343) 3 247 := ⟨by decide +kernel, rfl⟩
theorem d_X12_minute_247 : gD cX12_minute 247 (.iinc 2 1) 3 250 := ⟨by decide +kernel, rfl⟩
theorem d_X12_minute_250 : decode cX12_minute 250 = .ok (.goto (-53), 3) ∧ ((250 : Nat) : Int) + (-53) = ((197 : Nat) : Int) := ⟨by decide +kernel, by decide⟩
theorem d_X12_minute_253 : gD cX12_minute 253 (.iinc 1 1) 3 256 := ⟨by decide +kernel, rfl⟩
theorem d_X12_minute_256 : decode cX12_minute 256 = .ok (.goto (-69), 3) ∧ ((256 : Nat) : Int) + (-69) = ((187 : Nat) : Int) := ⟨by decide +kernel, by decide⟩
theorem d_X12_minute_259 : gD cX12_minute 259 (.return_) 1 260 := ⟨by decide +kernel, rfl⟩
abbrev rm_X12_minute : Room := { frames := 4, cells := 0, slots := 0, locals := 88 }
set_option maxRecDepth 20000 in
theorem w_X12_minute_75 {Γ : GC} {E : GE} (hO : gOk Γ E cX12_minute RX12 3 rm_X12_minute none "minute") (o : Nat) {k12 : (Int32 → GS → Option GS)} (hk12 : ∀ (z1 : Int32) (S1 : GS), Go Γ E (gBsV Γ E) 3 (0, 0) 12 S1 [(0, vA (some o)), (1, vI z1)] [] (k12 z1 S1)) (x1 : Int32) (S : GS) : Go Γ E (gBsV Γ E) 3 (0, 0) 75 S [(0, vA (some o)), (1, vI x1)] [] (f_X12_minute_75 k12 o x1 S) := by
  unfold f_X12_minute_75
  refine g_iinc (lv' := [(1, vI (x1 + 1)), (0, vA (some o))]) hO 1 d_X12_minute_75 (by decide) 1 rfl (by decide) rfl ?_
  refine g_goto (tgt := 12) hO d_X12_minute_78.1 d_X12_minute_78.2 ?_
  exact g_sub [1, 0] rfl (hk12 _ _)
set_option maxRecDepth 20000 in
theorem w_X12_minute_73 {Γ : GC} {E : GE} (hO : gOk Γ E cX12_minute RX12 3 rm_X12_minute none "minute") (o : Nat) {k12 : (Int32 → GS → Option GS)} (hk12 : ∀ (z1 : Int32) (S1 : GS), Go Γ E (gBsV Γ E) 3 (0, 0) 12 S1 [(0, vA (some o)), (1, vI z1)] [] (k12 z1 S1)) (x1 : Int32) (y0 : Option Nat) (y1 : Int32) (y2 : Int32) (y3 : Int32) (S : GS) : Go Γ E (gBsV Γ E) 3 (0, 0) 73 S [(0, vA (some o)), (1, vI x1)] [vI y3, vI y2, vI y1, vA y0] (f_X12_minute_73 k12 o x1 y0 y1 y2 y3 S) := by
  unfold f_X12_minute_73
  refine g_iadd hO d_X12_minute_73 ?_
  refine h_iast hO d_X12_minute_74 (fun S1 => ?_)
  exact g_sub [0, 1] rfl (w_X12_minute_75 hO o hk12 _ _)
set_option maxRecDepth 20000 in
theorem w_X12_minute_147 {Γ : GC} {E : GE} (hO : gOk Γ E cX12_minute RX12 3 rm_X12_minute none "minute") (o : Nat) {k83 : (Int32 → GS → Option GS)} (hk83 : ∀ (z1 : Int32) (S1 : GS), Go Γ E (gBsV Γ E) 3 (0, 0) 83 S1 [(0, vA (some o)), (1, vI z1)] [] (k83 z1 S1)) (x1 : Int32) (S : GS) : Go Γ E (gBsV Γ E) 3 (0, 0) 147 S [(0, vA (some o)), (1, vI x1)] [] (f_X12_minute_147 k83 o x1 S) := by
  unfold f_X12_minute_147
  refine g_iinc (lv' := [(1, vI (x1 + 1)), (0, vA (some o))]) hO 1 d_X12_minute_147 (by decide) 1 rfl (by decide) rfl ?_
  refine g_goto (tgt := 83) hO d_X12_minute_150.1 d_X12_minute_150.2 ?_
  exact g_sub [1, 0] rfl (hk83 _ _)
set_option maxRecDepth 20000 in
theorem w_X12_minute_179 {Γ : GC} {E : GE} (hO : gOk Γ E cX12_minute RX12 3 rm_X12_minute none "minute") (o : Nat) {k155 : (Int32 → GS → Option GS)} (hk155 : ∀ (z1 : Int32) (S1 : GS), Go Γ E (gBsV Γ E) 3 (0, 0) 155 S1 [(0, vA (some o)), (1, vI z1)] [] (k155 z1 S1)) (x1 : Int32) (S : GS) : Go Γ E (gBsV Γ E) 3 (0, 0) 179 S [(0, vA (some o)), (1, vI x1)] [] (f_X12_minute_179 k155 o x1 S) := by
  unfold f_X12_minute_179
  refine g_iinc (lv' := [(1, vI (x1 + 1)), (0, vA (some o))]) hO 1 d_X12_minute_179 (by decide) 1 rfl (by decide) rfl ?_
  refine g_goto (tgt := 155) hO d_X12_minute_182.1 d_X12_minute_182.2 ?_
  exact g_sub [1, 0] rfl (hk155 _ _)
set_option maxRecDepth 20000 in
theorem w_X12_minute_243 {Γ : GC} {E : GE} (hO : gOk Γ E cX12_minute RX12 3 rm_X12_minute none "minute") (o : Nat) {k187 : (Int32 → GS → Option GS)} {k197 : (Int32 → Int32 → GS → Option GS)} (hk187 : ∀ (z1 : Int32) (S1 : GS), Go Γ E (gBsV Γ E) 3 (0, 0) 187 S1 [(0, vA (some o)), (1, vI z1)] [] (k187 z1 S1)) (hk197 : ∀ (z1 : Int32) (z2 : Int32) (S1 : GS), Go Γ E (gBsV Γ E) 3 (0, 0) 197 S1 [(0, vA (some o)), (1, vI z1), (2, vI z2)] [] (k197 z1 z2 S1)) (x1 : Int32) (x2 : Int32) (y0 : Option Nat) (y1 : Int32) (y2 : Int32) (S : GS) : Go Γ E (gBsV Γ E) 3 (0, 0) 243 S [(0, vA (some o)), (1, vI x1), (2, vI x2)] [vI y2, vI y1, vA y0] (f_X12_minute_243 k187 k197 o x1 x2 y0 y1 y2 S) := by
  unfold f_X12_minute_243
  refine g_iadd hO d_X12_minute_243 ?_
  refine h_putI hO cl_X12 35 rfl rfl wf_X12_343 (Or.inl rfl) d_X12_minute_244 (fun S1 => ?_)
  refine g_iinc (lv' := [(2, vI (x2 + 1)), (0, vA (some o)), (1, vI x1)]) hO 1 d_X12_minute_247 (by decide) 2 rfl (by decide) rfl ?_
  refine g_goto (tgt := 197) hO d_X12_minute_250.1 d_X12_minute_250.2 ?_
  exact g_sub [1, 2, 0] rfl (hk197 _ _ _)
set_option maxRecDepth 20000 in
theorem w_X12_minute_242 {Γ : GC} {E : GE} (hO : gOk Γ E cX12_minute RX12 3 rm_X12_minute none "minute") (o : Nat) {k187 : (Int32 → GS → Option GS)} {k197 : (Int32 → Int32 → GS → Option GS)} (hk187 : ∀ (z1 : Int32) (S1 : GS), Go Γ E (gBsV Γ E) 3 (0, 0) 187 S1 [(0, vA (some o)), (1, vI z1)] [] (k187 z1 S1)) (hk197 : ∀ (z1 : Int32) (z2 : Int32) (S1 : GS), Go Γ E (gBsV Γ E) 3 (0, 0) 197 S1 [(0, vA (some o)), (1, vI z1), (2, vI z2)] [] (k197 z1 z2 S1)) (x1 : Int32) (x2 : Int32) (y0 : Option Nat) (y1 : Int32) (S : GS) : Go Γ E (gBsV Γ E) 3 (0, 0) 242 S [(0, vA (some o)), (1, vI x1), (2, vI x2)] [vI y1, vA y0] (f_X12_minute_242 k187 k197 o x1 x2 y0 y1 S) := by
  unfold f_X12_minute_242
  refine g_iconst hO 0 d_X12_minute_242 (by decide) ?_
  exact g_sub [0, 1, 2] rfl (w_X12_minute_243 hO o hk187 hk197 _ _ _ _ _ _)
set_option maxRecDepth 20000 in
theorem w_X12_minute_197 {Γ : GC} {E : GE} (hO : gOk Γ E cX12_minute RX12 3 rm_X12_minute none "minute") (o : Nat) {k187 : (Int32 → GS → Option GS)} (hk187 : ∀ (z1 : Int32) (S1 : GS), Go Γ E (gBsV Γ E) 3 (0, 0) 187 S1 [(0, vA (some o)), (1, vI z1)] [] (k187 z1 S1)) : ∀ (n : Nat) (x1 : Int32) (x2 : Int32) (S : GS), Go Γ E (gBsV Γ E) 3 (0, 0) 197 S [(0, vA (some o)), (1, vI x1), (2, vI x2)] [] (f_X12_minute_197 k187 o n x1 x2 S) := by
  intro n
  induction n with
  | zero =>
    intro x1 x2 S
    exact g_none
  | succ n ih =>
    intro x1 x2 S
    rw [f_X12_minute_197]
    refine g_iload_n hO d_X12_minute_197 (by rfl) 2 rfl ?_
    refine g_iload_n hO d_X12_minute_198 (by rfl) 1 rfl ?_
    refine g_ic_ge (tgt := 253) hO d_X12_minute_199.1 d_X12_minute_199.2 (fun _ => ?_) (fun _ => ?_)
    · skip
      refine g_iinc (lv' := [(1, vI (x1 + 1)), (0, vA (some o)), (2, vI x2)]) hO 1 d_X12_minute_253 (by decide) 1 rfl (by decide) rfl ?_
      refine g_goto (tgt := 187) hO d_X12_minute_256.1 d_X12_minute_256.2 ?_
      exact g_sub [1, 0] rfl (hk187 _ _)
    · skip
      refine g_aload_n hO d_X12_minute_202 (by rfl) 0 rfl ?_
      refine g_dup hO d_X12_minute_203 rfl ?_
      refine h_getI hO cl_X12 35 rfl wf_X12_343 d_X12_minute_204 (fun v1 => ?_)
      refine g_aload_n hO d_X12_minute_207 (by rfl) 0 rfl ?_
      refine g_iload_n hO d_X12_minute_208 (by rfl) 1 rfl ?_
      refine k_virtIp hO cl_X12 mm_X12_tells lkV_X12_375 ⟨⟨Nat.le_of_ble_eq_true rfl, Nat.le_of_ble_eq_true rfl⟩, Nat.le_of_ble_eq_true rfl, Nat.le_of_ble_eq_true rfl⟩ (kn' := (0, 0)) rfl (As := [vI x1]) rfl (Nat.le_of_ble_eq_true rfl) (fun o' _ => t_X12_tells Γ.2.1 E o' x1 S) d_X12_minute_209 rfl (fun v2 => ?_)
      refine g_if_eq (tgt := 242) hO d_X12_minute_212.1 d_X12_minute_212.2 (fun _ => ?_) (fun _ => ?_)
      · skip
        exact g_sub [0, 1, 2] rfl (w_X12_minute_242 hO o hk187 ih _ _ _ _ _)
      · skip
        refine g_aload_n hO d_X12_minute_215 (by rfl) 0 rfl ?_
        refine g_iload_n hO d_X12_minute_216 (by rfl) 2 rfl ?_
        refine k_virtIp hO cl_X12 mm_X12_tells lkV_X12_375 ⟨⟨Nat.le_of_ble_eq_true rfl, Nat.le_of_ble_eq_true rfl⟩, Nat.le_of_ble_eq_true rfl, Nat.le_of_ble_eq_true rfl⟩ (kn' := (0, 0)) rfl (As := [vI x2]) rfl (Nat.le_of_ble_eq_true rfl) (fun o' _ => t_X12_tells Γ.2.1 E o' x2 S) d_X12_minute_217 rfl (fun v4 => ?_)
        refine g_if_eq (tgt := 242) hO d_X12_minute_220.1 d_X12_minute_220.2 (fun _ => ?_) (fun _ => ?_)
        · skip
          exact g_sub [0, 1, 2] rfl (w_X12_minute_242 hO o hk187 ih _ _ _ _ _)
        · skip
          refine g_aload_n hO d_X12_minute_223 (by rfl) 0 rfl ?_
          refine h_getR hO cl_X12 40 rfl wf_X12_53 d_X12_minute_224 (fun v6 => ?_)
          refine g_iload_n hO d_X12_minute_227 (by rfl) 1 rfl ?_
          refine h_iald hO d_X12_minute_228 (fun v7 => ?_)
          refine g_aload_n hO d_X12_minute_229 (by rfl) 0 rfl ?_
          refine h_getR hO cl_X12 40 rfl wf_X12_53 d_X12_minute_230 (fun v8 => ?_)
          refine g_iload_n hO d_X12_minute_233 (by rfl) 2 rfl ?_
          refine h_iald hO d_X12_minute_234 (fun v9 => ?_)
          refine g_ic_ne (tgt := 242) hO d_X12_minute_235.1 d_X12_minute_235.2 (fun _ => ?_) (fun _ => ?_)
          · skip
            refine g_iconst hO 1 d_X12_minute_238 (by decide) ?_
            refine g_goto (tgt := 243) hO d_X12_minute_239.1 d_X12_minute_239.2 ?_
            exact g_sub [0, 1, 2] rfl (w_X12_minute_243 hO o hk187 ih _ _ _ _ _ _)
          · skip
            exact g_sub [0, 1, 2] rfl (w_X12_minute_242 hO o hk187 ih _ _ _ _ _)
set_option maxRecDepth 20000 in
theorem w_X12_minute_187 {Γ : GC} {E : GE} (hO : gOk Γ E cX12_minute RX12 3 rm_X12_minute none "minute") (o : Nat) : ∀ (n : Nat) (x1 : Int32) (S : GS), Go Γ E (gBsV Γ E) 3 (0, 0) 187 S [(0, vA (some o)), (1, vI x1)] [] (f_X12_minute_187 o n x1 S) := by
  intro n
  induction n with
  | zero =>
    intro x1 S
    exact g_none
  | succ n ih =>
    intro x1 S
    rw [f_X12_minute_187]
    refine g_iload_n hO d_X12_minute_187 (by rfl) 1 rfl ?_
    refine g_aload_n hO d_X12_minute_188 (by rfl) 0 rfl ?_
    refine h_getI hO cl_X12 27 rfl wf_X12_294 d_X12_minute_189 (fun v1 => ?_)
    refine g_ic_ge (tgt := 259) hO d_X12_minute_192.1 d_X12_minute_192.2 (fun _ => ?_) (fun _ => ?_)
    · skip
      exact g_vret hO rfl ⟨Nat.le_of_ble_eq_true rfl, Nat.le_of_ble_eq_true rfl⟩ rfl rfl d_X12_minute_259.1
    · skip
      refine g_iconst hO 0 d_X12_minute_195 (by decide) ?_
      refine g_istore_n (lv' := [(2, vI 0), (0, vA (some o)), (1, vI x1)]) hO d_X12_minute_196 (by rfl) (by decide) rfl ?_
      exact g_sub [1, 2, 0] rfl (w_X12_minute_197 hO o ih _ _ _ _)
set_option maxRecDepth 20000 in
theorem w_X12_minute_155 {Γ : GC} {E : GE} (hO : gOk Γ E cX12_minute RX12 3 rm_X12_minute none "minute") (o : Nat) : ∀ (n : Nat) (x1 : Int32) (S : GS), Go Γ E (gBsV Γ E) 3 (0, 0) 155 S [(0, vA (some o)), (1, vI x1)] [] (f_X12_minute_155 o n x1 S) := by
  intro n
  induction n with
  | zero =>
    intro x1 S
    exact g_none
  | succ n ih =>
    intro x1 S
    rw [f_X12_minute_155]
    refine g_iload_n hO d_X12_minute_155 (by rfl) 1 rfl ?_
    refine g_aload_n hO d_X12_minute_156 (by rfl) 0 rfl ?_
    refine h_getI hO cl_X12 27 rfl wf_X12_294 d_X12_minute_157 (fun v1 => ?_)
    refine g_ic_ge (tgt := 185) hO d_X12_minute_160.1 d_X12_minute_160.2 (fun _ => ?_) (fun _ => ?_)
    · skip
      refine g_iconst hO 0 d_X12_minute_185 (by decide) ?_
      refine g_istore_n (lv' := [(1, vI 0), (0, vA (some o))]) hO d_X12_minute_186 (by rfl) (by decide) rfl ?_
      exact g_sub [1, 0] rfl (w_X12_minute_187 hO o _ _ _)
    · skip
      refine g_aload_n hO d_X12_minute_163 (by rfl) 0 rfl ?_
      refine h_getI hO cl_X12 31 rfl wf_X12_331 d_X12_minute_164 (fun v2 => ?_)
      refine g_iload_n hO d_X12_minute_167 (by rfl) 1 rfl ?_
      refine k_statIp hO mm_X12_has lkS_X12_104 ⟨⟨Nat.le_of_ble_eq_true rfl, Nat.le_of_ble_eq_true rfl⟩, Nat.le_of_ble_eq_true rfl, Nat.le_of_ble_eq_true rfl⟩ (kn' := (0, 0)) rfl (As := [vI v2, vI x1]) rfl (Nat.le_of_ble_eq_true rfl) (t_X12_has Γ.2.1 E v2 x1 S) d_X12_minute_168 rfl (fun v3 => ?_)
      refine g_if_eq (tgt := 179) hO d_X12_minute_171.1 d_X12_minute_171.2 (fun _ => ?_) (fun _ => ?_)
      · skip
        exact g_sub [0, 1] rfl (w_X12_minute_179 hO o ih _ _)
      · skip
        refine g_aload_n hO d_X12_minute_174 (by rfl) 0 rfl ?_
        refine g_iload_n hO d_X12_minute_175 (by rfl) 1 rfl ?_
        refine k_virtVs hO cl_X12 mm_X12_looksAt lkV_X12_372 ⟨⟨Nat.le_of_ble_eq_true rfl, Nat.le_of_ble_eq_true rfl⟩, Nat.le_of_ble_eq_true rfl, Nat.le_of_ble_eq_true rfl⟩ (kn' := (0, 0)) rfl (As := [vI x1]) rfl (Nat.le_of_ble_eq_true rfl) (fun o' _ => t_X12_looksAt Γ.2.1 E o' x1 S) d_X12_minute_176 rfl (fun S6 => ?_)
        exact g_sub [0, 1] rfl (w_X12_minute_179 hO o ih _ _)
set_option maxRecDepth 20000 in
theorem w_X12_minute_83 {Γ : GC} {E : GE} (hO : gOk Γ E cX12_minute RX12 3 rm_X12_minute none "minute") (o : Nat) : ∀ (n : Nat) (x1 : Int32) (S : GS), Go Γ E (gBsV Γ E) 3 (0, 0) 83 S [(0, vA (some o)), (1, vI x1)] [] (f_X12_minute_83 o n x1 S) := by
  intro n
  induction n with
  | zero =>
    intro x1 S
    exact g_none
  | succ n ih =>
    intro x1 S
    rw [f_X12_minute_83]
    refine g_iload_n hO d_X12_minute_83 (by rfl) 1 rfl ?_
    refine g_aload_n hO d_X12_minute_84 (by rfl) 0 rfl ?_
    refine h_getI hO cl_X12 27 rfl wf_X12_294 d_X12_minute_85 (fun v1 => ?_)
    refine g_ic_ge (tgt := 153) hO d_X12_minute_88.1 d_X12_minute_88.2 (fun _ => ?_) (fun _ => ?_)
    · skip
      refine g_iconst hO 0 d_X12_minute_153 (by decide) ?_
      refine g_istore_n (lv' := [(1, vI 0), (0, vA (some o))]) hO d_X12_minute_154 (by rfl) (by decide) rfl ?_
      exact g_sub [1, 0] rfl (w_X12_minute_155 hO o _ _ _)
    · skip
      refine g_aload_n hO d_X12_minute_91 (by rfl) 0 rfl ?_
      refine h_getI hO cl_X12 32 rfl wf_X12_334 d_X12_minute_92 (fun v2 => ?_)
      refine g_iload_n hO d_X12_minute_95 (by rfl) 1 rfl ?_
      refine k_statIp hO mm_X12_has lkS_X12_104 ⟨⟨Nat.le_of_ble_eq_true rfl, Nat.le_of_ble_eq_true rfl⟩, Nat.le_of_ble_eq_true rfl, Nat.le_of_ble_eq_true rfl⟩ (kn' := (0, 0)) rfl (As := [vI v2, vI x1]) rfl (Nat.le_of_ble_eq_true rfl) (t_X12_has Γ.2.1 E v2 x1 S) d_X12_minute_96 rfl (fun v3 => ?_)
      refine g_if_eq (tgt := 147) hO d_X12_minute_99.1 d_X12_minute_99.2 (fun _ => ?_) (fun _ => ?_)
      · skip
        exact g_sub [0, 1] rfl (w_X12_minute_147 hO o ih _ _)
      · skip
        refine g_aload_n hO d_X12_minute_102 (by rfl) 0 rfl ?_
        refine h_getR hO cl_X12 42 rfl wf_X12_59 d_X12_minute_103 (fun v5 => ?_)
        refine g_iload_n hO d_X12_minute_106 (by rfl) 1 rfl ?_
        refine g_dup2 hO d_X12_minute_107 rfl rfl ?_
        refine h_iald hO d_X12_minute_108 (fun v6 => ?_)
        refine g_iconst hO 1 d_X12_minute_109 (by decide) ?_
        refine g_isub hO d_X12_minute_110 ?_
        refine h_iast hO d_X12_minute_111 (fun S7 => ?_)
        refine g_aload_n hO d_X12_minute_112 (by rfl) 0 rfl ?_
        refine h_getR hO cl_X12 42 rfl wf_X12_59 d_X12_minute_113 (fun v8 => ?_)
        refine g_iload_n hO d_X12_minute_116 (by rfl) 1 rfl ?_
        refine h_iald hO d_X12_minute_117 (fun v9 => ?_)
        refine g_if_ne (tgt := 147) hO d_X12_minute_118.1 d_X12_minute_118.2 (fun _ => ?_) (fun _ => ?_)
        · skip
          refine g_aload_n hO d_X12_minute_121 (by rfl) 0 rfl ?_
          refine g_dup hO d_X12_minute_122 rfl ?_
          refine h_getI hO cl_X12 32 rfl wf_X12_334 d_X12_minute_123 (fun v10 => ?_)
          refine g_iconst hO 1 d_X12_minute_126 (by decide) ?_
          refine g_iload_n hO d_X12_minute_127 (by rfl) 1 rfl ?_
          refine g_ishl hO d_X12_minute_128 ?_
          refine g_iconst hO (-1) d_X12_minute_129 (by decide) ?_
          refine g_ixor hO d_X12_minute_130 ?_
          refine g_iand hO d_X12_minute_131 ?_
          refine h_putI hO cl_X12 32 rfl rfl wf_X12_334 (Or.inl rfl) d_X12_minute_132 (fun S11 => ?_)
          refine g_aload_n hO d_X12_minute_135 (by rfl) 0 rfl ?_
          refine g_dup hO d_X12_minute_136 rfl ?_
          refine h_getI hO cl_X12 31 rfl wf_X12_331 d_X12_minute_137 (fun v12 => ?_)
          refine g_iconst hO 1 d_X12_minute_140 (by decide) ?_
          refine g_iload_n hO d_X12_minute_141 (by rfl) 1 rfl ?_
          refine g_ishl hO d_X12_minute_142 ?_
          refine g_ior hO d_X12_minute_143 ?_
          refine h_putI hO cl_X12 31 rfl rfl wf_X12_331 (Or.inl rfl) d_X12_minute_144 (fun S13 => ?_)
          exact g_sub [0, 1] rfl (w_X12_minute_147 hO o ih _ _)
        · skip
          exact g_sub [0, 1] rfl (w_X12_minute_147 hO o ih _ _)
set_option maxRecDepth 20000 in
theorem w_X12_minute_12 {Γ : GC} {E : GE} (hO : gOk Γ E cX12_minute RX12 3 rm_X12_minute none "minute") (o : Nat) : ∀ (n : Nat) (x1 : Int32) (S : GS), Go Γ E (gBsV Γ E) 3 (0, 0) 12 S [(0, vA (some o)), (1, vI x1)] [] (f_X12_minute_12 o n x1 S) := by
  intro n
  induction n with
  | zero =>
    intro x1 S
    exact g_none
  | succ n ih =>
    intro x1 S
    rw [f_X12_minute_12]
    refine g_iload_n hO d_X12_minute_12 (by rfl) 1 rfl ?_
    refine g_aload_n hO d_X12_minute_13 (by rfl) 0 rfl ?_
    refine h_getI hO cl_X12 26 rfl wf_X12_291 d_X12_minute_14 (fun v1 => ?_)
    refine g_ic_ge (tgt := 81) hO d_X12_minute_17.1 d_X12_minute_17.2 (fun _ => ?_) (fun _ => ?_)
    · skip
      refine g_iconst hO 0 d_X12_minute_81 (by decide) ?_
      refine g_istore_n (lv' := [(1, vI 0), (0, vA (some o))]) hO d_X12_minute_82 (by rfl) (by decide) rfl ?_
      exact g_sub [1, 0] rfl (w_X12_minute_83 hO o _ _ _)
    · skip
      refine g_aload_n hO d_X12_minute_20 (by rfl) 0 rfl ?_
      refine h_getI hO cl_X12 38 rfl wf_X12_352 d_X12_minute_21 (fun v2 => ?_)
      refine g_iload_n hO d_X12_minute_24 (by rfl) 1 rfl ?_
      refine k_statIp hO mm_X12_has lkS_X12_104 ⟨⟨Nat.le_of_ble_eq_true rfl, Nat.le_of_ble_eq_true rfl⟩, Nat.le_of_ble_eq_true rfl, Nat.le_of_ble_eq_true rfl⟩ (kn' := (0, 0)) rfl (As := [vI v2, vI x1]) rfl (Nat.le_of_ble_eq_true rfl) (t_X12_has Γ.2.1 E v2 x1 S) d_X12_minute_25 rfl (fun v3 => ?_)
      refine g_if_ne (tgt := 75) hO d_X12_minute_28.1 d_X12_minute_28.2 (fun _ => ?_) (fun _ => ?_)
      · skip
        refine g_aload_n hO d_X12_minute_31 (by rfl) 0 rfl ?_
        refine h_getR hO cl_X12 39 rfl wf_X12_50 d_X12_minute_32 (fun v5 => ?_)
        refine g_iload_n hO d_X12_minute_35 (by rfl) 1 rfl ?_
        refine g_dup2 hO d_X12_minute_36 rfl rfl ?_
        refine h_iald hO d_X12_minute_37 (fun v6 => ?_)
        refine g_aload_n hO d_X12_minute_38 (by rfl) 0 rfl ?_
        refine h_getR hO cl_X12 39 rfl wf_X12_50 d_X12_minute_39 (fun v7 => ?_)
        refine g_iload_n hO d_X12_minute_42 (by rfl) 1 rfl ?_
        refine h_iald hO d_X12_minute_43 (fun v8 => ?_)
        refine g_aload_n hO d_X12_minute_44 (by rfl) 0 rfl ?_
        refine h_getI hO cl_X12 29 rfl wf_X12_325 d_X12_minute_45 (fun v9 => ?_)
        refine g_ic_ge (tgt := 55) hO d_X12_minute_48.1 d_X12_minute_48.2 (fun _ => ?_) (fun _ => ?_)
        · skip
          refine g_aload_n hO d_X12_minute_55 (by rfl) 0 rfl ?_
          refine h_getR hO cl_X12 39 rfl wf_X12_50 d_X12_minute_56 (fun v10 => ?_)
          refine g_iload_n hO d_X12_minute_59 (by rfl) 1 rfl ?_
          refine h_iald hO d_X12_minute_60 (fun v11 => ?_)
          refine g_aload_n hO d_X12_minute_61 (by rfl) 0 rfl ?_
          refine h_getI hO cl_X12 29 rfl wf_X12_325 d_X12_minute_62 (fun v12 => ?_)
          refine g_ic_le (tgt := 72) hO d_X12_minute_65.1 d_X12_minute_65.2 (fun _ => ?_) (fun _ => ?_)
          · skip
            refine g_iconst hO 0 d_X12_minute_72 (by decide) ?_
            exact g_sub [0, 1] rfl (w_X12_minute_73 hO o ih _ _ _ _ _ _)
          · skip
            refine g_iconst hO (-1) d_X12_minute_68 (by decide) ?_
            refine g_goto (tgt := 73) hO d_X12_minute_69.1 d_X12_minute_69.2 ?_
            exact g_sub [0, 1] rfl (w_X12_minute_73 hO o ih _ _ _ _ _ _)
        · skip
          refine g_iconst hO 1 d_X12_minute_51 (by decide) ?_
          refine g_goto (tgt := 73) hO d_X12_minute_52.1 d_X12_minute_52.2 ?_
          exact g_sub [0, 1] rfl (w_X12_minute_73 hO o ih _ _ _ _ _ _)
      · skip
        exact g_sub [0, 1] rfl (w_X12_minute_75 hO o ih _ _)
set_option maxRecDepth 20000 in
theorem w_X12_minute {Γ : GC} {E : GE} (hO : gOk Γ E cX12_minute RX12 3 rm_X12_minute none "minute") (o : Nat) (S : GS) : Go Γ E (gBsV Γ E) 3 (0, 0) 0 S [(0, vA (some o))] [] (f_X12_minute o S) := by
  unfold f_X12_minute
  refine g_aload_n hO d_X12_minute_0 (by rfl) 0 rfl ?_
  refine g_dup hO d_X12_minute_1 rfl ?_
  refine h_getI hO cl_X12 30 rfl wf_X12_328 d_X12_minute_2 (fun v1 => ?_)
  refine g_iconst hO 1 d_X12_minute_5 (by decide) ?_
  refine g_iadd hO d_X12_minute_6 ?_
  refine h_putI hO cl_X12 30 rfl rfl wf_X12_328 (Or.inl rfl) d_X12_minute_7 (fun S2 => ?_)
  refine g_iconst hO 0 d_X12_minute_10 (by decide) ?_
  refine g_istore_n (lv' := [(1, vI 0), (0, vA (some o))]) hO d_X12_minute_11 (by rfl) (by decide) rfl ?_
  exact g_sub [1, 0] rfl (w_X12_minute_12 hO o _ _ _)
theorem t_X12_minute (l : Launch) (E : GE) (o : Nat) (S : GS) : ∀ a, f_X12_minute o S = some a → Ct l E yX12_minute cX12_minute 3 none rm_X12_minute [vA (some o)] S none a :=
  Ct_of (val := fun _ => none) (nxt := fun b => b) (by decide) (Nat.le_of_ble_eq_true rfl) (fun Γ hl hO => w_X12_minute hO o S)
theorem d_X12_countOf_0 : gD cX12_countOf 0 (.iconst 0) 1 1 := ⟨by decide +kernel, rfl⟩
theorem d_X12_countOf_1 : gD cX12_countOf 1 (.istore_n 2) 1 2 := ⟨by decide +kernel, rfl⟩
theorem d_X12_countOf_2 : gD cX12_countOf 2 (.iconst 0) 1 3 := ⟨by decide +kernel, rfl⟩
theorem d_X12_countOf_3 : gD cX12_countOf 3 (.istore_n 3) 1 4 := ⟨by decide +kernel, rfl⟩
theorem d_X12_countOf_4 : gD cX12_countOf 4 (.iload_n 3) 1 5 := ⟨by decide +kernel, rfl⟩
theorem d_X12_countOf_5 : gD cX12_countOf 5 (.bipush 8) 2 7 := ⟨by decide +kernel, rfl⟩
theorem d_X12_countOf_7 : gD cX12_countOf 7 (.if_icmp .ge 25) 3 10 ∧ ((7 : Nat) : Int) + 25 = ((32 : Nat) : Int) := ⟨⟨by decide +kernel, rfl⟩, by decide⟩
theorem d_X12_countOf_10 : gD cX12_countOf 10 (.iload_n 2) 1 11 := ⟨by decide +kernel, rfl⟩
theorem d_X12_countOf_11 : gD cX12_countOf 11 (.iload_n 1) 1 12 := ⟨by decide +kernel, rfl⟩
theorem d_X12_countOf_12 : gD cX12_countOf 12 (.iload_n 3) 1 13 := ⟨by decide +kernel, rfl⟩
theorem d_X12_countOf_13 : gD cX12_countOf 13 (.invokestatic 104) 3 16 := ⟨by decide +kernel, rfl⟩
theorem d_X12_countOf_16 : gD cX12_countOf 16 (.ifCond .eq 7) 3 19 ∧ ((16 : Nat) : Int) + 7 = ((23 : Nat) : Int) := ⟨⟨by decide +kernel, rfl⟩, by decide⟩
theorem d_X12_countOf_19 : gD cX12_countOf 19 (.iconst 1) 1 20 := ⟨by decide +kernel, rfl⟩
theorem d_X12_countOf_20 : decode cX12_countOf 20 = .ok (.goto 4, 3) ∧ ((20 : Nat) : Int) + 4 = ((24 : Nat) : Int) := ⟨by decide +kernel, by decide⟩
theorem d_X12_countOf_23 : gD cX12_countOf 23 (.iconst 0) 1 24 := ⟨by decide +kernel, rfl⟩
theorem d_X12_countOf_24 : gD cX12_countOf 24 (.iadd) 1 25 := ⟨by decide +kernel, rfl⟩
theorem d_X12_countOf_25 : gD cX12_countOf 25 (.istore_n 2) 1 26 := ⟨by decide +kernel, rfl⟩
theorem d_X12_countOf_26 : gD cX12_countOf 26 (.iinc 3 1) 3 29 := ⟨by decide +kernel, rfl⟩
theorem d_X12_countOf_29 : decode cX12_countOf 29 = .ok (.goto (-25), 3) ∧ ((29 : Nat) : Int) + (-25) = ((4 : Nat) : Int) := ⟨by decide +kernel, by decide⟩
theorem d_X12_countOf_32 : gD cX12_countOf 32 (.iload_n 2) 1 33 := ⟨by decide +kernel, rfl⟩
theorem d_X12_countOf_33 : gD cX12_countOf 33 (.ireturn) 1 34 := ⟨by decide +kernel, rfl⟩
abbrev rm_X12_countOf : Room := { frames := 1, cells := 0, slots := 0, locals := 21 }
set_option maxRecDepth 20000 in
theorem w_X12_countOf_24 {Γ : GC} {E : GE} (hO : gOk Γ E cX12_countOf RX12 4 rm_X12_countOf (some .int) "countOf") (o : Nat) (S : GS) {k4 : (Int32 → Int32 → Int32 → Option Int32)} (hk4 : ∀ (z1 : Int32) (z2 : Int32) (z3 : Int32), Go Γ E (gBpI Γ E S) 4 (0, 0) 4 S [(0, vA (some o)), (1, vI z1), (2, vI z2), (3, vI z3)] [] (k4 z1 z2 z3)) (x1 : Int32) (x3 : Int32) (y0 : Int32) (y1 : Int32) : Go Γ E (gBpI Γ E S) 4 (0, 0) 24 S [(0, vA (some o)), (1, vI x1), (3, vI x3)] [vI y1, vI y0] (f_X12_countOf_24 k4 o S x1 x3 y0 y1) := by
  unfold f_X12_countOf_24
  refine g_iadd hO d_X12_countOf_24 ?_
  refine g_istore_n (lv' := [(2, vI (y0 + y1)), (0, vA (some o)), (1, vI x1), (3, vI x3)]) hO d_X12_countOf_25 (by rfl) (by decide) rfl ?_
  refine g_iinc (lv' := [(3, vI (x3 + 1)), (2, vI (y0 + y1)), (0, vA (some o)), (1, vI x1)]) hO 1 d_X12_countOf_26 (by decide) 3 rfl (by decide) rfl ?_
  refine g_goto (tgt := 4) hO d_X12_countOf_29.1 d_X12_countOf_29.2 ?_
  exact g_sub [2, 3, 1, 0] rfl (hk4 _ _ _)
set_option maxRecDepth 20000 in
theorem w_X12_countOf_4 {Γ : GC} {E : GE} (hO : gOk Γ E cX12_countOf RX12 4 rm_X12_countOf (some .int) "countOf") (o : Nat) (S : GS) : ∀ (n : Nat) (x1 : Int32) (x2 : Int32) (x3 : Int32), Go Γ E (gBpI Γ E S) 4 (0, 0) 4 S [(0, vA (some o)), (1, vI x1), (2, vI x2), (3, vI x3)] [] (f_X12_countOf_4 o S n x1 x2 x3) := by
  intro n
  induction n with
  | zero =>
    intro x1 x2 x3
    exact g_none
  | succ n ih =>
    intro x1 x2 x3
    rw [f_X12_countOf_4]
    refine g_iload_n hO d_X12_countOf_4 (by rfl) 3 rfl ?_
    refine g_bipush hO 8 d_X12_countOf_5 (by decide) ?_
    refine g_ic_ge (tgt := 32) hO d_X12_countOf_7.1 d_X12_countOf_7.2 (fun _ => ?_) (fun _ => ?_)
    · skip
      refine g_iload_n hO d_X12_countOf_32 (by rfl) 2 rfl ?_
      exact g_ret hO rfl rfl ⟨Nat.le_of_ble_eq_true rfl, Nat.le_of_ble_eq_true rfl⟩ rfl rfl d_X12_countOf_33.1
    · skip
      refine g_iload_n hO d_X12_countOf_10 (by rfl) 2 rfl ?_
      refine g_iload_n hO d_X12_countOf_11 (by rfl) 1 rfl ?_
      refine g_iload_n hO d_X12_countOf_12 (by rfl) 3 rfl ?_
      refine k_statIp hO mm_X12_has lkS_X12_104 ⟨⟨Nat.le_of_ble_eq_true rfl, Nat.le_of_ble_eq_true rfl⟩, Nat.le_of_ble_eq_true rfl, Nat.le_of_ble_eq_true rfl⟩ (kn' := (0, 0)) rfl (As := [vI x1, vI x3]) rfl (Nat.le_of_ble_eq_true rfl) (t_X12_has Γ.2.1 E x1 x3 S) d_X12_countOf_13 rfl (fun v1 => ?_)
      refine g_if_eq (tgt := 23) hO d_X12_countOf_16.1 d_X12_countOf_16.2 (fun _ => ?_) (fun _ => ?_)
      · skip
        refine g_iconst hO 0 d_X12_countOf_23 (by decide) ?_
        exact g_sub [0, 1, 3] rfl (w_X12_countOf_24 hO o _ ih _ _ _ _)
      · skip
        refine g_iconst hO 1 d_X12_countOf_19 (by decide) ?_
        refine g_goto (tgt := 24) hO d_X12_countOf_20.1 d_X12_countOf_20.2 ?_
        exact g_sub [0, 1, 3] rfl (w_X12_countOf_24 hO o _ ih _ _ _ _)
set_option maxRecDepth 20000 in
theorem w_X12_countOf {Γ : GC} {E : GE} (hO : gOk Γ E cX12_countOf RX12 4 rm_X12_countOf (some .int) "countOf") (o : Nat) (x1 : Int32) (S : GS) : Go Γ E (gBpI Γ E S) 4 (0, 0) 0 S [(0, vA (some o)), (1, vI x1)] [] (f_X12_countOf o x1 S) := by
  unfold f_X12_countOf
  refine g_iconst hO 0 d_X12_countOf_0 (by decide) ?_
  refine g_istore_n (lv' := [(2, vI 0), (0, vA (some o)), (1, vI x1)]) hO d_X12_countOf_1 (by rfl) (by decide) rfl ?_
  refine g_iconst hO 0 d_X12_countOf_2 (by decide) ?_
  refine g_istore_n (lv' := [(3, vI 0), (2, vI 0), (0, vA (some o)), (1, vI x1)]) hO d_X12_countOf_3 (by rfl) (by decide) rfl ?_
  exact g_sub [2, 3, 1, 0] rfl (w_X12_countOf_4 hO o _ _ _ _ _)
theorem t_X12_countOf (l : Launch) (E : GE) (o : Nat) (x1 : Int32) (S : GS) : ∀ a, f_X12_countOf o x1 S = some a → Ct l E yX12_countOf cX12_countOf 4 (some .int) rm_X12_countOf [vA (some o), vI x1] S (some (vI a)) S :=
  Ct_of (val := fun b => some (vI b)) (nxt := fun _ => S) (by decide) (Nat.le_of_ble_eq_true rfl) (fun Γ hl hO => w_X12_countOf hO o x1 S)
theorem d_X12_doesDeed_0 : gD cX12_doesDeed 0 (.aload_n 0) 1 1 := ⟨by decide +kernel, rfl⟩
theorem d_X12_doesDeed_1 : gD cX12_doesDeed 1 (.iload_n 1) 1 2 := ⟨by decide +kernel, rfl⟩
theorem d_X12_doesDeed_2 : gD cX12_doesDeed 2 (.iconst 1) 1 3 := ⟨by decide +kernel, rfl⟩
theorem d_X12_doesDeed_3 : gD cX12_doesDeed 3 (.invokevirtual 322) 3 6 := ⟨by decide +kernel, rfl⟩
theorem d_X12_doesDeed_6 : gD cX12_doesDeed 6 (.istore_n 2) 1 7 := ⟨by decide +kernel, rfl⟩
theorem d_X12_doesDeed_7 : gD cX12_doesDeed 7 (.aload_n 0) 1 8 := ⟨by decide +kernel, rfl⟩
theorem d_X12_doesDeed_8 : gD cX12_doesDeed 8 (.iload_n 1) 1 9 := ⟨by decide +kernel, rfl⟩
theorem d_X12_doesDeed_9 : gD cX12_doesDeed 9 (.iconst 2) 1 10 := ⟨by decide +kernel, rfl⟩
theorem d_X12_doesDeed_10 : gD cX12_doesDeed 10 (.invokevirtual 322) 3 13 := ⟨by decide +kernel, rfl⟩
theorem d_X12_doesDeed_13 : gD cX12_doesDeed 13 (.istore_n 3) 1 14 := ⟨by decide +kernel, rfl⟩
theorem d_X12_doesDeed_14 : gD cX12_doesDeed 14 (.aload_n 0) 1 15 := ⟨by decide +kernel, rfl⟩
theorem d_X12_doesDeed_15 : gD cX12_doesDeed 15 (.iload_n 1) 1 16 := ⟨by decide +kernel, rfl⟩
theorem d_X12_doesDeed_16 : gD cX12_doesDeed 16 (.iconst 0) 1 17 := ⟨by decide +kernel, rfl⟩
theorem d_X12_doesDeed_17 : gD cX12_doesDeed 17 (.invokevirtual 322) 3 20 := ⟨by decide +kernel, rfl⟩
theorem d_X12_doesDeed_20 : decode cX12_doesDeed 20 = .ok (.tableswitch 121 0 7 #[48, 55, 62, 69, 75, 82, 90, 97], 48) ∧ ((20 : Nat) : Int) + 121 = ((141 : Nat) : Int) := ⟨by decide +kernel, by decide⟩
theorem d_X12_doesDeed_68 : gD cX12_doesDeed 68 (.aload_n 0) 1 69 := ⟨by decide +kernel, rfl⟩
theorem d_X12_doesDeed_69 : gD cX12_doesDeed 69 (.iload_n 2) 1 70 := ⟨by decide +kernel, rfl⟩
theorem d_X12_doesDeed_70 : gD cX12_doesDeed 70 (.putfield 325) 3 73 := ⟨by decide +kernel, rfl⟩
theorem d_X12_doesDeed_73 : gD cX12_doesDeed 73 (.iconst 1) 1 74 := ⟨by decide +kernel, rfl⟩
theorem d_X12_doesDeed_74 : gD cX12_doesDeed 74 (.ireturn) 1 75 := ⟨by decide +kernel, rfl⟩
theorem d_X12_doesDeed_75 : gD cX12_doesDeed 75 (.aload_n 0) 1 76 := ⟨by decide +kernel, rfl⟩
theorem d_X12_doesDeed_76 : gD cX12_doesDeed 76 (.iload_n 2) 1 77 := ⟨by decide +kernel, rfl⟩
theorem d_X12_doesDeed_77 : gD cX12_doesDeed 77 (.iconst 1) 1 78 := ⟨by decide +kernel, rfl⟩
theorem d_X12_doesDeed_78 : gD cX12_doesDeed 78 (.invokevirtual 378) 3 81 := ⟨by decide +kernel, rfl⟩
theorem d_X12_doesDeed_81 : gD cX12_doesDeed 81 (.ireturn) 1 82 := ⟨by decide +kernel, rfl⟩
theorem d_X12_doesDeed_82 : gD cX12_doesDeed 82 (.aload_n 0) 1 83 := ⟨by decide +kernel, rfl⟩
theorem d_X12_doesDeed_83 : gD cX12_doesDeed 83 (.iload_n 2) 1 84 := ⟨by decide +kernel, rfl⟩
theorem d_X12_doesDeed_84 : gD cX12_doesDeed 84 (.iconst 0) 1 85 := ⟨by decide +kernel, rfl⟩
theorem d_X12_doesDeed_85 : gD cX12_doesDeed 85 (.invokevirtual 378) 3 88 := ⟨by decide +kernel, rfl⟩
theorem d_X12_doesDeed_88 : gD cX12_doesDeed 88 (.ireturn) 1 89 := ⟨by decide +kernel, rfl⟩
theorem d_X12_doesDeed_89 : gD cX12_doesDeed 89 (.aload_n 0) 1 90 := ⟨by decide +kernel, rfl⟩
theorem d_X12_doesDeed_90 : gD cX12_doesDeed 90 (.iload_n 2) 1 91 := ⟨by decide +kernel, rfl⟩
theorem d_X12_doesDeed_91 : gD cX12_doesDeed 91 (.invokevirtual 382) 3 94 := ⟨by decide +kernel, rfl⟩
theorem d_X12_doesDeed_94 : gD cX12_doesDeed 94 (.ireturn) 1 95 := ⟨by decide +kernel, rfl⟩
theorem d_X12_doesDeed_95 : gD cX12_doesDeed 95 (.aload_n 0) 1 96 := ⟨by decide +kernel, rfl⟩
theorem d_X12_doesDeed_96 : gD cX12_doesDeed 96 (.iload_n 2) 1 97 := ⟨by decide +kernel, rfl⟩
theorem d_X12_doesDeed_97 : gD cX12_doesDeed 97 (.iload_n 3) 1 98 := ⟨by decide +kernel, rfl⟩
theorem d_X12_doesDeed_98 : gD cX12_doesDeed 98 (.invokevirtual 385) 3 101 := ⟨by decide +kernel, rfl⟩
theorem d_X12_doesDeed_101 : gD cX12_doesDeed 101 (.ireturn) 1 102 := ⟨by decide +kernel, rfl⟩
theorem d_X12_doesDeed_102 : gD cX12_doesDeed 102 (.aload_n 0) 1 103 := ⟨by decide +kernel, rfl⟩
theorem d_X12_doesDeed_103 : gD cX12_doesDeed 103 (.iload_n 2) 1 104 := ⟨by decide +kernel, rfl⟩
theorem d_X12_doesDeed_104 : gD cX12_doesDeed 104 (.iload_n 3) 1 105 := ⟨by decide +kernel, rfl⟩
theorem d_X12_doesDeed_105 : gD cX12_doesDeed 105 (.ineg) 1 106 := ⟨by decide +kernel, rfl⟩
theorem d_X12_doesDeed_106 : gD cX12_doesDeed 106 (.invokevirtual 385) 3 109 := ⟨by decide +kernel, rfl⟩
theorem d_X12_doesDeed_109 : gD cX12_doesDeed 109 (.ireturn) 1 110 := ⟨by decide +kernel, rfl⟩
theorem d_X12_doesDeed_110 : gD cX12_doesDeed 110 (.aload_n 0) 1 111 := ⟨by decide +kernel, rfl⟩
theorem d_X12_doesDeed_111 : gD cX12_doesDeed 111 (.iload_n 2) 1 112 := ⟨by decide +kernel, rfl⟩
theorem d_X12_doesDeed_112 : gD cX12_doesDeed 112 (.iload_n 3) 1 113 := ⟨by decide +kernel, rfl⟩
theorem d_X12_doesDeed_113 : gD cX12_doesDeed 113 (.invokevirtual 388) 3 116 := ⟨by decide +kernel, rfl⟩
theorem d_X12_doesDeed_116 : gD cX12_doesDeed 116 (.ireturn) 1 117 := ⟨by decide +kernel, rfl⟩
theorem d_X12_doesDeed_117 : gD cX12_doesDeed 117 (.aload_n 0) 1 118 := ⟨by decide +kernel, rfl⟩
theorem d_X12_doesDeed_118 : gD cX12_doesDeed 118 (.dup) 1 119 := ⟨by decide +kernel, rfl⟩
theorem d_X12_doesDeed_119 : gD cX12_doesDeed 119 (.getfield 346) 3 122 := ⟨by decide +kernel, rfl⟩
theorem d_X12_doesDeed_122 : gD cX12_doesDeed 122 (.iconst 1) 1 123 := ⟨by decide +kernel, rfl⟩
theorem d_X12_doesDeed_123 : gD cX12_doesDeed 123 (.iadd) 1 124 := ⟨by decide +kernel, rfl⟩
theorem d_X12_doesDeed_124 : gD cX12_doesDeed 124 (.putfield 346) 3 127 := ⟨by decide +kernel, rfl⟩
theorem d_X12_doesDeed_127 : gD cX12_doesDeed 127 (.aload_n 0) 1 128 := ⟨by decide +kernel, rfl⟩
theorem d_X12_doesDeed_128 : gD cX12_doesDeed 128 (.aload_n 0) 1 129 := ⟨by decide +kernel, rfl⟩
theorem d_X12_doesDeed_129 : gD cX12_doesDeed 129 (.aload_n 0) 1 130 := ⟨by decide +kernel, rfl⟩
theorem d_X12_doesDeed_130 : gD cX12_doesDeed 130 (.getfield 331) 3 133 := ⟨by decide +kernel, rfl⟩
theorem d_X12_doesDeed_133 : gD cX12_doesDeed 133 (.invokevirtual 391) 3 136 := ⟨by decide +kernel, rfl⟩
theorem d_X12_doesDeed_136 : gD cX12_doesDeed 136 (.putfield 349) 3 139 := ⟨by decide +kernel, rfl⟩
theorem d_X12_doesDeed_139 : gD cX12_doesDeed 139 (.iconst 1) 1 140 := ⟨by decide +kernel, rfl⟩
theorem d_X12_doesDeed_140 : gD cX12_doesDeed 140 (.ireturn) 1 141 := ⟨by decide +kernel, rfl⟩
theorem d_X12_doesDeed_141 : gD cX12_doesDeed 141 (.aload_n 0) 1 142 := ⟨by decide +kernel, rfl⟩
theorem d_X12_doesDeed_142 : gD cX12_doesDeed 142 (.invokevirtual 394) 3 145 := ⟨by decide +kernel, rfl⟩
theorem d_X12_doesDeed_145 : gD cX12_doesDeed 145 (.iconst 1) 1 146 := ⟨by decide +kernel, rfl⟩
theorem d_X12_doesDeed_146 : gD cX12_doesDeed 146 (.ireturn) 1 147 := ⟨by decide +kernel, rfl⟩
abbrev rm_X12_doesDeed : Room := { frames := 5, cells := 0, slots := 0, locals := 110 }
set_option maxRecDepth 20000 in
theorem w_X12_doesDeed {Γ : GC} {E : GE} (hO : gOk Γ E cX12_doesDeed RX12 4 rm_X12_doesDeed (some .boolean) "doesDeed") (o : Nat) (x1 : Int32) (S : GS) : Go Γ E (gBsI Γ E) 4 (0, 0) 0 S [(0, vA (some o)), (1, vI x1)] [] (f_X12_doesDeed o x1 S) := by
  unfold f_X12_doesDeed
  refine g_aload_n hO d_X12_doesDeed_0 (by rfl) 0 rfl ?_
  refine g_iload_n hO d_X12_doesDeed_1 (by rfl) 1 rfl ?_
  refine g_iconst hO 1 d_X12_doesDeed_2 (by decide) ?_
  refine k_virtIp hO cl_X12 mm_X12_deedOf lkV_X12_322 ⟨⟨Nat.le_of_ble_eq_true rfl, Nat.le_of_ble_eq_true rfl⟩, Nat.le_of_ble_eq_true rfl, Nat.le_of_ble_eq_true rfl⟩ (kn' := (0, 0)) rfl (As := [vI x1, vI 1]) rfl (Nat.le_of_ble_eq_true rfl) (fun o' _ => t_X12_deedOf Γ.2.1 E o' x1 1 S) d_X12_doesDeed_3 rfl (fun v1 => ?_)
  refine g_istore_n (lv' := [(2, vI v1), (0, vA (some o)), (1, vI x1)]) hO d_X12_doesDeed_6 (by rfl) (by decide) rfl ?_
  refine g_aload_n hO d_X12_doesDeed_7 (by rfl) 1 rfl ?_
  refine g_iload_n hO d_X12_doesDeed_8 (by rfl) 2 rfl ?_
  refine g_iconst hO 2 d_X12_doesDeed_9 (by decide) ?_
  refine k_virtIp hO cl_X12 mm_X12_deedOf lkV_X12_322 ⟨⟨Nat.le_of_ble_eq_true rfl, Nat.le_of_ble_eq_true rfl⟩, Nat.le_of_ble_eq_true rfl, Nat.le_of_ble_eq_true rfl⟩ (kn' := (0, 0)) rfl (As := [vI x1, vI 2]) rfl (Nat.le_of_ble_eq_true rfl) (fun o' _ => t_X12_deedOf Γ.2.1 E o' x1 2 S) d_X12_doesDeed_10 rfl (fun v3 => ?_)
  refine g_istore_n (lv' := [(3, vI v3), (2, vI v1), (0, vA (some o)), (1, vI x1)]) hO d_X12_doesDeed_13 (by rfl) (by decide) rfl ?_
  refine g_aload_n hO d_X12_doesDeed_14 (by rfl) 2 rfl ?_
  refine g_iload_n hO d_X12_doesDeed_15 (by rfl) 3 rfl ?_
  refine g_iconst hO 0 d_X12_doesDeed_16 (by decide) ?_
  refine k_virtIp hO cl_X12 mm_X12_deedOf lkV_X12_322 ⟨⟨Nat.le_of_ble_eq_true rfl, Nat.le_of_ble_eq_true rfl⟩, Nat.le_of_ble_eq_true rfl, Nat.le_of_ble_eq_true rfl⟩ (kn' := (0, 0)) rfl (As := [vI x1, vI 0]) rfl (Nat.le_of_ble_eq_true rfl) (fun o' _ => t_X12_deedOf Γ.2.1 E o' x1 0 S) d_X12_doesDeed_17 rfl (fun v5 => ?_)
  refine h_tsw (c := 0) (dt := 141) hO d_X12_doesDeed_20.1 8 (by decide) (by rfl) rfl (by decide) (by decide) d_X12_doesDeed_20.2 ⟨⟨68, by decide, ?_⟩, ⟨75, by decide, ?_⟩, ⟨82, by decide, ?_⟩, ⟨89, by decide, ?_⟩, ⟨95, by decide, ?_⟩, ⟨102, by decide, ?_⟩, ⟨110, by decide, ?_⟩, ⟨117, by decide, ?_⟩, trivial⟩ ?_
  · skip
    refine g_aload_n hO d_X12_doesDeed_68 (by rfl) 2 rfl ?_
    refine g_iload_n hO d_X12_doesDeed_69 (by rfl) 1 rfl ?_
    refine h_putI hO cl_X12 29 rfl rfl wf_X12_325 (Or.inl rfl) d_X12_doesDeed_70 (fun S7 => ?_)
    refine g_iconst hO 1 d_X12_doesDeed_73 (by decide) ?_
    exact g_ret hO rfl rfl ⟨Nat.le_of_ble_eq_true rfl, Nat.le_of_ble_eq_true rfl⟩ rfl rfl d_X12_doesDeed_74.1
  · skip
    refine g_aload_n hO d_X12_doesDeed_75 (by rfl) 2 rfl ?_
    refine g_iload_n hO d_X12_doesDeed_76 (by rfl) 1 rfl ?_
    refine g_iconst hO 1 d_X12_doesDeed_77 (by decide) ?_
    refine k_virtIs hO cl_X12 mm_X12_opensOr lkV_X12_378 ⟨⟨Nat.le_of_ble_eq_true rfl, Nat.le_of_ble_eq_true rfl⟩, Nat.le_of_ble_eq_true rfl, Nat.le_of_ble_eq_true rfl⟩ (kn' := (0, 0)) rfl (As := [vI v1, vI 1]) rfl (Nat.le_of_ble_eq_true rfl) (fun o' _ => t_X12_opensOr Γ.2.1 E o' v1 1 S) d_X12_doesDeed_78 rfl (fun v8 S9 => ?_)
    exact g_zret hO rfl ⟨Nat.le_of_ble_eq_true rfl, Nat.le_of_ble_eq_true rfl⟩ rfl rfl d_X12_doesDeed_81.1
  · skip
    refine g_aload_n hO d_X12_doesDeed_82 (by rfl) 2 rfl ?_
    refine g_iload_n hO d_X12_doesDeed_83 (by rfl) 1 rfl ?_
    refine g_iconst hO 0 d_X12_doesDeed_84 (by decide) ?_
    refine k_virtIs hO cl_X12 mm_X12_opensOr lkV_X12_378 ⟨⟨Nat.le_of_ble_eq_true rfl, Nat.le_of_ble_eq_true rfl⟩, Nat.le_of_ble_eq_true rfl, Nat.le_of_ble_eq_true rfl⟩ (kn' := (0, 0)) rfl (As := [vI v1, vI 0]) rfl (Nat.le_of_ble_eq_true rfl) (fun o' _ => t_X12_opensOr Γ.2.1 E o' v1 0 S) d_X12_doesDeed_85 rfl (fun v10 S11 => ?_)
    exact g_zret hO rfl ⟨Nat.le_of_ble_eq_true rfl, Nat.le_of_ble_eq_true rfl⟩ rfl rfl d_X12_doesDeed_88.1
  · skip
    refine g_aload_n hO d_X12_doesDeed_89 (by rfl) 2 rfl ?_
    refine g_iload_n hO d_X12_doesDeed_90 (by rfl) 1 rfl ?_
    refine k_virtIs hO cl_X12 mm_X12_sighs lkV_X12_382 ⟨⟨Nat.le_of_ble_eq_true rfl, Nat.le_of_ble_eq_true rfl⟩, Nat.le_of_ble_eq_true rfl, Nat.le_of_ble_eq_true rfl⟩ (kn' := (0, 0)) rfl (As := [vI v1]) rfl (Nat.le_of_ble_eq_true rfl) (fun o' _ => t_X12_sighs Γ.2.1 E o' v1 S) d_X12_doesDeed_91 rfl (fun v12 S13 => ?_)
    exact g_zret hO rfl ⟨Nat.le_of_ble_eq_true rfl, Nat.le_of_ble_eq_true rfl⟩ rfl rfl d_X12_doesDeed_94.1
  · skip
    refine g_aload_n hO d_X12_doesDeed_95 (by rfl) 2 rfl ?_
    refine g_iload_n hO d_X12_doesDeed_96 (by rfl) 1 rfl ?_
    refine g_iload_n hO d_X12_doesDeed_97 (by rfl) 0 rfl ?_
    refine k_virtIs hO cl_X12 mm_X12_laces lkV_X12_385 ⟨⟨Nat.le_of_ble_eq_true rfl, Nat.le_of_ble_eq_true rfl⟩, Nat.le_of_ble_eq_true rfl, Nat.le_of_ble_eq_true rfl⟩ (kn' := (0, 0)) rfl (As := [vI v1, vI v3]) rfl (Nat.le_of_ble_eq_true rfl) (fun o' _ => t_X12_laces Γ.2.1 E o' v1 v3 S) d_X12_doesDeed_98 rfl (fun v14 S15 => ?_)
    exact g_zret hO rfl ⟨Nat.le_of_ble_eq_true rfl, Nat.le_of_ble_eq_true rfl⟩ rfl rfl d_X12_doesDeed_101.1
  · skip
    refine g_aload_n hO d_X12_doesDeed_102 (by rfl) 2 rfl ?_
    refine g_iload_n hO d_X12_doesDeed_103 (by rfl) 1 rfl ?_
    refine g_iload_n hO d_X12_doesDeed_104 (by rfl) 0 rfl ?_
    refine g_ineg hO d_X12_doesDeed_105 ?_
    refine k_virtIs hO cl_X12 mm_X12_laces lkV_X12_385 ⟨⟨Nat.le_of_ble_eq_true rfl, Nat.le_of_ble_eq_true rfl⟩, Nat.le_of_ble_eq_true rfl, Nat.le_of_ble_eq_true rfl⟩ (kn' := (0, 0)) rfl (As := [vI v1, vI (-v3)]) rfl (Nat.le_of_ble_eq_true rfl) (fun o' _ => t_X12_laces Γ.2.1 E o' v1 (-v3) S) d_X12_doesDeed_106 rfl (fun v16 S17 => ?_)
    exact g_zret hO rfl ⟨Nat.le_of_ble_eq_true rfl, Nat.le_of_ble_eq_true rfl⟩ rfl rfl d_X12_doesDeed_109.1
  · skip
    refine g_aload_n hO d_X12_doesDeed_110 (by rfl) 2 rfl ?_
    refine g_iload_n hO d_X12_doesDeed_111 (by rfl) 1 rfl ?_
    refine g_iload_n hO d_X12_doesDeed_112 (by rfl) 0 rfl ?_
    refine k_virtIs hO cl_X12 mm_X12_goes lkV_X12_388 ⟨⟨Nat.le_of_ble_eq_true rfl, Nat.le_of_ble_eq_true rfl⟩, Nat.le_of_ble_eq_true rfl, Nat.le_of_ble_eq_true rfl⟩ (kn' := (0, 0)) rfl (As := [vI v1, vI v3]) rfl (Nat.le_of_ble_eq_true rfl) (fun o' _ => t_X12_goes Γ.2.1 E o' v1 v3 S) d_X12_doesDeed_113 rfl (fun v18 S19 => ?_)
    exact g_zret hO rfl ⟨Nat.le_of_ble_eq_true rfl, Nat.le_of_ble_eq_true rfl⟩ rfl rfl d_X12_doesDeed_116.1
  · skip
    refine g_aload_n hO d_X12_doesDeed_117 (by rfl) 2 rfl ?_
    refine g_dup hO d_X12_doesDeed_118 rfl ?_
    refine h_getI hO cl_X12 36 rfl wf_X12_346 d_X12_doesDeed_119 (fun v20 => ?_)
    refine g_iconst hO 1 d_X12_doesDeed_122 (by decide) ?_
    refine g_iadd hO d_X12_doesDeed_123 ?_
    refine h_putI hO cl_X12 36 rfl rfl wf_X12_346 (Or.inl rfl) d_X12_doesDeed_124 (fun S21 => ?_)
    refine g_aload_n hO d_X12_doesDeed_127 (by rfl) 2 rfl ?_
    refine g_aload_n hO d_X12_doesDeed_128 (by rfl) 2 rfl ?_
    refine g_aload_n hO d_X12_doesDeed_129 (by rfl) 2 rfl ?_
    refine h_getI hO cl_X12 31 rfl wf_X12_331 d_X12_doesDeed_130 (fun v22 => ?_)
    refine k_virtIp hO cl_X12 mm_X12_countOf lkV_X12_391 ⟨⟨Nat.le_of_ble_eq_true rfl, Nat.le_of_ble_eq_true rfl⟩, Nat.le_of_ble_eq_true rfl, Nat.le_of_ble_eq_true rfl⟩ (kn' := (0, 0)) rfl (As := [vI v22]) rfl (Nat.le_of_ble_eq_true rfl) (fun o' _ => t_X12_countOf Γ.2.1 E o' v22 S21) d_X12_doesDeed_133 rfl (fun v23 => ?_)
    refine h_putI hO cl_X12 37 rfl rfl wf_X12_349 (Or.inl rfl) d_X12_doesDeed_136 (fun S25 => ?_)
    refine g_iconst hO 1 d_X12_doesDeed_139 (by decide) ?_
    exact g_ret hO rfl rfl ⟨Nat.le_of_ble_eq_true rfl, Nat.le_of_ble_eq_true rfl⟩ rfl rfl d_X12_doesDeed_140.1
  · skip
    refine g_aload_n hO d_X12_doesDeed_141 (by rfl) 2 rfl ?_
    refine k_virtVs hO cl_X12 mm_X12_minute lkV_X12_394 ⟨⟨Nat.le_of_ble_eq_true rfl, Nat.le_of_ble_eq_true rfl⟩, Nat.le_of_ble_eq_true rfl, Nat.le_of_ble_eq_true rfl⟩ (kn' := (0, 0)) rfl (As := []) rfl (Nat.le_of_ble_eq_true rfl) (fun o' _ => t_X12_minute Γ.2.1 E o' S) d_X12_doesDeed_142 rfl (fun S27 => ?_)
    refine g_iconst hO 1 d_X12_doesDeed_145 (by decide) ?_
    exact g_ret hO rfl rfl ⟨Nat.le_of_ble_eq_true rfl, Nat.le_of_ble_eq_true rfl⟩ rfl rfl d_X12_doesDeed_146.1
theorem t_X12_doesDeed (l : Launch) (E : GE) (o : Nat) (x1 : Int32) (S : GS) : ∀ a, f_X12_doesDeed o x1 S = some a → Ct l E yX12_doesDeed cX12_doesDeed 4 (some .boolean) rm_X12_doesDeed [vA (some o), vI x1] S (some (vI a.1)) a.2 :=
  Ct_of (val := fun (b : Int32 × GS) => some (vI b.1)) (nxt := fun (b : Int32 × GS) => b.2) (by decide) (Nat.le_of_ble_eq_true rfl) (fun Γ hl hO => w_X12_doesDeed hO o x1 S)
theorem d_X12_play_0 : gD cX12_play 0 (.aload_n 0) 1 1 := ⟨by decide +kernel, rfl⟩
theorem d_X12_play_1 : gD cX12_play 1 (.invokevirtual 397) 3 4 := ⟨by decide +kernel, rfl⟩
theorem d_X12_play_4 : gD cX12_play 4 (.iconst 0) 1 5 := ⟨by decide +kernel, rfl⟩
theorem d_X12_play_5 : gD cX12_play 5 (.istore_n 2) 1 6 := ⟨by decide +kernel, rfl⟩
theorem d_X12_play_6 : gD cX12_play 6 (.iload_n 2) 1 7 := ⟨by decide +kernel, rfl⟩
theorem d_X12_play_7 : gD cX12_play 7 (.iload_n 1) 1 8 := ⟨by decide +kernel, rfl⟩
theorem d_X12_play_8 : gD cX12_play 8 (.if_icmp .ge 17) 3 11 ∧ ((8 : Nat) : Int) + 17 = ((25 : Nat) : Int) := ⟨⟨by decide +kernel, rfl⟩, by decide⟩
theorem d_X12_play_11 : gD cX12_play 11 (.aload_n 0) 1 12 := ⟨by decide +kernel, rfl⟩
theorem d_X12_play_12 : gD cX12_play 12 (.iload_n 2) 1 13 := ⟨by decide +kernel, rfl⟩
theorem d_X12_play_13 : gD cX12_play 13 (.invokevirtual 400) 3 16 := ⟨by decide +kernel, rfl⟩
theorem d_X12_play_16 : gD cX12_play 16 (.ifCond .eq 9) 3 19 ∧ ((16 : Nat) : Int) + 9 = ((25 : Nat) : Int) := ⟨⟨by decide +kernel, rfl⟩, by decide⟩
theorem d_X12_play_19 : gD cX12_play 19 (.iinc 2 1) 3 22 := ⟨by decide +kernel, rfl⟩
theorem d_X12_play_22 : decode cX12_play 22 = .ok (.goto (-16), 3) ∧ ((22 : Nat) : Int) + (-16) = ((6 : Nat) : Int) := ⟨by decide +kernel, by decide⟩
theorem d_X12_play_25 : gD cX12_play 25 (.iload_n 2) 1 26 := ⟨by decide +kernel, rfl⟩
theorem d_X12_play_26 : gD cX12_play 26 (.ireturn) 1 27 := ⟨by decide +kernel, rfl⟩
abbrev rm_X12_play : Room := { frames := 6, cells := 0, slots := 0, locals := 133 }
set_option maxRecDepth 20000 in
theorem w_X12_play_6 {Γ : GC} {E : GE} (hO : gOk Γ E cX12_play RX12 3 rm_X12_play (some .int) "play") (o : Nat) : ∀ (n : Nat) (x1 : Int32) (x2 : Int32) (S : GS), Go Γ E (gBsI Γ E) 3 (0, 0) 6 S [(0, vA (some o)), (1, vI x1), (2, vI x2)] [] (f_X12_play_6 o n x1 x2 S) := by
  intro n
  induction n with
  | zero =>
    intro x1 x2 S
    exact g_none
  | succ n ih =>
    intro x1 x2 S
    rw [f_X12_play_6]
    refine g_iload_n hO d_X12_play_6 (by rfl) 2 rfl ?_
    refine g_iload_n hO d_X12_play_7 (by rfl) 1 rfl ?_
    refine g_ic_ge (tgt := 25) hO d_X12_play_8.1 d_X12_play_8.2 (fun _ => ?_) (fun _ => ?_)
    · skip
      refine g_iload_n hO d_X12_play_25 (by rfl) 2 rfl ?_
      exact g_ret hO rfl rfl ⟨Nat.le_of_ble_eq_true rfl, Nat.le_of_ble_eq_true rfl⟩ rfl rfl d_X12_play_26.1
    · skip
      refine g_aload_n hO d_X12_play_11 (by rfl) 0 rfl ?_
      refine g_iload_n hO d_X12_play_12 (by rfl) 2 rfl ?_
      refine k_virtIs hO cl_X12 mm_X12_doesDeed lkV_X12_400 ⟨⟨Nat.le_of_ble_eq_true rfl, Nat.le_of_ble_eq_true rfl⟩, Nat.le_of_ble_eq_true rfl, Nat.le_of_ble_eq_true rfl⟩ (kn' := (0, 0)) rfl (As := [vI x2]) rfl (Nat.le_of_ble_eq_true rfl) (fun o' _ => t_X12_doesDeed Γ.2.1 E o' x2 S) d_X12_play_13 rfl (fun v1 S2 => ?_)
      refine g_if_eq (tgt := 25) hO d_X12_play_16.1 d_X12_play_16.2 (fun _ => ?_) (fun _ => ?_)
      · skip
        refine g_iload_n hO d_X12_play_25 (by rfl) 2 rfl ?_
        exact g_ret hO rfl rfl ⟨Nat.le_of_ble_eq_true rfl, Nat.le_of_ble_eq_true rfl⟩ rfl rfl d_X12_play_26.1
      · skip
        refine g_iinc (lv' := [(2, vI (x2 + 1)), (0, vA (some o)), (1, vI x1)]) hO 1 d_X12_play_19 (by decide) 2 rfl (by decide) rfl ?_
        refine g_goto (tgt := 6) hO d_X12_play_22.1 d_X12_play_22.2 ?_
        exact g_sub [1, 2, 0] rfl (ih _ _ _)
set_option maxRecDepth 20000 in
theorem w_X12_play {Γ : GC} {E : GE} (hO : gOk Γ E cX12_play RX12 3 rm_X12_play (some .int) "play") (o : Nat) (x1 : Int32) (S : GS) : Go Γ E (gBsI Γ E) 3 (0, 0) 0 S [(0, vA (some o)), (1, vI x1)] [] (f_X12_play o x1 S) := by
  unfold f_X12_play
  refine g_aload_n hO d_X12_play_0 (by rfl) 0 rfl ?_
  refine k_virtVs hO cl_X12 mm_X12_begin lkV_X12_397 ⟨⟨Nat.le_of_ble_eq_true rfl, Nat.le_of_ble_eq_true rfl⟩, Nat.le_of_ble_eq_true rfl, Nat.le_of_ble_eq_true rfl⟩ (kn' := (0, 0)) rfl (As := []) rfl (Nat.le_of_ble_eq_true rfl) (fun o' _ => t_X12_begin Γ.2.1 E o' S) d_X12_play_1 rfl (fun S2 => ?_)
  refine g_iconst hO 0 d_X12_play_4 (by decide) ?_
  refine g_istore_n (lv' := [(2, vI 0), (0, vA (some o)), (1, vI x1)]) hO d_X12_play_5 (by rfl) (by decide) rfl ?_
  exact g_sub [1, 2, 0] rfl (w_X12_play_6 hO o _ _ _ _)
theorem t_X12_play (l : Launch) (E : GE) (o : Nat) (x1 : Int32) (S : GS) : ∀ a, f_X12_play o x1 S = some a → Ct l E yX12_play cX12_play 3 (some .int) rm_X12_play [vA (some o), vI x1] S (some (vI a.1)) a.2 :=
  Ct_of (val := fun (b : Int32 × GS) => some (vI b.1)) (nxt := fun (b : Int32 × GS) => b.2) (by decide) (Nat.le_of_ble_eq_true rfl) (fun Γ hl hO => w_X12_play hO o x1 S)
theorem d_X12_layState_0 : gD cX12_layState 0 (.aload_n 0) 1 1 := ⟨by decide +kernel, rfl⟩
theorem d_X12_layState_1 : gD cX12_layState 1 (.iload_n 2) 1 2 := ⟨by decide +kernel, rfl⟩
theorem d_X12_layState_2 : gD cX12_layState 2 (.invokevirtual 316) 3 5 := ⟨by decide +kernel, rfl⟩
theorem d_X12_layState_5 : gD cX12_layState 5 (.ifCond .eq 36) 3 8 ∧ ((5 : Nat) : Int) + 36 = ((41 : Nat) : Int) := ⟨⟨by decide +kernel, rfl⟩, by decide⟩
theorem d_X12_layState_8 : gD cX12_layState 8 (.aload_n 0) 1 9 := ⟨by decide +kernel, rfl⟩
theorem d_X12_layState_9 : gD cX12_layState 9 (.iload_n 1) 1 10 := ⟨by decide +kernel, rfl⟩
theorem d_X12_layState_10 : gD cX12_layState 10 (.invokevirtual 297) 3 13 := ⟨by decide +kernel, rfl⟩
theorem d_X12_layState_13 : gD cX12_layState 13 (.ifCond .eq 28) 3 16 ∧ ((13 : Nat) : Int) + 28 = ((41 : Nat) : Int) := ⟨⟨by decide +kernel, rfl⟩, by decide⟩
theorem d_X12_layState_16 : gD cX12_layState 16 (.iload_n 3) 1 17 := ⟨by decide +kernel, rfl⟩
theorem d_X12_layState_17 : gD cX12_layState 17 (.iconst 0) 1 18 := ⟨by decide +kernel, rfl⟩
theorem d_X12_layState_18 : gD cX12_layState 18 (.aload_n 0) 1 19 := ⟨by decide +kernel, rfl⟩
theorem d_X12_layState_19 : gD cX12_layState 19 (.invokevirtual 319) 3 22 := ⟨by decide +kernel, rfl⟩
theorem d_X12_layState_22 : gD cX12_layState 22 (.invokestatic 112) 3 25 := ⟨by decide +kernel, rfl⟩
theorem d_X12_layState_25 : gD cX12_layState 25 (.ifCond .eq 16) 3 28 ∧ ((25 : Nat) : Int) + 16 = ((41 : Nat) : Int) := ⟨⟨by decide +kernel, rfl⟩, by decide⟩
theorem d_X12_layState_28 : gD cX12_layState 28 (.aload_n 0) 1 29 := ⟨by decide +kernel, rfl⟩
theorem d_X12_layState_29 : gD cX12_layState 29 (.iload_n 3) 1 30 := ⟨by decide +kernel, rfl⟩
theorem d_X12_layState_30 : gD cX12_layState 30 (.invokevirtual 403) 3 33 := ⟨by decide +kernel, rfl⟩
theorem d_X12_layState_33 : gD cX12_layState 33 (.iload_n 3) 1 34 := ⟨by decide +kernel, rfl⟩
theorem d_X12_layState_34 : gD cX12_layState 34 (.if_icmp .ne 7) 3 37 ∧ ((34 : Nat) : Int) + 7 = ((41 : Nat) : Int) := ⟨⟨by decide +kernel, rfl⟩, by decide⟩
theorem d_X12_layState_37 : gD cX12_layState 37 (.iconst 1) 1 38 := ⟨by decide +kernel, rfl⟩
theorem d_X12_layState_38 : decode cX12_layState 38 = .ok (.goto 4, 3) ∧ ((38 : Nat) : Int) + 4 = ((42 : Nat) : Int) := ⟨by decide +kernel, by decide⟩
theorem d_X12_layState_41 : gD cX12_layState 41 (.iconst 0) 1 42 := ⟨by decide +kernel, rfl⟩
theorem d_X12_layState_42 : gD cX12_layState 42 (.ireturn) 1 43 := ⟨by decide +kernel, rfl⟩
abbrev rm_X12_layState : Room := { frames := 7, cells := 0, slots := 0, locals := 155 }
set_option maxRecDepth 20000 in
theorem w_X12_layState {Γ : GC} {E : GE} (hO : gOk Γ E cX12_layState RX12 4 rm_X12_layState (some .boolean) "layState") (o : Nat) (x1 : Int32) (x2 : Int32) (x3 : Int32) (S : GS) : Go Γ E (gBsI Γ E) 4 (0, 0) 0 S [(0, vA (some o)), (1, vI x1), (2, vI x2), (3, vI x3)] [] (f_X12_layState o x1 x2 x3 S) := by
  unfold f_X12_layState
  refine g_aload_n hO d_X12_layState_0 (by rfl) 0 rfl ?_
  refine g_iload_n hO d_X12_layState_1 (by rfl) 2 rfl ?_
  refine k_virtIs hO cl_X12 mm_X12_hasBall lkV_X12_316 ⟨⟨Nat.le_of_ble_eq_true rfl, Nat.le_of_ble_eq_true rfl⟩, Nat.le_of_ble_eq_true rfl, Nat.le_of_ble_eq_true rfl⟩ (kn' := (0, 0)) rfl (As := [vI x2]) rfl (Nat.le_of_ble_eq_true rfl) (fun o' _ => t_X12_hasBall Γ.2.1 E o' x2 S) d_X12_layState_2 rfl (fun v1 S2 => ?_)
  refine g_if_eq (tgt := 41) hO d_X12_layState_5.1 d_X12_layState_5.2 (fun _ => ?_) (fun _ => ?_)
  · skip
    refine g_iconst hO 0 d_X12_layState_41 (by decide) ?_
    exact g_ret hO rfl rfl ⟨Nat.le_of_ble_eq_true rfl, Nat.le_of_ble_eq_true rfl⟩ rfl rfl d_X12_layState_42.1
  · skip
    refine g_aload_n hO d_X12_layState_8 (by rfl) 0 rfl ?_
    refine g_iload_n hO d_X12_layState_9 (by rfl) 1 rfl ?_
    refine k_virtIs hO cl_X12 mm_X12_hand lkV_X12_297 ⟨⟨Nat.le_of_ble_eq_true rfl, Nat.le_of_ble_eq_true rfl⟩, Nat.le_of_ble_eq_true rfl, Nat.le_of_ble_eq_true rfl⟩ (kn' := (0, 0)) rfl (As := [vI x1]) rfl (Nat.le_of_ble_eq_true rfl) (fun o' _ => t_X12_hand Γ.2.1 E o' x1 S2) d_X12_layState_10 rfl (fun v3 S4 => ?_)
    refine g_if_eq (tgt := 41) hO d_X12_layState_13.1 d_X12_layState_13.2 (fun _ => ?_) (fun _ => ?_)
    · skip
      refine g_iconst hO 0 d_X12_layState_41 (by decide) ?_
      exact g_ret hO rfl rfl ⟨Nat.le_of_ble_eq_true rfl, Nat.le_of_ble_eq_true rfl⟩ rfl rfl d_X12_layState_42.1
    · skip
      refine g_iload_n hO d_X12_layState_16 (by rfl) 3 rfl ?_
      refine g_iconst hO 0 d_X12_layState_17 (by decide) ?_
      refine g_aload_n hO d_X12_layState_18 (by rfl) 0 rfl ?_
      refine k_virtIp hO cl_X12 mm_X12_deeds lkV_X12_319 ⟨⟨Nat.le_of_ble_eq_true rfl, Nat.le_of_ble_eq_true rfl⟩, Nat.le_of_ble_eq_true rfl, Nat.le_of_ble_eq_true rfl⟩ (kn' := (0, 0)) rfl (As := []) rfl (Nat.le_of_ble_eq_true rfl) (fun o' _ => t_X12_deeds Γ.2.1 E o' S4) d_X12_layState_19 rfl (fun v5 => ?_)
      refine k_statIp hO mm_X12_in lkS_X12_112 ⟨⟨Nat.le_of_ble_eq_true rfl, Nat.le_of_ble_eq_true rfl⟩, Nat.le_of_ble_eq_true rfl, Nat.le_of_ble_eq_true rfl⟩ (kn' := (0, 0)) rfl (As := [vI x3, vI 0, vI v5]) rfl (Nat.le_of_ble_eq_true rfl) (t_X12_in Γ.2.1 E x3 0 v5 S4) d_X12_layState_22 rfl (fun v7 => ?_)
      refine g_if_eq (tgt := 41) hO d_X12_layState_25.1 d_X12_layState_25.2 (fun _ => ?_) (fun _ => ?_)
      · skip
        refine g_iconst hO 0 d_X12_layState_41 (by decide) ?_
        exact g_ret hO rfl rfl ⟨Nat.le_of_ble_eq_true rfl, Nat.le_of_ble_eq_true rfl⟩ rfl rfl d_X12_layState_42.1
      · skip
        refine g_aload_n hO d_X12_layState_28 (by rfl) 0 rfl ?_
        refine g_iload_n hO d_X12_layState_29 (by rfl) 3 rfl ?_
        refine k_virtIs hO cl_X12 mm_X12_play lkV_X12_403 ⟨⟨Nat.le_of_ble_eq_true rfl, Nat.le_of_ble_eq_true rfl⟩, Nat.le_of_ble_eq_true rfl, Nat.le_of_ble_eq_true rfl⟩ (kn' := (0, 0)) rfl (As := [vI x3]) rfl (Nat.le_of_ble_eq_true rfl) (fun o' _ => t_X12_play Γ.2.1 E o' x3 S4) d_X12_layState_30 rfl (fun v9 S10 => ?_)
        refine g_iload_n hO d_X12_layState_33 (by rfl) 3 rfl ?_
        refine g_ic_ne (tgt := 41) hO d_X12_layState_34.1 d_X12_layState_34.2 (fun _ => ?_) (fun _ => ?_)
        · skip
          refine g_iconst hO 1 d_X12_layState_37 (by decide) ?_
          refine g_goto (tgt := 42) hO d_X12_layState_38.1 d_X12_layState_38.2 ?_
          exact g_ret hO rfl rfl ⟨Nat.le_of_ble_eq_true rfl, Nat.le_of_ble_eq_true rfl⟩ rfl rfl d_X12_layState_42.1
        · skip
          refine g_iconst hO 0 d_X12_layState_41 (by decide) ?_
          exact g_ret hO rfl rfl ⟨Nat.le_of_ble_eq_true rfl, Nat.le_of_ble_eq_true rfl⟩ rfl rfl d_X12_layState_42.1
theorem t_X12_layState (l : Launch) (E : GE) (o : Nat) (x1 : Int32) (x2 : Int32) (x3 : Int32) (S : GS) : ∀ a, f_X12_layState o x1 x2 x3 S = some a → Ct l E yX12_layState cX12_layState 4 (some .boolean) rm_X12_layState [vA (some o), vI x1, vI x2, vI x3] S (some (vI a.1)) a.2 :=
  Ct_of (val := fun (b : Int32 × GS) => some (vI b.1)) (nxt := fun (b : Int32 × GS) => b.2) (by decide) (Nat.le_of_ble_eq_true rfl) (fun Γ hl hO => w_X12_layState hO o x1 x2 x3 S)
theorem d_X12_stop_0 : gD cX12_stop 0 (.aload_n 0) 1 1 := ⟨by decide +kernel, rfl⟩
theorem d_X12_stop_1 : gD cX12_stop 1 (.iconst 0) 1 2 := ⟨by decide +kernel, rfl⟩
theorem d_X12_stop_2 : gD cX12_stop 2 (.putfield 100) 3 5 := ⟨by decide +kernel, rfl⟩
theorem d_X12_stop_5 : gD cX12_stop 5 (.aload_n 0) 1 6 := ⟨by decide +kernel, rfl⟩
theorem d_X12_stop_6 : gD cX12_stop 6 (.iload_n 2) 1 7 := ⟨by decide +kernel, rfl⟩
theorem d_X12_stop_7 : gD cX12_stop 7 (.invokevirtual 316) 3 10 := ⟨by decide +kernel, rfl⟩
theorem d_X12_stop_10 : gD cX12_stop 10 (.ifCond .eq 22) 3 13 ∧ ((10 : Nat) : Int) + 22 = ((32 : Nat) : Int) := ⟨⟨by decide +kernel, rfl⟩, by decide⟩
theorem d_X12_stop_13 : gD cX12_stop 13 (.aload_n 0) 1 14 := ⟨by decide +kernel, rfl⟩
theorem d_X12_stop_14 : gD cX12_stop 14 (.iload_n 1) 1 15 := ⟨by decide +kernel, rfl⟩
theorem d_X12_stop_15 : gD cX12_stop 15 (.invokevirtual 297) 3 18 := ⟨by decide +kernel, rfl⟩
theorem d_X12_stop_18 : gD cX12_stop 18 (.ifCond .eq 14) 3 21 ∧ ((18 : Nat) : Int) + 14 = ((32 : Nat) : Int) := ⟨⟨by decide +kernel, rfl⟩, by decide⟩
theorem d_X12_stop_21 : gD cX12_stop 21 (.aload_n 0) 1 22 := ⟨by decide +kernel, rfl⟩
theorem d_X12_stop_22 : gD cX12_stop 22 (.aload_n 0) 1 23 := ⟨by decide +kernel, rfl⟩
theorem d_X12_stop_23 : gD cX12_stop 23 (.invokevirtual 319) 3 26 := ⟨by decide +kernel, rfl⟩
theorem d_X12_stop_26 : gD cX12_stop 26 (.invokevirtual 403) 3 29 := ⟨by decide +kernel, rfl⟩
theorem d_X12_stop_29 : decode cX12_stop 29 = .ok (.goto 4, 3) ∧ ((29 : Nat) : Int) + 4 = ((33 : Nat) : Int) := ⟨by decide +kernel, by decide⟩
theorem d_X12_stop_32 : gD cX12_stop 32 (.iconst (-1)) 1 33 := ⟨by decide +kernel, rfl⟩
theorem d_X12_stop_33 : gD cX12_stop 33 (.ireturn) 1 34 := ⟨by decide +kernel, rfl⟩
abbrev rm_X12_stop : Room := { frames := 7, cells := 0, slots := 0, locals := 155 }
set_option maxRecDepth 20000 in
theorem w_X12_stop {Γ : GC} {E : GE} (hO : gOk Γ E cX12_stop RX12 3 rm_X12_stop (some .int) "stop") (o : Nat) (x1 : Int32) (x2 : Int32) (S : GS) : Go Γ E (gBsI Γ E) 3 (0, 0) 0 S [(0, vA (some o)), (1, vI x1), (2, vI x2)] [] (f_X12_stop o x1 x2 S) := by
  unfold f_X12_stop
  refine g_aload_n hO d_X12_stop_0 (by rfl) 0 rfl ?_
  refine g_iconst hO 0 d_X12_stop_1 (by decide) ?_
  refine h_putI hO cl_X12 0 rfl rfl wf_X12_100 (Or.inl rfl) d_X12_stop_2 (fun S1 => ?_)
  refine g_aload_n hO d_X12_stop_5 (by rfl) 0 rfl ?_
  refine g_iload_n hO d_X12_stop_6 (by rfl) 2 rfl ?_
  refine k_virtIs hO cl_X12 mm_X12_hasBall lkV_X12_316 ⟨⟨Nat.le_of_ble_eq_true rfl, Nat.le_of_ble_eq_true rfl⟩, Nat.le_of_ble_eq_true rfl, Nat.le_of_ble_eq_true rfl⟩ (kn' := (0, 0)) rfl (As := [vI x2]) rfl (Nat.le_of_ble_eq_true rfl) (fun o' _ => t_X12_hasBall Γ.2.1 E o' x2 S1) d_X12_stop_7 rfl (fun v2 S3 => ?_)
  refine g_if_eq (tgt := 32) hO d_X12_stop_10.1 d_X12_stop_10.2 (fun _ => ?_) (fun _ => ?_)
  · skip
    refine g_iconst hO (-1) d_X12_stop_32 (by decide) ?_
    exact g_ret hO rfl rfl ⟨Nat.le_of_ble_eq_true rfl, Nat.le_of_ble_eq_true rfl⟩ rfl rfl d_X12_stop_33.1
  · skip
    refine g_aload_n hO d_X12_stop_13 (by rfl) 0 rfl ?_
    refine g_iload_n hO d_X12_stop_14 (by rfl) 1 rfl ?_
    refine k_virtIs hO cl_X12 mm_X12_hand lkV_X12_297 ⟨⟨Nat.le_of_ble_eq_true rfl, Nat.le_of_ble_eq_true rfl⟩, Nat.le_of_ble_eq_true rfl, Nat.le_of_ble_eq_true rfl⟩ (kn' := (0, 0)) rfl (As := [vI x1]) rfl (Nat.le_of_ble_eq_true rfl) (fun o' _ => t_X12_hand Γ.2.1 E o' x1 S3) d_X12_stop_15 rfl (fun v4 S5 => ?_)
    refine g_if_eq (tgt := 32) hO d_X12_stop_18.1 d_X12_stop_18.2 (fun _ => ?_) (fun _ => ?_)
    · skip
      refine g_iconst hO (-1) d_X12_stop_32 (by decide) ?_
      exact g_ret hO rfl rfl ⟨Nat.le_of_ble_eq_true rfl, Nat.le_of_ble_eq_true rfl⟩ rfl rfl d_X12_stop_33.1
    · skip
      refine g_aload_n hO d_X12_stop_21 (by rfl) 0 rfl ?_
      refine g_aload_n hO d_X12_stop_22 (by rfl) 0 rfl ?_
      refine k_virtIp hO cl_X12 mm_X12_deeds lkV_X12_319 ⟨⟨Nat.le_of_ble_eq_true rfl, Nat.le_of_ble_eq_true rfl⟩, Nat.le_of_ble_eq_true rfl, Nat.le_of_ble_eq_true rfl⟩ (kn' := (0, 0)) rfl (As := []) rfl (Nat.le_of_ble_eq_true rfl) (fun o' _ => t_X12_deeds Γ.2.1 E o' S5) d_X12_stop_23 rfl (fun v6 => ?_)
      refine k_virtIs hO cl_X12 mm_X12_play lkV_X12_403 ⟨⟨Nat.le_of_ble_eq_true rfl, Nat.le_of_ble_eq_true rfl⟩, Nat.le_of_ble_eq_true rfl, Nat.le_of_ble_eq_true rfl⟩ (kn' := (0, 0)) rfl (As := [vI v6]) rfl (Nat.le_of_ble_eq_true rfl) (fun o' _ => t_X12_play Γ.2.1 E o' v6 S5) d_X12_stop_26 rfl (fun v8 S9 => ?_)
      refine g_goto (tgt := 33) hO d_X12_stop_29.1 d_X12_stop_29.2 ?_
      exact g_ret hO rfl rfl ⟨Nat.le_of_ble_eq_true rfl, Nat.le_of_ble_eq_true rfl⟩ rfl rfl d_X12_stop_33.1
theorem t_X12_stop (l : Launch) (E : GE) (o : Nat) (x1 : Int32) (x2 : Int32) (S : GS) : ∀ a, f_X12_stop o x1 x2 S = some a → Ct l E yX12_stop cX12_stop 3 (some .int) rm_X12_stop [vA (some o), vI x1, vI x2] S (some (vI a.1)) a.2 :=
  Ct_of (val := fun (b : Int32 × GS) => some (vI b.1)) (nxt := fun (b : Int32 × GS) => b.2) (by decide) (Nat.le_of_ble_eq_true rfl) (fun Γ hl hO => w_X12_stop hO o x1 x2 S)
theorem d_X12_improper_0 : gD cX12_improper 0 (.iconst 0) 1 1 := ⟨by decide +kernel, rfl⟩
theorem d_X12_improper_1 : gD cX12_improper 1 (.istore_n 1) 1 2 := ⟨by decide +kernel, rfl⟩
theorem d_X12_improper_2 : gD cX12_improper 2 (.iconst 0) 1 3 := ⟨by decide +kernel, rfl⟩
theorem d_X12_improper_3 : gD cX12_improper 3 (.istore_n 2) 1 4 := ⟨by decide +kernel, rfl⟩
theorem d_X12_improper_4 : gD cX12_improper 4 (.iload_n 2) 1 5 := ⟨by decide +kernel, rfl⟩
theorem d_X12_improper_5 : gD cX12_improper 5 (.aload_n 0) 1 6 := ⟨by decide +kernel, rfl⟩
theorem d_X12_improper_6 : gD cX12_improper 6 (.getfield 294) 3 9 := ⟨by decide +kernel, rfl⟩
theorem d_X12_improper_9 : gD cX12_improper 9 (.if_icmp .ge 56) 3 12 ∧ ((9 : Nat) : Int) + 56 = ((65 : Nat) : Int) := ⟨⟨by decide +kernel, rfl⟩, by decide⟩
theorem d_X12_improper_12 : gD cX12_improper 12 (.iload_n 1) 1 13 := ⟨by decide +kernel, rfl⟩
theorem d_X12_improper_13 : gD cX12_improper 13 (.aload_n 0) 1 14 := ⟨by decide +kernel, rfl⟩
theorem d_X12_improper_14 : gD cX12_improper 14 (.getfield 331) 3 17 := ⟨by decide +kernel, rfl⟩
theorem d_X12_improper_17 : gD cX12_improper 17 (.iload_n 2) 1 18 := ⟨by decide +kernel, rfl⟩
theorem d_X12_improper_18 : gD cX12_improper 18 (.invokestatic 104) 3 21 := ⟨by decide +kernel, rfl⟩
theorem d_X12_improper_21 : gD cX12_improper 21 (.ifCond .eq 35) 3 24 ∧ ((21 : Nat) : Int) + 35 = ((56 : Nat) : Int) := ⟨⟨by decide +kernel, rfl⟩, by decide⟩
theorem d_X12_improper_24 : gD cX12_improper 24 (.aload_n 0) 1 25 := ⟨by decide +kernel, rfl⟩
theorem d_X12_improper_25 : gD cX12_improper 25 (.getfield 56) 3 28 := ⟨by decide +kernel, rfl⟩
theorem d_X12_improper_28 : gD cX12_improper 28 (.iload_n 2) 1 29 := ⟨by decide +kernel, rfl⟩
theorem d_X12_improper_29 : gD cX12_improper 29 (.iaload) 1 30 := ⟨by decide +kernel, rfl⟩
theorem d_X12_improper_30 : gD cX12_improper 30 (.aload_n 0) 1 31 := ⟨by decide +kernel, rfl⟩
theorem d_X12_improper_31 : gD cX12_improper 31 (.aload_n 0) 1 32 := ⟨by decide +kernel, rfl⟩
theorem d_X12_improper_32 : gD cX12_improper 32 (.getfield 325) 3 35 := ⟨by decide +kernel, rfl⟩
theorem d_X12_improper_35 : gD cX12_improper 35 (.invokevirtual 300) 3 38 := ⟨by decide +kernel, rfl⟩
theorem d_X12_improper_38 : gD cX12_improper 38 (.isub) 1 39 := ⟨by decide +kernel, rfl⟩
theorem d_X12_improper_39 : gD cX12_improper 39 (.invokestatic 367) 3 42 := ⟨by decide +kernel, rfl⟩
theorem d_X12_improper_42 : gD cX12_improper 42 (.aload_n 0) 1 43 := ⟨by decide +kernel, rfl⟩
theorem d_X12_improper_43 : gD cX12_improper 43 (.iconst 3) 1 44 := ⟨by decide +kernel, rfl⟩
theorem d_X12_improper_44 : gD cX12_improper 44 (.invokevirtual 287) 3 47 := ⟨by decide +kernel, rfl⟩
theorem d_X12_improper_47 : gD cX12_improper 47 (.if_icmp .le 9) 3 50 ∧ ((47 : Nat) : Int) + 9 = ((56 : Nat) : Int) := ⟨⟨by decide +kernel, rfl⟩, by decide⟩
theorem d_X12_improper_50 : gD cX12_improper 50 (.iconst 1) 1 51 := ⟨by decide +kernel, rfl⟩
theorem d_X12_improper_51 : gD cX12_improper 51 (.iload_n 2) 1 52 := ⟨by decide +kernel, rfl⟩
theorem d_X12_improper_52 : gD cX12_improper 52 (.ishl) 1 53 := ⟨by decide +kernel, rfl⟩
theorem d_X12_improper_53 : decode cX12_improper 53 = .ok (.goto 4, 3) ∧ ((53 : Nat) : Int) + 4 = ((57 : Nat) : Int) := ⟨by decide +kernel, by decide⟩
theorem d_X12_improper_56 : gD cX12_improper 56 (.iconst 0) 1 57 := ⟨by decide +kernel, rfl⟩
theorem d_X12_improper_57 : gD cX12_improper 57 (.ior) 1 58 := ⟨by decide +kernel, rfl⟩
theorem d_X12_improper_58 : gD cX12_improper 58 (.istore_n 1) 1 59 := ⟨by decide +kernel, rfl⟩
theorem d_X12_improper_59 : gD cX12_improper 59 (.iinc 2 1) 3 62 := ⟨by decide +kernel, rfl⟩
theorem d_X12_improper_62 : decode cX12_improper 62 = .ok (.goto (-58), 3) ∧ ((62 : Nat) : Int) + (-58) = ((4 : Nat) : Int) := ⟨by decide +kernel, by decide⟩
theorem d_X12_improper_65 : gD cX12_improper 65 (.iload_n 1) 1 66 := ⟨by decide +kernel, rfl⟩
theorem d_X12_improper_66 : gD cX12_improper 66 (.ireturn) 1 67 := ⟨by decide +kernel, rfl⟩
abbrev rm_X12_improper : Room := { frames := 2, cells := 0, slots := 0, locals := 45 }
set_option maxRecDepth 20000 in
theorem w_X12_improper_57 {Γ : GC} {E : GE} (hO : gOk Γ E cX12_improper RX12 3 rm_X12_improper (some .int) "improper") (o : Nat) (S : GS) {k4 : (Int32 → Int32 → Option Int32)} (hk4 : ∀ (z1 : Int32) (z2 : Int32), Go Γ E (gBpI Γ E S) 3 (0, 0) 4 S [(0, vA (some o)), (1, vI z1), (2, vI z2)] [] (k4 z1 z2)) (x2 : Int32) (y0 : Int32) (y1 : Int32) : Go Γ E (gBpI Γ E S) 3 (0, 0) 57 S [(0, vA (some o)), (2, vI x2)] [vI y1, vI y0] (f_X12_improper_57 k4 o S x2 y0 y1) := by
  unfold f_X12_improper_57
  refine g_ior hO d_X12_improper_57 ?_
  refine g_istore_n (lv' := [(1, vI (y0 ||| y1)), (0, vA (some o)), (2, vI x2)]) hO d_X12_improper_58 (by rfl) (by decide) rfl ?_
  refine g_iinc (lv' := [(2, vI (x2 + 1)), (1, vI (y0 ||| y1)), (0, vA (some o))]) hO 1 d_X12_improper_59 (by decide) 2 rfl (by decide) rfl ?_
  refine g_goto (tgt := 4) hO d_X12_improper_62.1 d_X12_improper_62.2 ?_
  exact g_sub [2, 1, 0] rfl (hk4 _ _)
set_option maxRecDepth 20000 in
theorem w_X12_improper_56 {Γ : GC} {E : GE} (hO : gOk Γ E cX12_improper RX12 3 rm_X12_improper (some .int) "improper") (o : Nat) (S : GS) {k4 : (Int32 → Int32 → Option Int32)} (hk4 : ∀ (z1 : Int32) (z2 : Int32), Go Γ E (gBpI Γ E S) 3 (0, 0) 4 S [(0, vA (some o)), (1, vI z1), (2, vI z2)] [] (k4 z1 z2)) (x2 : Int32) (y0 : Int32) : Go Γ E (gBpI Γ E S) 3 (0, 0) 56 S [(0, vA (some o)), (2, vI x2)] [vI y0] (f_X12_improper_56 k4 o S x2 y0) := by
  unfold f_X12_improper_56
  refine g_iconst hO 0 d_X12_improper_56 (by decide) ?_
  exact g_sub [0, 1] rfl (w_X12_improper_57 hO o _ hk4 _ _ _)
set_option maxRecDepth 20000 in
theorem w_X12_improper_4 {Γ : GC} {E : GE} (hO : gOk Γ E cX12_improper RX12 3 rm_X12_improper (some .int) "improper") (o : Nat) (S : GS) : ∀ (n : Nat) (x1 : Int32) (x2 : Int32), Go Γ E (gBpI Γ E S) 3 (0, 0) 4 S [(0, vA (some o)), (1, vI x1), (2, vI x2)] [] (f_X12_improper_4 o S n x1 x2) := by
  intro n
  induction n with
  | zero =>
    intro x1 x2
    exact g_none
  | succ n ih =>
    intro x1 x2
    rw [f_X12_improper_4]
    refine g_iload_n hO d_X12_improper_4 (by rfl) 2 rfl ?_
    refine g_aload_n hO d_X12_improper_5 (by rfl) 0 rfl ?_
    refine h_getI hO cl_X12 27 rfl wf_X12_294 d_X12_improper_6 (fun v1 => ?_)
    refine g_ic_ge (tgt := 65) hO d_X12_improper_9.1 d_X12_improper_9.2 (fun _ => ?_) (fun _ => ?_)
    · skip
      refine g_iload_n hO d_X12_improper_65 (by rfl) 1 rfl ?_
      exact g_ret hO rfl rfl ⟨Nat.le_of_ble_eq_true rfl, Nat.le_of_ble_eq_true rfl⟩ rfl rfl d_X12_improper_66.1
    · skip
      refine g_iload_n hO d_X12_improper_12 (by rfl) 1 rfl ?_
      refine g_aload_n hO d_X12_improper_13 (by rfl) 0 rfl ?_
      refine h_getI hO cl_X12 31 rfl wf_X12_331 d_X12_improper_14 (fun v2 => ?_)
      refine g_iload_n hO d_X12_improper_17 (by rfl) 2 rfl ?_
      refine k_statIp hO mm_X12_has lkS_X12_104 ⟨⟨Nat.le_of_ble_eq_true rfl, Nat.le_of_ble_eq_true rfl⟩, Nat.le_of_ble_eq_true rfl, Nat.le_of_ble_eq_true rfl⟩ (kn' := (0, 0)) rfl (As := [vI v2, vI x2]) rfl (Nat.le_of_ble_eq_true rfl) (t_X12_has Γ.2.1 E v2 x2 S) d_X12_improper_18 rfl (fun v3 => ?_)
      refine g_if_eq (tgt := 56) hO d_X12_improper_21.1 d_X12_improper_21.2 (fun _ => ?_) (fun _ => ?_)
      · skip
        exact g_sub [0, 2] rfl (w_X12_improper_56 hO o _ ih _ _)
      · skip
        refine g_aload_n hO d_X12_improper_24 (by rfl) 0 rfl ?_
        refine h_getR hO cl_X12 41 rfl wf_X12_56 d_X12_improper_25 (fun v5 => ?_)
        refine g_iload_n hO d_X12_improper_28 (by rfl) 2 rfl ?_
        refine h_iald hO d_X12_improper_29 (fun v6 => ?_)
        refine g_aload_n hO d_X12_improper_30 (by rfl) 0 rfl ?_
        refine g_aload_n hO d_X12_improper_31 (by rfl) 0 rfl ?_
        refine h_getI hO cl_X12 29 rfl wf_X12_325 d_X12_improper_32 (fun v7 => ?_)
        refine k_virtIp hO cl_X12 mm_X12_properAt lkV_X12_300 ⟨⟨Nat.le_of_ble_eq_true rfl, Nat.le_of_ble_eq_true rfl⟩, Nat.le_of_ble_eq_true rfl, Nat.le_of_ble_eq_true rfl⟩ (kn' := (0, 0)) rfl (As := [vI v7]) rfl (Nat.le_of_ble_eq_true rfl) (fun o' _ => t_X12_properAt Γ.2.1 E o' v7 S) d_X12_improper_35 rfl (fun v8 => ?_)
        refine g_isub hO d_X12_improper_38 ?_
        refine k_statIp hO mm_X12_size lkS_X12_367 ⟨⟨Nat.le_of_ble_eq_true rfl, Nat.le_of_ble_eq_true rfl⟩, Nat.le_of_ble_eq_true rfl, Nat.le_of_ble_eq_true rfl⟩ (kn' := (0, 0)) rfl (As := [vI (v6 - v8)]) rfl (Nat.le_of_ble_eq_true rfl) (t_X12_size Γ.2.1 E (v6 - v8) S) d_X12_improper_39 rfl (fun v10 => ?_)
        refine g_aload_n hO d_X12_improper_42 (by rfl) 0 rfl ?_
        refine g_iconst hO 3 d_X12_improper_43 (by decide) ?_
        refine k_virtIp hO cl_X12 mm_X12_ofCourt lkV_X12_287 ⟨⟨Nat.le_of_ble_eq_true rfl, Nat.le_of_ble_eq_true rfl⟩, Nat.le_of_ble_eq_true rfl, Nat.le_of_ble_eq_true rfl⟩ (kn' := (0, 0)) rfl (As := [vI 3]) rfl (Nat.le_of_ble_eq_true rfl) (fun o' _ => t_X12_ofCourt Γ.2.1 E o' 3 S) d_X12_improper_44 rfl (fun v12 => ?_)
        refine g_ic_le (tgt := 56) hO d_X12_improper_47.1 d_X12_improper_47.2 (fun _ => ?_) (fun _ => ?_)
        · skip
          exact g_sub [0, 2] rfl (w_X12_improper_56 hO o _ ih _ _)
        · skip
          refine g_iconst hO 1 d_X12_improper_50 (by decide) ?_
          refine g_iload_n hO d_X12_improper_51 (by rfl) 2 rfl ?_
          refine g_ishl hO d_X12_improper_52 ?_
          refine g_goto (tgt := 57) hO d_X12_improper_53.1 d_X12_improper_53.2 ?_
          exact g_sub [0, 2] rfl (w_X12_improper_57 hO o _ ih _ _ _)
set_option maxRecDepth 20000 in
theorem w_X12_improper {Γ : GC} {E : GE} (hO : gOk Γ E cX12_improper RX12 3 rm_X12_improper (some .int) "improper") (o : Nat) (S : GS) : Go Γ E (gBpI Γ E S) 3 (0, 0) 0 S [(0, vA (some o))] [] (f_X12_improper o S) := by
  unfold f_X12_improper
  refine g_iconst hO 0 d_X12_improper_0 (by decide) ?_
  refine g_istore_n (lv' := [(1, vI 0), (0, vA (some o))]) hO d_X12_improper_1 (by rfl) (by decide) rfl ?_
  refine g_iconst hO 0 d_X12_improper_2 (by decide) ?_
  refine g_istore_n (lv' := [(2, vI 0), (1, vI 0), (0, vA (some o))]) hO d_X12_improper_3 (by rfl) (by decide) rfl ?_
  exact g_sub [2, 1, 0] rfl (w_X12_improper_4 hO o _ _ _ _)
theorem t_X12_improper (l : Launch) (E : GE) (o : Nat) (S : GS) : ∀ a, f_X12_improper o S = some a → Ct l E yX12_improper cX12_improper 3 (some .int) rm_X12_improper [vA (some o)] S (some (vI a)) S :=
  Ct_of (val := fun b => some (vI b)) (nxt := fun _ => S) (by decide) (Nat.le_of_ble_eq_true rfl) (fun Γ hl hO => w_X12_improper hO o S)
theorem d_X12_state_0 : gD cX12_state 0 (.aload_n 0) 1 1 := ⟨by decide +kernel, rfl⟩
theorem d_X12_state_1 : gD cX12_state 1 (.iconst 0) 1 2 := ⟨by decide +kernel, rfl⟩
theorem d_X12_state_2 : gD cX12_state 2 (.putfield 100) 3 5 := ⟨by decide +kernel, rfl⟩
theorem d_X12_state_5 : gD cX12_state 5 (.aload_n 0) 1 6 := ⟨by decide +kernel, rfl⟩
theorem d_X12_state_6 : gD cX12_state 6 (.iload_n 1) 1 7 := ⟨by decide +kernel, rfl⟩
theorem d_X12_state_7 : gD cX12_state 7 (.iload_n 2) 1 8 := ⟨by decide +kernel, rfl⟩
theorem d_X12_state_8 : gD cX12_state 8 (.iload_n 3) 1 9 := ⟨by decide +kernel, rfl⟩
theorem d_X12_state_9 : gD cX12_state 9 (.invokevirtual 406) 3 12 := ⟨by decide +kernel, rfl⟩
theorem d_X12_state_12 : gD cX12_state 12 (.ifCond .ne 6) 3 15 ∧ ((12 : Nat) : Int) + 6 = ((18 : Nat) : Int) := ⟨⟨by decide +kernel, rfl⟩, by decide⟩
theorem d_X12_state_15 : gD cX12_state 15 (.bipush (-100)) 2 17 := ⟨by decide +kernel, rfl⟩
theorem d_X12_state_17 : gD cX12_state 17 (.ireturn) 1 18 := ⟨by decide +kernel, rfl⟩
theorem d_X12_state_18 : gD cX12_state 18 (.iload 4) 2 20 := ⟨by decide +kernel, rfl⟩
theorem d_X12_state_20 : gD cX12_state 20 (.bipush 20) 2 22 := ⟨by decide +kernel, rfl⟩
theorem d_X12_state_22 : gD cX12_state 22 (.bipush 19) 2 24 := ⟨by decide +kernel, rfl⟩
theorem d_X12_state_24 : gD cX12_state 24 (.aload_n 0) 1 25 := ⟨by decide +kernel, rfl⟩
theorem d_X12_state_25 : gD cX12_state 25 (.getfield 291) 3 28 := ⟨by decide +kernel, rfl⟩
theorem d_X12_state_28 : gD cX12_state 28 (.iadd) 1 29 := ⟨by decide +kernel, rfl⟩
theorem d_X12_state_29 : gD cX12_state 29 (.invokestatic 112) 3 32 := ⟨by decide +kernel, rfl⟩
theorem d_X12_state_32 : gD cX12_state 32 (.ifCond .eq 13) 3 35 ∧ ((32 : Nat) : Int) + 13 = ((45 : Nat) : Int) := ⟨⟨by decide +kernel, rfl⟩, by decide⟩
theorem d_X12_state_35 : gD cX12_state 35 (.aload_n 0) 1 36 := ⟨by decide +kernel, rfl⟩
theorem d_X12_state_36 : gD cX12_state 36 (.iload 4) 2 38 := ⟨by decide +kernel, rfl⟩
theorem d_X12_state_38 : gD cX12_state 38 (.bipush 20) 2 40 := ⟨by decide +kernel, rfl⟩
theorem d_X12_state_40 : gD cX12_state 40 (.isub) 1 41 := ⟨by decide +kernel, rfl⟩
theorem d_X12_state_41 : gD cX12_state 41 (.invokevirtual 369) 3 44 := ⟨by decide +kernel, rfl⟩
theorem d_X12_state_44 : gD cX12_state 44 (.ireturn) 1 45 := ⟨by decide +kernel, rfl⟩
theorem d_X12_state_45 : gD cX12_state 45 (.iload 4) 2 47 := ⟨by decide +kernel, rfl⟩
theorem d_X12_state_47 : decode cX12_state 47 = .ok (.tableswitch 112 0 10 #[57, 62, 67, 72, 77, 82, 87, 92, 97, 102, 107], 57) ∧ ((47 : Nat) : Int) + 112 = ((159 : Nat) : Int) := ⟨by decide +kernel, by decide⟩
theorem d_X12_state_104 : gD cX12_state 104 (.aload_n 0) 1 105 := ⟨by decide +kernel, rfl⟩
theorem d_X12_state_105 : gD cX12_state 105 (.getfield 328) 3 108 := ⟨by decide +kernel, rfl⟩
theorem d_X12_state_108 : gD cX12_state 108 (.ireturn) 1 109 := ⟨by decide +kernel, rfl⟩
theorem d_X12_state_109 : gD cX12_state 109 (.aload_n 0) 1 110 := ⟨by decide +kernel, rfl⟩
theorem d_X12_state_110 : gD cX12_state 110 (.getfield 325) 3 113 := ⟨by decide +kernel, rfl⟩
theorem d_X12_state_113 : gD cX12_state 113 (.ireturn) 1 114 := ⟨by decide +kernel, rfl⟩
theorem d_X12_state_114 : gD cX12_state 114 (.aload_n 0) 1 115 := ⟨by decide +kernel, rfl⟩
theorem d_X12_state_115 : gD cX12_state 115 (.getfield 331) 3 118 := ⟨by decide +kernel, rfl⟩
theorem d_X12_state_118 : gD cX12_state 118 (.ireturn) 1 119 := ⟨by decide +kernel, rfl⟩
theorem d_X12_state_119 : gD cX12_state 119 (.aload_n 0) 1 120 := ⟨by decide +kernel, rfl⟩
theorem d_X12_state_120 : gD cX12_state 120 (.getfield 334) 3 123 := ⟨by decide +kernel, rfl⟩
theorem d_X12_state_123 : gD cX12_state 123 (.ireturn) 1 124 := ⟨by decide +kernel, rfl⟩
theorem d_X12_state_124 : gD cX12_state 124 (.aload_n 0) 1 125 := ⟨by decide +kernel, rfl⟩
theorem d_X12_state_125 : gD cX12_state 125 (.getfield 337) 3 128 := ⟨by decide +kernel, rfl⟩
theorem d_X12_state_128 : gD cX12_state 128 (.ireturn) 1 129 := ⟨by decide +kernel, rfl⟩
theorem d_X12_state_129 : gD cX12_state 129 (.aload_n 0) 1 130 := ⟨by decide +kernel, rfl⟩
theorem d_X12_state_130 : gD cX12_state 130 (.getfield 340) 3 133 := ⟨by decide +kernel, rfl⟩
theorem d_X12_state_133 : gD cX12_state 133 (.ireturn) 1 134 := ⟨by decide +kernel, rfl⟩
theorem d_X12_state_134 : gD cX12_state 134 (.aload_n 0) 1 135 := ⟨by decide +kernel, rfl⟩
theorem d_X12_state_135 : gD cX12_state 135 (.getfield 343) 3 138 := ⟨by decide +kernel, rfl⟩
theorem d_X12_state_138 : gD cX12_state 138 (.ireturn) 1 139 := ⟨by decide +kernel, rfl⟩
theorem d_X12_state_139 : gD cX12_state 139 (.aload_n 0) 1 140 := ⟨by decide +kernel, rfl⟩
theorem d_X12_state_140 : gD cX12_state 140 (.invokevirtual 409) 3 143 := ⟨by decide +kernel, rfl⟩
theorem d_X12_state_143 : gD cX12_state 143 (.ireturn) 1 144 := ⟨by decide +kernel, rfl⟩
theorem d_X12_state_144 : gD cX12_state 144 (.aload_n 0) 1 145 := ⟨by decide +kernel, rfl⟩
theorem d_X12_state_145 : gD cX12_state 145 (.getfield 346) 3 148 := ⟨by decide +kernel, rfl⟩
theorem d_X12_state_148 : gD cX12_state 148 (.ireturn) 1 149 := ⟨by decide +kernel, rfl⟩
theorem d_X12_state_149 : gD cX12_state 149 (.aload_n 0) 1 150 := ⟨by decide +kernel, rfl⟩
theorem d_X12_state_150 : gD cX12_state 150 (.getfield 349) 3 153 := ⟨by decide +kernel, rfl⟩
theorem d_X12_state_153 : gD cX12_state 153 (.ireturn) 1 154 := ⟨by decide +kernel, rfl⟩
theorem d_X12_state_154 : gD cX12_state 154 (.aload_n 0) 1 155 := ⟨by decide +kernel, rfl⟩
theorem d_X12_state_155 : gD cX12_state 155 (.getfield 352) 3 158 := ⟨by decide +kernel, rfl⟩
theorem d_X12_state_158 : gD cX12_state 158 (.ireturn) 1 159 := ⟨by decide +kernel, rfl⟩
theorem d_X12_state_159 : gD cX12_state 159 (.bipush (-100)) 2 161 := ⟨by decide +kernel, rfl⟩
theorem d_X12_state_161 : gD cX12_state 161 (.ireturn) 1 162 := ⟨by decide +kernel, rfl⟩
abbrev rm_X12_state : Room := { frames := 8, cells := 0, slots := 0, locals := 178 }
set_option maxRecDepth 20000 in
theorem w_X12_state {Γ : GC} {E : GE} (hO : gOk Γ E cX12_state RX12 5 rm_X12_state (some .int) "state") (o : Nat) (x1 : Int32) (x2 : Int32) (x3 : Int32) (x4 : Int32) (S : GS) : Go Γ E (gBsI Γ E) 5 (0, 0) 0 S [(0, vA (some o)), (1, vI x1), (2, vI x2), (3, vI x3), (4, vI x4)] [] (f_X12_state o x1 x2 x3 x4 S) := by
  unfold f_X12_state
  refine g_aload_n hO d_X12_state_0 (by rfl) 0 rfl ?_
  refine g_iconst hO 0 d_X12_state_1 (by decide) ?_
  refine h_putI hO cl_X12 0 rfl rfl wf_X12_100 (Or.inl rfl) d_X12_state_2 (fun S1 => ?_)
  refine g_aload_n hO d_X12_state_5 (by rfl) 0 rfl ?_
  refine g_iload_n hO d_X12_state_6 (by rfl) 1 rfl ?_
  refine g_iload_n hO d_X12_state_7 (by rfl) 2 rfl ?_
  refine g_iload_n hO d_X12_state_8 (by rfl) 3 rfl ?_
  refine k_virtIs hO cl_X12 mm_X12_layState lkV_X12_406 ⟨⟨Nat.le_of_ble_eq_true rfl, Nat.le_of_ble_eq_true rfl⟩, Nat.le_of_ble_eq_true rfl, Nat.le_of_ble_eq_true rfl⟩ (kn' := (0, 0)) rfl (As := [vI x1, vI x2, vI x3]) rfl (Nat.le_of_ble_eq_true rfl) (fun o' _ => t_X12_layState Γ.2.1 E o' x1 x2 x3 S1) d_X12_state_9 rfl (fun v2 S3 => ?_)
  refine g_if_ne (tgt := 18) hO d_X12_state_12.1 d_X12_state_12.2 (fun _ => ?_) (fun _ => ?_)
  · skip
    refine g_bipush hO (-100) d_X12_state_15 (by decide) ?_
    exact g_ret hO rfl rfl ⟨Nat.le_of_ble_eq_true rfl, Nat.le_of_ble_eq_true rfl⟩ rfl rfl d_X12_state_17.1
  · skip
    refine g_iload hO d_X12_state_18 4 rfl ?_
    refine g_bipush hO 20 d_X12_state_20 (by decide) ?_
    refine g_bipush hO 19 d_X12_state_22 (by decide) ?_
    refine g_aload_n hO d_X12_state_24 (by rfl) 0 rfl ?_
    refine h_getI hO cl_X12 26 rfl wf_X12_291 d_X12_state_25 (fun v4 => ?_)
    refine g_iadd hO d_X12_state_28 ?_
    refine k_statIp hO mm_X12_in lkS_X12_112 ⟨⟨Nat.le_of_ble_eq_true rfl, Nat.le_of_ble_eq_true rfl⟩, Nat.le_of_ble_eq_true rfl, Nat.le_of_ble_eq_true rfl⟩ (kn' := (0, 0)) rfl (As := [vI x4, vI 20, vI (19 + v4)]) rfl (Nat.le_of_ble_eq_true rfl) (t_X12_in Γ.2.1 E x4 20 (19 + v4) S3) d_X12_state_29 rfl (fun v5 => ?_)
    refine g_if_eq (tgt := 45) hO d_X12_state_32.1 d_X12_state_32.2 (fun _ => ?_) (fun _ => ?_)
    · skip
      refine g_iload hO d_X12_state_45 4 rfl ?_
      refine h_tsw (c := 0) (dt := 159) hO d_X12_state_47.1 11 (by decide) (by rfl) rfl (by decide) (by decide) d_X12_state_47.2 ⟨⟨104, by decide, ?_⟩, ⟨109, by decide, ?_⟩, ⟨114, by decide, ?_⟩, ⟨119, by decide, ?_⟩, ⟨124, by decide, ?_⟩, ⟨129, by decide, ?_⟩, ⟨134, by decide, ?_⟩, ⟨139, by decide, ?_⟩, ⟨144, by decide, ?_⟩, ⟨149, by decide, ?_⟩, ⟨154, by decide, ?_⟩, trivial⟩ ?_
      · skip
        refine g_aload_n hO d_X12_state_104 (by rfl) 0 rfl ?_
        refine h_getI hO cl_X12 30 rfl wf_X12_328 d_X12_state_105 (fun v7 => ?_)
        exact g_ret hO rfl rfl ⟨Nat.le_of_ble_eq_true rfl, Nat.le_of_ble_eq_true rfl⟩ rfl rfl d_X12_state_108.1
      · skip
        refine g_aload_n hO d_X12_state_109 (by rfl) 0 rfl ?_
        refine h_getI hO cl_X12 29 rfl wf_X12_325 d_X12_state_110 (fun v8 => ?_)
        exact g_ret hO rfl rfl ⟨Nat.le_of_ble_eq_true rfl, Nat.le_of_ble_eq_true rfl⟩ rfl rfl d_X12_state_113.1
      · skip
        refine g_aload_n hO d_X12_state_114 (by rfl) 0 rfl ?_
        refine h_getI hO cl_X12 31 rfl wf_X12_331 d_X12_state_115 (fun v9 => ?_)
        exact g_ret hO rfl rfl ⟨Nat.le_of_ble_eq_true rfl, Nat.le_of_ble_eq_true rfl⟩ rfl rfl d_X12_state_118.1
      · skip
        refine g_aload_n hO d_X12_state_119 (by rfl) 0 rfl ?_
        refine h_getI hO cl_X12 32 rfl wf_X12_334 d_X12_state_120 (fun v10 => ?_)
        exact g_ret hO rfl rfl ⟨Nat.le_of_ble_eq_true rfl, Nat.le_of_ble_eq_true rfl⟩ rfl rfl d_X12_state_123.1
      · skip
        refine g_aload_n hO d_X12_state_124 (by rfl) 0 rfl ?_
        refine h_getI hO cl_X12 33 rfl wf_X12_337 d_X12_state_125 (fun v11 => ?_)
        exact g_ret hO rfl rfl ⟨Nat.le_of_ble_eq_true rfl, Nat.le_of_ble_eq_true rfl⟩ rfl rfl d_X12_state_128.1
      · skip
        refine g_aload_n hO d_X12_state_129 (by rfl) 0 rfl ?_
        refine h_getI hO cl_X12 34 rfl wf_X12_340 d_X12_state_130 (fun v12 => ?_)
        exact g_ret hO rfl rfl ⟨Nat.le_of_ble_eq_true rfl, Nat.le_of_ble_eq_true rfl⟩ rfl rfl d_X12_state_133.1
      · skip
        refine g_aload_n hO d_X12_state_134 (by rfl) 0 rfl ?_
        refine h_getI hO cl_X12 35 rfl wf_X12_343 d_X12_state_135 (fun v13 => ?_)
        exact g_ret hO rfl rfl ⟨Nat.le_of_ble_eq_true rfl, Nat.le_of_ble_eq_true rfl⟩ rfl rfl d_X12_state_138.1
      · skip
        refine g_aload_n hO d_X12_state_139 (by rfl) 0 rfl ?_
        refine k_virtIp hO cl_X12 mm_X12_improper lkV_X12_409 ⟨⟨Nat.le_of_ble_eq_true rfl, Nat.le_of_ble_eq_true rfl⟩, Nat.le_of_ble_eq_true rfl, Nat.le_of_ble_eq_true rfl⟩ (kn' := (0, 0)) rfl (As := []) rfl (Nat.le_of_ble_eq_true rfl) (fun o' _ => t_X12_improper Γ.2.1 E o' S3) d_X12_state_140 rfl (fun v14 => ?_)
        exact g_ret hO rfl rfl ⟨Nat.le_of_ble_eq_true rfl, Nat.le_of_ble_eq_true rfl⟩ rfl rfl d_X12_state_143.1
      · skip
        refine g_aload_n hO d_X12_state_144 (by rfl) 0 rfl ?_
        refine h_getI hO cl_X12 36 rfl wf_X12_346 d_X12_state_145 (fun v16 => ?_)
        exact g_ret hO rfl rfl ⟨Nat.le_of_ble_eq_true rfl, Nat.le_of_ble_eq_true rfl⟩ rfl rfl d_X12_state_148.1
      · skip
        refine g_aload_n hO d_X12_state_149 (by rfl) 0 rfl ?_
        refine h_getI hO cl_X12 37 rfl wf_X12_349 d_X12_state_150 (fun v17 => ?_)
        exact g_ret hO rfl rfl ⟨Nat.le_of_ble_eq_true rfl, Nat.le_of_ble_eq_true rfl⟩ rfl rfl d_X12_state_153.1
      · skip
        refine g_aload_n hO d_X12_state_154 (by rfl) 0 rfl ?_
        refine h_getI hO cl_X12 38 rfl wf_X12_352 d_X12_state_155 (fun v18 => ?_)
        exact g_ret hO rfl rfl ⟨Nat.le_of_ble_eq_true rfl, Nat.le_of_ble_eq_true rfl⟩ rfl rfl d_X12_state_158.1
      · skip
        refine g_bipush hO (-100) d_X12_state_159 (by decide) ?_
        exact g_ret hO rfl rfl ⟨Nat.le_of_ble_eq_true rfl, Nat.le_of_ble_eq_true rfl⟩ rfl rfl d_X12_state_161.1
    · skip
      refine g_aload_n hO d_X12_state_35 (by rfl) 0 rfl ?_
      refine g_iload hO d_X12_state_36 4 rfl ?_
      refine g_bipush hO 20 d_X12_state_38 (by decide) ?_
      refine g_isub hO d_X12_state_40 ?_
      refine k_virtIp hO cl_X12 mm_X12_pressureOf lkV_X12_369 ⟨⟨Nat.le_of_ble_eq_true rfl, Nat.le_of_ble_eq_true rfl⟩, Nat.le_of_ble_eq_true rfl, Nat.le_of_ble_eq_true rfl⟩ (kn' := (0, 0)) rfl (As := [vI (x4 - 20)]) rfl (Nat.le_of_ble_eq_true rfl) (fun o' _ => t_X12_pressureOf Γ.2.1 E o' (x4 - 20) S3) d_X12_state_41 rfl (fun v19 => ?_)
      exact g_ret hO rfl rfl ⟨Nat.le_of_ble_eq_true rfl, Nat.le_of_ble_eq_true rfl⟩ rfl rfl d_X12_state_44.1
theorem t_X12_state (l : Launch) (E : GE) (o : Nat) (x1 : Int32) (x2 : Int32) (x3 : Int32) (x4 : Int32) (S : GS) : ∀ a, f_X12_state o x1 x2 x3 x4 S = some a → Ct l E yX12_state cX12_state 5 (some .int) rm_X12_state [vA (some o), vI x1, vI x2, vI x3, vI x4] S (some (vI a.1)) a.2 :=
  Ct_of (val := fun (b : Int32 × GS) => some (vI b.1)) (nxt := fun (b : Int32 × GS) => b.2) (by decide) (Nat.le_of_ble_eq_true rfl) (fun Γ hl hO => w_X12_state hO o x1 x2 x3 x4 S)
