theorem d_X12_owedBy_0 : gD cX12_owedBy 0 (.iconst 0) 1 1 := ⟨by decide +kernel, rfl⟩
theorem d_X12_owedBy_1 : gD cX12_owedBy 1 (.istore_n 2) 1 2 := ⟨by decide +kernel, rfl⟩
theorem d_X12_owedBy_2 : gD cX12_owedBy 2 (.iconst 0) 1 3 := ⟨by decide +kernel, rfl⟩
theorem d_X12_owedBy_3 : gD cX12_owedBy 3 (.istore_n 3) 1 4 := ⟨by decide +kernel, rfl⟩
theorem d_X12_owedBy_4 : gD cX12_owedBy 4 (.iload_n 3) 1 5 := ⟨by decide +kernel, rfl⟩
theorem d_X12_owedBy_5 : gD cX12_owedBy 5 (.aload_n 0) 1 6 := ⟨by decide +kernel, rfl⟩
theorem d_X12_owedBy_6 : gD cX12_owedBy 6 (.invokevirtual 513) 3 9 := ⟨by decide +kernel, rfl⟩
theorem d_X12_owedBy_9 : gD cX12_owedBy 9 (.if_icmp .ge 32) 3 12 ∧ ((9 : Nat) : Int) + 32 = ((41 : Nat) : Int) := ⟨⟨by decide +kernel, rfl⟩, by decide⟩
theorem d_X12_owedBy_12 : gD cX12_owedBy 12 (.iload_n 2) 1 13 := ⟨by decide +kernel, rfl⟩
theorem d_X12_owedBy_13 : gD cX12_owedBy 13 (.aload_n 0) 1 14 := ⟨by decide +kernel, rfl⟩
theorem d_X12_owedBy_14 : gD cX12_owedBy 14 (.iload_n 3) 1 15 := ⟨by decide +kernel, rfl⟩
theorem d_X12_owedBy_15 : gD cX12_owedBy 15 (.iconst 0) 1 16 := ⟨by decide +kernel, rfl⟩
theorem d_X12_owedBy_16 : gD cX12_owedBy 16 (.invokevirtual 516) 3 19 := ⟨by decide +kernel, rfl⟩
theorem d_X12_owedBy_19 : gD cX12_owedBy 19 (.iload_n 1) 1 20 := ⟨by decide +kernel, rfl⟩
theorem d_X12_owedBy_20 : gD cX12_owedBy 20 (.if_icmp .ne 12) 3 23 ∧ ((20 : Nat) : Int) + 12 = ((32 : Nat) : Int) := ⟨⟨by decide +kernel, rfl⟩, by decide⟩
theorem d_X12_owedBy_23 : gD cX12_owedBy 23 (.aload_n 0) 1 24 := ⟨by decide +kernel, rfl⟩
theorem d_X12_owedBy_24 : gD cX12_owedBy 24 (.iload_n 3) 1 25 := ⟨by decide +kernel, rfl⟩
theorem d_X12_owedBy_25 : gD cX12_owedBy 25 (.iconst 2) 1 26 := ⟨by decide +kernel, rfl⟩
theorem d_X12_owedBy_26 : gD cX12_owedBy 26 (.invokevirtual 516) 3 29 := ⟨by decide +kernel, rfl⟩
theorem d_X12_owedBy_29 : decode cX12_owedBy 29 = .ok (.goto 4, 3) ∧ ((29 : Nat) : Int) + 4 = ((33 : Nat) : Int) := ⟨by decide +kernel, by decide⟩
theorem d_X12_owedBy_32 : gD cX12_owedBy 32 (.iconst 0) 1 33 := ⟨by decide +kernel, rfl⟩
theorem d_X12_owedBy_33 : gD cX12_owedBy 33 (.iadd) 1 34 := ⟨by decide +kernel, rfl⟩
theorem d_X12_owedBy_34 : gD cX12_owedBy 34 (.istore_n 2) 1 35 := ⟨by decide +kernel, rfl⟩
theorem d_X12_owedBy_35 : gD cX12_owedBy 35 (.iinc 3 1) 3 38 := ⟨by decide +kernel, rfl⟩
theorem d_X12_owedBy_38 : decode cX12_owedBy 38 = .ok (.goto (-34), 3) ∧ ((38 : Nat) : Int) + (-34) = ((4 : Nat) : Int) := ⟨by decide +kernel, by decide⟩
theorem d_X12_owedBy_41 : gD cX12_owedBy 41 (.iload_n 2) 1 42 := ⟨by decide +kernel, rfl⟩
theorem d_X12_owedBy_42 : gD cX12_owedBy 42 (.ireturn) 1 43 := ⟨by decide +kernel, rfl⟩
abbrev rm_X12_owedBy : Room := { frames := 1, cells := 0, slots := 0, locals := 22 }
set_option maxRecDepth 20000 in
theorem w_X12_owedBy_33 {Γ : GC} {E : GE} (hO : gOk Γ E cX12_owedBy RX12 4 rm_X12_owedBy (some .int) "owedBy") (o : Nat) (S : GS) {k4 : (Int32 → Int32 → Int32 → Option Int32)} (hk4 : ∀ (z1 : Int32) (z2 : Int32) (z3 : Int32), Go Γ E (gBpI Γ E S) 4 (0, 0) 4 S [(0, vA (some o)), (1, vI z1), (2, vI z2), (3, vI z3)] [] (k4 z1 z2 z3)) (x1 : Int32) (x3 : Int32) (y0 : Int32) (y1 : Int32) : Go Γ E (gBpI Γ E S) 4 (0, 0) 33 S [(0, vA (some o)), (1, vI x1), (3, vI x3)] [vI y1, vI y0] (f_X12_owedBy_33 k4 o S x1 x3 y0 y1) := by
  unfold f_X12_owedBy_33
  refine g_iadd hO d_X12_owedBy_33 ?_
  refine g_istore_n (lv' := [(2, vI (y0 + y1)), (0, vA (some o)), (1, vI x1), (3, vI x3)]) hO d_X12_owedBy_34 (by rfl) (by decide) rfl ?_
  refine g_iinc (lv' := [(3, vI (x3 + 1)), (2, vI (y0 + y1)), (0, vA (some o)), (1, vI x1)]) hO 1 d_X12_owedBy_35 (by decide) 3 rfl (by decide) rfl ?_
  refine g_goto (tgt := 4) hO d_X12_owedBy_38.1 d_X12_owedBy_38.2 ?_
  exact g_sub [2, 3, 1, 0] rfl (hk4 _ _ _)
set_option maxRecDepth 20000 in
theorem w_X12_owedBy_4 {Γ : GC} {E : GE} (hO : gOk Γ E cX12_owedBy RX12 4 rm_X12_owedBy (some .int) "owedBy") (o : Nat) (S : GS) : ∀ (n : Nat) (x1 : Int32) (x2 : Int32) (x3 : Int32), Go Γ E (gBpI Γ E S) 4 (0, 0) 4 S [(0, vA (some o)), (1, vI x1), (2, vI x2), (3, vI x3)] [] (f_X12_owedBy_4 o S n x1 x2 x3) := by
  intro n
  induction n with
  | zero =>
    intro x1 x2 x3
    exact g_none
  | succ n ih =>
    intro x1 x2 x3
    rw [f_X12_owedBy_4]
    refine g_iload_n hO d_X12_owedBy_4 (by rfl) 3 rfl ?_
    refine g_aload_n hO d_X12_owedBy_5 (by rfl) 0 rfl ?_
    refine k_virtIp hO cl_X12 mm_X12_pawns lkV_X12_513 ⟨⟨Nat.le_of_ble_eq_true rfl, Nat.le_of_ble_eq_true rfl⟩, Nat.le_of_ble_eq_true rfl, Nat.le_of_ble_eq_true rfl⟩ (kn' := (0, 0)) rfl (As := []) rfl (Nat.le_of_ble_eq_true rfl) (fun o' _ => t_X12_pawns Γ.2.1 E o' S) d_X12_owedBy_6 rfl (fun v1 => ?_)
    refine g_ic_ge (tgt := 41) hO d_X12_owedBy_9.1 d_X12_owedBy_9.2 (fun _ => ?_) (fun _ => ?_)
    · skip
      refine g_iload_n hO d_X12_owedBy_41 (by rfl) 2 rfl ?_
      exact g_ret hO rfl rfl ⟨Nat.le_of_ble_eq_true rfl, Nat.le_of_ble_eq_true rfl⟩ rfl rfl d_X12_owedBy_42.1
    · skip
      refine g_iload_n hO d_X12_owedBy_12 (by rfl) 2 rfl ?_
      refine g_aload_n hO d_X12_owedBy_13 (by rfl) 0 rfl ?_
      refine g_iload_n hO d_X12_owedBy_14 (by rfl) 3 rfl ?_
      refine g_iconst hO 0 d_X12_owedBy_15 (by decide) ?_
      refine k_virtIp hO cl_X12 mm_X12_pawnOf lkV_X12_516 ⟨⟨Nat.le_of_ble_eq_true rfl, Nat.le_of_ble_eq_true rfl⟩, Nat.le_of_ble_eq_true rfl, Nat.le_of_ble_eq_true rfl⟩ (kn' := (0, 0)) rfl (As := [vI x3, vI 0]) rfl (Nat.le_of_ble_eq_true rfl) (fun o' _ => t_X12_pawnOf Γ.2.1 E o' x3 0 S) d_X12_owedBy_16 rfl (fun v3 => ?_)
      refine g_iload_n hO d_X12_owedBy_19 (by rfl) 1 rfl ?_
      refine g_ic_ne (tgt := 32) hO d_X12_owedBy_20.1 d_X12_owedBy_20.2 (fun _ => ?_) (fun _ => ?_)
      · skip
        refine g_aload_n hO d_X12_owedBy_23 (by rfl) 0 rfl ?_
        refine g_iload_n hO d_X12_owedBy_24 (by rfl) 3 rfl ?_
        refine g_iconst hO 2 d_X12_owedBy_25 (by decide) ?_
        refine k_virtIp hO cl_X12 mm_X12_pawnOf lkV_X12_516 ⟨⟨Nat.le_of_ble_eq_true rfl, Nat.le_of_ble_eq_true rfl⟩, Nat.le_of_ble_eq_true rfl, Nat.le_of_ble_eq_true rfl⟩ (kn' := (0, 0)) rfl (As := [vI x3, vI 2]) rfl (Nat.le_of_ble_eq_true rfl) (fun o' _ => t_X12_pawnOf Γ.2.1 E o' x3 2 S) d_X12_owedBy_26 rfl (fun v5 => ?_)
        refine g_goto (tgt := 33) hO d_X12_owedBy_29.1 d_X12_owedBy_29.2 ?_
        exact g_sub [0, 1, 3] rfl (w_X12_owedBy_33 hO o _ ih _ _ _ _)
      · skip
        refine g_iconst hO 0 d_X12_owedBy_32 (by decide) ?_
        exact g_sub [0, 1, 3] rfl (w_X12_owedBy_33 hO o _ ih _ _ _ _)
set_option maxRecDepth 20000 in
theorem w_X12_owedBy {Γ : GC} {E : GE} (hO : gOk Γ E cX12_owedBy RX12 4 rm_X12_owedBy (some .int) "owedBy") (o : Nat) (x1 : Int32) (S : GS) : Go Γ E (gBpI Γ E S) 4 (0, 0) 0 S [(0, vA (some o)), (1, vI x1)] [] (f_X12_owedBy o x1 S) := by
  unfold f_X12_owedBy
  refine g_iconst hO 0 d_X12_owedBy_0 (by decide) ?_
  refine g_istore_n (lv' := [(2, vI 0), (0, vA (some o)), (1, vI x1)]) hO d_X12_owedBy_1 (by rfl) (by decide) rfl ?_
  refine g_iconst hO 0 d_X12_owedBy_2 (by decide) ?_
  refine g_istore_n (lv' := [(3, vI 0), (2, vI 0), (0, vA (some o)), (1, vI x1)]) hO d_X12_owedBy_3 (by rfl) (by decide) rfl ?_
  exact g_sub [2, 3, 1, 0] rfl (w_X12_owedBy_4 hO o _ _ _ _ _)
theorem t_X12_owedBy (l : Launch) (E : GE) (o : Nat) (x1 : Int32) (S : GS) : ∀ a, f_X12_owedBy o x1 S = some a → Ct l E yX12_owedBy cX12_owedBy 4 (some .int) rm_X12_owedBy [vA (some o), vI x1] S (some (vI a)) S :=
  Ct_of (val := fun b => some (vI b)) (nxt := fun _ => S) (by decide) (Nat.le_of_ble_eq_true rfl) (fun Γ hl hO => w_X12_owedBy hO o x1 S)
theorem d_X12_chained_0 : gD cX12_chained 0 (.iconst 0) 1 1 := ⟨by decide +kernel, rfl⟩
theorem d_X12_chained_1 : gD cX12_chained 1 (.istore_n 1) 1 2 := ⟨by decide +kernel, rfl⟩
theorem d_X12_chained_2 : gD cX12_chained 2 (.iconst 1) 1 3 := ⟨by decide +kernel, rfl⟩
theorem d_X12_chained_3 : gD cX12_chained 3 (.istore_n 2) 1 4 := ⟨by decide +kernel, rfl⟩
theorem d_X12_chained_4 : gD cX12_chained 4 (.iload_n 2) 1 5 := ⟨by decide +kernel, rfl⟩
theorem d_X12_chained_5 : gD cX12_chained 5 (.bipush 8) 2 7 := ⟨by decide +kernel, rfl⟩
theorem d_X12_chained_7 : gD cX12_chained 7 (.if_icmp .ge 28) 3 10 ∧ ((7 : Nat) : Int) + 28 = ((35 : Nat) : Int) := ⟨⟨by decide +kernel, rfl⟩, by decide⟩
theorem d_X12_chained_10 : gD cX12_chained 10 (.aload_n 0) 1 11 := ⟨by decide +kernel, rfl⟩
theorem d_X12_chained_11 : gD cX12_chained 11 (.iload_n 2) 1 12 := ⟨by decide +kernel, rfl⟩
theorem d_X12_chained_12 : gD cX12_chained 12 (.invokevirtual 525) 3 15 := ⟨by decide +kernel, rfl⟩
theorem d_X12_chained_15 : gD cX12_chained 15 (.aload_n 0) 1 16 := ⟨by decide +kernel, rfl⟩
theorem d_X12_chained_16 : gD cX12_chained 16 (.iload_n 1) 1 17 := ⟨by decide +kernel, rfl⟩
theorem d_X12_chained_17 : gD cX12_chained 17 (.invokevirtual 525) 3 20 := ⟨by decide +kernel, rfl⟩
theorem d_X12_chained_20 : gD cX12_chained 20 (.if_icmp .le 7) 3 23 ∧ ((20 : Nat) : Int) + 7 = ((27 : Nat) : Int) := ⟨⟨by decide +kernel, rfl⟩, by decide⟩
theorem d_X12_chained_23 : gD cX12_chained 23 (.iload_n 2) 1 24 := ⟨by decide +kernel, rfl⟩
theorem d_X12_chained_24 : decode cX12_chained 24 = .ok (.goto 4, 3) ∧ ((24 : Nat) : Int) + 4 = ((28 : Nat) : Int) := ⟨by decide +kernel, by decide⟩
theorem d_X12_chained_27 : gD cX12_chained 27 (.iload_n 1) 1 28 := ⟨by decide +kernel, rfl⟩
theorem d_X12_chained_28 : gD cX12_chained 28 (.istore_n 1) 1 29 := ⟨by decide +kernel, rfl⟩
theorem d_X12_chained_29 : gD cX12_chained 29 (.iinc 2 1) 3 32 := ⟨by decide +kernel, rfl⟩
theorem d_X12_chained_32 : decode cX12_chained 32 = .ok (.goto (-28), 3) ∧ ((32 : Nat) : Int) + (-28) = ((4 : Nat) : Int) := ⟨by decide +kernel, by decide⟩
theorem d_X12_chained_35 : gD cX12_chained 35 (.aload_n 0) 1 36 := ⟨by decide +kernel, rfl⟩
theorem d_X12_chained_36 : gD cX12_chained 36 (.iload_n 1) 1 37 := ⟨by decide +kernel, rfl⟩
theorem d_X12_chained_37 : gD cX12_chained 37 (.invokevirtual 525) 3 40 := ⟨by decide +kernel, rfl⟩
theorem d_X12_chained_40 : gD cX12_chained 40 (.ifCond .ne 7) 3 43 ∧ ((40 : Nat) : Int) + 7 = ((47 : Nat) : Int) := ⟨⟨by decide +kernel, rfl⟩, by decide⟩
theorem d_X12_chained_43 : gD cX12_chained 43 (.iconst 0) 1 44 := ⟨by decide +kernel, rfl⟩
theorem d_X12_chained_44 : decode cX12_chained 44 = .ok (.goto 6, 3) ∧ ((44 : Nat) : Int) + 6 = ((50 : Nat) : Int) := ⟨by decide +kernel, by decide⟩
theorem d_X12_chained_47 : gD cX12_chained 47 (.iconst 1) 1 48 := ⟨by decide +kernel, rfl⟩
theorem d_X12_chained_48 : gD cX12_chained 48 (.iload_n 1) 1 49 := ⟨by decide +kernel, rfl⟩
theorem d_X12_chained_49 : gD cX12_chained 49 (.ishl) 1 50 := ⟨by decide +kernel, rfl⟩
theorem d_X12_chained_50 : gD cX12_chained 50 (.istore_n 2) 1 51 := ⟨by decide +kernel, rfl⟩
theorem d_X12_chained_51 : gD cX12_chained 51 (.iconst 0) 1 52 := ⟨by decide +kernel, rfl⟩
theorem d_X12_chained_52 : gD cX12_chained 52 (.istore_n 3) 1 53 := ⟨by decide +kernel, rfl⟩
theorem d_X12_chained_53 : gD cX12_chained 53 (.iload_n 3) 1 54 := ⟨by decide +kernel, rfl⟩
theorem d_X12_chained_54 : gD cX12_chained 54 (.bipush 8) 2 56 := ⟨by decide +kernel, rfl⟩
theorem d_X12_chained_56 : gD cX12_chained 56 (.if_icmp .ge 57) 3 59 ∧ ((56 : Nat) : Int) + 57 = ((113 : Nat) : Int) := ⟨⟨by decide +kernel, rfl⟩, by decide⟩
theorem d_X12_chained_59 : gD cX12_chained 59 (.iconst 0) 1 60 := ⟨by decide +kernel, rfl⟩
theorem d_X12_chained_60 : gD cX12_chained 60 (.istore 4) 2 62 := ⟨by decide +kernel, rfl⟩
theorem d_X12_chained_62 : gD cX12_chained 62 (.iload 4) 2 64 := ⟨by decide +kernel, rfl⟩
theorem d_X12_chained_64 : gD cX12_chained 64 (.aload_n 0) 1 65 := ⟨by decide +kernel, rfl⟩
theorem d_X12_chained_65 : gD cX12_chained 65 (.invokevirtual 513) 3 68 := ⟨by decide +kernel, rfl⟩
theorem d_X12_chained_68 : gD cX12_chained 68 (.if_icmp .ge 39) 3 71 ∧ ((68 : Nat) : Int) + 39 = ((107 : Nat) : Int) := ⟨⟨by decide +kernel, rfl⟩, by decide⟩
theorem d_X12_chained_71 : gD cX12_chained 71 (.iload_n 2) 1 72 := ⟨by decide +kernel, rfl⟩
theorem d_X12_chained_72 : gD cX12_chained 72 (.iload_n 2) 1 73 := ⟨by decide +kernel, rfl⟩
theorem d_X12_chained_73 : gD cX12_chained 73 (.aload_n 0) 1 74 := ⟨by decide +kernel, rfl⟩
theorem d_X12_chained_74 : gD cX12_chained 74 (.iload 4) 2 76 := ⟨by decide +kernel, rfl⟩
theorem d_X12_chained_76 : gD cX12_chained 76 (.iconst 0) 1 77 := ⟨by decide +kernel, rfl⟩
theorem d_X12_chained_77 : gD cX12_chained 77 (.invokevirtual 516) 3 80 := ⟨by decide +kernel, rfl⟩
theorem d_X12_chained_80 : gD cX12_chained 80 (.invokestatic 104) 3 83 := ⟨by decide +kernel, rfl⟩
theorem d_X12_chained_83 : gD cX12_chained 83 (.ifCond .eq 15) 3 86 ∧ ((83 : Nat) : Int) + 15 = ((98 : Nat) : Int) := ⟨⟨by decide +kernel, rfl⟩, by decide⟩
theorem d_X12_chained_86 : gD cX12_chained 86 (.iconst 1) 1 87 := ⟨by decide +kernel, rfl⟩
theorem d_X12_chained_87 : gD cX12_chained 87 (.aload_n 0) 1 88 := ⟨by decide +kernel, rfl⟩
theorem d_X12_chained_88 : gD cX12_chained 88 (.iload 4) 2 90 := ⟨by decide +kernel, rfl⟩
theorem d_X12_chained_90 : gD cX12_chained 90 (.iconst 1) 1 91 := ⟨by decide +kernel, rfl⟩
theorem d_X12_chained_91 : gD cX12_chained 91 (.invokevirtual 516) 3 94 := ⟨by decide +kernel, rfl⟩
theorem d_X12_chained_94 : gD cX12_chained 94 (.ishl) 1 95 := ⟨by decide +kernel, rfl⟩
theorem d_X12_chained_95 : decode cX12_chained 95 = .ok (.goto 4, 3) ∧ ((95 : Nat) : Int) + 4 = ((99 : Nat) : Int) := ⟨by decide +kernel, by decide⟩
theorem d_X12_chained_98 : gD cX12_chained 98 (.iconst 0) 1 99 := ⟨by decide +kernel, rfl⟩
theorem d_X12_chained_99 : gD cX12_chained 99 (.ior) 1 100 := ⟨by decide +kernel, rfl⟩
theorem d_X12_chained_100 : gD cX12_chained 100 (.istore_n 2) 1 101 := ⟨by decide +kernel, rfl⟩
theorem d_X12_chained_101 : gD cX12_chained 101 (.iinc 4 1) 3 104 := ⟨by decide +kernel, rfl⟩
theorem d_X12_chained_104 : decode cX12_chained 104 = .ok (.goto (-42), 3) ∧ ((104 : Nat) : Int) + (-42) = ((62 : Nat) : Int) := ⟨by decide +kernel, by decide⟩
theorem d_X12_chained_107 : gD cX12_chained 107 (.iinc 3 1) 3 110 := ⟨by decide +kernel, rfl⟩
theorem d_X12_chained_110 : decode cX12_chained 110 = .ok (.goto (-57), 3) ∧ ((110 : Nat) : Int) + (-57) = ((53 : Nat) : Int) := ⟨by decide +kernel, by decide⟩
theorem d_X12_chained_113 : gD cX12_chained 113 (.iload_n 2) 1 114 := ⟨by decide +kernel, rfl⟩
theorem d_X12_chained_114 : gD cX12_chained 114 (.ireturn) 1 115 := ⟨by decide +kernel, rfl⟩
abbrev rm_X12_chained : Room := { frames := 2, cells := 0, slots := 0, locals := 45 }
set_option maxRecDepth 20000 in
theorem w_X12_chained_28 {Γ : GC} {E : GE} (hO : gOk Γ E cX12_chained RX12 5 rm_X12_chained (some .int) "chained") (o : Nat) (S : GS) {k4 : (Int32 → Int32 → Option Int32)} (hk4 : ∀ (z1 : Int32) (z2 : Int32), Go Γ E (gBpI Γ E S) 5 (0, 0) 4 S [(0, vA (some o)), (1, vI z1), (2, vI z2)] [] (k4 z1 z2)) (x2 : Int32) (y0 : Int32) : Go Γ E (gBpI Γ E S) 5 (0, 0) 28 S [(0, vA (some o)), (2, vI x2)] [vI y0] (f_X12_chained_28 k4 o S x2 y0) := by
  unfold f_X12_chained_28
  refine g_istore_n (lv' := [(1, vI y0), (0, vA (some o)), (2, vI x2)]) hO d_X12_chained_28 (by rfl) (by decide) rfl ?_
  refine g_iinc (lv' := [(2, vI (x2 + 1)), (1, vI y0), (0, vA (some o))]) hO 1 d_X12_chained_29 (by decide) 2 rfl (by decide) rfl ?_
  refine g_goto (tgt := 4) hO d_X12_chained_32.1 d_X12_chained_32.2 ?_
  exact g_sub [2, 1, 0] rfl (hk4 _ _)
set_option maxRecDepth 20000 in
theorem w_X12_chained_99 {Γ : GC} {E : GE} (hO : gOk Γ E cX12_chained RX12 5 rm_X12_chained (some .int) "chained") (o : Nat) (S : GS) {k53 : (Int32 → Int32 → Option Int32)} {k62 : (Int32 → Int32 → Int32 → Option Int32)} (hk53 : ∀ (z2 : Int32) (z3 : Int32), Go Γ E (gBpI Γ E S) 5 (0, 0) 53 S [(0, vA (some o)), (2, vI z2), (3, vI z3)] [] (k53 z2 z3)) (hk62 : ∀ (z2 : Int32) (z3 : Int32) (z4 : Int32), Go Γ E (gBpI Γ E S) 5 (0, 0) 62 S [(0, vA (some o)), (2, vI z2), (3, vI z3), (4, vI z4)] [] (k62 z2 z3 z4)) (x3 : Int32) (x4 : Int32) (y0 : Int32) (y1 : Int32) : Go Γ E (gBpI Γ E S) 5 (0, 0) 99 S [(0, vA (some o)), (3, vI x3), (4, vI x4)] [vI y1, vI y0] (f_X12_chained_99 k53 k62 o S x3 x4 y0 y1) := by
  unfold f_X12_chained_99
  refine g_ior hO d_X12_chained_99 ?_
  refine g_istore_n (lv' := [(2, vI (y0 ||| y1)), (0, vA (some o)), (3, vI x3), (4, vI x4)]) hO d_X12_chained_100 (by rfl) (by decide) rfl ?_
  refine g_iinc (lv' := [(4, vI (x4 + 1)), (2, vI (y0 ||| y1)), (0, vA (some o)), (3, vI x3)]) hO 1 d_X12_chained_101 (by decide) 3 rfl (by decide) rfl ?_
  refine g_goto (tgt := 62) hO d_X12_chained_104.1 d_X12_chained_104.2 ?_
  exact g_sub [2, 1, 3, 0] rfl (hk62 _ _ _)
set_option maxRecDepth 20000 in
theorem w_X12_chained_62 {Γ : GC} {E : GE} (hO : gOk Γ E cX12_chained RX12 5 rm_X12_chained (some .int) "chained") (o : Nat) (S : GS) {k53 : (Int32 → Int32 → Option Int32)} (hk53 : ∀ (z2 : Int32) (z3 : Int32), Go Γ E (gBpI Γ E S) 5 (0, 0) 53 S [(0, vA (some o)), (2, vI z2), (3, vI z3)] [] (k53 z2 z3)) : ∀ (n : Nat) (x2 : Int32) (x3 : Int32) (x4 : Int32), Go Γ E (gBpI Γ E S) 5 (0, 0) 62 S [(0, vA (some o)), (2, vI x2), (3, vI x3), (4, vI x4)] [] (f_X12_chained_62 k53 o S n x2 x3 x4) := by
  intro n
  induction n with
  | zero =>
    intro x2 x3 x4
    exact g_none
  | succ n ih =>
    intro x2 x3 x4
    rw [f_X12_chained_62]
    refine g_iload hO d_X12_chained_62 3 rfl ?_
    refine g_aload_n hO d_X12_chained_64 (by rfl) 0 rfl ?_
    refine k_virtIp hO cl_X12 mm_X12_pawns lkV_X12_513 ⟨⟨Nat.le_of_ble_eq_true rfl, Nat.le_of_ble_eq_true rfl⟩, Nat.le_of_ble_eq_true rfl, Nat.le_of_ble_eq_true rfl⟩ (kn' := (0, 0)) rfl (As := []) rfl (Nat.le_of_ble_eq_true rfl) (fun o' _ => t_X12_pawns Γ.2.1 E o' S) d_X12_chained_65 rfl (fun v1 => ?_)
    refine g_ic_ge (tgt := 107) hO d_X12_chained_68.1 d_X12_chained_68.2 (fun _ => ?_) (fun _ => ?_)
    · skip
      refine g_iinc (lv' := [(3, vI (x3 + 1)), (0, vA (some o)), (2, vI x2), (4, vI x4)]) hO 1 d_X12_chained_107 (by decide) 2 rfl (by decide) rfl ?_
      refine g_goto (tgt := 53) hO d_X12_chained_110.1 d_X12_chained_110.2 ?_
      exact g_sub [1, 2, 0] rfl (hk53 _ _)
    · skip
      refine g_iload_n hO d_X12_chained_71 (by rfl) 1 rfl ?_
      refine g_iload_n hO d_X12_chained_72 (by rfl) 1 rfl ?_
      refine g_aload_n hO d_X12_chained_73 (by rfl) 0 rfl ?_
      refine g_iload hO d_X12_chained_74 3 rfl ?_
      refine g_iconst hO 0 d_X12_chained_76 (by decide) ?_
      refine k_virtIp hO cl_X12 mm_X12_pawnOf lkV_X12_516 ⟨⟨Nat.le_of_ble_eq_true rfl, Nat.le_of_ble_eq_true rfl⟩, Nat.le_of_ble_eq_true rfl, Nat.le_of_ble_eq_true rfl⟩ (kn' := (0, 0)) rfl (As := [vI x4, vI 0]) rfl (Nat.le_of_ble_eq_true rfl) (fun o' _ => t_X12_pawnOf Γ.2.1 E o' x4 0 S) d_X12_chained_77 rfl (fun v3 => ?_)
      refine k_statIp hO mm_X12_has lkS_X12_104 ⟨⟨Nat.le_of_ble_eq_true rfl, Nat.le_of_ble_eq_true rfl⟩, Nat.le_of_ble_eq_true rfl, Nat.le_of_ble_eq_true rfl⟩ (kn' := (0, 0)) rfl (As := [vI x2, vI v3]) rfl (Nat.le_of_ble_eq_true rfl) (t_X12_has Γ.2.1 E x2 v3 S) d_X12_chained_80 rfl (fun v5 => ?_)
      refine g_if_eq (tgt := 98) hO d_X12_chained_83.1 d_X12_chained_83.2 (fun _ => ?_) (fun _ => ?_)
      · skip
        refine g_iconst hO 0 d_X12_chained_98 (by decide) ?_
        exact g_sub [0, 2, 3] rfl (w_X12_chained_99 hO o _ hk53 ih _ _ _ _)
      · skip
        refine g_iconst hO 1 d_X12_chained_86 (by decide) ?_
        refine g_aload_n hO d_X12_chained_87 (by rfl) 0 rfl ?_
        refine g_iload hO d_X12_chained_88 3 rfl ?_
        refine g_iconst hO 1 d_X12_chained_90 (by decide) ?_
        refine k_virtIp hO cl_X12 mm_X12_pawnOf lkV_X12_516 ⟨⟨Nat.le_of_ble_eq_true rfl, Nat.le_of_ble_eq_true rfl⟩, Nat.le_of_ble_eq_true rfl, Nat.le_of_ble_eq_true rfl⟩ (kn' := (0, 0)) rfl (As := [vI x4, vI 1]) rfl (Nat.le_of_ble_eq_true rfl) (fun o' _ => t_X12_pawnOf Γ.2.1 E o' x4 1 S) d_X12_chained_91 rfl (fun v7 => ?_)
        refine g_ishl hO d_X12_chained_94 ?_
        refine g_goto (tgt := 99) hO d_X12_chained_95.1 d_X12_chained_95.2 ?_
        exact g_sub [0, 2, 3] rfl (w_X12_chained_99 hO o _ hk53 ih _ _ _ _)
set_option maxRecDepth 20000 in
theorem w_X12_chained_53 {Γ : GC} {E : GE} (hO : gOk Γ E cX12_chained RX12 5 rm_X12_chained (some .int) "chained") (o : Nat) (S : GS) : ∀ (n : Nat) (x2 : Int32) (x3 : Int32), Go Γ E (gBpI Γ E S) 5 (0, 0) 53 S [(0, vA (some o)), (2, vI x2), (3, vI x3)] [] (f_X12_chained_53 o S n x2 x3) := by
  intro n
  induction n with
  | zero =>
    intro x2 x3
    exact g_none
  | succ n ih =>
    intro x2 x3
    rw [f_X12_chained_53]
    refine g_iload_n hO d_X12_chained_53 (by rfl) 2 rfl ?_
    refine g_bipush hO 8 d_X12_chained_54 (by decide) ?_
    refine g_ic_ge (tgt := 113) hO d_X12_chained_56.1 d_X12_chained_56.2 (fun _ => ?_) (fun _ => ?_)
    · skip
      refine g_iload_n hO d_X12_chained_113 (by rfl) 1 rfl ?_
      exact g_ret hO rfl rfl ⟨Nat.le_of_ble_eq_true rfl, Nat.le_of_ble_eq_true rfl⟩ rfl rfl d_X12_chained_114.1
    · skip
      refine g_iconst hO 0 d_X12_chained_59 (by decide) ?_
      refine g_istore (lv' := [(4, vI 0), (0, vA (some o)), (2, vI x2), (3, vI x3)]) hO d_X12_chained_60 (by decide) rfl ?_
      exact g_sub [1, 2, 3, 0] rfl (w_X12_chained_62 hO o _ ih _ _ _ _)
set_option maxRecDepth 20000 in
theorem w_X12_chained_50 {Γ : GC} {E : GE} (hO : gOk Γ E cX12_chained RX12 5 rm_X12_chained (some .int) "chained") (o : Nat) (S : GS) (y0 : Int32) : Go Γ E (gBpI Γ E S) 5 (0, 0) 50 S [(0, vA (some o))] [vI y0] (f_X12_chained_50 o S y0) := by
  unfold f_X12_chained_50
  refine g_istore_n (lv' := [(2, vI y0), (0, vA (some o))]) hO d_X12_chained_50 (by rfl) (by decide) rfl ?_
  refine g_iconst hO 0 d_X12_chained_51 (by decide) ?_
  refine g_istore_n (lv' := [(3, vI 0), (2, vI y0), (0, vA (some o))]) hO d_X12_chained_52 (by rfl) (by decide) rfl ?_
  exact g_sub [2, 1, 0] rfl (w_X12_chained_53 hO o _ _ _ _)
set_option maxRecDepth 20000 in
theorem w_X12_chained_4 {Γ : GC} {E : GE} (hO : gOk Γ E cX12_chained RX12 5 rm_X12_chained (some .int) "chained") (o : Nat) (S : GS) : ∀ (n : Nat) (x1 : Int32) (x2 : Int32), Go Γ E (gBpI Γ E S) 5 (0, 0) 4 S [(0, vA (some o)), (1, vI x1), (2, vI x2)] [] (f_X12_chained_4 o S n x1 x2) := by
  intro n
  induction n with
  | zero =>
    intro x1 x2
    exact g_none
  | succ n ih =>
    intro x1 x2
    rw [f_X12_chained_4]
    refine g_iload_n hO d_X12_chained_4 (by rfl) 2 rfl ?_
    refine g_bipush hO 8 d_X12_chained_5 (by decide) ?_
    refine g_ic_ge (tgt := 35) hO d_X12_chained_7.1 d_X12_chained_7.2 (fun _ => ?_) (fun _ => ?_)
    · skip
      refine g_aload_n hO d_X12_chained_35 (by rfl) 0 rfl ?_
      refine g_iload_n hO d_X12_chained_36 (by rfl) 1 rfl ?_
      refine k_virtIp hO cl_X12 mm_X12_owedBy lkV_X12_525 ⟨⟨Nat.le_of_ble_eq_true rfl, Nat.le_of_ble_eq_true rfl⟩, Nat.le_of_ble_eq_true rfl, Nat.le_of_ble_eq_true rfl⟩ (kn' := (0, 0)) rfl (As := [vI x1]) rfl (Nat.le_of_ble_eq_true rfl) (fun o' _ => t_X12_owedBy Γ.2.1 E o' x1 S) d_X12_chained_37 rfl (fun v1 => ?_)
      refine g_if_ne (tgt := 47) hO d_X12_chained_40.1 d_X12_chained_40.2 (fun _ => ?_) (fun _ => ?_)
      · skip
        refine g_iconst hO 0 d_X12_chained_43 (by decide) ?_
        refine g_goto (tgt := 50) hO d_X12_chained_44.1 d_X12_chained_44.2 ?_
        exact g_sub [0] rfl (w_X12_chained_50 hO o _ _)
      · skip
        refine g_iconst hO 1 d_X12_chained_47 (by decide) ?_
        refine g_iload_n hO d_X12_chained_48 (by rfl) 1 rfl ?_
        refine g_ishl hO d_X12_chained_49 ?_
        exact g_sub [0] rfl (w_X12_chained_50 hO o _ _)
    · skip
      refine g_aload_n hO d_X12_chained_10 (by rfl) 0 rfl ?_
      refine g_iload_n hO d_X12_chained_11 (by rfl) 2 rfl ?_
      refine k_virtIp hO cl_X12 mm_X12_owedBy lkV_X12_525 ⟨⟨Nat.le_of_ble_eq_true rfl, Nat.le_of_ble_eq_true rfl⟩, Nat.le_of_ble_eq_true rfl, Nat.le_of_ble_eq_true rfl⟩ (kn' := (0, 0)) rfl (As := [vI x2]) rfl (Nat.le_of_ble_eq_true rfl) (fun o' _ => t_X12_owedBy Γ.2.1 E o' x2 S) d_X12_chained_12 rfl (fun v3 => ?_)
      refine g_aload_n hO d_X12_chained_15 (by rfl) 0 rfl ?_
      refine g_iload_n hO d_X12_chained_16 (by rfl) 1 rfl ?_
      refine k_virtIp hO cl_X12 mm_X12_owedBy lkV_X12_525 ⟨⟨Nat.le_of_ble_eq_true rfl, Nat.le_of_ble_eq_true rfl⟩, Nat.le_of_ble_eq_true rfl, Nat.le_of_ble_eq_true rfl⟩ (kn' := (0, 0)) rfl (As := [vI x1]) rfl (Nat.le_of_ble_eq_true rfl) (fun o' _ => t_X12_owedBy Γ.2.1 E o' x1 S) d_X12_chained_17 rfl (fun v5 => ?_)
      refine g_ic_le (tgt := 27) hO d_X12_chained_20.1 d_X12_chained_20.2 (fun _ => ?_) (fun _ => ?_)
      · skip
        refine g_iload_n hO d_X12_chained_27 (by rfl) 1 rfl ?_
        exact g_sub [0, 2] rfl (w_X12_chained_28 hO o _ ih _ _)
      · skip
        refine g_iload_n hO d_X12_chained_23 (by rfl) 2 rfl ?_
        refine g_goto (tgt := 28) hO d_X12_chained_24.1 d_X12_chained_24.2 ?_
        exact g_sub [0, 2] rfl (w_X12_chained_28 hO o _ ih _ _)
set_option maxRecDepth 20000 in
theorem w_X12_chained {Γ : GC} {E : GE} (hO : gOk Γ E cX12_chained RX12 5 rm_X12_chained (some .int) "chained") (o : Nat) (S : GS) : Go Γ E (gBpI Γ E S) 5 (0, 0) 0 S [(0, vA (some o))] [] (f_X12_chained o S) := by
  unfold f_X12_chained
  refine g_iconst hO 0 d_X12_chained_0 (by decide) ?_
  refine g_istore_n (lv' := [(1, vI 0), (0, vA (some o))]) hO d_X12_chained_1 (by rfl) (by decide) rfl ?_
  refine g_iconst hO 1 d_X12_chained_2 (by decide) ?_
  refine g_istore_n (lv' := [(2, vI 1), (1, vI 0), (0, vA (some o))]) hO d_X12_chained_3 (by rfl) (by decide) rfl ?_
  exact g_sub [2, 1, 0] rfl (w_X12_chained_4 hO o _ _ _ _)
theorem t_X12_chained (l : Launch) (E : GE) (o : Nat) (S : GS) : ∀ a, f_X12_chained o S = some a → Ct l E yX12_chained cX12_chained 5 (some .int) rm_X12_chained [vA (some o)] S (some (vI a)) S :=
  Ct_of (val := fun b => some (vI b)) (nxt := fun _ => S) (by decide) (Nat.le_of_ble_eq_true rfl) (fun Γ hl hO => w_X12_chained hO o S)
theorem d_X12_pays_0 : gD cX12_pays 0 (.aload_n 0) 1 1 := ⟨by decide +kernel, rfl⟩
theorem d_X12_pays_1 : gD cX12_pays 1 (.iconst 0) 1 2 := ⟨by decide +kernel, rfl⟩
theorem d_X12_pays_2 : gD cX12_pays 2 (.putfield 100) 3 5 := ⟨by decide +kernel, rfl⟩
theorem d_X12_pays_5 : gD cX12_pays 5 (.aload_n 0) 1 6 := ⟨by decide +kernel, rfl⟩
theorem d_X12_pays_6 : gD cX12_pays 6 (.iload_n 1) 1 7 := ⟨by decide +kernel, rfl⟩
theorem d_X12_pays_7 : gD cX12_pays 7 (.invokevirtual 510) 3 10 := ⟨by decide +kernel, rfl⟩
theorem d_X12_pays_10 : gD cX12_pays 10 (.ifCond .ne 5) 3 13 ∧ ((10 : Nat) : Int) + 5 = ((15 : Nat) : Int) := ⟨⟨by decide +kernel, rfl⟩, by decide⟩
theorem d_X12_pays_13 : gD cX12_pays 13 (.iconst (-1)) 1 14 := ⟨by decide +kernel, rfl⟩
theorem d_X12_pays_14 : gD cX12_pays 14 (.ireturn) 1 15 := ⟨by decide +kernel, rfl⟩
theorem d_X12_pays_15 : gD cX12_pays 15 (.iload_n 2) 1 16 := ⟨by decide +kernel, rfl⟩
theorem d_X12_pays_16 : gD cX12_pays 16 (.ifCond .eq 10) 3 19 ∧ ((16 : Nat) : Int) + 10 = ((26 : Nat) : Int) := ⟨⟨by decide +kernel, rfl⟩, by decide⟩
theorem d_X12_pays_19 : gD cX12_pays 19 (.aload_n 0) 1 20 := ⟨by decide +kernel, rfl⟩
theorem d_X12_pays_20 : gD cX12_pays 20 (.invokevirtual 528) 3 23 := ⟨by decide +kernel, rfl⟩
theorem d_X12_pays_23 : decode cX12_pays 23 = .ok (.goto 7, 3) ∧ ((23 : Nat) : Int) + 7 = ((30 : Nat) : Int) := ⟨by decide +kernel, by decide⟩
theorem d_X12_pays_26 : gD cX12_pays 26 (.aload_n 0) 1 27 := ⟨by decide +kernel, rfl⟩
theorem d_X12_pays_27 : gD cX12_pays 27 (.invokevirtual 531) 3 30 := ⟨by decide +kernel, rfl⟩
theorem d_X12_pays_30 : gD cX12_pays 30 (.ireturn) 1 31 := ⟨by decide +kernel, rfl⟩
abbrev rm_X12_pays : Room := { frames := 3, cells := 0, slots := 0, locals := 69 }
set_option maxRecDepth 20000 in
theorem w_X12_pays {Γ : GC} {E : GE} (hO : gOk Γ E cX12_pays RX12 3 rm_X12_pays (some .int) "pays") (o : Nat) (x1 : Int32) (x2 : Int32) (S : GS) : Go Γ E (gBsI Γ E) 3 (0, 0) 0 S [(0, vA (some o)), (1, vI x1), (2, vI x2)] [] (f_X12_pays o x1 x2 S) := by
  unfold f_X12_pays
  refine g_aload_n hO d_X12_pays_0 (by rfl) 0 rfl ?_
  refine g_iconst hO 0 d_X12_pays_1 (by decide) ?_
  refine h_putI hO cl_X12 0 rfl rfl wf_X12_100 (Or.inl rfl) d_X12_pays_2 (fun S1 => ?_)
  refine g_aload_n hO d_X12_pays_5 (by rfl) 0 rfl ?_
  refine g_iload_n hO d_X12_pays_6 (by rfl) 1 rfl ?_
  refine k_virtIs hO cl_X12 mm_X12_hasLedger lkV_X12_510 ⟨⟨Nat.le_of_ble_eq_true rfl, Nat.le_of_ble_eq_true rfl⟩, Nat.le_of_ble_eq_true rfl, Nat.le_of_ble_eq_true rfl⟩ (kn' := (0, 0)) rfl (As := [vI x1]) rfl (Nat.le_of_ble_eq_true rfl) (fun o' _ => t_X12_hasLedger Γ.2.1 E o' x1 S1) d_X12_pays_7 rfl (fun v2 S3 => ?_)
  refine g_if_ne (tgt := 15) hO d_X12_pays_10.1 d_X12_pays_10.2 (fun _ => ?_) (fun _ => ?_)
  · skip
    refine g_iconst hO (-1) d_X12_pays_13 (by decide) ?_
    exact g_ret hO rfl rfl ⟨Nat.le_of_ble_eq_true rfl, Nat.le_of_ble_eq_true rfl⟩ rfl rfl d_X12_pays_14.1
  · skip
    refine g_iload_n hO d_X12_pays_15 (by rfl) 2 rfl ?_
    refine g_if_eq (tgt := 26) hO d_X12_pays_16.1 d_X12_pays_16.2 (fun _ => ?_) (fun _ => ?_)
    · skip
      refine g_aload_n hO d_X12_pays_26 (by rfl) 0 rfl ?_
      refine k_virtIs hO cl_X12 mm_X12_payments lkV_X12_531 ⟨⟨Nat.le_of_ble_eq_true rfl, Nat.le_of_ble_eq_true rfl⟩, Nat.le_of_ble_eq_true rfl, Nat.le_of_ble_eq_true rfl⟩ (kn' := (0, 0)) rfl (As := []) rfl (Nat.le_of_ble_eq_true rfl) (fun o' _ => t_X12_payments Γ.2.1 E o' S3) d_X12_pays_27 rfl (fun v4 S5 => ?_)
      exact g_ret hO rfl rfl ⟨Nat.le_of_ble_eq_true rfl, Nat.le_of_ble_eq_true rfl⟩ rfl rfl d_X12_pays_30.1
    · skip
      refine g_aload_n hO d_X12_pays_19 (by rfl) 0 rfl ?_
      refine k_virtIp hO cl_X12 mm_X12_chained lkV_X12_528 ⟨⟨Nat.le_of_ble_eq_true rfl, Nat.le_of_ble_eq_true rfl⟩, Nat.le_of_ble_eq_true rfl, Nat.le_of_ble_eq_true rfl⟩ (kn' := (0, 0)) rfl (As := []) rfl (Nat.le_of_ble_eq_true rfl) (fun o' _ => t_X12_chained Γ.2.1 E o' S3) d_X12_pays_20 rfl (fun v6 => ?_)
      refine g_goto (tgt := 30) hO d_X12_pays_23.1 d_X12_pays_23.2 ?_
      exact g_ret hO rfl rfl ⟨Nat.le_of_ble_eq_true rfl, Nat.le_of_ble_eq_true rfl⟩ rfl rfl d_X12_pays_30.1
theorem t_X12_pays (l : Launch) (E : GE) (o : Nat) (x1 : Int32) (x2 : Int32) (S : GS) : ∀ a, f_X12_pays o x1 x2 S = some a → Ct l E yX12_pays cX12_pays 3 (some .int) rm_X12_pays [vA (some o), vI x1, vI x2] S (some (vI a.1)) a.2 :=
  Ct_of (val := fun (b : Int32 × GS) => some (vI b.1)) (nxt := fun (b : Int32 × GS) => b.2) (by decide) (Nat.le_of_ble_eq_true rfl) (fun Γ hl hO => w_X12_pays hO o x1 x2 S)
theorem d_X12_maids_0 : gD cX12_maids 0 (.aload_n 0) 1 1 := ⟨by decide +kernel, rfl⟩
theorem d_X12_maids_1 : gD cX12_maids 1 (.getfield 41) 3 4 := ⟨by decide +kernel, rfl⟩
theorem d_X12_maids_4 : gD cX12_maids 4 (.bipush 21) 2 6 := ⟨by decide +kernel, rfl⟩
theorem d_X12_maids_6 : gD cX12_maids 6 (.aload_n 0) 1 7 := ⟨by decide +kernel, rfl⟩
theorem d_X12_maids_7 : gD cX12_maids 7 (.getfield 534) 3 10 := ⟨by decide +kernel, rfl⟩
theorem d_X12_maids_10 : gD cX12_maids 10 (.imul) 1 11 := ⟨by decide +kernel, rfl⟩
theorem d_X12_maids_11 : gD cX12_maids 11 (.iaload) 1 12 := ⟨by decide +kernel, rfl⟩
theorem d_X12_maids_12 : gD cX12_maids 12 (.ireturn) 1 13 := ⟨by decide +kernel, rfl⟩
abbrev rm_X12_maids : Room := { frames := 0, cells := 0, slots := 0, locals := 0 }
set_option maxRecDepth 20000 in
theorem w_X12_maids {Γ : GC} {E : GE} (hO : gOk Γ E cX12_maids RX12 1 rm_X12_maids (some .int) "maids") (o : Nat) (S : GS) : Go Γ E (gBpI Γ E S) 1 (0, 0) 0 S [(0, vA (some o))] [] (f_X12_maids o S) := by
  unfold f_X12_maids
  refine g_aload_n hO d_X12_maids_0 (by rfl) 0 rfl ?_
  refine h_getR hO cl_X12 11 rfl wf_X12_41 d_X12_maids_1 (fun v1 => ?_)
  refine g_bipush hO 21 d_X12_maids_4 (by decide) ?_
  refine g_aload_n hO d_X12_maids_6 (by rfl) 0 rfl ?_
  refine h_getI hO cl_X12 59 rfl wf_X12_534 d_X12_maids_7 (fun v2 => ?_)
  refine g_imul hO d_X12_maids_10 ?_
  refine h_iald hO d_X12_maids_11 (fun v3 => ?_)
  exact g_ret hO rfl rfl ⟨Nat.le_of_ble_eq_true rfl, Nat.le_of_ble_eq_true rfl⟩ rfl rfl d_X12_maids_12.1
theorem t_X12_maids (l : Launch) (E : GE) (o : Nat) (S : GS) : ∀ a, f_X12_maids o S = some a → Ct l E yX12_maids cX12_maids 1 (some .int) rm_X12_maids [vA (some o)] S (some (vI a)) S :=
  Ct_of (val := fun b => some (vI b)) (nxt := fun _ => S) (by decide) (Nat.le_of_ble_eq_true rfl) (fun Γ hl hO => w_X12_maids hO o S)
theorem d_X12_maidOf_0 : gD cX12_maidOf 0 (.aload_n 0) 1 1 := ⟨by decide +kernel, rfl⟩
theorem d_X12_maidOf_1 : gD cX12_maidOf 1 (.getfield 41) 3 4 := ⟨by decide +kernel, rfl⟩
theorem d_X12_maidOf_4 : gD cX12_maidOf 4 (.bipush 21) 2 6 := ⟨by decide +kernel, rfl⟩
theorem d_X12_maidOf_6 : gD cX12_maidOf 6 (.aload_n 0) 1 7 := ⟨by decide +kernel, rfl⟩
theorem d_X12_maidOf_7 : gD cX12_maidOf 7 (.getfield 534) 3 10 := ⟨by decide +kernel, rfl⟩
theorem d_X12_maidOf_10 : gD cX12_maidOf 10 (.imul) 1 11 := ⟨by decide +kernel, rfl⟩
theorem d_X12_maidOf_11 : gD cX12_maidOf 11 (.iconst 1) 1 12 := ⟨by decide +kernel, rfl⟩
theorem d_X12_maidOf_12 : gD cX12_maidOf 12 (.iadd) 1 13 := ⟨by decide +kernel, rfl⟩
theorem d_X12_maidOf_13 : gD cX12_maidOf 13 (.iconst 2) 1 14 := ⟨by decide +kernel, rfl⟩
theorem d_X12_maidOf_14 : gD cX12_maidOf 14 (.iload_n 1) 1 15 := ⟨by decide +kernel, rfl⟩
theorem d_X12_maidOf_15 : gD cX12_maidOf 15 (.imul) 1 16 := ⟨by decide +kernel, rfl⟩
theorem d_X12_maidOf_16 : gD cX12_maidOf 16 (.iadd) 1 17 := ⟨by decide +kernel, rfl⟩
theorem d_X12_maidOf_17 : gD cX12_maidOf 17 (.iload_n 2) 1 18 := ⟨by decide +kernel, rfl⟩
theorem d_X12_maidOf_18 : gD cX12_maidOf 18 (.iadd) 1 19 := ⟨by decide +kernel, rfl⟩
theorem d_X12_maidOf_19 : gD cX12_maidOf 19 (.iaload) 1 20 := ⟨by decide +kernel, rfl⟩
theorem d_X12_maidOf_20 : gD cX12_maidOf 20 (.ireturn) 1 21 := ⟨by decide +kernel, rfl⟩
abbrev rm_X12_maidOf : Room := { frames := 0, cells := 0, slots := 0, locals := 0 }
set_option maxRecDepth 20000 in
theorem w_X12_maidOf {Γ : GC} {E : GE} (hO : gOk Γ E cX12_maidOf RX12 3 rm_X12_maidOf (some .int) "maidOf") (o : Nat) (x1 : Int32) (x2 : Int32) (S : GS) : Go Γ E (gBpI Γ E S) 3 (0, 0) 0 S [(0, vA (some o)), (1, vI x1), (2, vI x2)] [] (f_X12_maidOf o x1 x2 S) := by
  unfold f_X12_maidOf
  refine g_aload_n hO d_X12_maidOf_0 (by rfl) 0 rfl ?_
  refine h_getR hO cl_X12 11 rfl wf_X12_41 d_X12_maidOf_1 (fun v1 => ?_)
  refine g_bipush hO 21 d_X12_maidOf_4 (by decide) ?_
  refine g_aload_n hO d_X12_maidOf_6 (by rfl) 0 rfl ?_
  refine h_getI hO cl_X12 59 rfl wf_X12_534 d_X12_maidOf_7 (fun v2 => ?_)
  refine g_imul hO d_X12_maidOf_10 ?_
  refine g_iconst hO 1 d_X12_maidOf_11 (by decide) ?_
  refine g_iadd hO d_X12_maidOf_12 ?_
  refine g_iconst hO 2 d_X12_maidOf_13 (by decide) ?_
  refine g_iload_n hO d_X12_maidOf_14 (by rfl) 1 rfl ?_
  refine g_imul hO d_X12_maidOf_15 ?_
  refine g_iadd hO d_X12_maidOf_16 ?_
  refine g_iload_n hO d_X12_maidOf_17 (by rfl) 2 rfl ?_
  refine g_iadd hO d_X12_maidOf_18 ?_
  refine h_iald hO d_X12_maidOf_19 (fun v3 => ?_)
  exact g_ret hO rfl rfl ⟨Nat.le_of_ble_eq_true rfl, Nat.le_of_ble_eq_true rfl⟩ rfl rfl d_X12_maidOf_20.1
theorem t_X12_maidOf (l : Launch) (E : GE) (o : Nat) (x1 : Int32) (x2 : Int32) (S : GS) : ∀ a, f_X12_maidOf o x1 x2 S = some a → Ct l E yX12_maidOf cX12_maidOf 3 (some .int) rm_X12_maidOf [vA (some o), vI x1, vI x2] S (some (vI a)) S :=
  Ct_of (val := fun b => some (vI b)) (nxt := fun _ => S) (by decide) (Nat.le_of_ble_eq_true rfl) (fun Γ hl hO => w_X12_maidOf hO o x1 x2 S)
theorem d_X12_hasShifts_0 : gD cX12_hasShifts 0 (.aload_n 0) 1 1 := ⟨by decide +kernel, rfl⟩
theorem d_X12_hasShifts_1 : gD cX12_hasShifts 1 (.iload_n 1) 1 2 := ⟨by decide +kernel, rfl⟩
theorem d_X12_hasShifts_2 : gD cX12_hasShifts 2 (.putfield 534) 3 5 := ⟨by decide +kernel, rfl⟩
theorem d_X12_hasShifts_5 : gD cX12_hasShifts 5 (.aload_n 0) 1 6 := ⟨by decide +kernel, rfl⟩
theorem d_X12_hasShifts_6 : gD cX12_hasShifts 6 (.iconst 5) 1 7 := ⟨by decide +kernel, rfl⟩
theorem d_X12_hasShifts_7 : gD cX12_hasShifts 7 (.iload_n 1) 1 8 := ⟨by decide +kernel, rfl⟩
theorem d_X12_hasShifts_8 : gD cX12_hasShifts 8 (.invokevirtual 275) 3 11 := ⟨by decide +kernel, rfl⟩
theorem d_X12_hasShifts_11 : gD cX12_hasShifts 11 (.ireturn) 1 12 := ⟨by decide +kernel, rfl⟩
abbrev rm_X12_hasShifts : Room := { frames := 2, cells := 0, slots := 0, locals := 44 }
set_option maxRecDepth 20000 in
theorem w_X12_hasShifts {Γ : GC} {E : GE} (hO : gOk Γ E cX12_hasShifts RX12 2 rm_X12_hasShifts (some .boolean) "hasShifts") (o : Nat) (x1 : Int32) (S : GS) : Go Γ E (gBsI Γ E) 2 (0, 0) 0 S [(0, vA (some o)), (1, vI x1)] [] (f_X12_hasShifts o x1 S) := by
  unfold f_X12_hasShifts
  refine g_aload_n hO d_X12_hasShifts_0 (by rfl) 0 rfl ?_
  refine g_iload_n hO d_X12_hasShifts_1 (by rfl) 1 rfl ?_
  refine h_putI hO cl_X12 59 rfl rfl wf_X12_534 (Or.inl rfl) d_X12_hasShifts_2 (fun S1 => ?_)
  refine g_aload_n hO d_X12_hasShifts_5 (by rfl) 0 rfl ?_
  refine g_iconst hO 5 d_X12_hasShifts_6 (by decide) ?_
  refine g_iload_n hO d_X12_hasShifts_7 (by rfl) 1 rfl ?_
  refine k_virtIp hO cl_X12 mm_X12_is lkV_X12_275 ⟨⟨Nat.le_of_ble_eq_true rfl, Nat.le_of_ble_eq_true rfl⟩, Nat.le_of_ble_eq_true rfl, Nat.le_of_ble_eq_true rfl⟩ (kn' := (0, 0)) rfl (As := [vI 5, vI x1]) rfl (Nat.le_of_ble_eq_true rfl) (fun o' _ => t_X12_is Γ.2.1 E o' 5 x1 S1) d_X12_hasShifts_8 rfl (fun v2 => ?_)
  exact g_zret hO rfl ⟨Nat.le_of_ble_eq_true rfl, Nat.le_of_ble_eq_true rfl⟩ rfl rfl d_X12_hasShifts_11.1
theorem t_X12_hasShifts (l : Launch) (E : GE) (o : Nat) (x1 : Int32) (S : GS) : ∀ a, f_X12_hasShifts o x1 S = some a → Ct l E yX12_hasShifts cX12_hasShifts 2 (some .boolean) rm_X12_hasShifts [vA (some o), vI x1] S (some (vI a.1)) a.2 :=
  Ct_of (val := fun (b : Int32 × GS) => some (vI b.1)) (nxt := fun (b : Int32 × GS) => b.2) (by decide) (Nat.le_of_ble_eq_true rfl) (fun Γ hl hO => w_X12_hasShifts hO o x1 S)
theorem d_X12_maid_0 : gD cX12_maid 0 (.aload_n 0) 1 1 := ⟨by decide +kernel, rfl⟩
theorem d_X12_maid_1 : gD cX12_maid 1 (.iconst 0) 1 2 := ⟨by decide +kernel, rfl⟩
theorem d_X12_maid_2 : gD cX12_maid 2 (.putfield 100) 3 5 := ⟨by decide +kernel, rfl⟩
theorem d_X12_maid_5 : gD cX12_maid 5 (.aload_n 0) 1 6 := ⟨by decide +kernel, rfl⟩
theorem d_X12_maid_6 : gD cX12_maid 6 (.iload_n 1) 1 7 := ⟨by decide +kernel, rfl⟩
theorem d_X12_maid_7 : gD cX12_maid 7 (.invokevirtual 537) 3 10 := ⟨by decide +kernel, rfl⟩
theorem d_X12_maid_10 : gD cX12_maid 10 (.ifCond .ne 6) 3 13 ∧ ((10 : Nat) : Int) + 6 = ((16 : Nat) : Int) := ⟨⟨by decide +kernel, rfl⟩, by decide⟩
theorem d_X12_maid_13 : gD cX12_maid 13 (.bipush (-2)) 2 15 := ⟨by decide +kernel, rfl⟩
theorem d_X12_maid_15 : gD cX12_maid 15 (.ireturn) 1 16 := ⟨by decide +kernel, rfl⟩
theorem d_X12_maid_16 : gD cX12_maid 16 (.iload_n 2) 1 17 := ⟨by decide +kernel, rfl⟩
theorem d_X12_maid_17 : gD cX12_maid 17 (.iconst (-1)) 1 18 := ⟨by decide +kernel, rfl⟩
theorem d_X12_maid_18 : gD cX12_maid 18 (.if_icmp .ne 17) 3 21 ∧ ((18 : Nat) : Int) + 17 = ((35 : Nat) : Int) := ⟨⟨by decide +kernel, rfl⟩, by decide⟩
theorem d_X12_maid_21 : gD cX12_maid 21 (.iload_n 3) 1 22 := ⟨by decide +kernel, rfl⟩
theorem d_X12_maid_22 : gD cX12_maid 22 (.ifCond .ne 10) 3 25 ∧ ((22 : Nat) : Int) + 10 = ((32 : Nat) : Int) := ⟨⟨by decide +kernel, rfl⟩, by decide⟩
theorem d_X12_maid_25 : gD cX12_maid 25 (.aload_n 0) 1 26 := ⟨by decide +kernel, rfl⟩
theorem d_X12_maid_26 : gD cX12_maid 26 (.invokevirtual 540) 3 29 := ⟨by decide +kernel, rfl⟩
theorem d_X12_maid_29 : decode cX12_maid 29 = .ok (.goto 5, 3) ∧ ((29 : Nat) : Int) + 5 = ((34 : Nat) : Int) := ⟨by decide +kernel, by decide⟩
theorem d_X12_maid_32 : gD cX12_maid 32 (.bipush (-2)) 2 34 := ⟨by decide +kernel, rfl⟩
theorem d_X12_maid_34 : gD cX12_maid 34 (.ireturn) 1 35 := ⟨by decide +kernel, rfl⟩
theorem d_X12_maid_35 : gD cX12_maid 35 (.iload_n 2) 1 36 := ⟨by decide +kernel, rfl⟩
theorem d_X12_maid_36 : gD cX12_maid 36 (.iconst 0) 1 37 := ⟨by decide +kernel, rfl⟩
theorem d_X12_maid_37 : gD cX12_maid 37 (.aload_n 0) 1 38 := ⟨by decide +kernel, rfl⟩
theorem d_X12_maid_38 : gD cX12_maid 38 (.invokevirtual 540) 3 41 := ⟨by decide +kernel, rfl⟩
theorem d_X12_maid_41 : gD cX12_maid 41 (.iconst 1) 1 42 := ⟨by decide +kernel, rfl⟩
theorem d_X12_maid_42 : gD cX12_maid 42 (.isub) 1 43 := ⟨by decide +kernel, rfl⟩
theorem d_X12_maid_43 : gD cX12_maid 43 (.invokestatic 112) 3 46 := ⟨by decide +kernel, rfl⟩
theorem d_X12_maid_46 : gD cX12_maid 46 (.ifCond .eq 21) 3 49 ∧ ((46 : Nat) : Int) + 21 = ((67 : Nat) : Int) := ⟨⟨by decide +kernel, rfl⟩, by decide⟩
theorem d_X12_maid_49 : gD cX12_maid 49 (.iload_n 3) 1 50 := ⟨by decide +kernel, rfl⟩
theorem d_X12_maid_50 : gD cX12_maid 50 (.iconst 0) 1 51 := ⟨by decide +kernel, rfl⟩
theorem d_X12_maid_51 : gD cX12_maid 51 (.iconst 1) 1 52 := ⟨by decide +kernel, rfl⟩
theorem d_X12_maid_52 : gD cX12_maid 52 (.invokestatic 112) 3 55 := ⟨by decide +kernel, rfl⟩
theorem d_X12_maid_55 : gD cX12_maid 55 (.ifCond .eq 12) 3 58 ∧ ((55 : Nat) : Int) + 12 = ((67 : Nat) : Int) := ⟨⟨by decide +kernel, rfl⟩, by decide⟩
theorem d_X12_maid_58 : gD cX12_maid 58 (.aload_n 0) 1 59 := ⟨by decide +kernel, rfl⟩
theorem d_X12_maid_59 : gD cX12_maid 59 (.iload_n 2) 1 60 := ⟨by decide +kernel, rfl⟩
theorem d_X12_maid_60 : gD cX12_maid 60 (.iload_n 3) 1 61 := ⟨by decide +kernel, rfl⟩
theorem d_X12_maid_61 : gD cX12_maid 61 (.invokevirtual 543) 3 64 := ⟨by decide +kernel, rfl⟩
theorem d_X12_maid_64 : decode cX12_maid 64 = .ok (.goto 5, 3) ∧ ((64 : Nat) : Int) + 5 = ((69 : Nat) : Int) := ⟨by decide +kernel, by decide⟩
theorem d_X12_maid_67 : gD cX12_maid 67 (.bipush (-2)) 2 69 := ⟨by decide +kernel, rfl⟩
theorem d_X12_maid_69 : gD cX12_maid 69 (.ireturn) 1 70 := ⟨by decide +kernel, rfl⟩
abbrev rm_X12_maid : Room := { frames := 3, cells := 0, slots := 0, locals := 65 }
set_option maxRecDepth 20000 in
theorem w_X12_maid {Γ : GC} {E : GE} (hO : gOk Γ E cX12_maid RX12 4 rm_X12_maid (some .int) "maid") (o : Nat) (x1 : Int32) (x2 : Int32) (x3 : Int32) (S : GS) : Go Γ E (gBsI Γ E) 4 (0, 0) 0 S [(0, vA (some o)), (1, vI x1), (2, vI x2), (3, vI x3)] [] (f_X12_maid o x1 x2 x3 S) := by
  unfold f_X12_maid
  refine g_aload_n hO d_X12_maid_0 (by rfl) 0 rfl ?_
  refine g_iconst hO 0 d_X12_maid_1 (by decide) ?_
  refine h_putI hO cl_X12 0 rfl rfl wf_X12_100 (Or.inl rfl) d_X12_maid_2 (fun S1 => ?_)
  refine g_aload_n hO d_X12_maid_5 (by rfl) 0 rfl ?_
  refine g_iload_n hO d_X12_maid_6 (by rfl) 1 rfl ?_
  refine k_virtIs hO cl_X12 mm_X12_hasShifts lkV_X12_537 ⟨⟨Nat.le_of_ble_eq_true rfl, Nat.le_of_ble_eq_true rfl⟩, Nat.le_of_ble_eq_true rfl, Nat.le_of_ble_eq_true rfl⟩ (kn' := (0, 0)) rfl (As := [vI x1]) rfl (Nat.le_of_ble_eq_true rfl) (fun o' _ => t_X12_hasShifts Γ.2.1 E o' x1 S1) d_X12_maid_7 rfl (fun v2 S3 => ?_)
  refine g_if_ne (tgt := 16) hO d_X12_maid_10.1 d_X12_maid_10.2 (fun _ => ?_) (fun _ => ?_)
  · skip
    refine g_bipush hO (-2) d_X12_maid_13 (by decide) ?_
    exact g_ret hO rfl rfl ⟨Nat.le_of_ble_eq_true rfl, Nat.le_of_ble_eq_true rfl⟩ rfl rfl d_X12_maid_15.1
  · skip
    refine g_iload_n hO d_X12_maid_16 (by rfl) 2 rfl ?_
    refine g_iconst hO (-1) d_X12_maid_17 (by decide) ?_
    refine g_ic_ne (tgt := 35) hO d_X12_maid_18.1 d_X12_maid_18.2 (fun _ => ?_) (fun _ => ?_)
    · skip
      refine g_iload_n hO d_X12_maid_21 (by rfl) 3 rfl ?_
      refine g_if_ne (tgt := 32) hO d_X12_maid_22.1 d_X12_maid_22.2 (fun _ => ?_) (fun _ => ?_)
      · skip
        refine g_aload_n hO d_X12_maid_25 (by rfl) 0 rfl ?_
        refine k_virtIp hO cl_X12 mm_X12_maids lkV_X12_540 ⟨⟨Nat.le_of_ble_eq_true rfl, Nat.le_of_ble_eq_true rfl⟩, Nat.le_of_ble_eq_true rfl, Nat.le_of_ble_eq_true rfl⟩ (kn' := (0, 0)) rfl (As := []) rfl (Nat.le_of_ble_eq_true rfl) (fun o' _ => t_X12_maids Γ.2.1 E o' S3) d_X12_maid_26 rfl (fun v4 => ?_)
        refine g_goto (tgt := 34) hO d_X12_maid_29.1 d_X12_maid_29.2 ?_
        exact g_ret hO rfl rfl ⟨Nat.le_of_ble_eq_true rfl, Nat.le_of_ble_eq_true rfl⟩ rfl rfl d_X12_maid_34.1
      · skip
        refine g_bipush hO (-2) d_X12_maid_32 (by decide) ?_
        exact g_ret hO rfl rfl ⟨Nat.le_of_ble_eq_true rfl, Nat.le_of_ble_eq_true rfl⟩ rfl rfl d_X12_maid_34.1
    · skip
      refine g_iload_n hO d_X12_maid_35 (by rfl) 2 rfl ?_
      refine g_iconst hO 0 d_X12_maid_36 (by decide) ?_
      refine g_aload_n hO d_X12_maid_37 (by rfl) 0 rfl ?_
      refine k_virtIp hO cl_X12 mm_X12_maids lkV_X12_540 ⟨⟨Nat.le_of_ble_eq_true rfl, Nat.le_of_ble_eq_true rfl⟩, Nat.le_of_ble_eq_true rfl, Nat.le_of_ble_eq_true rfl⟩ (kn' := (0, 0)) rfl (As := []) rfl (Nat.le_of_ble_eq_true rfl) (fun o' _ => t_X12_maids Γ.2.1 E o' S3) d_X12_maid_38 rfl (fun v6 => ?_)
      refine g_iconst hO 1 d_X12_maid_41 (by decide) ?_
      refine g_isub hO d_X12_maid_42 ?_
      refine k_statIp hO mm_X12_in lkS_X12_112 ⟨⟨Nat.le_of_ble_eq_true rfl, Nat.le_of_ble_eq_true rfl⟩, Nat.le_of_ble_eq_true rfl, Nat.le_of_ble_eq_true rfl⟩ (kn' := (0, 0)) rfl (As := [vI x2, vI 0, vI (v6 - 1)]) rfl (Nat.le_of_ble_eq_true rfl) (t_X12_in Γ.2.1 E x2 0 (v6 - 1) S3) d_X12_maid_43 rfl (fun v8 => ?_)
      refine g_if_eq (tgt := 67) hO d_X12_maid_46.1 d_X12_maid_46.2 (fun _ => ?_) (fun _ => ?_)
      · skip
        refine g_bipush hO (-2) d_X12_maid_67 (by decide) ?_
        exact g_ret hO rfl rfl ⟨Nat.le_of_ble_eq_true rfl, Nat.le_of_ble_eq_true rfl⟩ rfl rfl d_X12_maid_69.1
      · skip
        refine g_iload_n hO d_X12_maid_49 (by rfl) 3 rfl ?_
        refine g_iconst hO 0 d_X12_maid_50 (by decide) ?_
        refine g_iconst hO 1 d_X12_maid_51 (by decide) ?_
        refine k_statIp hO mm_X12_in lkS_X12_112 ⟨⟨Nat.le_of_ble_eq_true rfl, Nat.le_of_ble_eq_true rfl⟩, Nat.le_of_ble_eq_true rfl, Nat.le_of_ble_eq_true rfl⟩ (kn' := (0, 0)) rfl (As := [vI x3, vI 0, vI 1]) rfl (Nat.le_of_ble_eq_true rfl) (t_X12_in Γ.2.1 E x3 0 1 S3) d_X12_maid_52 rfl (fun v10 => ?_)
        refine g_if_eq (tgt := 67) hO d_X12_maid_55.1 d_X12_maid_55.2 (fun _ => ?_) (fun _ => ?_)
        · skip
          refine g_bipush hO (-2) d_X12_maid_67 (by decide) ?_
          exact g_ret hO rfl rfl ⟨Nat.le_of_ble_eq_true rfl, Nat.le_of_ble_eq_true rfl⟩ rfl rfl d_X12_maid_69.1
        · skip
          refine g_aload_n hO d_X12_maid_58 (by rfl) 0 rfl ?_
          refine g_iload_n hO d_X12_maid_59 (by rfl) 2 rfl ?_
          refine g_iload_n hO d_X12_maid_60 (by rfl) 3 rfl ?_
          refine k_virtIp hO cl_X12 mm_X12_maidOf lkV_X12_543 ⟨⟨Nat.le_of_ble_eq_true rfl, Nat.le_of_ble_eq_true rfl⟩, Nat.le_of_ble_eq_true rfl, Nat.le_of_ble_eq_true rfl⟩ (kn' := (0, 0)) rfl (As := [vI x2, vI x3]) rfl (Nat.le_of_ble_eq_true rfl) (fun o' _ => t_X12_maidOf Γ.2.1 E o' x2 x3 S3) d_X12_maid_61 rfl (fun v12 => ?_)
          refine g_goto (tgt := 69) hO d_X12_maid_64.1 d_X12_maid_64.2 ?_
          exact g_ret hO rfl rfl ⟨Nat.le_of_ble_eq_true rfl, Nat.le_of_ble_eq_true rfl⟩ rfl rfl d_X12_maid_69.1
theorem t_X12_maid (l : Launch) (E : GE) (o : Nat) (x1 : Int32) (x2 : Int32) (x3 : Int32) (S : GS) : ∀ a, f_X12_maid o x1 x2 x3 S = some a → Ct l E yX12_maid cX12_maid 4 (some .int) rm_X12_maid [vA (some o), vI x1, vI x2, vI x3] S (some (vI a.1)) a.2 :=
  Ct_of (val := fun (b : Int32 × GS) => some (vI b.1)) (nxt := fun (b : Int32 × GS) => b.2) (by decide) (Nat.le_of_ble_eq_true rfl) (fun Γ hl hO => w_X12_maid hO o x1 x2 x3 S)
theorem d_X12_thereAt_0 : gD cX12_thereAt 0 (.iconst 0) 1 1 := ⟨by decide +kernel, rfl⟩
theorem d_X12_thereAt_1 : gD cX12_thereAt 1 (.istore_n 3) 1 2 := ⟨by decide +kernel, rfl⟩
theorem d_X12_thereAt_2 : gD cX12_thereAt 2 (.iconst 0) 1 3 := ⟨by decide +kernel, rfl⟩
theorem d_X12_thereAt_3 : gD cX12_thereAt 3 (.istore 4) 2 5 := ⟨by decide +kernel, rfl⟩
theorem d_X12_thereAt_5 : gD cX12_thereAt 5 (.iload 4) 2 7 := ⟨by decide +kernel, rfl⟩
theorem d_X12_thereAt_7 : gD cX12_thereAt 7 (.aload_n 0) 1 8 := ⟨by decide +kernel, rfl⟩
theorem d_X12_thereAt_8 : gD cX12_thereAt 8 (.invokevirtual 540) 3 11 := ⟨by decide +kernel, rfl⟩
theorem d_X12_thereAt_11 : gD cX12_thereAt 11 (.if_icmp .ge 47) 3 14 ∧ ((11 : Nat) : Int) + 47 = ((58 : Nat) : Int) := ⟨⟨by decide +kernel, rfl⟩, by decide⟩
theorem d_X12_thereAt_14 : gD cX12_thereAt 14 (.iload_n 3) 1 15 := ⟨by decide +kernel, rfl⟩
theorem d_X12_thereAt_15 : gD cX12_thereAt 15 (.iload_n 2) 1 16 := ⟨by decide +kernel, rfl⟩
theorem d_X12_thereAt_16 : gD cX12_thereAt 16 (.iload 4) 2 18 := ⟨by decide +kernel, rfl⟩
theorem d_X12_thereAt_18 : gD cX12_thereAt 18 (.invokestatic 104) 3 21 := ⟨by decide +kernel, rfl⟩
theorem d_X12_thereAt_21 : gD cX12_thereAt 21 (.ifCond .eq 28) 3 24 ∧ ((21 : Nat) : Int) + 28 = ((49 : Nat) : Int) := ⟨⟨by decide +kernel, rfl⟩, by decide⟩
theorem d_X12_thereAt_24 : gD cX12_thereAt 24 (.iload_n 1) 1 25 := ⟨by decide +kernel, rfl⟩
theorem d_X12_thereAt_25 : gD cX12_thereAt 25 (.aload_n 0) 1 26 := ⟨by decide +kernel, rfl⟩
theorem d_X12_thereAt_26 : gD cX12_thereAt 26 (.iload 4) 2 28 := ⟨by decide +kernel, rfl⟩
theorem d_X12_thereAt_28 : gD cX12_thereAt 28 (.iconst 0) 1 29 := ⟨by decide +kernel, rfl⟩
theorem d_X12_thereAt_29 : gD cX12_thereAt 29 (.invokevirtual 543) 3 32 := ⟨by decide +kernel, rfl⟩
theorem d_X12_thereAt_32 : gD cX12_thereAt 32 (.aload_n 0) 1 33 := ⟨by decide +kernel, rfl⟩
theorem d_X12_thereAt_33 : gD cX12_thereAt 33 (.iload 4) 2 35 := ⟨by decide +kernel, rfl⟩
theorem d_X12_thereAt_35 : gD cX12_thereAt 35 (.iconst 1) 1 36 := ⟨by decide +kernel, rfl⟩
theorem d_X12_thereAt_36 : gD cX12_thereAt 36 (.invokevirtual 543) 3 39 := ⟨by decide +kernel, rfl⟩
theorem d_X12_thereAt_39 : gD cX12_thereAt 39 (.invokestatic 112) 3 42 := ⟨by decide +kernel, rfl⟩
theorem d_X12_thereAt_42 : gD cX12_thereAt 42 (.ifCond .eq 7) 3 45 ∧ ((42 : Nat) : Int) + 7 = ((49 : Nat) : Int) := ⟨⟨by decide +kernel, rfl⟩, by decide⟩
theorem d_X12_thereAt_45 : gD cX12_thereAt 45 (.iconst 1) 1 46 := ⟨by decide +kernel, rfl⟩
theorem d_X12_thereAt_46 : decode cX12_thereAt 46 = .ok (.goto 4, 3) ∧ ((46 : Nat) : Int) + 4 = ((50 : Nat) : Int) := ⟨by decide +kernel, by decide⟩
theorem d_X12_thereAt_49 : gD cX12_thereAt 49 (.iconst 0) 1 50 := ⟨by decide +kernel, rfl⟩
theorem d_X12_thereAt_50 : gD cX12_thereAt 50 (.iadd) 1 51 := ⟨by decide +kernel, rfl⟩
theorem d_X12_thereAt_51 : gD cX12_thereAt 51 (.istore_n 3) 1 52 := ⟨by decide +kernel, rfl⟩
theorem d_X12_thereAt_52 : gD cX12_thereAt 52 (.iinc 4 1) 3 55 := ⟨by decide +kernel, rfl⟩
theorem d_X12_thereAt_55 : decode cX12_thereAt 55 = .ok (.goto (-50), 3) ∧ ((55 : Nat) : Int) + (-50) = ((5 : Nat) : Int) := ⟨by decide +kernel, by decide⟩
theorem d_X12_thereAt_58 : gD cX12_thereAt 58 (.iload_n 3) 1 59 := ⟨by decide +kernel, rfl⟩
theorem d_X12_thereAt_59 : gD cX12_thereAt 59 (.ireturn) 1 60 := ⟨by decide +kernel, rfl⟩
abbrev rm_X12_thereAt : Room := { frames := 1, cells := 0, slots := 0, locals := 22 }
set_option maxRecDepth 20000 in
theorem w_X12_thereAt_50 {Γ : GC} {E : GE} (hO : gOk Γ E cX12_thereAt RX12 5 rm_X12_thereAt (some .int) "thereAt") (o : Nat) (S : GS) {k5 : (Int32 → Int32 → Int32 → Int32 → Option Int32)} (hk5 : ∀ (z1 : Int32) (z2 : Int32) (z3 : Int32) (z4 : Int32), Go Γ E (gBpI Γ E S) 5 (0, 0) 5 S [(0, vA (some o)), (1, vI z1), (2, vI z2), (3, vI z3), (4, vI z4)] [] (k5 z1 z2 z3 z4)) (x1 : Int32) (x2 : Int32) (x4 : Int32) (y0 : Int32) (y1 : Int32) : Go Γ E (gBpI Γ E S) 5 (0, 0) 50 S [(0, vA (some o)), (1, vI x1), (2, vI x2), (4, vI x4)] [vI y1, vI y0] (f_X12_thereAt_50 k5 o S x1 x2 x4 y0 y1) := by
  unfold f_X12_thereAt_50
  refine g_iadd hO d_X12_thereAt_50 ?_
  refine g_istore_n (lv' := [(3, vI (y0 + y1)), (0, vA (some o)), (1, vI x1), (2, vI x2), (4, vI x4)]) hO d_X12_thereAt_51 (by rfl) (by decide) rfl ?_
  refine g_iinc (lv' := [(4, vI (x4 + 1)), (3, vI (y0 + y1)), (0, vA (some o)), (1, vI x1), (2, vI x2)]) hO 1 d_X12_thereAt_52 (by decide) 4 rfl (by decide) rfl ?_
  refine g_goto (tgt := 5) hO d_X12_thereAt_55.1 d_X12_thereAt_55.2 ?_
  exact g_sub [2, 3, 4, 1, 0] rfl (hk5 _ _ _ _)
set_option maxRecDepth 20000 in
theorem w_X12_thereAt_49 {Γ : GC} {E : GE} (hO : gOk Γ E cX12_thereAt RX12 5 rm_X12_thereAt (some .int) "thereAt") (o : Nat) (S : GS) {k5 : (Int32 → Int32 → Int32 → Int32 → Option Int32)} (hk5 : ∀ (z1 : Int32) (z2 : Int32) (z3 : Int32) (z4 : Int32), Go Γ E (gBpI Γ E S) 5 (0, 0) 5 S [(0, vA (some o)), (1, vI z1), (2, vI z2), (3, vI z3), (4, vI z4)] [] (k5 z1 z2 z3 z4)) (x1 : Int32) (x2 : Int32) (x4 : Int32) (y0 : Int32) : Go Γ E (gBpI Γ E S) 5 (0, 0) 49 S [(0, vA (some o)), (1, vI x1), (2, vI x2), (4, vI x4)] [vI y0] (f_X12_thereAt_49 k5 o S x1 x2 x4 y0) := by
  unfold f_X12_thereAt_49
  refine g_iconst hO 0 d_X12_thereAt_49 (by decide) ?_
  exact g_sub [0, 1, 2, 3] rfl (w_X12_thereAt_50 hO o _ hk5 _ _ _ _ _)
set_option maxRecDepth 20000 in
theorem w_X12_thereAt_5 {Γ : GC} {E : GE} (hO : gOk Γ E cX12_thereAt RX12 5 rm_X12_thereAt (some .int) "thereAt") (o : Nat) (S : GS) : ∀ (n : Nat) (x1 : Int32) (x2 : Int32) (x3 : Int32) (x4 : Int32), Go Γ E (gBpI Γ E S) 5 (0, 0) 5 S [(0, vA (some o)), (1, vI x1), (2, vI x2), (3, vI x3), (4, vI x4)] [] (f_X12_thereAt_5 o S n x1 x2 x3 x4) := by
  intro n
  induction n with
  | zero =>
    intro x1 x2 x3 x4
    exact g_none
  | succ n ih =>
    intro x1 x2 x3 x4
    rw [f_X12_thereAt_5]
    refine g_iload hO d_X12_thereAt_5 4 rfl ?_
    refine g_aload_n hO d_X12_thereAt_7 (by rfl) 0 rfl ?_
    refine k_virtIp hO cl_X12 mm_X12_maids lkV_X12_540 ⟨⟨Nat.le_of_ble_eq_true rfl, Nat.le_of_ble_eq_true rfl⟩, Nat.le_of_ble_eq_true rfl, Nat.le_of_ble_eq_true rfl⟩ (kn' := (0, 0)) rfl (As := []) rfl (Nat.le_of_ble_eq_true rfl) (fun o' _ => t_X12_maids Γ.2.1 E o' S) d_X12_thereAt_8 rfl (fun v1 => ?_)
    refine g_ic_ge (tgt := 58) hO d_X12_thereAt_11.1 d_X12_thereAt_11.2 (fun _ => ?_) (fun _ => ?_)
    · skip
      refine g_iload_n hO d_X12_thereAt_58 (by rfl) 3 rfl ?_
      exact g_ret hO rfl rfl ⟨Nat.le_of_ble_eq_true rfl, Nat.le_of_ble_eq_true rfl⟩ rfl rfl d_X12_thereAt_59.1
    · skip
      refine g_iload_n hO d_X12_thereAt_14 (by rfl) 3 rfl ?_
      refine g_iload_n hO d_X12_thereAt_15 (by rfl) 2 rfl ?_
      refine g_iload hO d_X12_thereAt_16 4 rfl ?_
      refine k_statIp hO mm_X12_has lkS_X12_104 ⟨⟨Nat.le_of_ble_eq_true rfl, Nat.le_of_ble_eq_true rfl⟩, Nat.le_of_ble_eq_true rfl, Nat.le_of_ble_eq_true rfl⟩ (kn' := (0, 0)) rfl (As := [vI x2, vI x4]) rfl (Nat.le_of_ble_eq_true rfl) (t_X12_has Γ.2.1 E x2 x4 S) d_X12_thereAt_18 rfl (fun v3 => ?_)
      refine g_if_eq (tgt := 49) hO d_X12_thereAt_21.1 d_X12_thereAt_21.2 (fun _ => ?_) (fun _ => ?_)
      · skip
        exact g_sub [0, 1, 2, 4] rfl (w_X12_thereAt_49 hO o _ ih _ _ _ _)
      · skip
        refine g_iload_n hO d_X12_thereAt_24 (by rfl) 1 rfl ?_
        refine g_aload_n hO d_X12_thereAt_25 (by rfl) 0 rfl ?_
        refine g_iload hO d_X12_thereAt_26 4 rfl ?_
        refine g_iconst hO 0 d_X12_thereAt_28 (by decide) ?_
        refine k_virtIp hO cl_X12 mm_X12_maidOf lkV_X12_543 ⟨⟨Nat.le_of_ble_eq_true rfl, Nat.le_of_ble_eq_true rfl⟩, Nat.le_of_ble_eq_true rfl, Nat.le_of_ble_eq_true rfl⟩ (kn' := (0, 0)) rfl (As := [vI x4, vI 0]) rfl (Nat.le_of_ble_eq_true rfl) (fun o' _ => t_X12_maidOf Γ.2.1 E o' x4 0 S) d_X12_thereAt_29 rfl (fun v5 => ?_)
        refine g_aload_n hO d_X12_thereAt_32 (by rfl) 0 rfl ?_
        refine g_iload hO d_X12_thereAt_33 4 rfl ?_
        refine g_iconst hO 1 d_X12_thereAt_35 (by decide) ?_
        refine k_virtIp hO cl_X12 mm_X12_maidOf lkV_X12_543 ⟨⟨Nat.le_of_ble_eq_true rfl, Nat.le_of_ble_eq_true rfl⟩, Nat.le_of_ble_eq_true rfl, Nat.le_of_ble_eq_true rfl⟩ (kn' := (0, 0)) rfl (As := [vI x4, vI 1]) rfl (Nat.le_of_ble_eq_true rfl) (fun o' _ => t_X12_maidOf Γ.2.1 E o' x4 1 S) d_X12_thereAt_36 rfl (fun v7 => ?_)
        refine k_statIp hO mm_X12_in lkS_X12_112 ⟨⟨Nat.le_of_ble_eq_true rfl, Nat.le_of_ble_eq_true rfl⟩, Nat.le_of_ble_eq_true rfl, Nat.le_of_ble_eq_true rfl⟩ (kn' := (0, 0)) rfl (As := [vI x1, vI v5, vI v7]) rfl (Nat.le_of_ble_eq_true rfl) (t_X12_in Γ.2.1 E x1 v5 v7 S) d_X12_thereAt_39 rfl (fun v9 => ?_)
        refine g_if_eq (tgt := 49) hO d_X12_thereAt_42.1 d_X12_thereAt_42.2 (fun _ => ?_) (fun _ => ?_)
        · skip
          exact g_sub [0, 1, 2, 4] rfl (w_X12_thereAt_49 hO o _ ih _ _ _ _)
        · skip
          refine g_iconst hO 1 d_X12_thereAt_45 (by decide) ?_
          refine g_goto (tgt := 50) hO d_X12_thereAt_46.1 d_X12_thereAt_46.2 ?_
          exact g_sub [0, 1, 2, 4] rfl (w_X12_thereAt_50 hO o _ ih _ _ _ _ _)
set_option maxRecDepth 20000 in
theorem w_X12_thereAt {Γ : GC} {E : GE} (hO : gOk Γ E cX12_thereAt RX12 5 rm_X12_thereAt (some .int) "thereAt") (o : Nat) (x1 : Int32) (x2 : Int32) (S : GS) : Go Γ E (gBpI Γ E S) 5 (0, 0) 0 S [(0, vA (some o)), (1, vI x1), (2, vI x2)] [] (f_X12_thereAt o x1 x2 S) := by
  unfold f_X12_thereAt
  refine g_iconst hO 0 d_X12_thereAt_0 (by decide) ?_
  refine g_istore_n (lv' := [(3, vI 0), (0, vA (some o)), (1, vI x1), (2, vI x2)]) hO d_X12_thereAt_1 (by rfl) (by decide) rfl ?_
  refine g_iconst hO 0 d_X12_thereAt_2 (by decide) ?_
  refine g_istore (lv' := [(4, vI 0), (3, vI 0), (0, vA (some o)), (1, vI x1), (2, vI x2)]) hO d_X12_thereAt_3 (by decide) rfl ?_
  exact g_sub [2, 3, 4, 1, 0] rfl (w_X12_thereAt_5 hO o _ _ _ _ _ _)
theorem t_X12_thereAt (l : Launch) (E : GE) (o : Nat) (x1 : Int32) (x2 : Int32) (S : GS) : ∀ a, f_X12_thereAt o x1 x2 S = some a → Ct l E yX12_thereAt cX12_thereAt 5 (some .int) rm_X12_thereAt [vA (some o), vI x1, vI x2] S (some (vI a)) S :=
  Ct_of (val := fun b => some (vI b)) (nxt := fun _ => S) (by decide) (Nat.le_of_ble_eq_true rfl) (fun Γ hl hO => w_X12_thereAt hO o x1 x2 S)
theorem d_X12_gapOf_0 : gD cX12_gapOf 0 (.iload_n 1) 1 1 := ⟨by decide +kernel, rfl⟩
theorem d_X12_gapOf_1 : gD cX12_gapOf 1 (.istore 5) 2 3 := ⟨by decide +kernel, rfl⟩
theorem d_X12_gapOf_3 : gD cX12_gapOf 3 (.iload 5) 2 5 := ⟨by decide +kernel, rfl⟩
theorem d_X12_gapOf_5 : gD cX12_gapOf 5 (.iload_n 2) 1 6 := ⟨by decide +kernel, rfl⟩
theorem d_X12_gapOf_6 : gD cX12_gapOf 6 (.if_icmp .gt 24) 3 9 ∧ ((6 : Nat) : Int) + 24 = ((30 : Nat) : Int) := ⟨⟨by decide +kernel, rfl⟩, by decide⟩
theorem d_X12_gapOf_9 : gD cX12_gapOf 9 (.aload_n 0) 1 10 := ⟨by decide +kernel, rfl⟩
theorem d_X12_gapOf_10 : gD cX12_gapOf 10 (.iload 5) 2 12 := ⟨by decide +kernel, rfl⟩
theorem d_X12_gapOf_12 : gD cX12_gapOf 12 (.iload 4) 2 14 := ⟨by decide +kernel, rfl⟩
theorem d_X12_gapOf_14 : gD cX12_gapOf 14 (.invokevirtual 546) 3 17 := ⟨by decide +kernel, rfl⟩
theorem d_X12_gapOf_17 : gD cX12_gapOf 17 (.iload_n 3) 1 18 := ⟨by decide +kernel, rfl⟩
theorem d_X12_gapOf_18 : gD cX12_gapOf 18 (.if_icmp .ge 6) 3 21 ∧ ((18 : Nat) : Int) + 6 = ((24 : Nat) : Int) := ⟨⟨by decide +kernel, rfl⟩, by decide⟩
theorem d_X12_gapOf_21 : gD cX12_gapOf 21 (.iload 5) 2 23 := ⟨by decide +kernel, rfl⟩
theorem d_X12_gapOf_23 : gD cX12_gapOf 23 (.ireturn) 1 24 := ⟨by decide +kernel, rfl⟩
theorem d_X12_gapOf_24 : gD cX12_gapOf 24 (.iinc 5 1) 3 27 := ⟨by decide +kernel, rfl⟩
theorem d_X12_gapOf_27 : decode cX12_gapOf 27 = .ok (.goto (-24), 3) ∧ ((27 : Nat) : Int) + (-24) = ((3 : Nat) : Int) := ⟨by decide +kernel, by decide⟩
theorem d_X12_gapOf_30 : gD cX12_gapOf 30 (.iconst (-1)) 1 31 := ⟨by decide +kernel, rfl⟩
theorem d_X12_gapOf_31 : gD cX12_gapOf 31 (.ireturn) 1 32 := ⟨by decide +kernel, rfl⟩
abbrev rm_X12_gapOf : Room := { frames := 2, cells := 0, slots := 0, locals := 46 }
set_option maxRecDepth 20000 in
theorem w_X12_gapOf_3 {Γ : GC} {E : GE} (hO : gOk Γ E cX12_gapOf RX12 6 rm_X12_gapOf (some .int) "gapOf") (o : Nat) (S : GS) : ∀ (n : Nat) (x2 : Int32) (x3 : Int32) (x4 : Int32) (x5 : Int32), Go Γ E (gBpI Γ E S) 6 (0, 0) 3 S [(0, vA (some o)), (2, vI x2), (3, vI x3), (4, vI x4), (5, vI x5)] [] (f_X12_gapOf_3 o S n x2 x3 x4 x5) := by
  intro n
  induction n with
  | zero =>
    intro x2 x3 x4 x5
    exact g_none
  | succ n ih =>
    intro x2 x3 x4 x5
    rw [f_X12_gapOf_3]
    refine g_iload hO d_X12_gapOf_3 4 rfl ?_
    refine g_iload_n hO d_X12_gapOf_5 (by rfl) 1 rfl ?_
    refine g_ic_gt (tgt := 30) hO d_X12_gapOf_6.1 d_X12_gapOf_6.2 (fun _ => ?_) (fun _ => ?_)
    · skip
      refine g_iconst hO (-1) d_X12_gapOf_30 (by decide) ?_
      exact g_ret hO rfl rfl ⟨Nat.le_of_ble_eq_true rfl, Nat.le_of_ble_eq_true rfl⟩ rfl rfl d_X12_gapOf_31.1
    · skip
      refine g_aload_n hO d_X12_gapOf_9 (by rfl) 0 rfl ?_
      refine g_iload hO d_X12_gapOf_10 4 rfl ?_
      refine g_iload hO d_X12_gapOf_12 3 rfl ?_
      refine k_virtIp hO cl_X12 mm_X12_thereAt lkV_X12_546 ⟨⟨Nat.le_of_ble_eq_true rfl, Nat.le_of_ble_eq_true rfl⟩, Nat.le_of_ble_eq_true rfl, Nat.le_of_ble_eq_true rfl⟩ (kn' := (0, 0)) rfl (As := [vI x5, vI x4]) rfl (Nat.le_of_ble_eq_true rfl) (fun o' _ => t_X12_thereAt Γ.2.1 E o' x5 x4 S) d_X12_gapOf_14 rfl (fun v1 => ?_)
      refine g_iload_n hO d_X12_gapOf_17 (by rfl) 2 rfl ?_
      refine g_ic_ge (tgt := 24) hO d_X12_gapOf_18.1 d_X12_gapOf_18.2 (fun _ => ?_) (fun _ => ?_)
      · skip
        refine g_iinc (lv' := [(5, vI (x5 + 1)), (0, vA (some o)), (2, vI x2), (3, vI x3), (4, vI x4)]) hO 1 d_X12_gapOf_24 (by decide) 4 rfl (by decide) rfl ?_
        refine g_goto (tgt := 3) hO d_X12_gapOf_27.1 d_X12_gapOf_27.2 ?_
        exact g_sub [1, 2, 3, 4, 0] rfl (ih _ _ _ _)
      · skip
        refine g_iload hO d_X12_gapOf_21 4 rfl ?_
        exact g_ret hO rfl rfl ⟨Nat.le_of_ble_eq_true rfl, Nat.le_of_ble_eq_true rfl⟩ rfl rfl d_X12_gapOf_23.1
set_option maxRecDepth 20000 in
theorem w_X12_gapOf {Γ : GC} {E : GE} (hO : gOk Γ E cX12_gapOf RX12 6 rm_X12_gapOf (some .int) "gapOf") (o : Nat) (x1 : Int32) (x2 : Int32) (x3 : Int32) (x4 : Int32) (S : GS) : Go Γ E (gBpI Γ E S) 6 (0, 0) 0 S [(0, vA (some o)), (1, vI x1), (2, vI x2), (3, vI x3), (4, vI x4)] [] (f_X12_gapOf o x1 x2 x3 x4 S) := by
  unfold f_X12_gapOf
  refine g_iload_n hO d_X12_gapOf_0 (by rfl) 1 rfl ?_
  refine g_istore (lv' := [(5, vI x1), (0, vA (some o)), (1, vI x1), (2, vI x2), (3, vI x3), (4, vI x4)]) hO d_X12_gapOf_1 (by decide) rfl ?_
  exact g_sub [1, 3, 4, 5, 0] rfl (w_X12_gapOf_3 hO o _ _ _ _ _ _)
theorem t_X12_gapOf (l : Launch) (E : GE) (o : Nat) (x1 : Int32) (x2 : Int32) (x3 : Int32) (x4 : Int32) (S : GS) : ∀ a, f_X12_gapOf o x1 x2 x3 x4 S = some a → Ct l E yX12_gapOf cX12_gapOf 6 (some .int) rm_X12_gapOf [vA (some o), vI x1, vI x2, vI x3, vI x4] S (some (vI a)) S :=
  Ct_of (val := fun b => some (vI b)) (nxt := fun _ => S) (by decide) (Nat.le_of_ble_eq_true rfl) (fun Γ hl hO => w_X12_gapOf hO o x1 x2 x3 x4 S)
theorem d_X12_cover_0 : gD cX12_cover 0 (.aload_n 0) 1 1 := ⟨by decide +kernel, rfl⟩
theorem d_X12_cover_1 : gD cX12_cover 1 (.iconst 0) 1 2 := ⟨by decide +kernel, rfl⟩
theorem d_X12_cover_2 : gD cX12_cover 2 (.putfield 100) 3 5 := ⟨by decide +kernel, rfl⟩
theorem d_X12_cover_5 : gD cX12_cover 5 (.aload_n 0) 1 6 := ⟨by decide +kernel, rfl⟩
theorem d_X12_cover_6 : gD cX12_cover 6 (.iload_n 1) 1 7 := ⟨by decide +kernel, rfl⟩
theorem d_X12_cover_7 : gD cX12_cover 7 (.invokevirtual 537) 3 10 := ⟨by decide +kernel, rfl⟩
theorem d_X12_cover_10 : gD cX12_cover 10 (.ifCond .eq 34) 3 13 ∧ ((10 : Nat) : Int) + 34 = ((44 : Nat) : Int) := ⟨⟨by decide +kernel, rfl⟩, by decide⟩
theorem d_X12_cover_13 : gD cX12_cover 13 (.iload_n 2) 1 14 := ⟨by decide +kernel, rfl⟩
theorem d_X12_cover_14 : gD cX12_cover 14 (.iconst 0) 1 15 := ⟨by decide +kernel, rfl⟩
theorem d_X12_cover_15 : gD cX12_cover 15 (.bipush 30) 2 17 := ⟨by decide +kernel, rfl⟩
theorem d_X12_cover_17 : gD cX12_cover 17 (.invokestatic 112) 3 20 := ⟨by decide +kernel, rfl⟩
theorem d_X12_cover_20 : gD cX12_cover 20 (.ifCond .eq 24) 3 23 ∧ ((20 : Nat) : Int) + 24 = ((44 : Nat) : Int) := ⟨⟨by decide +kernel, rfl⟩, by decide⟩
theorem d_X12_cover_23 : gD cX12_cover 23 (.iload_n 3) 1 24 := ⟨by decide +kernel, rfl⟩
theorem d_X12_cover_24 : gD cX12_cover 24 (.iload_n 2) 1 25 := ⟨by decide +kernel, rfl⟩
theorem d_X12_cover_25 : gD cX12_cover 25 (.bipush 30) 2 27 := ⟨by decide +kernel, rfl⟩
theorem d_X12_cover_27 : gD cX12_cover 27 (.invokestatic 112) 3 30 := ⟨by decide +kernel, rfl⟩
theorem d_X12_cover_30 : gD cX12_cover 30 (.ifCond .eq 14) 3 33 ∧ ((30 : Nat) : Int) + 14 = ((44 : Nat) : Int) := ⟨⟨by decide +kernel, rfl⟩, by decide⟩
theorem d_X12_cover_33 : gD cX12_cover 33 (.iload 4) 2 35 := ⟨by decide +kernel, rfl⟩
theorem d_X12_cover_35 : gD cX12_cover 35 (.iconst 1) 1 36 := ⟨by decide +kernel, rfl⟩
theorem d_X12_cover_36 : gD cX12_cover 36 (.bipush 10) 2 38 := ⟨by decide +kernel, rfl⟩
theorem d_X12_cover_38 : gD cX12_cover 38 (.invokestatic 112) 3 41 := ⟨by decide +kernel, rfl⟩
theorem d_X12_cover_41 : gD cX12_cover 41 (.ifCond .ne 5) 3 44 ∧ ((41 : Nat) : Int) + 5 = ((46 : Nat) : Int) := ⟨⟨by decide +kernel, rfl⟩, by decide⟩
theorem d_X12_cover_44 : gD cX12_cover 44 (.iconst (-1)) 1 45 := ⟨by decide +kernel, rfl⟩
theorem d_X12_cover_45 : gD cX12_cover 45 (.ireturn) 1 46 := ⟨by decide +kernel, rfl⟩
theorem d_X12_cover_46 : gD cX12_cover 46 (.iconst 1) 1 47 := ⟨by decide +kernel, rfl⟩
theorem d_X12_cover_47 : gD cX12_cover 47 (.aload_n 0) 1 48 := ⟨by decide +kernel, rfl⟩
theorem d_X12_cover_48 : gD cX12_cover 48 (.invokevirtual 540) 3 51 := ⟨by decide +kernel, rfl⟩
theorem d_X12_cover_51 : gD cX12_cover 51 (.ishl) 1 52 := ⟨by decide +kernel, rfl⟩
theorem d_X12_cover_52 : gD cX12_cover 52 (.iconst 1) 1 53 := ⟨by decide +kernel, rfl⟩
theorem d_X12_cover_53 : gD cX12_cover 53 (.isub) 1 54 := ⟨by decide +kernel, rfl⟩
theorem d_X12_cover_54 : gD cX12_cover 54 (.istore 6) 2 56 := ⟨by decide +kernel, rfl⟩
theorem d_X12_cover_56 : gD cX12_cover 56 (.iload 5) 2 58 := ⟨by decide +kernel, rfl⟩
theorem d_X12_cover_58 : gD cX12_cover 58 (.ifCond .eq 14) 3 61 ∧ ((58 : Nat) : Int) + 14 = ((72 : Nat) : Int) := ⟨⟨by decide +kernel, rfl⟩, by decide⟩
theorem d_X12_cover_61 : gD cX12_cover 61 (.aload_n 0) 1 62 := ⟨by decide +kernel, rfl⟩
theorem d_X12_cover_62 : gD cX12_cover 62 (.iload_n 2) 1 63 := ⟨by decide +kernel, rfl⟩
theorem d_X12_cover_63 : gD cX12_cover 63 (.iload_n 3) 1 64 := ⟨by decide +kernel, rfl⟩
theorem d_X12_cover_64 : gD cX12_cover 64 (.iload 4) 2 66 := ⟨by decide +kernel, rfl⟩
theorem d_X12_cover_66 : gD cX12_cover 66 (.iload 6) 2 68 := ⟨by decide +kernel, rfl⟩
theorem d_X12_cover_68 : gD cX12_cover 68 (.invokevirtual 549) 3 71 := ⟨by decide +kernel, rfl⟩
theorem d_X12_cover_71 : gD cX12_cover 71 (.ireturn) 1 72 := ⟨by decide +kernel, rfl⟩
theorem d_X12_cover_72 : gD cX12_cover 72 (.iconst (-1)) 1 73 := ⟨by decide +kernel, rfl⟩
theorem d_X12_cover_73 : gD cX12_cover 73 (.istore 7) 2 75 := ⟨by decide +kernel, rfl⟩
theorem d_X12_cover_75 : gD cX12_cover 75 (.iconst 0) 1 76 := ⟨by decide +kernel, rfl⟩
theorem d_X12_cover_76 : gD cX12_cover 76 (.istore 8) 2 78 := ⟨by decide +kernel, rfl⟩
theorem d_X12_cover_78 : gD cX12_cover 78 (.iload 8) 2 80 := ⟨by decide +kernel, rfl⟩
theorem d_X12_cover_80 : gD cX12_cover 80 (.iload 6) 2 82 := ⟨by decide +kernel, rfl⟩
theorem d_X12_cover_82 : gD cX12_cover 82 (.if_icmp .gt 63) 3 85 ∧ ((82 : Nat) : Int) + 63 = ((145 : Nat) : Int) := ⟨⟨by decide +kernel, rfl⟩, by decide⟩
theorem d_X12_cover_85 : gD cX12_cover 85 (.iload 7) 2 87 := ⟨by decide +kernel, rfl⟩
theorem d_X12_cover_87 : gD cX12_cover 87 (.iconst (-1)) 1 88 := ⟨by decide +kernel, rfl⟩
theorem d_X12_cover_88 : gD cX12_cover 88 (.if_icmp .eq 16) 3 91 ∧ ((88 : Nat) : Int) + 16 = ((104 : Nat) : Int) := ⟨⟨by decide +kernel, rfl⟩, by decide⟩
theorem d_X12_cover_91 : gD cX12_cover 91 (.iload 8) 2 93 := ⟨by decide +kernel, rfl⟩
theorem d_X12_cover_93 : gD cX12_cover 93 (.invokestatic 552) 3 96 := ⟨by decide +kernel, rfl⟩
theorem d_X12_cover_96 : gD cX12_cover 96 (.iload 7) 2 98 := ⟨by decide +kernel, rfl⟩
theorem d_X12_cover_98 : gD cX12_cover 98 (.invokestatic 552) 3 101 := ⟨by decide +kernel, rfl⟩
theorem d_X12_cover_101 : gD cX12_cover 101 (.if_icmp .ge 21) 3 104 ∧ ((101 : Nat) : Int) + 21 = ((122 : Nat) : Int) := ⟨⟨by decide +kernel, rfl⟩, by decide⟩
theorem d_X12_cover_104 : gD cX12_cover 104 (.aload_n 0) 1 105 := ⟨by decide +kernel, rfl⟩
theorem d_X12_cover_105 : gD cX12_cover 105 (.iload_n 2) 1 106 := ⟨by decide +kernel, rfl⟩
theorem d_X12_cover_106 : gD cX12_cover 106 (.iload_n 3) 1 107 := ⟨by decide +kernel, rfl⟩
theorem d_X12_cover_107 : gD cX12_cover 107 (.iload 4) 2 109 := ⟨by decide +kernel, rfl⟩
theorem d_X12_cover_109 : gD cX12_cover 109 (.iload 8) 2 111 := ⟨by decide +kernel, rfl⟩
theorem d_X12_cover_111 : gD cX12_cover 111 (.invokevirtual 549) 3 114 := ⟨by decide +kernel, rfl⟩
theorem d_X12_cover_114 : gD cX12_cover 114 (.iconst (-1)) 1 115 := ⟨by decide +kernel, rfl⟩
theorem d_X12_cover_115 : gD cX12_cover 115 (.if_icmp .ne 7) 3 118 ∧ ((115 : Nat) : Int) + 7 = ((122 : Nat) : Int) := ⟨⟨by decide +kernel, rfl⟩, by decide⟩
theorem d_X12_cover_118 : gD cX12_cover 118 (.iconst 1) 1 119 := ⟨by decide +kernel, rfl⟩
theorem d_X12_cover_119 : decode cX12_cover 119 = .ok (.goto 4, 3) ∧ ((119 : Nat) : Int) + 4 = ((123 : Nat) : Int) := ⟨by decide +kernel, by decide⟩
theorem d_X12_cover_122 : gD cX12_cover 122 (.iconst 0) 1 123 := ⟨by decide +kernel, rfl⟩
theorem d_X12_cover_123 : gD cX12_cover 123 (.istore 9) 2 125 := ⟨by decide +kernel, rfl⟩
theorem d_X12_cover_125 : gD cX12_cover 125 (.iload 9) 2 127 := ⟨by decide +kernel, rfl⟩
theorem d_X12_cover_127 : gD cX12_cover 127 (.ifCond .eq 8) 3 130 ∧ ((127 : Nat) : Int) + 8 = ((135 : Nat) : Int) := ⟨⟨by decide +kernel, rfl⟩, by decide⟩
theorem d_X12_cover_130 : gD cX12_cover 130 (.iload 8) 2 132 := ⟨by decide +kernel, rfl⟩
theorem d_X12_cover_132 : decode cX12_cover 132 = .ok (.goto 5, 3) ∧ ((132 : Nat) : Int) + 5 = ((137 : Nat) : Int) := ⟨by decide +kernel, by decide⟩
theorem d_X12_cover_135 : gD cX12_cover 135 (.iload 7) 2 137 := ⟨by decide +kernel, rfl⟩
theorem d_X12_cover_137 : gD cX12_cover 137 (.istore 7) 2 139 := ⟨by decide +kernel, rfl⟩
theorem d_X12_cover_139 : gD cX12_cover 139 (.iinc 8 1) 3 142 := ⟨by decide +kernel, rfl⟩
theorem d_X12_cover_142 : decode cX12_cover 142 = .ok (.goto (-64), 3) ∧ ((142 : Nat) : Int) + (-64) = ((78 : Nat) : Int) := ⟨by decide +kernel, by decide⟩
theorem d_X12_cover_145 : gD cX12_cover 145 (.iload 7) 2 147 := ⟨by decide +kernel, rfl⟩
theorem d_X12_cover_147 : gD cX12_cover 147 (.ireturn) 1 148 := ⟨by decide +kernel, rfl⟩
abbrev rm_X12_cover : Room := { frames := 3, cells := 0, slots := 0, locals := 71 }
set_option maxRecDepth 20000 in
theorem w_X12_cover_137 {Γ : GC} {E : GE} (hO : gOk Γ E cX12_cover RX12 10 rm_X12_cover (some .int) "cover") (o : Nat) {k78 : (Int32 → Int32 → Int32 → Int32 → Int32 → Int32 → GS → Option (Int32 × GS))} (hk78 : ∀ (z2 : Int32) (z3 : Int32) (z4 : Int32) (z6 : Int32) (z7 : Int32) (z8 : Int32) (S1 : GS), Go Γ E (gBsI Γ E) 10 (0, 0) 78 S1 [(0, vA (some o)), (2, vI z2), (3, vI z3), (4, vI z4), (6, vI z6), (7, vI z7), (8, vI z8)] [] (k78 z2 z3 z4 z6 z7 z8 S1)) (x2 : Int32) (x3 : Int32) (x4 : Int32) (x6 : Int32) (x8 : Int32) (y0 : Int32) (S : GS) : Go Γ E (gBsI Γ E) 10 (0, 0) 137 S [(0, vA (some o)), (2, vI x2), (3, vI x3), (4, vI x4), (6, vI x6), (8, vI x8)] [vI y0] (f_X12_cover_137 k78 o x2 x3 x4 x6 x8 y0 S) := by
  unfold f_X12_cover_137
  refine g_istore (lv' := [(7, vI y0), (0, vA (some o)), (2, vI x2), (3, vI x3), (4, vI x4), (6, vI x6), (8, vI x8)]) hO d_X12_cover_137 (by decide) rfl ?_
  refine g_iinc (lv' := [(8, vI (x8 + 1)), (7, vI y0), (0, vA (some o)), (2, vI x2), (3, vI x3), (4, vI x4), (6, vI x6)]) hO 1 d_X12_cover_139 (by decide) 6 rfl (by decide) rfl ?_
  refine g_goto (tgt := 78) hO d_X12_cover_142.1 d_X12_cover_142.2 ?_
  exact g_sub [2, 3, 4, 5, 6, 1, 0] rfl (hk78 _ _ _ _ _ _ _)
set_option maxRecDepth 20000 in
theorem w_X12_cover_123 {Γ : GC} {E : GE} (hO : gOk Γ E cX12_cover RX12 10 rm_X12_cover (some .int) "cover") (o : Nat) {k78 : (Int32 → Int32 → Int32 → Int32 → Int32 → Int32 → GS → Option (Int32 × GS))} (hk78 : ∀ (z2 : Int32) (z3 : Int32) (z4 : Int32) (z6 : Int32) (z7 : Int32) (z8 : Int32) (S1 : GS), Go Γ E (gBsI Γ E) 10 (0, 0) 78 S1 [(0, vA (some o)), (2, vI z2), (3, vI z3), (4, vI z4), (6, vI z6), (7, vI z7), (8, vI z8)] [] (k78 z2 z3 z4 z6 z7 z8 S1)) (x2 : Int32) (x3 : Int32) (x4 : Int32) (x6 : Int32) (x7 : Int32) (x8 : Int32) (y0 : Int32) (S : GS) : Go Γ E (gBsI Γ E) 10 (0, 0) 123 S [(0, vA (some o)), (2, vI x2), (3, vI x3), (4, vI x4), (6, vI x6), (7, vI x7), (8, vI x8)] [vI y0] (f_X12_cover_123 k78 o x2 x3 x4 x6 x7 x8 y0 S) := by
  unfold f_X12_cover_123
  refine g_istore (lv' := [(9, vI y0), (0, vA (some o)), (2, vI x2), (3, vI x3), (4, vI x4), (6, vI x6), (7, vI x7), (8, vI x8)]) hO d_X12_cover_123 (by decide) rfl ?_
  refine g_iload hO d_X12_cover_125 0 rfl ?_
  refine g_if_eq (tgt := 135) hO d_X12_cover_127.1 d_X12_cover_127.2 (fun _ => ?_) (fun _ => ?_)
  · skip
    refine g_iload hO d_X12_cover_135 6 rfl ?_
    exact g_sub [1, 2, 3, 4, 5, 7] rfl (w_X12_cover_137 hO o hk78 _ _ _ _ _ _ _)
  · skip
    refine g_iload hO d_X12_cover_130 7 rfl ?_
    refine g_goto (tgt := 137) hO d_X12_cover_132.1 d_X12_cover_132.2 ?_
    exact g_sub [1, 2, 3, 4, 5, 7] rfl (w_X12_cover_137 hO o hk78 _ _ _ _ _ _ _)
set_option maxRecDepth 20000 in
theorem w_X12_cover_122 {Γ : GC} {E : GE} (hO : gOk Γ E cX12_cover RX12 10 rm_X12_cover (some .int) "cover") (o : Nat) {k78 : (Int32 → Int32 → Int32 → Int32 → Int32 → Int32 → GS → Option (Int32 × GS))} (hk78 : ∀ (z2 : Int32) (z3 : Int32) (z4 : Int32) (z6 : Int32) (z7 : Int32) (z8 : Int32) (S1 : GS), Go Γ E (gBsI Γ E) 10 (0, 0) 78 S1 [(0, vA (some o)), (2, vI z2), (3, vI z3), (4, vI z4), (6, vI z6), (7, vI z7), (8, vI z8)] [] (k78 z2 z3 z4 z6 z7 z8 S1)) (x2 : Int32) (x3 : Int32) (x4 : Int32) (x6 : Int32) (x7 : Int32) (x8 : Int32) (S : GS) : Go Γ E (gBsI Γ E) 10 (0, 0) 122 S [(0, vA (some o)), (2, vI x2), (3, vI x3), (4, vI x4), (6, vI x6), (7, vI x7), (8, vI x8)] [] (f_X12_cover_122 k78 o x2 x3 x4 x6 x7 x8 S) := by
  unfold f_X12_cover_122
  refine g_iconst hO 0 d_X12_cover_122 (by decide) ?_
  exact g_sub [0, 1, 2, 3, 4, 5, 6] rfl (w_X12_cover_123 hO o hk78 _ _ _ _ _ _ _ _)
set_option maxRecDepth 20000 in
theorem w_X12_cover_104 {Γ : GC} {E : GE} (hO : gOk Γ E cX12_cover RX12 10 rm_X12_cover (some .int) "cover") (o : Nat) {k78 : (Int32 → Int32 → Int32 → Int32 → Int32 → Int32 → GS → Option (Int32 × GS))} (hk78 : ∀ (z2 : Int32) (z3 : Int32) (z4 : Int32) (z6 : Int32) (z7 : Int32) (z8 : Int32) (S1 : GS), Go Γ E (gBsI Γ E) 10 (0, 0) 78 S1 [(0, vA (some o)), (2, vI z2), (3, vI z3), (4, vI z4), (6, vI z6), (7, vI z7), (8, vI z8)] [] (k78 z2 z3 z4 z6 z7 z8 S1)) (x2 : Int32) (x3 : Int32) (x4 : Int32) (x6 : Int32) (x7 : Int32) (x8 : Int32) (S : GS) : Go Γ E (gBsI Γ E) 10 (0, 0) 104 S [(0, vA (some o)), (2, vI x2), (3, vI x3), (4, vI x4), (6, vI x6), (7, vI x7), (8, vI x8)] [] (f_X12_cover_104 k78 o x2 x3 x4 x6 x7 x8 S) := by
  unfold f_X12_cover_104
  refine g_aload_n hO d_X12_cover_104 (by rfl) 0 rfl ?_
  refine g_iload_n hO d_X12_cover_105 (by rfl) 1 rfl ?_
  refine g_iload_n hO d_X12_cover_106 (by rfl) 2 rfl ?_
  refine g_iload hO d_X12_cover_107 3 rfl ?_
  refine g_iload hO d_X12_cover_109 6 rfl ?_
  refine k_virtIp hO cl_X12 mm_X12_gapOf lkV_X12_549 ⟨⟨Nat.le_of_ble_eq_true rfl, Nat.le_of_ble_eq_true rfl⟩, Nat.le_of_ble_eq_true rfl, Nat.le_of_ble_eq_true rfl⟩ (kn' := (0, 0)) rfl (As := [vI x2, vI x3, vI x4, vI x8]) rfl (Nat.le_of_ble_eq_true rfl) (fun o' _ => t_X12_gapOf Γ.2.1 E o' x2 x3 x4 x8 S) d_X12_cover_111 rfl (fun v1 => ?_)
  refine g_iconst hO (-1) d_X12_cover_114 (by decide) ?_
  refine g_ic_ne (tgt := 122) hO d_X12_cover_115.1 d_X12_cover_115.2 (fun _ => ?_) (fun _ => ?_)
  · skip
    refine g_iconst hO 1 d_X12_cover_118 (by decide) ?_
    refine g_goto (tgt := 123) hO d_X12_cover_119.1 d_X12_cover_119.2 ?_
    exact g_sub [0, 1, 2, 3, 4, 5, 6] rfl (w_X12_cover_123 hO o hk78 _ _ _ _ _ _ _ _)
  · skip
    exact g_sub [0, 1, 2, 3, 4, 5, 6] rfl (w_X12_cover_122 hO o hk78 _ _ _ _ _ _ _)
set_option maxRecDepth 20000 in
theorem w_X12_cover_78 {Γ : GC} {E : GE} (hO : gOk Γ E cX12_cover RX12 10 rm_X12_cover (some .int) "cover") (o : Nat) : ∀ (n : Nat) (x2 : Int32) (x3 : Int32) (x4 : Int32) (x6 : Int32) (x7 : Int32) (x8 : Int32) (S : GS), Go Γ E (gBsI Γ E) 10 (0, 0) 78 S [(0, vA (some o)), (2, vI x2), (3, vI x3), (4, vI x4), (6, vI x6), (7, vI x7), (8, vI x8)] [] (f_X12_cover_78 o n x2 x3 x4 x6 x7 x8 S) := by
  intro n
  induction n with
  | zero =>
    intro x2 x3 x4 x6 x7 x8 S
    exact g_none
  | succ n ih =>
    intro x2 x3 x4 x6 x7 x8 S
    rw [f_X12_cover_78]
    refine g_iload hO d_X12_cover_78 6 rfl ?_
    refine g_iload hO d_X12_cover_80 4 rfl ?_
    refine g_ic_gt (tgt := 145) hO d_X12_cover_82.1 d_X12_cover_82.2 (fun _ => ?_) (fun _ => ?_)
    · skip
      refine g_iload hO d_X12_cover_145 5 rfl ?_
      exact g_ret hO rfl rfl ⟨Nat.le_of_ble_eq_true rfl, Nat.le_of_ble_eq_true rfl⟩ rfl rfl d_X12_cover_147.1
    · skip
      refine g_iload hO d_X12_cover_85 5 rfl ?_
      refine g_iconst hO (-1) d_X12_cover_87 (by decide) ?_
      refine g_ic_eq (tgt := 104) hO d_X12_cover_88.1 d_X12_cover_88.2 (fun _ => ?_) (fun _ => ?_)
      · skip
        exact g_sub [0, 1, 2, 3, 4, 5, 6] rfl (w_X12_cover_104 hO o ih _ _ _ _ _ _ _)
      · skip
        refine g_iload hO d_X12_cover_91 6 rfl ?_
        refine k_statIp hO mm_X12_ones lkS_X12_552 ⟨⟨Nat.le_of_ble_eq_true rfl, Nat.le_of_ble_eq_true rfl⟩, Nat.le_of_ble_eq_true rfl, Nat.le_of_ble_eq_true rfl⟩ (kn' := (0, 0)) rfl (As := [vI x8]) rfl (Nat.le_of_ble_eq_true rfl) (t_X12_ones Γ.2.1 E x8 S) d_X12_cover_93 rfl (fun v1 => ?_)
        refine g_iload hO d_X12_cover_96 5 rfl ?_
        refine k_statIp hO mm_X12_ones lkS_X12_552 ⟨⟨Nat.le_of_ble_eq_true rfl, Nat.le_of_ble_eq_true rfl⟩, Nat.le_of_ble_eq_true rfl, Nat.le_of_ble_eq_true rfl⟩ (kn' := (0, 0)) rfl (As := [vI x7]) rfl (Nat.le_of_ble_eq_true rfl) (t_X12_ones Γ.2.1 E x7 S) d_X12_cover_98 rfl (fun v3 => ?_)
        refine g_ic_ge (tgt := 122) hO d_X12_cover_101.1 d_X12_cover_101.2 (fun _ => ?_) (fun _ => ?_)
        · skip
          exact g_sub [0, 1, 2, 3, 4, 5, 6] rfl (w_X12_cover_122 hO o ih _ _ _ _ _ _ _)
        · skip
          exact g_sub [0, 1, 2, 3, 4, 5, 6] rfl (w_X12_cover_104 hO o ih _ _ _ _ _ _ _)
set_option maxRecDepth 20000 in
theorem w_X12_cover {Γ : GC} {E : GE} (hO : gOk Γ E cX12_cover RX12 10 rm_X12_cover (some .int) "cover") (o : Nat) (x1 : Int32) (x2 : Int32) (x3 : Int32) (x4 : Int32) (x5 : Int32) (S : GS) : Go Γ E (gBsI Γ E) 10 (0, 0) 0 S [(0, vA (some o)), (1, vI x1), (2, vI x2), (3, vI x3), (4, vI x4), (5, vI x5)] [] (f_X12_cover o x1 x2 x3 x4 x5 S) := by
  unfold f_X12_cover
  refine g_aload_n hO d_X12_cover_0 (by rfl) 0 rfl ?_
  refine g_iconst hO 0 d_X12_cover_1 (by decide) ?_
  refine h_putI hO cl_X12 0 rfl rfl wf_X12_100 (Or.inl rfl) d_X12_cover_2 (fun S1 => ?_)
  refine g_aload_n hO d_X12_cover_5 (by rfl) 0 rfl ?_
  refine g_iload_n hO d_X12_cover_6 (by rfl) 1 rfl ?_
  refine k_virtIs hO cl_X12 mm_X12_hasShifts lkV_X12_537 ⟨⟨Nat.le_of_ble_eq_true rfl, Nat.le_of_ble_eq_true rfl⟩, Nat.le_of_ble_eq_true rfl, Nat.le_of_ble_eq_true rfl⟩ (kn' := (0, 0)) rfl (As := [vI x1]) rfl (Nat.le_of_ble_eq_true rfl) (fun o' _ => t_X12_hasShifts Γ.2.1 E o' x1 S1) d_X12_cover_7 rfl (fun v2 S3 => ?_)
  refine g_if_eq (tgt := 44) hO d_X12_cover_10.1 d_X12_cover_10.2 (fun _ => ?_) (fun _ => ?_)
  · skip
    refine g_iconst hO (-1) d_X12_cover_44 (by decide) ?_
    exact g_ret hO rfl rfl ⟨Nat.le_of_ble_eq_true rfl, Nat.le_of_ble_eq_true rfl⟩ rfl rfl d_X12_cover_45.1
  · skip
    refine g_iload_n hO d_X12_cover_13 (by rfl) 2 rfl ?_
    refine g_iconst hO 0 d_X12_cover_14 (by decide) ?_
    refine g_bipush hO 30 d_X12_cover_15 (by decide) ?_
    refine k_statIp hO mm_X12_in lkS_X12_112 ⟨⟨Nat.le_of_ble_eq_true rfl, Nat.le_of_ble_eq_true rfl⟩, Nat.le_of_ble_eq_true rfl, Nat.le_of_ble_eq_true rfl⟩ (kn' := (0, 0)) rfl (As := [vI x2, vI 0, vI 30]) rfl (Nat.le_of_ble_eq_true rfl) (t_X12_in Γ.2.1 E x2 0 30 S3) d_X12_cover_17 rfl (fun v4 => ?_)
    refine g_if_eq (tgt := 44) hO d_X12_cover_20.1 d_X12_cover_20.2 (fun _ => ?_) (fun _ => ?_)
    · skip
      refine g_iconst hO (-1) d_X12_cover_44 (by decide) ?_
      exact g_ret hO rfl rfl ⟨Nat.le_of_ble_eq_true rfl, Nat.le_of_ble_eq_true rfl⟩ rfl rfl d_X12_cover_45.1
    · skip
      refine g_iload_n hO d_X12_cover_23 (by rfl) 3 rfl ?_
      refine g_iload_n hO d_X12_cover_24 (by rfl) 2 rfl ?_
      refine g_bipush hO 30 d_X12_cover_25 (by decide) ?_
      refine k_statIp hO mm_X12_in lkS_X12_112 ⟨⟨Nat.le_of_ble_eq_true rfl, Nat.le_of_ble_eq_true rfl⟩, Nat.le_of_ble_eq_true rfl, Nat.le_of_ble_eq_true rfl⟩ (kn' := (0, 0)) rfl (As := [vI x3, vI x2, vI 30]) rfl (Nat.le_of_ble_eq_true rfl) (t_X12_in Γ.2.1 E x3 x2 30 S3) d_X12_cover_27 rfl (fun v6 => ?_)
      refine g_if_eq (tgt := 44) hO d_X12_cover_30.1 d_X12_cover_30.2 (fun _ => ?_) (fun _ => ?_)
      · skip
        refine g_iconst hO (-1) d_X12_cover_44 (by decide) ?_
        exact g_ret hO rfl rfl ⟨Nat.le_of_ble_eq_true rfl, Nat.le_of_ble_eq_true rfl⟩ rfl rfl d_X12_cover_45.1
      · skip
        refine g_iload hO d_X12_cover_33 4 rfl ?_
        refine g_iconst hO 1 d_X12_cover_35 (by decide) ?_
        refine g_bipush hO 10 d_X12_cover_36 (by decide) ?_
        refine k_statIp hO mm_X12_in lkS_X12_112 ⟨⟨Nat.le_of_ble_eq_true rfl, Nat.le_of_ble_eq_true rfl⟩, Nat.le_of_ble_eq_true rfl, Nat.le_of_ble_eq_true rfl⟩ (kn' := (0, 0)) rfl (As := [vI x4, vI 1, vI 10]) rfl (Nat.le_of_ble_eq_true rfl) (t_X12_in Γ.2.1 E x4 1 10 S3) d_X12_cover_38 rfl (fun v8 => ?_)
        refine g_if_ne (tgt := 46) hO d_X12_cover_41.1 d_X12_cover_41.2 (fun _ => ?_) (fun _ => ?_)
        · skip
          refine g_iconst hO (-1) d_X12_cover_44 (by decide) ?_
          exact g_ret hO rfl rfl ⟨Nat.le_of_ble_eq_true rfl, Nat.le_of_ble_eq_true rfl⟩ rfl rfl d_X12_cover_45.1
        · skip
          refine g_iconst hO 1 d_X12_cover_46 (by decide) ?_
          refine g_aload_n hO d_X12_cover_47 (by rfl) 0 rfl ?_
          refine k_virtIp hO cl_X12 mm_X12_maids lkV_X12_540 ⟨⟨Nat.le_of_ble_eq_true rfl, Nat.le_of_ble_eq_true rfl⟩, Nat.le_of_ble_eq_true rfl, Nat.le_of_ble_eq_true rfl⟩ (kn' := (0, 0)) rfl (As := []) rfl (Nat.le_of_ble_eq_true rfl) (fun o' _ => t_X12_maids Γ.2.1 E o' S3) d_X12_cover_48 rfl (fun v10 => ?_)
          refine g_ishl hO d_X12_cover_51 ?_
          refine g_iconst hO 1 d_X12_cover_52 (by decide) ?_
          refine g_isub hO d_X12_cover_53 ?_
          refine g_istore (lv' := [(6, vI ((jshl 1 v10) - 1)), (0, vA (some o)), (1, vI x1), (2, vI x2), (3, vI x3), (4, vI x4), (5, vI x5)]) hO d_X12_cover_54 (by decide) rfl ?_
          refine g_iload hO d_X12_cover_56 6 rfl ?_
          refine g_if_eq (tgt := 72) hO d_X12_cover_58.1 d_X12_cover_58.2 (fun _ => ?_) (fun _ => ?_)
          · skip
            refine g_iconst hO (-1) d_X12_cover_72 (by decide) ?_
            refine g_istore (lv' := [(7, vI (-1)), (6, vI ((jshl 1 v10) - 1)), (0, vA (some o)), (1, vI x1), (2, vI x2), (3, vI x3), (4, vI x4), (5, vI x5)]) hO d_X12_cover_73 (by decide) rfl ?_
            refine g_iconst hO 0 d_X12_cover_75 (by decide) ?_
            refine g_istore (lv' := [(8, vI 0), (7, vI (-1)), (6, vI ((jshl 1 v10) - 1)), (0, vA (some o)), (1, vI x1), (2, vI x2), (3, vI x3), (4, vI x4), (5, vI x5)]) hO d_X12_cover_76 (by decide) rfl ?_
            exact g_sub [3, 5, 6, 7, 2, 1, 0] rfl (w_X12_cover_78 hO o _ _ _ _ _ _ _ _)
          · skip
            refine g_aload_n hO d_X12_cover_61 (by rfl) 1 rfl ?_
            refine g_iload_n hO d_X12_cover_62 (by rfl) 3 rfl ?_
            refine g_iload_n hO d_X12_cover_63 (by rfl) 4 rfl ?_
            refine g_iload hO d_X12_cover_64 5 rfl ?_
            refine g_iload hO d_X12_cover_66 0 rfl ?_
            refine k_virtIp hO cl_X12 mm_X12_gapOf lkV_X12_549 ⟨⟨Nat.le_of_ble_eq_true rfl, Nat.le_of_ble_eq_true rfl⟩, Nat.le_of_ble_eq_true rfl, Nat.le_of_ble_eq_true rfl⟩ (kn' := (0, 0)) rfl (As := [vI x2, vI x3, vI x4, vI ((jshl 1 v10) - 1)]) rfl (Nat.le_of_ble_eq_true rfl) (fun o' _ => t_X12_gapOf Γ.2.1 E o' x2 x3 x4 ((jshl 1 v10) - 1) S3) d_X12_cover_68 rfl (fun v12 => ?_)
            exact g_ret hO rfl rfl ⟨Nat.le_of_ble_eq_true rfl, Nat.le_of_ble_eq_true rfl⟩ rfl rfl d_X12_cover_71.1
theorem t_X12_cover (l : Launch) (E : GE) (o : Nat) (x1 : Int32) (x2 : Int32) (x3 : Int32) (x4 : Int32) (x5 : Int32) (S : GS) : ∀ a, f_X12_cover o x1 x2 x3 x4 x5 S = some a → Ct l E yX12_cover cX12_cover 10 (some .int) rm_X12_cover [vA (some o), vI x1, vI x2, vI x3, vI x4, vI x5] S (some (vI a.1)) a.2 :=
  Ct_of (val := fun (b : Int32 × GS) => some (vI b.1)) (nxt := fun (b : Int32 × GS) => b.2) (by decide) (Nat.le_of_ble_eq_true rfl) (fun Γ hl hO => w_X12_cover hO o x1 x2 x3 x4 x5 S)
theorem d_X12_longest_0 : gD cX12_longest 0 (.aload_n 0) 1 1 := ⟨by decide +kernel, rfl⟩
theorem d_X12_longest_1 : gD cX12_longest 1 (.iconst 0) 1 2 := ⟨by decide +kernel, rfl⟩
theorem d_X12_longest_2 : gD cX12_longest 2 (.putfield 100) 3 5 := ⟨by decide +kernel, rfl⟩
theorem d_X12_longest_5 : gD cX12_longest 5 (.aload_n 0) 1 6 := ⟨by decide +kernel, rfl⟩
theorem d_X12_longest_6 : gD cX12_longest 6 (.iload_n 1) 1 7 := ⟨by decide +kernel, rfl⟩
theorem d_X12_longest_7 : gD cX12_longest 7 (.invokevirtual 537) 3 10 := ⟨by decide +kernel, rfl⟩
theorem d_X12_longest_10 : gD cX12_longest 10 (.ifCond .eq 13) 3 13 ∧ ((10 : Nat) : Int) + 13 = ((23 : Nat) : Int) := ⟨⟨by decide +kernel, rfl⟩, by decide⟩
theorem d_X12_longest_13 : gD cX12_longest 13 (.iload_n 2) 1 14 := ⟨by decide +kernel, rfl⟩
theorem d_X12_longest_14 : gD cX12_longest 14 (.iconst 1) 1 15 := ⟨by decide +kernel, rfl⟩
theorem d_X12_longest_15 : gD cX12_longest 15 (.bipush 10) 2 17 := ⟨by decide +kernel, rfl⟩
theorem d_X12_longest_17 : gD cX12_longest 17 (.invokestatic 112) 3 20 := ⟨by decide +kernel, rfl⟩
theorem d_X12_longest_20 : gD cX12_longest 20 (.ifCond .ne 5) 3 23 ∧ ((20 : Nat) : Int) + 5 = ((25 : Nat) : Int) := ⟨⟨by decide +kernel, rfl⟩, by decide⟩
theorem d_X12_longest_23 : gD cX12_longest 23 (.iconst (-1)) 1 24 := ⟨by decide +kernel, rfl⟩
theorem d_X12_longest_24 : gD cX12_longest 24 (.ireturn) 1 25 := ⟨by decide +kernel, rfl⟩
theorem d_X12_longest_25 : gD cX12_longest 25 (.iconst 0) 1 26 := ⟨by decide +kernel, rfl⟩
theorem d_X12_longest_26 : gD cX12_longest 26 (.istore_n 3) 1 27 := ⟨by decide +kernel, rfl⟩
theorem d_X12_longest_27 : gD cX12_longest 27 (.iconst 0) 1 28 := ⟨by decide +kernel, rfl⟩
theorem d_X12_longest_28 : gD cX12_longest 28 (.istore 4) 2 30 := ⟨by decide +kernel, rfl⟩
theorem d_X12_longest_30 : gD cX12_longest 30 (.iconst 0) 1 31 := ⟨by decide +kernel, rfl⟩
theorem d_X12_longest_31 : gD cX12_longest 31 (.istore 5) 2 33 := ⟨by decide +kernel, rfl⟩
theorem d_X12_longest_33 : gD cX12_longest 33 (.iload 5) 2 35 := ⟨by decide +kernel, rfl⟩
theorem d_X12_longest_35 : gD cX12_longest 35 (.bipush 30) 2 37 := ⟨by decide +kernel, rfl⟩
theorem d_X12_longest_37 : gD cX12_longest 37 (.if_icmp .gt 44) 3 40 ∧ ((37 : Nat) : Int) + 44 = ((81 : Nat) : Int) := ⟨⟨by decide +kernel, rfl⟩, by decide⟩
theorem d_X12_longest_40 : gD cX12_longest 40 (.aload_n 0) 1 41 := ⟨by decide +kernel, rfl⟩
theorem d_X12_longest_41 : gD cX12_longest 41 (.iload 5) 2 43 := ⟨by decide +kernel, rfl⟩
theorem d_X12_longest_43 : gD cX12_longest 43 (.iconst 1) 1 44 := ⟨by decide +kernel, rfl⟩
theorem d_X12_longest_44 : gD cX12_longest 44 (.aload_n 0) 1 45 := ⟨by decide +kernel, rfl⟩
theorem d_X12_longest_45 : gD cX12_longest 45 (.invokevirtual 540) 3 48 := ⟨by decide +kernel, rfl⟩
theorem d_X12_longest_48 : gD cX12_longest 48 (.ishl) 1 49 := ⟨by decide +kernel, rfl⟩
theorem d_X12_longest_49 : gD cX12_longest 49 (.iconst 1) 1 50 := ⟨by decide +kernel, rfl⟩
theorem d_X12_longest_50 : gD cX12_longest 50 (.isub) 1 51 := ⟨by decide +kernel, rfl⟩
theorem d_X12_longest_51 : gD cX12_longest 51 (.invokevirtual 546) 3 54 := ⟨by decide +kernel, rfl⟩
theorem d_X12_longest_54 : gD cX12_longest 54 (.iload_n 2) 1 55 := ⟨by decide +kernel, rfl⟩
theorem d_X12_longest_55 : gD cX12_longest 55 (.if_icmp .lt 10) 3 58 ∧ ((55 : Nat) : Int) + 10 = ((65 : Nat) : Int) := ⟨⟨by decide +kernel, rfl⟩, by decide⟩
theorem d_X12_longest_58 : gD cX12_longest 58 (.iload 4) 2 60 := ⟨by decide +kernel, rfl⟩
theorem d_X12_longest_60 : gD cX12_longest 60 (.iconst 1) 1 61 := ⟨by decide +kernel, rfl⟩
theorem d_X12_longest_61 : gD cX12_longest 61 (.iadd) 1 62 := ⟨by decide +kernel, rfl⟩
theorem d_X12_longest_62 : decode cX12_longest 62 = .ok (.goto 4, 3) ∧ ((62 : Nat) : Int) + 4 = ((66 : Nat) : Int) := ⟨by decide +kernel, by decide⟩
theorem d_X12_longest_65 : gD cX12_longest 65 (.iconst 0) 1 66 := ⟨by decide +kernel, rfl⟩
theorem d_X12_longest_66 : gD cX12_longest 66 (.istore 4) 2 68 := ⟨by decide +kernel, rfl⟩
theorem d_X12_longest_68 : gD cX12_longest 68 (.iload_n 3) 1 69 := ⟨by decide +kernel, rfl⟩
theorem d_X12_longest_69 : gD cX12_longest 69 (.iload 4) 2 71 := ⟨by decide +kernel, rfl⟩
theorem d_X12_longest_71 : gD cX12_longest 71 (.invokestatic 173) 3 74 := ⟨by decide +kernel, rfl⟩
theorem d_X12_longest_74 : gD cX12_longest 74 (.istore_n 3) 1 75 := ⟨by decide +kernel, rfl⟩
theorem d_X12_longest_75 : gD cX12_longest 75 (.iinc 5 1) 3 78 := ⟨by decide +kernel, rfl⟩
theorem d_X12_longest_78 : decode cX12_longest 78 = .ok (.goto (-45), 3) ∧ ((78 : Nat) : Int) + (-45) = ((33 : Nat) : Int) := ⟨by decide +kernel, by decide⟩
theorem d_X12_longest_81 : gD cX12_longest 81 (.iload_n 3) 1 82 := ⟨by decide +kernel, rfl⟩
theorem d_X12_longest_82 : gD cX12_longest 82 (.ireturn) 1 83 := ⟨by decide +kernel, rfl⟩
abbrev rm_X12_longest : Room := { frames := 3, cells := 0, slots := 0, locals := 65 }
set_option maxRecDepth 20000 in
theorem w_X12_longest_66 {Γ : GC} {E : GE} (hO : gOk Γ E cX12_longest RX12 6 rm_X12_longest (some .int) "longest") (o : Nat) {k33 : (Int32 → Int32 → Int32 → Int32 → GS → Option (Int32 × GS))} (hk33 : ∀ (z2 : Int32) (z3 : Int32) (z4 : Int32) (z5 : Int32) (S1 : GS), Go Γ E (gBsI Γ E) 6 (0, 0) 33 S1 [(0, vA (some o)), (2, vI z2), (3, vI z3), (4, vI z4), (5, vI z5)] [] (k33 z2 z3 z4 z5 S1)) (x2 : Int32) (x3 : Int32) (x5 : Int32) (y0 : Int32) (S : GS) : Go Γ E (gBsI Γ E) 6 (0, 0) 66 S [(0, vA (some o)), (2, vI x2), (3, vI x3), (5, vI x5)] [vI y0] (f_X12_longest_66 k33 o x2 x3 x5 y0 S) := by
  unfold f_X12_longest_66
  refine g_istore (lv' := [(4, vI y0), (0, vA (some o)), (2, vI x2), (3, vI x3), (5, vI x5)]) hO d_X12_longest_66 (by decide) rfl ?_
  refine g_iload_n hO d_X12_longest_68 (by rfl) 3 rfl ?_
  refine g_iload hO d_X12_longest_69 0 rfl ?_
  refine k_statIp hO mm_X12_greater lkS_X12_173 ⟨⟨Nat.le_of_ble_eq_true rfl, Nat.le_of_ble_eq_true rfl⟩, Nat.le_of_ble_eq_true rfl, Nat.le_of_ble_eq_true rfl⟩ (kn' := (0, 0)) rfl (As := [vI x3, vI y0]) rfl (Nat.le_of_ble_eq_true rfl) (t_X12_greater Γ.2.1 E x3 y0 S) d_X12_longest_71 rfl (fun v1 => ?_)
  refine g_istore_n (lv' := [(3, vI v1), (4, vI y0), (0, vA (some o)), (2, vI x2), (5, vI x5)]) hO d_X12_longest_74 (by rfl) (by decide) rfl ?_
  refine g_iinc (lv' := [(5, vI (x5 + 1)), (3, vI v1), (4, vI y0), (0, vA (some o)), (2, vI x2)]) hO 1 d_X12_longest_75 (by decide) 4 rfl (by decide) rfl ?_
  refine g_goto (tgt := 33) hO d_X12_longest_78.1 d_X12_longest_78.2 ?_
  exact g_sub [3, 4, 1, 2, 0] rfl (hk33 _ _ _ _ _)
set_option maxRecDepth 20000 in
theorem w_X12_longest_33 {Γ : GC} {E : GE} (hO : gOk Γ E cX12_longest RX12 6 rm_X12_longest (some .int) "longest") (o : Nat) : ∀ (n : Nat) (x2 : Int32) (x3 : Int32) (x4 : Int32) (x5 : Int32) (S : GS), Go Γ E (gBsI Γ E) 6 (0, 0) 33 S [(0, vA (some o)), (2, vI x2), (3, vI x3), (4, vI x4), (5, vI x5)] [] (f_X12_longest_33 o n x2 x3 x4 x5 S) := by
  intro n
  induction n with
  | zero =>
    intro x2 x3 x4 x5 S
    exact g_none
  | succ n ih =>
    intro x2 x3 x4 x5 S
    rw [f_X12_longest_33]
    refine g_iload hO d_X12_longest_33 4 rfl ?_
    refine g_bipush hO 30 d_X12_longest_35 (by decide) ?_
    refine g_ic_gt (tgt := 81) hO d_X12_longest_37.1 d_X12_longest_37.2 (fun _ => ?_) (fun _ => ?_)
    · skip
      refine g_iload_n hO d_X12_longest_81 (by rfl) 2 rfl ?_
      exact g_ret hO rfl rfl ⟨Nat.le_of_ble_eq_true rfl, Nat.le_of_ble_eq_true rfl⟩ rfl rfl d_X12_longest_82.1
    · skip
      refine g_aload_n hO d_X12_longest_40 (by rfl) 0 rfl ?_
      refine g_iload hO d_X12_longest_41 4 rfl ?_
      refine g_iconst hO 1 d_X12_longest_43 (by decide) ?_
      refine g_aload_n hO d_X12_longest_44 (by rfl) 0 rfl ?_
      refine k_virtIp hO cl_X12 mm_X12_maids lkV_X12_540 ⟨⟨Nat.le_of_ble_eq_true rfl, Nat.le_of_ble_eq_true rfl⟩, Nat.le_of_ble_eq_true rfl, Nat.le_of_ble_eq_true rfl⟩ (kn' := (0, 0)) rfl (As := []) rfl (Nat.le_of_ble_eq_true rfl) (fun o' _ => t_X12_maids Γ.2.1 E o' S) d_X12_longest_45 rfl (fun v1 => ?_)
      refine g_ishl hO d_X12_longest_48 ?_
      refine g_iconst hO 1 d_X12_longest_49 (by decide) ?_
      refine g_isub hO d_X12_longest_50 ?_
      refine k_virtIp hO cl_X12 mm_X12_thereAt lkV_X12_546 ⟨⟨Nat.le_of_ble_eq_true rfl, Nat.le_of_ble_eq_true rfl⟩, Nat.le_of_ble_eq_true rfl, Nat.le_of_ble_eq_true rfl⟩ (kn' := (0, 0)) rfl (As := [vI x5, vI ((jshl 1 v1) - 1)]) rfl (Nat.le_of_ble_eq_true rfl) (fun o' _ => t_X12_thereAt Γ.2.1 E o' x5 ((jshl 1 v1) - 1) S) d_X12_longest_51 rfl (fun v3 => ?_)
      refine g_iload_n hO d_X12_longest_54 (by rfl) 1 rfl ?_
      refine g_ic_lt (tgt := 65) hO d_X12_longest_55.1 d_X12_longest_55.2 (fun _ => ?_) (fun _ => ?_)
      · skip
        refine g_iconst hO 0 d_X12_longest_65 (by decide) ?_
        exact g_sub [0, 1, 2, 4] rfl (w_X12_longest_66 hO o ih _ _ _ _ _)
      · skip
        refine g_iload hO d_X12_longest_58 3 rfl ?_
        refine g_iconst hO 1 d_X12_longest_60 (by decide) ?_
        refine g_iadd hO d_X12_longest_61 ?_
        refine g_goto (tgt := 66) hO d_X12_longest_62.1 d_X12_longest_62.2 ?_
        exact g_sub [0, 1, 2, 4] rfl (w_X12_longest_66 hO o ih _ _ _ _ _)
set_option maxRecDepth 20000 in
theorem w_X12_longest {Γ : GC} {E : GE} (hO : gOk Γ E cX12_longest RX12 6 rm_X12_longest (some .int) "longest") (o : Nat) (x1 : Int32) (x2 : Int32) (S : GS) : Go Γ E (gBsI Γ E) 6 (0, 0) 0 S [(0, vA (some o)), (1, vI x1), (2, vI x2)] [] (f_X12_longest o x1 x2 S) := by
  unfold f_X12_longest
  refine g_aload_n hO d_X12_longest_0 (by rfl) 0 rfl ?_
  refine g_iconst hO 0 d_X12_longest_1 (by decide) ?_
  refine h_putI hO cl_X12 0 rfl rfl wf_X12_100 (Or.inl rfl) d_X12_longest_2 (fun S1 => ?_)
  refine g_aload_n hO d_X12_longest_5 (by rfl) 0 rfl ?_
  refine g_iload_n hO d_X12_longest_6 (by rfl) 1 rfl ?_
  refine k_virtIs hO cl_X12 mm_X12_hasShifts lkV_X12_537 ⟨⟨Nat.le_of_ble_eq_true rfl, Nat.le_of_ble_eq_true rfl⟩, Nat.le_of_ble_eq_true rfl, Nat.le_of_ble_eq_true rfl⟩ (kn' := (0, 0)) rfl (As := [vI x1]) rfl (Nat.le_of_ble_eq_true rfl) (fun o' _ => t_X12_hasShifts Γ.2.1 E o' x1 S1) d_X12_longest_7 rfl (fun v2 S3 => ?_)
  refine g_if_eq (tgt := 23) hO d_X12_longest_10.1 d_X12_longest_10.2 (fun _ => ?_) (fun _ => ?_)
  · skip
    refine g_iconst hO (-1) d_X12_longest_23 (by decide) ?_
    exact g_ret hO rfl rfl ⟨Nat.le_of_ble_eq_true rfl, Nat.le_of_ble_eq_true rfl⟩ rfl rfl d_X12_longest_24.1
  · skip
    refine g_iload_n hO d_X12_longest_13 (by rfl) 2 rfl ?_
    refine g_iconst hO 1 d_X12_longest_14 (by decide) ?_
    refine g_bipush hO 10 d_X12_longest_15 (by decide) ?_
    refine k_statIp hO mm_X12_in lkS_X12_112 ⟨⟨Nat.le_of_ble_eq_true rfl, Nat.le_of_ble_eq_true rfl⟩, Nat.le_of_ble_eq_true rfl, Nat.le_of_ble_eq_true rfl⟩ (kn' := (0, 0)) rfl (As := [vI x2, vI 1, vI 10]) rfl (Nat.le_of_ble_eq_true rfl) (t_X12_in Γ.2.1 E x2 1 10 S3) d_X12_longest_17 rfl (fun v4 => ?_)
    refine g_if_ne (tgt := 25) hO d_X12_longest_20.1 d_X12_longest_20.2 (fun _ => ?_) (fun _ => ?_)
    · skip
      refine g_iconst hO (-1) d_X12_longest_23 (by decide) ?_
      exact g_ret hO rfl rfl ⟨Nat.le_of_ble_eq_true rfl, Nat.le_of_ble_eq_true rfl⟩ rfl rfl d_X12_longest_24.1
    · skip
      refine g_iconst hO 0 d_X12_longest_25 (by decide) ?_
      refine g_istore_n (lv' := [(3, vI 0), (0, vA (some o)), (1, vI x1), (2, vI x2)]) hO d_X12_longest_26 (by rfl) (by decide) rfl ?_
      refine g_iconst hO 0 d_X12_longest_27 (by decide) ?_
      refine g_istore (lv' := [(4, vI 0), (3, vI 0), (0, vA (some o)), (1, vI x1), (2, vI x2)]) hO d_X12_longest_28 (by decide) rfl ?_
      refine g_iconst hO 0 d_X12_longest_30 (by decide) ?_
      refine g_istore (lv' := [(5, vI 0), (4, vI 0), (3, vI 0), (0, vA (some o)), (1, vI x1), (2, vI x2)]) hO d_X12_longest_31 (by decide) rfl ?_
      exact g_sub [3, 5, 2, 1, 0] rfl (w_X12_longest_33 hO o _ _ _ _ _ _)
theorem t_X12_longest (l : Launch) (E : GE) (o : Nat) (x1 : Int32) (x2 : Int32) (S : GS) : ∀ a, f_X12_longest o x1 x2 S = some a → Ct l E yX12_longest cX12_longest 6 (some .int) rm_X12_longest [vA (some o), vI x1, vI x2] S (some (vI a.1)) a.2 :=
  Ct_of (val := fun (b : Int32 × GS) => some (vI b.1)) (nxt := fun (b : Int32 × GS) => b.2) (by decide) (Nat.le_of_ble_eq_true rfl) (fun Γ hl hO => w_X12_longest hO o x1 x2 S)
theorem d_X12_draw_0 : gD cX12_draw 0 (.aload_n 0) 1 1 := ⟨by decide +kernel, rfl⟩
theorem d_X12_draw_1 : gD cX12_draw 1 (.aload_n 0) 1 2 := ⟨by decide +kernel, rfl⟩
theorem d_X12_draw_2 : gD cX12_draw 2 (.getfield 555) 3 5 := ⟨by decide +kernel, rfl⟩
theorem d_X12_draw_5 : gD cX12_draw 5 (.ldc_w 558) 3 8 := ⟨by decide +kernel, rfl⟩
theorem d_X12_draw_8 : gD cX12_draw 8 (.imul) 1 9 := ⟨by decide +kernel, rfl⟩
theorem d_X12_draw_9 : gD cX12_draw 9 (.sipush 12345) 3 12 := ⟨by decide +kernel, rfl⟩
theorem d_X12_draw_12 : gD cX12_draw 12 (.iadd) 1 13 := ⟨by decide +kernel, rfl⟩
theorem d_X12_draw_13 : gD cX12_draw 13 (.putfield 555) 3 16 := ⟨by decide +kernel, rfl⟩
theorem d_X12_draw_16 : gD cX12_draw 16 (.aload_n 0) 1 17 := ⟨by decide +kernel, rfl⟩
theorem d_X12_draw_17 : gD cX12_draw 17 (.getfield 555) 3 20 := ⟨by decide +kernel, rfl⟩
theorem d_X12_draw_20 : gD cX12_draw 20 (.bipush 16) 2 22 := ⟨by decide +kernel, rfl⟩
theorem d_X12_draw_22 : gD cX12_draw 22 (.iushr) 1 23 := ⟨by decide +kernel, rfl⟩
theorem d_X12_draw_23 : gD cX12_draw 23 (.iload_n 1) 1 24 := ⟨by decide +kernel, rfl⟩
theorem d_X12_draw_24 : gD cX12_draw 24 (.irem) 1 25 := ⟨by decide +kernel, rfl⟩
theorem d_X12_draw_25 : gD cX12_draw 25 (.ireturn) 1 26 := ⟨by decide +kernel, rfl⟩
abbrev rm_X12_draw : Room := { frames := 0, cells := 0, slots := 0, locals := 0 }
set_option maxRecDepth 20000 in
theorem w_X12_draw {Γ : GC} {E : GE} (hO : gOk Γ E cX12_draw RX12 2 rm_X12_draw (some .int) "draw") (o : Nat) (x1 : Int32) (S : GS) : Go Γ E (gBsI Γ E) 2 (0, 0) 0 S [(0, vA (some o)), (1, vI x1)] [] (f_X12_draw o x1 S) := by
  unfold f_X12_draw
  refine g_aload_n hO d_X12_draw_0 (by rfl) 0 rfl ?_
  refine g_aload_n hO d_X12_draw_1 (by rfl) 0 rfl ?_
  refine h_getI hO cl_X12 60 rfl wf_X12_555 d_X12_draw_2 (fun v1 => ?_)
  refine g_ldcw hO 1103515245 d_X12_draw_5 wk_X12_558 ?_
  refine g_imul hO d_X12_draw_8 ?_
  refine g_sipush hO 12345 d_X12_draw_9 (by decide) ?_
  refine g_iadd hO d_X12_draw_12 ?_
  refine h_putI hO cl_X12 60 rfl rfl wf_X12_555 (Or.inl rfl) d_X12_draw_13 (fun S2 => ?_)
  refine g_aload_n hO d_X12_draw_16 (by rfl) 0 rfl ?_
  refine h_getI hO cl_X12 60 rfl wf_X12_555 d_X12_draw_17 (fun v3 => ?_)
  refine g_bipush hO 16 d_X12_draw_20 (by decide) ?_
  refine g_iushr hO d_X12_draw_22 ?_
  refine g_iload_n hO d_X12_draw_23 (by rfl) 1 rfl ?_
  refine g_irem hO d_X12_draw_24 ?_
  exact g_ret hO rfl rfl ⟨Nat.le_of_ble_eq_true rfl, Nat.le_of_ble_eq_true rfl⟩ rfl rfl d_X12_draw_25.1
theorem t_X12_draw (l : Launch) (E : GE) (o : Nat) (x1 : Int32) (S : GS) : ∀ a, f_X12_draw o x1 S = some a → Ct l E yX12_draw cX12_draw 2 (some .int) rm_X12_draw [vA (some o), vI x1] S (some (vI a.1)) a.2 :=
  Ct_of (val := fun (b : Int32 × GS) => some (vI b.1)) (nxt := fun (b : Int32 × GS) => b.2) (by decide) (Nat.le_of_ble_eq_true rfl) (fun Γ hl hO => w_X12_draw hO o x1 S)
theorem d_X12_drawn_0 : gD cX12_drawn 0 (.aload_n 0) 1 1 := ⟨by decide +kernel, rfl⟩
theorem d_X12_drawn_1 : gD cX12_drawn 1 (.iconst 0) 1 2 := ⟨by decide +kernel, rfl⟩
theorem d_X12_drawn_2 : gD cX12_drawn 2 (.putfield 100) 3 5 := ⟨by decide +kernel, rfl⟩
theorem d_X12_drawn_5 : gD cX12_drawn 5 (.iload_n 3) 1 6 := ⟨by decide +kernel, rfl⟩
theorem d_X12_drawn_6 : gD cX12_drawn 6 (.iconst 0) 1 7 := ⟨by decide +kernel, rfl⟩
theorem d_X12_drawn_7 : gD cX12_drawn 7 (.bipush 60) 2 9 := ⟨by decide +kernel, rfl⟩
theorem d_X12_drawn_9 : gD cX12_drawn 9 (.invokestatic 112) 3 12 := ⟨by decide +kernel, rfl⟩
theorem d_X12_drawn_12 : gD cX12_drawn 12 (.ifCond .eq 39) 3 15 ∧ ((12 : Nat) : Int) + 39 = ((51 : Nat) : Int) := ⟨⟨by decide +kernel, rfl⟩, by decide⟩
theorem d_X12_drawn_15 : gD cX12_drawn 15 (.aload_n 0) 1 16 := ⟨by decide +kernel, rfl⟩
theorem d_X12_drawn_16 : gD cX12_drawn 16 (.iload_n 1) 1 17 := ⟨by decide +kernel, rfl⟩
theorem d_X12_drawn_17 : gD cX12_drawn 17 (.invokevirtual 297) 3 20 := ⟨by decide +kernel, rfl⟩
theorem d_X12_drawn_20 : gD cX12_drawn 20 (.ifCond .eq 31) 3 23 ∧ ((20 : Nat) : Int) + 31 = ((51 : Nat) : Int) := ⟨⟨by decide +kernel, rfl⟩, by decide⟩
theorem d_X12_drawn_23 : gD cX12_drawn 23 (.iload 4) 2 25 := ⟨by decide +kernel, rfl⟩
theorem d_X12_drawn_25 : gD cX12_drawn 25 (.iconst 0) 1 26 := ⟨by decide +kernel, rfl⟩
theorem d_X12_drawn_26 : gD cX12_drawn 26 (.bipush 6) 2 28 := ⟨by decide +kernel, rfl⟩
theorem d_X12_drawn_28 : gD cX12_drawn 28 (.invokestatic 112) 3 31 := ⟨by decide +kernel, rfl⟩
theorem d_X12_drawn_31 : gD cX12_drawn 31 (.ifCond .ne 22) 3 34 ∧ ((31 : Nat) : Int) + 22 = ((53 : Nat) : Int) := ⟨⟨by decide +kernel, rfl⟩, by decide⟩
theorem d_X12_drawn_34 : gD cX12_drawn 34 (.iload 4) 2 36 := ⟨by decide +kernel, rfl⟩
theorem d_X12_drawn_36 : gD cX12_drawn 36 (.bipush 10) 2 38 := ⟨by decide +kernel, rfl⟩
theorem d_X12_drawn_38 : gD cX12_drawn 38 (.bipush 9) 2 40 := ⟨by decide +kernel, rfl⟩
theorem d_X12_drawn_40 : gD cX12_drawn 40 (.aload_n 0) 1 41 := ⟨by decide +kernel, rfl⟩
theorem d_X12_drawn_41 : gD cX12_drawn 41 (.getfield 294) 3 44 := ⟨by decide +kernel, rfl⟩
theorem d_X12_drawn_44 : gD cX12_drawn 44 (.iadd) 1 45 := ⟨by decide +kernel, rfl⟩
theorem d_X12_drawn_45 : gD cX12_drawn 45 (.invokestatic 112) 3 48 := ⟨by decide +kernel, rfl⟩
theorem d_X12_drawn_48 : gD cX12_drawn 48 (.ifCond .ne 5) 3 51 ∧ ((48 : Nat) : Int) + 5 = ((53 : Nat) : Int) := ⟨⟨by decide +kernel, rfl⟩, by decide⟩
theorem d_X12_drawn_51 : gD cX12_drawn 51 (.iconst (-1)) 1 52 := ⟨by decide +kernel, rfl⟩
theorem d_X12_drawn_52 : gD cX12_drawn 52 (.ireturn) 1 53 := ⟨by decide +kernel, rfl⟩
theorem d_X12_drawn_53 : gD cX12_drawn 53 (.aload_n 0) 1 54 := ⟨by decide +kernel, rfl⟩
theorem d_X12_drawn_54 : gD cX12_drawn 54 (.iload_n 2) 1 55 := ⟨by decide +kernel, rfl⟩
theorem d_X12_drawn_55 : gD cX12_drawn 55 (.putfield 555) 3 58 := ⟨by decide +kernel, rfl⟩
theorem d_X12_drawn_58 : gD cX12_drawn 58 (.aload_n 0) 1 59 := ⟨by decide +kernel, rfl⟩
theorem d_X12_drawn_59 : gD cX12_drawn 59 (.invokevirtual 397) 3 62 := ⟨by decide +kernel, rfl⟩
theorem d_X12_drawn_62 : gD cX12_drawn 62 (.aload_n 0) 1 63 := ⟨by decide +kernel, rfl⟩
theorem d_X12_drawn_63 : gD cX12_drawn 63 (.invokevirtual 459) 3 66 := ⟨by decide +kernel, rfl⟩
theorem d_X12_drawn_66 : gD cX12_drawn 66 (.aload_n 0) 1 67 := ⟨by decide +kernel, rfl⟩
theorem d_X12_drawn_67 : gD cX12_drawn 67 (.getfield 325) 3 70 := ⟨by decide +kernel, rfl⟩
theorem d_X12_drawn_70 : gD cX12_drawn 70 (.istore 5) 2 72 := ⟨by decide +kernel, rfl⟩
theorem d_X12_drawn_72 : gD cX12_drawn 72 (.aload_n 0) 1 73 := ⟨by decide +kernel, rfl⟩
theorem d_X12_drawn_73 : gD cX12_drawn 73 (.getfield 325) 3 76 := ⟨by decide +kernel, rfl⟩
theorem d_X12_drawn_76 : gD cX12_drawn 76 (.istore 6) 2 78 := ⟨by decide +kernel, rfl⟩
theorem d_X12_drawn_78 : gD cX12_drawn 78 (.iconst 0) 1 79 := ⟨by decide +kernel, rfl⟩
theorem d_X12_drawn_79 : gD cX12_drawn 79 (.istore 7) 2 81 := ⟨by decide +kernel, rfl⟩
theorem d_X12_drawn_81 : gD cX12_drawn 81 (.iload 7) 2 83 := ⟨by decide +kernel, rfl⟩
theorem d_X12_drawn_83 : gD cX12_drawn 83 (.iload_n 3) 1 84 := ⟨by decide +kernel, rfl⟩
theorem d_X12_drawn_84 : gD cX12_drawn 84 (.if_icmp .ge 92) 3 87 ∧ ((84 : Nat) : Int) + 92 = ((176 : Nat) : Int) := ⟨⟨by decide +kernel, rfl⟩, by decide⟩
theorem d_X12_drawn_87 : gD cX12_drawn 87 (.aload_n 0) 1 88 := ⟨by decide +kernel, rfl⟩
theorem d_X12_drawn_88 : gD cX12_drawn 88 (.aload_n 0) 1 89 := ⟨by decide +kernel, rfl⟩
theorem d_X12_drawn_89 : gD cX12_drawn 89 (.getfield 447) 3 92 := ⟨by decide +kernel, rfl⟩
theorem d_X12_drawn_92 : gD cX12_drawn 92 (.invokevirtual 559) 3 95 := ⟨by decide +kernel, rfl⟩
theorem d_X12_drawn_95 : gD cX12_drawn 95 (.istore 8) 2 97 := ⟨by decide +kernel, rfl⟩
theorem d_X12_drawn_97 : gD cX12_drawn 97 (.aload_n 0) 1 98 := ⟨by decide +kernel, rfl⟩
theorem d_X12_drawn_98 : gD cX12_drawn 98 (.aload_n 0) 1 99 := ⟨by decide +kernel, rfl⟩
theorem d_X12_drawn_99 : gD cX12_drawn 99 (.aload_n 0) 1 100 := ⟨by decide +kernel, rfl⟩
theorem d_X12_drawn_100 : gD cX12_drawn 100 (.getfield 325) 3 103 := ⟨by decide +kernel, rfl⟩
theorem d_X12_drawn_103 : gD cX12_drawn 103 (.iload 8) 2 105 := ⟨by decide +kernel, rfl⟩
theorem d_X12_drawn_105 : gD cX12_drawn 105 (.aload_n 0) 1 106 := ⟨by decide +kernel, rfl⟩
theorem d_X12_drawn_106 : gD cX12_drawn 106 (.iconst 0) 1 107 := ⟨by decide +kernel, rfl⟩
theorem d_X12_drawn_107 : gD cX12_drawn 107 (.invokevirtual 444) 3 110 := ⟨by decide +kernel, rfl⟩
theorem d_X12_drawn_110 : gD cX12_drawn 110 (.if_icmp .ge 7) 3 113 ∧ ((110 : Nat) : Int) + 7 = ((117 : Nat) : Int) := ⟨⟨by decide +kernel, rfl⟩, by decide⟩
theorem d_X12_drawn_113 : gD cX12_drawn 113 (.iconst 0) 1 114 := ⟨by decide +kernel, rfl⟩
theorem d_X12_drawn_114 : decode cX12_drawn 114 = .ok (.goto 24, 3) ∧ ((114 : Nat) : Int) + 24 = ((138 : Nat) : Int) := ⟨by decide +kernel, by decide⟩
theorem d_X12_drawn_117 : gD cX12_drawn 117 (.iload 8) 2 119 := ⟨by decide +kernel, rfl⟩
theorem d_X12_drawn_119 : gD cX12_drawn 119 (.aload_n 0) 1 120 := ⟨by decide +kernel, rfl⟩
theorem d_X12_drawn_120 : gD cX12_drawn 120 (.iconst 0) 1 121 := ⟨by decide +kernel, rfl⟩
theorem d_X12_drawn_121 : gD cX12_drawn 121 (.invokevirtual 444) 3 124 := ⟨by decide +kernel, rfl⟩
theorem d_X12_drawn_124 : gD cX12_drawn 124 (.aload_n 0) 1 125 := ⟨by decide +kernel, rfl⟩
theorem d_X12_drawn_125 : gD cX12_drawn 125 (.iconst 1) 1 126 := ⟨by decide +kernel, rfl⟩
theorem d_X12_drawn_126 : gD cX12_drawn 126 (.invokevirtual 444) 3 129 := ⟨by decide +kernel, rfl⟩
theorem d_X12_drawn_129 : gD cX12_drawn 129 (.iadd) 1 130 := ⟨by decide +kernel, rfl⟩
theorem d_X12_drawn_130 : gD cX12_drawn 130 (.if_icmp .ge 7) 3 133 ∧ ((130 : Nat) : Int) + 7 = ((137 : Nat) : Int) := ⟨⟨by decide +kernel, rfl⟩, by decide⟩
theorem d_X12_drawn_133 : gD cX12_drawn 133 (.iconst 1) 1 134 := ⟨by decide +kernel, rfl⟩
theorem d_X12_drawn_134 : decode cX12_drawn 134 = .ok (.goto 4, 3) ∧ ((134 : Nat) : Int) + 4 = ((138 : Nat) : Int) := ⟨by decide +kernel, by decide⟩
theorem d_X12_drawn_137 : gD cX12_drawn 137 (.iconst 2) 1 138 := ⟨by decide +kernel, rfl⟩
theorem d_X12_drawn_138 : gD cX12_drawn 138 (.invokevirtual 450) 3 141 := ⟨by decide +kernel, rfl⟩
theorem d_X12_drawn_141 : gD cX12_drawn 141 (.putfield 325) 3 144 := ⟨by decide +kernel, rfl⟩
theorem d_X12_drawn_144 : gD cX12_drawn 144 (.iload 5) 2 146 := ⟨by decide +kernel, rfl⟩
theorem d_X12_drawn_146 : gD cX12_drawn 146 (.aload_n 0) 1 147 := ⟨by decide +kernel, rfl⟩
theorem d_X12_drawn_147 : gD cX12_drawn 147 (.getfield 325) 3 150 := ⟨by decide +kernel, rfl⟩
theorem d_X12_drawn_150 : gD cX12_drawn 150 (.invokestatic 364) 3 153 := ⟨by decide +kernel, rfl⟩
theorem d_X12_drawn_153 : gD cX12_drawn 153 (.istore 5) 2 155 := ⟨by decide +kernel, rfl⟩
theorem d_X12_drawn_155 : gD cX12_drawn 155 (.iload 6) 2 157 := ⟨by decide +kernel, rfl⟩
theorem d_X12_drawn_157 : gD cX12_drawn 157 (.aload_n 0) 1 158 := ⟨by decide +kernel, rfl⟩
theorem d_X12_drawn_158 : gD cX12_drawn 158 (.getfield 325) 3 161 := ⟨by decide +kernel, rfl⟩
theorem d_X12_drawn_161 : gD cX12_drawn 161 (.invokestatic 173) 3 164 := ⟨by decide +kernel, rfl⟩
theorem d_X12_drawn_164 : gD cX12_drawn 164 (.istore 6) 2 166 := ⟨by decide +kernel, rfl⟩
theorem d_X12_drawn_166 : gD cX12_drawn 166 (.aload_n 0) 1 167 := ⟨by decide +kernel, rfl⟩
theorem d_X12_drawn_167 : gD cX12_drawn 167 (.invokevirtual 394) 3 170 := ⟨by decide +kernel, rfl⟩
theorem d_X12_drawn_170 : gD cX12_drawn 170 (.iinc 7 1) 3 173 := ⟨by decide +kernel, rfl⟩
theorem d_X12_drawn_173 : decode cX12_drawn 173 = .ok (.goto (-92), 3) ∧ ((173 : Nat) : Int) + (-92) = ((81 : Nat) : Int) := ⟨by decide +kernel, by decide⟩
theorem d_X12_drawn_176 : gD cX12_drawn 176 (.iload 4) 2 178 := ⟨by decide +kernel, rfl⟩
theorem d_X12_drawn_178 : decode cX12_drawn 178 = .ok (.tableswitch 73 0 6 #[42, 47, 52, 57, 62, 67, 70], 42) ∧ ((178 : Nat) : Int) + 73 = ((251 : Nat) : Int) := ⟨by decide +kernel, by decide⟩
theorem d_X12_drawn_220 : gD cX12_drawn 220 (.aload_n 0) 1 221 := ⟨by decide +kernel, rfl⟩
theorem d_X12_drawn_221 : gD cX12_drawn 221 (.getfield 325) 3 224 := ⟨by decide +kernel, rfl⟩
theorem d_X12_drawn_224 : gD cX12_drawn 224 (.ireturn) 1 225 := ⟨by decide +kernel, rfl⟩
theorem d_X12_drawn_225 : gD cX12_drawn 225 (.aload_n 0) 1 226 := ⟨by decide +kernel, rfl⟩
theorem d_X12_drawn_226 : gD cX12_drawn 226 (.getfield 331) 3 229 := ⟨by decide +kernel, rfl⟩
theorem d_X12_drawn_229 : gD cX12_drawn 229 (.ireturn) 1 230 := ⟨by decide +kernel, rfl⟩
theorem d_X12_drawn_230 : gD cX12_drawn 230 (.aload_n 0) 1 231 := ⟨by decide +kernel, rfl⟩
theorem d_X12_drawn_231 : gD cX12_drawn 231 (.getfield 334) 3 234 := ⟨by decide +kernel, rfl⟩
theorem d_X12_drawn_234 : gD cX12_drawn 234 (.ireturn) 1 235 := ⟨by decide +kernel, rfl⟩
theorem d_X12_drawn_235 : gD cX12_drawn 235 (.aload_n 0) 1 236 := ⟨by decide +kernel, rfl⟩
theorem d_X12_drawn_236 : gD cX12_drawn 236 (.getfield 337) 3 239 := ⟨by decide +kernel, rfl⟩
theorem d_X12_drawn_239 : gD cX12_drawn 239 (.ireturn) 1 240 := ⟨by decide +kernel, rfl⟩
theorem d_X12_drawn_240 : gD cX12_drawn 240 (.aload_n 0) 1 241 := ⟨by decide +kernel, rfl⟩
theorem d_X12_drawn_241 : gD cX12_drawn 241 (.getfield 343) 3 244 := ⟨by decide +kernel, rfl⟩
theorem d_X12_drawn_244 : gD cX12_drawn 244 (.ireturn) 1 245 := ⟨by decide +kernel, rfl⟩
theorem d_X12_drawn_245 : gD cX12_drawn 245 (.iload 5) 2 247 := ⟨by decide +kernel, rfl⟩
theorem d_X12_drawn_247 : gD cX12_drawn 247 (.ireturn) 1 248 := ⟨by decide +kernel, rfl⟩
theorem d_X12_drawn_248 : gD cX12_drawn 248 (.iload 6) 2 250 := ⟨by decide +kernel, rfl⟩
theorem d_X12_drawn_250 : gD cX12_drawn 250 (.ireturn) 1 251 := ⟨by decide +kernel, rfl⟩
theorem d_X12_drawn_251 : gD cX12_drawn 251 (.aload_n 0) 1 252 := ⟨by decide +kernel, rfl⟩
theorem d_X12_drawn_252 : gD cX12_drawn 252 (.getfield 62) 3 255 := ⟨by decide +kernel, rfl⟩
theorem d_X12_drawn_255 : gD cX12_drawn 255 (.iload 4) 2 257 := ⟨by decide +kernel, rfl⟩
theorem d_X12_drawn_257 : gD cX12_drawn 257 (.bipush 10) 2 259 := ⟨by decide +kernel, rfl⟩
theorem d_X12_drawn_259 : gD cX12_drawn 259 (.isub) 1 260 := ⟨by decide +kernel, rfl⟩
theorem d_X12_drawn_260 : gD cX12_drawn 260 (.iaload) 1 261 := ⟨by decide +kernel, rfl⟩
theorem d_X12_drawn_261 : gD cX12_drawn 261 (.ireturn) 1 262 := ⟨by decide +kernel, rfl⟩
abbrev rm_X12_drawn : Room := { frames := 5, cells := 0, slots := 0, locals := 110 }
set_option maxRecDepth 20000 in
theorem w_X12_drawn_138 {Γ : GC} {E : GE} (hO : gOk Γ E cX12_drawn RX12 9 rm_X12_drawn (some .int) "drawn") (o : Nat) {k81 : (Int32 → Int32 → Int32 → Int32 → Int32 → GS → Option (Int32 × GS))} (hk81 : ∀ (z3 : Int32) (z4 : Int32) (z5 : Int32) (z6 : Int32) (z7 : Int32) (S1 : GS), Go Γ E (gBsI Γ E) 9 (0, 0) 81 S1 [(0, vA (some o)), (3, vI z3), (4, vI z4), (5, vI z5), (6, vI z6), (7, vI z7)] [] (k81 z3 z4 z5 z6 z7 S1)) (x3 : Int32) (x4 : Int32) (x5 : Int32) (x6 : Int32) (x7 : Int32) (y0 : Option Nat) (y1 : Option Nat) (y2 : Int32) (y3 : Int32) (S : GS) : Go Γ E (gBsI Γ E) 9 (0, 0) 138 S [(0, vA (some o)), (3, vI x3), (4, vI x4), (5, vI x5), (6, vI x6), (7, vI x7)] [vI y3, vI y2, vA y1, vA y0] (f_X12_drawn_138 k81 o x3 x4 x5 x6 x7 y0 y1 y2 y3 S) := by
  unfold f_X12_drawn_138
  refine k_virtIp hO cl_X12 mm_X12_after lkV_X12_450 ⟨⟨Nat.le_of_ble_eq_true rfl, Nat.le_of_ble_eq_true rfl⟩, Nat.le_of_ble_eq_true rfl, Nat.le_of_ble_eq_true rfl⟩ (kn' := (0, 0)) rfl (As := [vI y2, vI y3]) rfl (Nat.le_of_ble_eq_true rfl) (fun o' _ => t_X12_after Γ.2.1 E o' y2 y3 S) d_X12_drawn_138 rfl (fun v1 => ?_)
  refine h_putI hO cl_X12 29 rfl rfl wf_X12_325 (Or.inl rfl) d_X12_drawn_141 (fun S3 => ?_)
  refine g_iload hO d_X12_drawn_144 3 rfl ?_
  refine g_aload_n hO d_X12_drawn_146 (by rfl) 0 rfl ?_
  refine h_getI hO cl_X12 29 rfl wf_X12_325 d_X12_drawn_147 (fun v4 => ?_)
  refine k_statIp hO mm_X12_lesser lkS_X12_364 ⟨⟨Nat.le_of_ble_eq_true rfl, Nat.le_of_ble_eq_true rfl⟩, Nat.le_of_ble_eq_true rfl, Nat.le_of_ble_eq_true rfl⟩ (kn' := (0, 0)) rfl (As := [vI x5, vI v4]) rfl (Nat.le_of_ble_eq_true rfl) (t_X12_lesser Γ.2.1 E x5 v4 S3) d_X12_drawn_150 rfl (fun v5 => ?_)
  refine g_istore (lv' := [(5, vI v5), (0, vA (some o)), (3, vI x3), (4, vI x4), (6, vI x6), (7, vI x7)]) hO d_X12_drawn_153 (by decide) rfl ?_
  refine g_iload hO d_X12_drawn_155 4 rfl ?_
  refine g_aload_n hO d_X12_drawn_157 (by rfl) 1 rfl ?_
  refine h_getI hO cl_X12 29 rfl wf_X12_325 d_X12_drawn_158 (fun v7 => ?_)
  refine k_statIp hO mm_X12_greater lkS_X12_173 ⟨⟨Nat.le_of_ble_eq_true rfl, Nat.le_of_ble_eq_true rfl⟩, Nat.le_of_ble_eq_true rfl, Nat.le_of_ble_eq_true rfl⟩ (kn' := (0, 0)) rfl (As := [vI x6, vI v7]) rfl (Nat.le_of_ble_eq_true rfl) (t_X12_greater Γ.2.1 E x6 v7 S3) d_X12_drawn_161 rfl (fun v8 => ?_)
  refine g_istore (lv' := [(6, vI v8), (5, vI v5), (0, vA (some o)), (3, vI x3), (4, vI x4), (7, vI x7)]) hO d_X12_drawn_164 (by decide) rfl ?_
  refine g_aload_n hO d_X12_drawn_166 (by rfl) 2 rfl ?_
  refine k_virtVs hO cl_X12 mm_X12_minute lkV_X12_394 ⟨⟨Nat.le_of_ble_eq_true rfl, Nat.le_of_ble_eq_true rfl⟩, Nat.le_of_ble_eq_true rfl, Nat.le_of_ble_eq_true rfl⟩ (kn' := (0, 0)) rfl (As := []) rfl (Nat.le_of_ble_eq_true rfl) (fun o' _ => t_X12_minute Γ.2.1 E o' S3) d_X12_drawn_167 rfl (fun S11 => ?_)
  refine g_iinc (lv' := [(7, vI (x7 + 1)), (6, vI v8), (5, vI v5), (0, vA (some o)), (3, vI x3), (4, vI x4)]) hO 1 d_X12_drawn_170 (by decide) 5 rfl (by decide) rfl ?_
  refine g_goto (tgt := 81) hO d_X12_drawn_173.1 d_X12_drawn_173.2 ?_
  exact g_sub [3, 4, 5, 2, 1, 0] rfl (hk81 _ _ _ _ _ _)
set_option maxRecDepth 20000 in
theorem w_X12_drawn_81 {Γ : GC} {E : GE} (hO : gOk Γ E cX12_drawn RX12 9 rm_X12_drawn (some .int) "drawn") (o : Nat) : ∀ (n : Nat) (x3 : Int32) (x4 : Int32) (x5 : Int32) (x6 : Int32) (x7 : Int32) (S : GS), Go Γ E (gBsI Γ E) 9 (0, 0) 81 S [(0, vA (some o)), (3, vI x3), (4, vI x4), (5, vI x5), (6, vI x6), (7, vI x7)] [] (f_X12_drawn_81 o n x3 x4 x5 x6 x7 S) := by
  intro n
  induction n with
  | zero =>
    intro x3 x4 x5 x6 x7 S
    exact g_none
  | succ n ih =>
    intro x3 x4 x5 x6 x7 S
    rw [f_X12_drawn_81]
    refine g_iload hO d_X12_drawn_81 5 rfl ?_
    refine g_iload_n hO d_X12_drawn_83 (by rfl) 1 rfl ?_
    refine g_ic_ge (tgt := 176) hO d_X12_drawn_84.1 d_X12_drawn_84.2 (fun _ => ?_) (fun _ => ?_)
    · skip
      refine g_iload hO d_X12_drawn_176 2 rfl ?_
      refine h_tsw (c := 0) (dt := 251) hO d_X12_drawn_178.1 7 (by decide) (by rfl) rfl (by decide) (by decide) d_X12_drawn_178.2 ⟨⟨220, by decide, ?_⟩, ⟨225, by decide, ?_⟩, ⟨230, by decide, ?_⟩, ⟨235, by decide, ?_⟩, ⟨240, by decide, ?_⟩, ⟨245, by decide, ?_⟩, ⟨248, by decide, ?_⟩, trivial⟩ ?_
      · skip
        refine g_aload_n hO d_X12_drawn_220 (by rfl) 0 rfl ?_
        refine h_getI hO cl_X12 29 rfl wf_X12_325 d_X12_drawn_221 (fun v1 => ?_)
        exact g_ret hO rfl rfl ⟨Nat.le_of_ble_eq_true rfl, Nat.le_of_ble_eq_true rfl⟩ rfl rfl d_X12_drawn_224.1
      · skip
        refine g_aload_n hO d_X12_drawn_225 (by rfl) 0 rfl ?_
        refine h_getI hO cl_X12 31 rfl wf_X12_331 d_X12_drawn_226 (fun v2 => ?_)
        exact g_ret hO rfl rfl ⟨Nat.le_of_ble_eq_true rfl, Nat.le_of_ble_eq_true rfl⟩ rfl rfl d_X12_drawn_229.1
      · skip
        refine g_aload_n hO d_X12_drawn_230 (by rfl) 0 rfl ?_
        refine h_getI hO cl_X12 32 rfl wf_X12_334 d_X12_drawn_231 (fun v3 => ?_)
        exact g_ret hO rfl rfl ⟨Nat.le_of_ble_eq_true rfl, Nat.le_of_ble_eq_true rfl⟩ rfl rfl d_X12_drawn_234.1
      · skip
        refine g_aload_n hO d_X12_drawn_235 (by rfl) 0 rfl ?_
        refine h_getI hO cl_X12 33 rfl wf_X12_337 d_X12_drawn_236 (fun v4 => ?_)
        exact g_ret hO rfl rfl ⟨Nat.le_of_ble_eq_true rfl, Nat.le_of_ble_eq_true rfl⟩ rfl rfl d_X12_drawn_239.1
      · skip
        refine g_aload_n hO d_X12_drawn_240 (by rfl) 0 rfl ?_
        refine h_getI hO cl_X12 35 rfl wf_X12_343 d_X12_drawn_241 (fun v5 => ?_)
        exact g_ret hO rfl rfl ⟨Nat.le_of_ble_eq_true rfl, Nat.le_of_ble_eq_true rfl⟩ rfl rfl d_X12_drawn_244.1
      · skip
        refine g_iload hO d_X12_drawn_245 3 rfl ?_
        exact g_ret hO rfl rfl ⟨Nat.le_of_ble_eq_true rfl, Nat.le_of_ble_eq_true rfl⟩ rfl rfl d_X12_drawn_247.1
      · skip
        refine g_iload hO d_X12_drawn_248 4 rfl ?_
        exact g_ret hO rfl rfl ⟨Nat.le_of_ble_eq_true rfl, Nat.le_of_ble_eq_true rfl⟩ rfl rfl d_X12_drawn_250.1
      · skip
        refine g_aload_n hO d_X12_drawn_251 (by rfl) 0 rfl ?_
        refine h_getR hO cl_X12 43 rfl wf_X12_62 d_X12_drawn_252 (fun v6 => ?_)
        refine g_iload hO d_X12_drawn_255 2 rfl ?_
        refine g_bipush hO 10 d_X12_drawn_257 (by decide) ?_
        refine g_isub hO d_X12_drawn_259 ?_
        refine h_iald hO d_X12_drawn_260 (fun v7 => ?_)
        exact g_ret hO rfl rfl ⟨Nat.le_of_ble_eq_true rfl, Nat.le_of_ble_eq_true rfl⟩ rfl rfl d_X12_drawn_261.1
    · skip
      refine g_aload_n hO d_X12_drawn_87 (by rfl) 0 rfl ?_
      refine g_aload_n hO d_X12_drawn_88 (by rfl) 0 rfl ?_
      refine h_getI hO cl_X12 50 rfl wf_X12_447 d_X12_drawn_89 (fun v8 => ?_)
      refine k_virtIs hO cl_X12 mm_X12_draw lkV_X12_559 ⟨⟨Nat.le_of_ble_eq_true rfl, Nat.le_of_ble_eq_true rfl⟩, Nat.le_of_ble_eq_true rfl, Nat.le_of_ble_eq_true rfl⟩ (kn' := (0, 0)) rfl (As := [vI v8]) rfl (Nat.le_of_ble_eq_true rfl) (fun o' _ => t_X12_draw Γ.2.1 E o' v8 S) d_X12_drawn_92 rfl (fun v9 S10 => ?_)
      refine g_istore (lv' := [(8, vI v9), (0, vA (some o)), (3, vI x3), (4, vI x4), (5, vI x5), (6, vI x6), (7, vI x7)]) hO d_X12_drawn_95 (by decide) rfl ?_
      refine g_aload_n hO d_X12_drawn_97 (by rfl) 1 rfl ?_
      refine g_aload_n hO d_X12_drawn_98 (by rfl) 1 rfl ?_
      refine g_aload_n hO d_X12_drawn_99 (by rfl) 1 rfl ?_
      refine h_getI hO cl_X12 29 rfl wf_X12_325 d_X12_drawn_100 (fun v11 => ?_)
      refine g_iload hO d_X12_drawn_103 0 rfl ?_
      refine g_aload_n hO d_X12_drawn_105 (by rfl) 1 rfl ?_
      refine g_iconst hO 0 d_X12_drawn_106 (by decide) ?_
      refine k_virtIp hO cl_X12 mm_X12_windOf lkV_X12_444 ⟨⟨Nat.le_of_ble_eq_true rfl, Nat.le_of_ble_eq_true rfl⟩, Nat.le_of_ble_eq_true rfl, Nat.le_of_ble_eq_true rfl⟩ (kn' := (0, 0)) rfl (As := [vI 0]) rfl (Nat.le_of_ble_eq_true rfl) (fun o' _ => t_X12_windOf Γ.2.1 E o' 0 S10) d_X12_drawn_107 rfl (fun v12 => ?_)
      refine g_ic_ge (tgt := 117) hO d_X12_drawn_110.1 d_X12_drawn_110.2 (fun _ => ?_) (fun _ => ?_)
      · skip
        refine g_iload hO d_X12_drawn_117 0 rfl ?_
        refine g_aload_n hO d_X12_drawn_119 (by rfl) 1 rfl ?_
        refine g_iconst hO 0 d_X12_drawn_120 (by decide) ?_
        refine k_virtIp hO cl_X12 mm_X12_windOf lkV_X12_444 ⟨⟨Nat.le_of_ble_eq_true rfl, Nat.le_of_ble_eq_true rfl⟩, Nat.le_of_ble_eq_true rfl, Nat.le_of_ble_eq_true rfl⟩ (kn' := (0, 0)) rfl (As := [vI 0]) rfl (Nat.le_of_ble_eq_true rfl) (fun o' _ => t_X12_windOf Γ.2.1 E o' 0 S10) d_X12_drawn_121 rfl (fun v14 => ?_)
        refine g_aload_n hO d_X12_drawn_124 (by rfl) 1 rfl ?_
        refine g_iconst hO 1 d_X12_drawn_125 (by decide) ?_
        refine k_virtIp hO cl_X12 mm_X12_windOf lkV_X12_444 ⟨⟨Nat.le_of_ble_eq_true rfl, Nat.le_of_ble_eq_true rfl⟩, Nat.le_of_ble_eq_true rfl, Nat.le_of_ble_eq_true rfl⟩ (kn' := (0, 0)) rfl (As := [vI 1]) rfl (Nat.le_of_ble_eq_true rfl) (fun o' _ => t_X12_windOf Γ.2.1 E o' 1 S10) d_X12_drawn_126 rfl (fun v16 => ?_)
        refine g_iadd hO d_X12_drawn_129 ?_
        refine g_ic_ge (tgt := 137) hO d_X12_drawn_130.1 d_X12_drawn_130.2 (fun _ => ?_) (fun _ => ?_)
        · skip
          refine g_iconst hO 2 d_X12_drawn_137 (by decide) ?_
          exact g_sub [1, 2, 3, 4, 5, 6] rfl (w_X12_drawn_138 hO o ih _ _ _ _ _ _ _ _ _ _)
        · skip
          refine g_iconst hO 1 d_X12_drawn_133 (by decide) ?_
          refine g_goto (tgt := 138) hO d_X12_drawn_134.1 d_X12_drawn_134.2 ?_
          exact g_sub [1, 2, 3, 4, 5, 6] rfl (w_X12_drawn_138 hO o ih _ _ _ _ _ _ _ _ _ _)
      · skip
        refine g_iconst hO 0 d_X12_drawn_113 (by decide) ?_
        refine g_goto (tgt := 138) hO d_X12_drawn_114.1 d_X12_drawn_114.2 ?_
        exact g_sub [1, 2, 3, 4, 5, 6] rfl (w_X12_drawn_138 hO o ih _ _ _ _ _ _ _ _ _ _)
set_option maxRecDepth 20000 in
theorem w_X12_drawn_53 {Γ : GC} {E : GE} (hO : gOk Γ E cX12_drawn RX12 9 rm_X12_drawn (some .int) "drawn") (o : Nat) (x2 : Int32) (x3 : Int32) (x4 : Int32) (S : GS) : Go Γ E (gBsI Γ E) 9 (0, 0) 53 S [(0, vA (some o)), (2, vI x2), (3, vI x3), (4, vI x4)] [] (f_X12_drawn_53 o x2 x3 x4 S) := by
  unfold f_X12_drawn_53
  refine g_aload_n hO d_X12_drawn_53 (by rfl) 0 rfl ?_
  refine g_iload_n hO d_X12_drawn_54 (by rfl) 1 rfl ?_
  refine h_putI hO cl_X12 60 rfl rfl wf_X12_555 (Or.inl rfl) d_X12_drawn_55 (fun S1 => ?_)
  refine g_aload_n hO d_X12_drawn_58 (by rfl) 0 rfl ?_
  refine k_virtVs hO cl_X12 mm_X12_begin lkV_X12_397 ⟨⟨Nat.le_of_ble_eq_true rfl, Nat.le_of_ble_eq_true rfl⟩, Nat.le_of_ble_eq_true rfl, Nat.le_of_ble_eq_true rfl⟩ (kn' := (0, 0)) rfl (As := []) rfl (Nat.le_of_ble_eq_true rfl) (fun o' _ => t_X12_begin Γ.2.1 E o' S1) d_X12_drawn_59 rfl (fun S3 => ?_)
  refine g_aload_n hO d_X12_drawn_62 (by rfl) 0 rfl ?_
  refine k_virtVs hO cl_X12 mm_X12_still lkV_X12_459 ⟨⟨Nat.le_of_ble_eq_true rfl, Nat.le_of_ble_eq_true rfl⟩, Nat.le_of_ble_eq_true rfl, Nat.le_of_ble_eq_true rfl⟩ (kn' := (0, 0)) rfl (As := []) rfl (Nat.le_of_ble_eq_true rfl) (fun o' _ => t_X12_still Γ.2.1 E o' S3) d_X12_drawn_63 rfl (fun S5 => ?_)
  refine g_aload_n hO d_X12_drawn_66 (by rfl) 0 rfl ?_
  refine h_getI hO cl_X12 29 rfl wf_X12_325 d_X12_drawn_67 (fun v6 => ?_)
  refine g_istore (lv' := [(5, vI v6), (0, vA (some o)), (2, vI x2), (3, vI x3), (4, vI x4)]) hO d_X12_drawn_70 (by decide) rfl ?_
  refine g_aload_n hO d_X12_drawn_72 (by rfl) 1 rfl ?_
  refine h_getI hO cl_X12 29 rfl wf_X12_325 d_X12_drawn_73 (fun v7 => ?_)
  refine g_istore (lv' := [(6, vI v7), (5, vI v6), (0, vA (some o)), (2, vI x2), (3, vI x3), (4, vI x4)]) hO d_X12_drawn_76 (by decide) rfl ?_
  refine g_iconst hO 0 d_X12_drawn_78 (by decide) ?_
  refine g_istore (lv' := [(7, vI 0), (6, vI v7), (5, vI v6), (0, vA (some o)), (2, vI x2), (3, vI x3), (4, vI x4)]) hO d_X12_drawn_79 (by decide) rfl ?_
  exact g_sub [3, 5, 6, 2, 1, 0] rfl (w_X12_drawn_81 hO o _ _ _ _ _ _ _)
set_option maxRecDepth 20000 in
theorem w_X12_drawn {Γ : GC} {E : GE} (hO : gOk Γ E cX12_drawn RX12 9 rm_X12_drawn (some .int) "drawn") (o : Nat) (x1 : Int32) (x2 : Int32) (x3 : Int32) (x4 : Int32) (S : GS) : Go Γ E (gBsI Γ E) 9 (0, 0) 0 S [(0, vA (some o)), (1, vI x1), (2, vI x2), (3, vI x3), (4, vI x4)] [] (f_X12_drawn o x1 x2 x3 x4 S) := by
  unfold f_X12_drawn
  refine g_aload_n hO d_X12_drawn_0 (by rfl) 0 rfl ?_
  refine g_iconst hO 0 d_X12_drawn_1 (by decide) ?_
  refine h_putI hO cl_X12 0 rfl rfl wf_X12_100 (Or.inl rfl) d_X12_drawn_2 (fun S1 => ?_)
  refine g_iload_n hO d_X12_drawn_5 (by rfl) 3 rfl ?_
  refine g_iconst hO 0 d_X12_drawn_6 (by decide) ?_
  refine g_bipush hO 60 d_X12_drawn_7 (by decide) ?_
  refine k_statIp hO mm_X12_in lkS_X12_112 ⟨⟨Nat.le_of_ble_eq_true rfl, Nat.le_of_ble_eq_true rfl⟩, Nat.le_of_ble_eq_true rfl, Nat.le_of_ble_eq_true rfl⟩ (kn' := (0, 0)) rfl (As := [vI x3, vI 0, vI 60]) rfl (Nat.le_of_ble_eq_true rfl) (t_X12_in Γ.2.1 E x3 0 60 S1) d_X12_drawn_9 rfl (fun v2 => ?_)
  refine g_if_eq (tgt := 51) hO d_X12_drawn_12.1 d_X12_drawn_12.2 (fun _ => ?_) (fun _ => ?_)
  · skip
    refine g_iconst hO (-1) d_X12_drawn_51 (by decide) ?_
    exact g_ret hO rfl rfl ⟨Nat.le_of_ble_eq_true rfl, Nat.le_of_ble_eq_true rfl⟩ rfl rfl d_X12_drawn_52.1
  · skip
    refine g_aload_n hO d_X12_drawn_15 (by rfl) 0 rfl ?_
    refine g_iload_n hO d_X12_drawn_16 (by rfl) 1 rfl ?_
    refine k_virtIs hO cl_X12 mm_X12_hand lkV_X12_297 ⟨⟨Nat.le_of_ble_eq_true rfl, Nat.le_of_ble_eq_true rfl⟩, Nat.le_of_ble_eq_true rfl, Nat.le_of_ble_eq_true rfl⟩ (kn' := (0, 0)) rfl (As := [vI x1]) rfl (Nat.le_of_ble_eq_true rfl) (fun o' _ => t_X12_hand Γ.2.1 E o' x1 S1) d_X12_drawn_17 rfl (fun v4 S5 => ?_)
    refine g_if_eq (tgt := 51) hO d_X12_drawn_20.1 d_X12_drawn_20.2 (fun _ => ?_) (fun _ => ?_)
    · skip
      refine g_iconst hO (-1) d_X12_drawn_51 (by decide) ?_
      exact g_ret hO rfl rfl ⟨Nat.le_of_ble_eq_true rfl, Nat.le_of_ble_eq_true rfl⟩ rfl rfl d_X12_drawn_52.1
    · skip
      refine g_iload hO d_X12_drawn_23 4 rfl ?_
      refine g_iconst hO 0 d_X12_drawn_25 (by decide) ?_
      refine g_bipush hO 6 d_X12_drawn_26 (by decide) ?_
      refine k_statIp hO mm_X12_in lkS_X12_112 ⟨⟨Nat.le_of_ble_eq_true rfl, Nat.le_of_ble_eq_true rfl⟩, Nat.le_of_ble_eq_true rfl, Nat.le_of_ble_eq_true rfl⟩ (kn' := (0, 0)) rfl (As := [vI x4, vI 0, vI 6]) rfl (Nat.le_of_ble_eq_true rfl) (t_X12_in Γ.2.1 E x4 0 6 S5) d_X12_drawn_28 rfl (fun v6 => ?_)
      refine g_if_ne (tgt := 53) hO d_X12_drawn_31.1 d_X12_drawn_31.2 (fun _ => ?_) (fun _ => ?_)
      · skip
        refine g_iload hO d_X12_drawn_34 4 rfl ?_
        refine g_bipush hO 10 d_X12_drawn_36 (by decide) ?_
        refine g_bipush hO 9 d_X12_drawn_38 (by decide) ?_
        refine g_aload_n hO d_X12_drawn_40 (by rfl) 0 rfl ?_
        refine h_getI hO cl_X12 27 rfl wf_X12_294 d_X12_drawn_41 (fun v8 => ?_)
        refine g_iadd hO d_X12_drawn_44 ?_
        refine k_statIp hO mm_X12_in lkS_X12_112 ⟨⟨Nat.le_of_ble_eq_true rfl, Nat.le_of_ble_eq_true rfl⟩, Nat.le_of_ble_eq_true rfl, Nat.le_of_ble_eq_true rfl⟩ (kn' := (0, 0)) rfl (As := [vI x4, vI 10, vI (9 + v8)]) rfl (Nat.le_of_ble_eq_true rfl) (t_X12_in Γ.2.1 E x4 10 (9 + v8) S5) d_X12_drawn_45 rfl (fun v9 => ?_)
        refine g_if_ne (tgt := 53) hO d_X12_drawn_48.1 d_X12_drawn_48.2 (fun _ => ?_) (fun _ => ?_)
        · skip
          refine g_iconst hO (-1) d_X12_drawn_51 (by decide) ?_
          exact g_ret hO rfl rfl ⟨Nat.le_of_ble_eq_true rfl, Nat.le_of_ble_eq_true rfl⟩ rfl rfl d_X12_drawn_52.1
        · skip
          exact g_sub [0, 2, 3, 4] rfl (w_X12_drawn_53 hO o _ _ _ _)
      · skip
        exact g_sub [0, 2, 3, 4] rfl (w_X12_drawn_53 hO o _ _ _ _)
theorem t_X12_drawn (l : Launch) (E : GE) (o : Nat) (x1 : Int32) (x2 : Int32) (x3 : Int32) (x4 : Int32) (S : GS) : ∀ a, f_X12_drawn o x1 x2 x3 x4 S = some a → Ct l E yX12_drawn cX12_drawn 9 (some .int) rm_X12_drawn [vA (some o), vI x1, vI x2, vI x3, vI x4] S (some (vI a.1)) a.2 :=
  Ct_of (val := fun (b : Int32 × GS) => some (vI b.1)) (nxt := fun (b : Int32 × GS) => b.2) (by decide) (Nat.le_of_ble_eq_true rfl) (fun Γ hl hO => w_X12_drawn hO o x1 x2 x3 x4 S)
theorem d_X12_climb_0 : gD cX12_climb 0 (.aload_n 0) 1 1 := ⟨by decide +kernel, rfl⟩
theorem d_X12_climb_1 : gD cX12_climb 1 (.iconst 0) 1 2 := ⟨by decide +kernel, rfl⟩
theorem d_X12_climb_2 : gD cX12_climb 2 (.putfield 100) 3 5 := ⟨by decide +kernel, rfl⟩
theorem d_X12_climb_5 : gD cX12_climb 5 (.iload_n 3) 1 6 := ⟨by decide +kernel, rfl⟩
theorem d_X12_climb_6 : gD cX12_climb 6 (.iconst 0) 1 7 := ⟨by decide +kernel, rfl⟩
theorem d_X12_climb_7 : gD cX12_climb 7 (.bipush 40) 2 9 := ⟨by decide +kernel, rfl⟩
theorem d_X12_climb_9 : gD cX12_climb 9 (.invokestatic 112) 3 12 := ⟨by decide +kernel, rfl⟩
theorem d_X12_climb_12 : gD cX12_climb 12 (.ifCond .eq 29) 3 15 ∧ ((12 : Nat) : Int) + 29 = ((41 : Nat) : Int) := ⟨⟨by decide +kernel, rfl⟩, by decide⟩
theorem d_X12_climb_15 : gD cX12_climb 15 (.iload 4) 2 17 := ⟨by decide +kernel, rfl⟩
theorem d_X12_climb_17 : gD cX12_climb 17 (.iconst 0) 1 18 := ⟨by decide +kernel, rfl⟩
theorem d_X12_climb_18 : gD cX12_climb 18 (.iconst 4) 1 19 := ⟨by decide +kernel, rfl⟩
theorem d_X12_climb_19 : gD cX12_climb 19 (.invokestatic 112) 3 22 := ⟨by decide +kernel, rfl⟩
theorem d_X12_climb_22 : gD cX12_climb 22 (.ifCond .eq 19) 3 25 ∧ ((22 : Nat) : Int) + 19 = ((41 : Nat) : Int) := ⟨⟨by decide +kernel, rfl⟩, by decide⟩
theorem d_X12_climb_25 : gD cX12_climb 25 (.aload_n 0) 1 26 := ⟨by decide +kernel, rfl⟩
theorem d_X12_climb_26 : gD cX12_climb 26 (.iload_n 1) 1 27 := ⟨by decide +kernel, rfl⟩
theorem d_X12_climb_27 : gD cX12_climb 27 (.invokevirtual 297) 3 30 := ⟨by decide +kernel, rfl⟩
theorem d_X12_climb_30 : gD cX12_climb 30 (.ifCond .eq 11) 3 33 ∧ ((30 : Nat) : Int) + 11 = ((41 : Nat) : Int) := ⟨⟨by decide +kernel, rfl⟩, by decide⟩
theorem d_X12_climb_33 : gD cX12_climb 33 (.aload_n 0) 1 34 := ⟨by decide +kernel, rfl⟩
theorem d_X12_climb_34 : gD cX12_climb 34 (.iload_n 2) 1 35 := ⟨by decide +kernel, rfl⟩
theorem d_X12_climb_35 : gD cX12_climb 35 (.invokevirtual 303) 3 38 := ⟨by decide +kernel, rfl⟩
theorem d_X12_climb_38 : gD cX12_climb 38 (.ifCond .ne 6) 3 41 ∧ ((38 : Nat) : Int) + 6 = ((44 : Nat) : Int) := ⟨⟨by decide +kernel, rfl⟩, by decide⟩
theorem d_X12_climb_41 : gD cX12_climb 41 (.bipush (-2)) 2 43 := ⟨by decide +kernel, rfl⟩
theorem d_X12_climb_43 : gD cX12_climb 43 (.ireturn) 1 44 := ⟨by decide +kernel, rfl⟩
theorem d_X12_climb_44 : gD cX12_climb 44 (.aload_n 0) 1 45 := ⟨by decide +kernel, rfl⟩
theorem d_X12_climb_45 : gD cX12_climb 45 (.iload_n 2) 1 46 := ⟨by decide +kernel, rfl⟩
theorem d_X12_climb_46 : gD cX12_climb 46 (.iconst 1) 1 47 := ⟨by decide +kernel, rfl⟩
theorem d_X12_climb_47 : gD cX12_climb 47 (.invokevirtual 306) 3 50 := ⟨by decide +kernel, rfl⟩
theorem d_X12_climb_50 : gD cX12_climb 50 (.istore 5) 2 52 := ⟨by decide +kernel, rfl⟩
theorem d_X12_climb_52 : gD cX12_climb 52 (.iconst 0) 1 53 := ⟨by decide +kernel, rfl⟩
theorem d_X12_climb_53 : gD cX12_climb 53 (.istore 6) 2 55 := ⟨by decide +kernel, rfl⟩
theorem d_X12_climb_55 : gD cX12_climb 55 (.iconst (-1)) 1 56 := ⟨by decide +kernel, rfl⟩
theorem d_X12_climb_56 : gD cX12_climb 56 (.istore 7) 2 58 := ⟨by decide +kernel, rfl⟩
theorem d_X12_climb_58 : gD cX12_climb 58 (.iconst 0) 1 59 := ⟨by decide +kernel, rfl⟩
theorem d_X12_climb_59 : gD cX12_climb 59 (.istore 8) 2 61 := ⟨by decide +kernel, rfl⟩
theorem d_X12_climb_61 : gD cX12_climb 61 (.iload 8) 2 63 := ⟨by decide +kernel, rfl⟩
theorem d_X12_climb_63 : gD cX12_climb 63 (.bipush 40) 2 65 := ⟨by decide +kernel, rfl⟩
theorem d_X12_climb_65 : gD cX12_climb 65 (.if_icmp .gt 32) 3 68 ∧ ((65 : Nat) : Int) + 32 = ((97 : Nat) : Int) := ⟨⟨by decide +kernel, rfl⟩, by decide⟩
theorem d_X12_climb_68 : gD cX12_climb 68 (.aload_n 0) 1 69 := ⟨by decide +kernel, rfl⟩
theorem d_X12_climb_69 : gD cX12_climb 69 (.iload_n 2) 1 70 := ⟨by decide +kernel, rfl⟩
theorem d_X12_climb_70 : gD cX12_climb 70 (.iload 5) 2 72 := ⟨by decide +kernel, rfl⟩
theorem d_X12_climb_72 : gD cX12_climb 72 (.iload_n 3) 1 73 := ⟨by decide +kernel, rfl⟩
theorem d_X12_climb_73 : gD cX12_climb 73 (.iload 8) 2 75 := ⟨by decide +kernel, rfl⟩
theorem d_X12_climb_75 : gD cX12_climb 75 (.isub) 1 76 := ⟨by decide +kernel, rfl⟩
theorem d_X12_climb_76 : gD cX12_climb 76 (.invokevirtual 309) 3 79 := ⟨by decide +kernel, rfl⟩
theorem d_X12_climb_79 : gD cX12_climb 79 (.ifCond .ne 8) 3 82 ∧ ((79 : Nat) : Int) + 8 = ((87 : Nat) : Int) := ⟨⟨by decide +kernel, rfl⟩, by decide⟩
theorem d_X12_climb_82 : gD cX12_climb 82 (.iload 8) 2 84 := ⟨by decide +kernel, rfl⟩
theorem d_X12_climb_84 : decode cX12_climb 84 = .ok (.goto 5, 3) ∧ ((84 : Nat) : Int) + 5 = ((89 : Nat) : Int) := ⟨by decide +kernel, by decide⟩
theorem d_X12_climb_87 : gD cX12_climb 87 (.iload 7) 2 89 := ⟨by decide +kernel, rfl⟩
theorem d_X12_climb_89 : gD cX12_climb 89 (.istore 7) 2 91 := ⟨by decide +kernel, rfl⟩
theorem d_X12_climb_91 : gD cX12_climb 91 (.iinc 8 1) 3 94 := ⟨by decide +kernel, rfl⟩
theorem d_X12_climb_94 : decode cX12_climb 94 = .ok (.goto (-33), 3) ∧ ((94 : Nat) : Int) + (-33) = ((61 : Nat) : Int) := ⟨by decide +kernel, by decide⟩
theorem d_X12_climb_97 : gD cX12_climb 97 (.iconst 0) 1 98 := ⟨by decide +kernel, rfl⟩
theorem d_X12_climb_98 : gD cX12_climb 98 (.istore 8) 2 100 := ⟨by decide +kernel, rfl⟩
theorem d_X12_climb_100 : gD cX12_climb 100 (.iload 8) 2 102 := ⟨by decide +kernel, rfl⟩
theorem d_X12_climb_102 : gD cX12_climb 102 (.aload_n 0) 1 103 := ⟨by decide +kernel, rfl⟩
theorem d_X12_climb_103 : gD cX12_climb 103 (.getfield 291) 3 106 := ⟨by decide +kernel, rfl⟩
theorem d_X12_climb_106 : gD cX12_climb 106 (.if_icmp .ge 40) 3 109 ∧ ((106 : Nat) : Int) + 40 = ((146 : Nat) : Int) := ⟨⟨by decide +kernel, rfl⟩, by decide⟩
theorem d_X12_climb_109 : gD cX12_climb 109 (.iload 6) 2 111 := ⟨by decide +kernel, rfl⟩
theorem d_X12_climb_111 : gD cX12_climb 111 (.aload_n 0) 1 112 := ⟨by decide +kernel, rfl⟩
theorem d_X12_climb_112 : gD cX12_climb 112 (.iload_n 2) 1 113 := ⟨by decide +kernel, rfl⟩
theorem d_X12_climb_113 : gD cX12_climb 113 (.iload 5) 2 115 := ⟨by decide +kernel, rfl⟩
theorem d_X12_climb_115 : gD cX12_climb 115 (.iload_n 3) 1 116 := ⟨by decide +kernel, rfl⟩
theorem d_X12_climb_116 : gD cX12_climb 116 (.aload_n 0) 1 117 := ⟨by decide +kernel, rfl⟩
theorem d_X12_climb_117 : gD cX12_climb 117 (.iload 8) 2 119 := ⟨by decide +kernel, rfl⟩
theorem d_X12_climb_119 : gD cX12_climb 119 (.invokevirtual 358) 3 122 := ⟨by decide +kernel, rfl⟩
theorem d_X12_climb_122 : gD cX12_climb 122 (.isub) 1 123 := ⟨by decide +kernel, rfl⟩
theorem d_X12_climb_123 : gD cX12_climb 123 (.invokevirtual 309) 3 126 := ⟨by decide +kernel, rfl⟩
theorem d_X12_climb_126 : gD cX12_climb 126 (.ifCond .ne 10) 3 129 ∧ ((126 : Nat) : Int) + 10 = ((136 : Nat) : Int) := ⟨⟨by decide +kernel, rfl⟩, by decide⟩
theorem d_X12_climb_129 : gD cX12_climb 129 (.iconst 1) 1 130 := ⟨by decide +kernel, rfl⟩
theorem d_X12_climb_130 : gD cX12_climb 130 (.iload 8) 2 132 := ⟨by decide +kernel, rfl⟩
theorem d_X12_climb_132 : gD cX12_climb 132 (.ishl) 1 133 := ⟨by decide +kernel, rfl⟩
theorem d_X12_climb_133 : decode cX12_climb 133 = .ok (.goto 4, 3) ∧ ((133 : Nat) : Int) + 4 = ((137 : Nat) : Int) := ⟨by decide +kernel, by decide⟩
theorem d_X12_climb_136 : gD cX12_climb 136 (.iconst 0) 1 137 := ⟨by decide +kernel, rfl⟩
theorem d_X12_climb_137 : gD cX12_climb 137 (.ior) 1 138 := ⟨by decide +kernel, rfl⟩
theorem d_X12_climb_138 : gD cX12_climb 138 (.istore 6) 2 140 := ⟨by decide +kernel, rfl⟩
theorem d_X12_climb_140 : gD cX12_climb 140 (.iinc 8 1) 3 143 := ⟨by decide +kernel, rfl⟩
theorem d_X12_climb_143 : decode cX12_climb 143 = .ok (.goto (-43), 3) ∧ ((143 : Nat) : Int) + (-43) = ((100 : Nat) : Int) := ⟨by decide +kernel, by decide⟩
theorem d_X12_climb_146 : gD cX12_climb 146 (.iconst 0) 1 147 := ⟨by decide +kernel, rfl⟩
theorem d_X12_climb_147 : gD cX12_climb 147 (.istore 8) 2 149 := ⟨by decide +kernel, rfl⟩
theorem d_X12_climb_149 : gD cX12_climb 149 (.iconst (-1)) 1 150 := ⟨by decide +kernel, rfl⟩
theorem d_X12_climb_150 : gD cX12_climb 150 (.istore 9) 2 152 := ⟨by decide +kernel, rfl⟩
theorem d_X12_climb_152 : gD cX12_climb 152 (.iconst (-1)) 1 153 := ⟨by decide +kernel, rfl⟩
theorem d_X12_climb_153 : gD cX12_climb 153 (.istore 10) 2 155 := ⟨by decide +kernel, rfl⟩
theorem d_X12_climb_155 : gD cX12_climb 155 (.iconst 0) 1 156 := ⟨by decide +kernel, rfl⟩
theorem d_X12_climb_156 : gD cX12_climb 156 (.istore 11) 2 158 := ⟨by decide +kernel, rfl⟩
theorem d_X12_climb_158 : gD cX12_climb 158 (.iload 11) 2 160 := ⟨by decide +kernel, rfl⟩
theorem d_X12_climb_160 : gD cX12_climb 160 (.bipush 31) 2 162 := ⟨by decide +kernel, rfl⟩
theorem d_X12_climb_162 : gD cX12_climb 162 (.if_icmp .ge 42) 3 165 ∧ ((162 : Nat) : Int) + 42 = ((204 : Nat) : Int) := ⟨⟨by decide +kernel, rfl⟩, by decide⟩
theorem d_X12_climb_165 : gD cX12_climb 165 (.aload_n 0) 1 166 := ⟨by decide +kernel, rfl⟩
theorem d_X12_climb_166 : gD cX12_climb 166 (.iload_n 2) 1 167 := ⟨by decide +kernel, rfl⟩
theorem d_X12_climb_167 : gD cX12_climb 167 (.iload 11) 2 169 := ⟨by decide +kernel, rfl⟩
theorem d_X12_climb_169 : gD cX12_climb 169 (.iload_n 3) 1 170 := ⟨by decide +kernel, rfl⟩
theorem d_X12_climb_170 : gD cX12_climb 170 (.invokevirtual 424) 3 173 := ⟨by decide +kernel, rfl⟩
theorem d_X12_climb_173 : gD cX12_climb 173 (.ifCond .eq 25) 3 176 ∧ ((173 : Nat) : Int) + 25 = ((198 : Nat) : Int) := ⟨⟨by decide +kernel, rfl⟩, by decide⟩
theorem d_X12_climb_176 : gD cX12_climb 176 (.iinc 8 1) 3 179 := ⟨by decide +kernel, rfl⟩
theorem d_X12_climb_179 : gD cX12_climb 179 (.iload 9) 2 181 := ⟨by decide +kernel, rfl⟩
theorem d_X12_climb_181 : gD cX12_climb 181 (.iconst (-1)) 1 182 := ⟨by decide +kernel, rfl⟩
theorem d_X12_climb_182 : gD cX12_climb 182 (.if_icmp .ne 8) 3 185 ∧ ((182 : Nat) : Int) + 8 = ((190 : Nat) : Int) := ⟨⟨by decide +kernel, rfl⟩, by decide⟩
theorem d_X12_climb_185 : gD cX12_climb 185 (.iload 11) 2 187 := ⟨by decide +kernel, rfl⟩
theorem d_X12_climb_187 : decode cX12_climb 187 = .ok (.goto 5, 3) ∧ ((187 : Nat) : Int) + 5 = ((192 : Nat) : Int) := ⟨by decide +kernel, by decide⟩
theorem d_X12_climb_190 : gD cX12_climb 190 (.iload 9) 2 192 := ⟨by decide +kernel, rfl⟩
theorem d_X12_climb_192 : gD cX12_climb 192 (.istore 9) 2 194 := ⟨by decide +kernel, rfl⟩
theorem d_X12_climb_194 : gD cX12_climb 194 (.iload 11) 2 196 := ⟨by decide +kernel, rfl⟩
theorem d_X12_climb_196 : gD cX12_climb 196 (.istore 10) 2 198 := ⟨by decide +kernel, rfl⟩
theorem d_X12_climb_198 : gD cX12_climb 198 (.iinc 11 1) 3 201 := ⟨by decide +kernel, rfl⟩
theorem d_X12_climb_201 : decode cX12_climb 201 = .ok (.goto (-43), 3) ∧ ((201 : Nat) : Int) + (-43) = ((158 : Nat) : Int) := ⟨by decide +kernel, by decide⟩
theorem d_X12_climb_204 : gD cX12_climb 204 (.iload 4) 2 206 := ⟨by decide +kernel, rfl⟩
theorem d_X12_climb_206 : gD cX12_climb 206 (.ifCond .ne 8) 3 209 ∧ ((206 : Nat) : Int) + 8 = ((214 : Nat) : Int) := ⟨⟨by decide +kernel, rfl⟩, by decide⟩
theorem d_X12_climb_209 : gD cX12_climb 209 (.iload 7) 2 211 := ⟨by decide +kernel, rfl⟩
theorem d_X12_climb_211 : decode cX12_climb 211 = .ok (.goto 38, 3) ∧ ((211 : Nat) : Int) + 38 = ((249 : Nat) : Int) := ⟨by decide +kernel, by decide⟩
theorem d_X12_climb_214 : gD cX12_climb 214 (.iload 4) 2 216 := ⟨by decide +kernel, rfl⟩
theorem d_X12_climb_216 : gD cX12_climb 216 (.iconst 1) 1 217 := ⟨by decide +kernel, rfl⟩
theorem d_X12_climb_217 : gD cX12_climb 217 (.if_icmp .ne 8) 3 220 ∧ ((217 : Nat) : Int) + 8 = ((225 : Nat) : Int) := ⟨⟨by decide +kernel, rfl⟩, by decide⟩
theorem d_X12_climb_220 : gD cX12_climb 220 (.iload 6) 2 222 := ⟨by decide +kernel, rfl⟩
theorem d_X12_climb_222 : decode cX12_climb 222 = .ok (.goto 27, 3) ∧ ((222 : Nat) : Int) + 27 = ((249 : Nat) : Int) := ⟨by decide +kernel, by decide⟩
theorem d_X12_climb_225 : gD cX12_climb 225 (.iload 4) 2 227 := ⟨by decide +kernel, rfl⟩
theorem d_X12_climb_227 : gD cX12_climb 227 (.iconst 2) 1 228 := ⟨by decide +kernel, rfl⟩
theorem d_X12_climb_228 : gD cX12_climb 228 (.if_icmp .ne 8) 3 231 ∧ ((228 : Nat) : Int) + 8 = ((236 : Nat) : Int) := ⟨⟨by decide +kernel, rfl⟩, by decide⟩
theorem d_X12_climb_231 : gD cX12_climb 231 (.iload 8) 2 233 := ⟨by decide +kernel, rfl⟩
theorem d_X12_climb_233 : decode cX12_climb 233 = .ok (.goto 16, 3) ∧ ((233 : Nat) : Int) + 16 = ((249 : Nat) : Int) := ⟨by decide +kernel, by decide⟩
theorem d_X12_climb_236 : gD cX12_climb 236 (.iload 4) 2 238 := ⟨by decide +kernel, rfl⟩
theorem d_X12_climb_238 : gD cX12_climb 238 (.iconst 3) 1 239 := ⟨by decide +kernel, rfl⟩
theorem d_X12_climb_239 : gD cX12_climb 239 (.if_icmp .ne 8) 3 242 ∧ ((239 : Nat) : Int) + 8 = ((247 : Nat) : Int) := ⟨⟨by decide +kernel, rfl⟩, by decide⟩
theorem d_X12_climb_242 : gD cX12_climb 242 (.iload 9) 2 244 := ⟨by decide +kernel, rfl⟩
theorem d_X12_climb_244 : decode cX12_climb 244 = .ok (.goto 5, 3) ∧ ((244 : Nat) : Int) + 5 = ((249 : Nat) : Int) := ⟨by decide +kernel, by decide⟩
theorem d_X12_climb_247 : gD cX12_climb 247 (.iload 10) 2 249 := ⟨by decide +kernel, rfl⟩
theorem d_X12_climb_249 : gD cX12_climb 249 (.ireturn) 1 250 := ⟨by decide +kernel, rfl⟩
abbrev rm_X12_climb : Room := { frames := 4, cells := 0, slots := 0, locals := 89 }
set_option maxRecDepth 20000 in
theorem w_X12_climb_89 {Γ : GC} {E : GE} (hO : gOk Γ E cX12_climb RX12 12 rm_X12_climb (some .int) "climb") (o : Nat) {k61 : (Int32 → Int32 → Int32 → Int32 → Int32 → Int32 → Int32 → GS → Option (Int32 × GS))} (hk61 : ∀ (z2 : Int32) (z3 : Int32) (z4 : Int32) (z5 : Int32) (z6 : Int32) (z7 : Int32) (z8 : Int32) (S1 : GS), Go Γ E (gBsI Γ E) 12 (0, 0) 61 S1 [(0, vA (some o)), (2, vI z2), (3, vI z3), (4, vI z4), (5, vI z5), (6, vI z6), (7, vI z7), (8, vI z8)] [] (k61 z2 z3 z4 z5 z6 z7 z8 S1)) (x2 : Int32) (x3 : Int32) (x4 : Int32) (x5 : Int32) (x6 : Int32) (x8 : Int32) (y0 : Int32) (S : GS) : Go Γ E (gBsI Γ E) 12 (0, 0) 89 S [(0, vA (some o)), (2, vI x2), (3, vI x3), (4, vI x4), (5, vI x5), (6, vI x6), (8, vI x8)] [vI y0] (f_X12_climb_89 k61 o x2 x3 x4 x5 x6 x8 y0 S) := by
  unfold f_X12_climb_89
  refine g_istore (lv' := [(7, vI y0), (0, vA (some o)), (2, vI x2), (3, vI x3), (4, vI x4), (5, vI x5), (6, vI x6), (8, vI x8)]) hO d_X12_climb_89 (by decide) rfl ?_
  refine g_iinc (lv' := [(8, vI (x8 + 1)), (7, vI y0), (0, vA (some o)), (2, vI x2), (3, vI x3), (4, vI x4), (5, vI x5), (6, vI x6)]) hO 1 d_X12_climb_91 (by decide) 7 rfl (by decide) rfl ?_
  refine g_goto (tgt := 61) hO d_X12_climb_94.1 d_X12_climb_94.2 ?_
  exact g_sub [2, 3, 4, 5, 6, 7, 1, 0] rfl (hk61 _ _ _ _ _ _ _ _)
set_option maxRecDepth 20000 in
theorem w_X12_climb_137 {Γ : GC} {E : GE} (hO : gOk Γ E cX12_climb RX12 12 rm_X12_climb (some .int) "climb") (o : Nat) {k100 : (Int32 → Int32 → Int32 → Int32 → Int32 → Int32 → Int32 → GS → Option (Int32 × GS))} (hk100 : ∀ (z2 : Int32) (z3 : Int32) (z4 : Int32) (z5 : Int32) (z6 : Int32) (z7 : Int32) (z8 : Int32) (S1 : GS), Go Γ E (gBsI Γ E) 12 (0, 0) 100 S1 [(0, vA (some o)), (2, vI z2), (3, vI z3), (4, vI z4), (5, vI z5), (6, vI z6), (7, vI z7), (8, vI z8)] [] (k100 z2 z3 z4 z5 z6 z7 z8 S1)) (x2 : Int32) (x3 : Int32) (x4 : Int32) (x5 : Int32) (x7 : Int32) (x8 : Int32) (y0 : Int32) (y1 : Int32) (S : GS) : Go Γ E (gBsI Γ E) 12 (0, 0) 137 S [(0, vA (some o)), (2, vI x2), (3, vI x3), (4, vI x4), (5, vI x5), (7, vI x7), (8, vI x8)] [vI y1, vI y0] (f_X12_climb_137 k100 o x2 x3 x4 x5 x7 x8 y0 y1 S) := by
  unfold f_X12_climb_137
  refine g_ior hO d_X12_climb_137 ?_
  refine g_istore (lv' := [(6, vI (y0 ||| y1)), (0, vA (some o)), (2, vI x2), (3, vI x3), (4, vI x4), (5, vI x5), (7, vI x7), (8, vI x8)]) hO d_X12_climb_138 (by decide) rfl ?_
  refine g_iinc (lv' := [(8, vI (x8 + 1)), (6, vI (y0 ||| y1)), (0, vA (some o)), (2, vI x2), (3, vI x3), (4, vI x4), (5, vI x5), (7, vI x7)]) hO 1 d_X12_climb_140 (by decide) 7 rfl (by decide) rfl ?_
  refine g_goto (tgt := 100) hO d_X12_climb_143.1 d_X12_climb_143.2 ?_
  exact g_sub [2, 3, 4, 5, 6, 1, 7, 0] rfl (hk100 _ _ _ _ _ _ _ _)
set_option maxRecDepth 20000 in
theorem w_X12_climb_198 {Γ : GC} {E : GE} (hO : gOk Γ E cX12_climb RX12 12 rm_X12_climb (some .int) "climb") (o : Nat) {k158 : (Int32 → Int32 → Int32 → Int32 → Int32 → Int32 → Int32 → Int32 → Int32 → GS → Option (Int32 × GS))} (hk158 : ∀ (z2 : Int32) (z3 : Int32) (z4 : Int32) (z6 : Int32) (z7 : Int32) (z8 : Int32) (z9 : Int32) (z10 : Int32) (z11 : Int32) (S1 : GS), Go Γ E (gBsI Γ E) 12 (0, 0) 158 S1 [(0, vA (some o)), (2, vI z2), (3, vI z3), (4, vI z4), (6, vI z6), (7, vI z7), (8, vI z8), (9, vI z9), (10, vI z10), (11, vI z11)] [] (k158 z2 z3 z4 z6 z7 z8 z9 z10 z11 S1)) (x2 : Int32) (x3 : Int32) (x4 : Int32) (x6 : Int32) (x7 : Int32) (x8 : Int32) (x9 : Int32) (x10 : Int32) (x11 : Int32) (S : GS) : Go Γ E (gBsI Γ E) 12 (0, 0) 198 S [(0, vA (some o)), (2, vI x2), (3, vI x3), (4, vI x4), (6, vI x6), (7, vI x7), (8, vI x8), (9, vI x9), (10, vI x10), (11, vI x11)] [] (f_X12_climb_198 k158 o x2 x3 x4 x6 x7 x8 x9 x10 x11 S) := by
  unfold f_X12_climb_198
  refine g_iinc (lv' := [(11, vI (x11 + 1)), (0, vA (some o)), (2, vI x2), (3, vI x3), (4, vI x4), (6, vI x6), (7, vI x7), (8, vI x8), (9, vI x9), (10, vI x10)]) hO 1 d_X12_climb_198 (by decide) 9 rfl (by decide) rfl ?_
  refine g_goto (tgt := 158) hO d_X12_climb_201.1 d_X12_climb_201.2 ?_
  exact g_sub [1, 2, 3, 4, 5, 6, 7, 8, 9, 0] rfl (hk158 _ _ _ _ _ _ _ _ _ _)
set_option maxRecDepth 20000 in
theorem w_X12_climb_192 {Γ : GC} {E : GE} (hO : gOk Γ E cX12_climb RX12 12 rm_X12_climb (some .int) "climb") (o : Nat) {k158 : (Int32 → Int32 → Int32 → Int32 → Int32 → Int32 → Int32 → Int32 → Int32 → GS → Option (Int32 × GS))} (hk158 : ∀ (z2 : Int32) (z3 : Int32) (z4 : Int32) (z6 : Int32) (z7 : Int32) (z8 : Int32) (z9 : Int32) (z10 : Int32) (z11 : Int32) (S1 : GS), Go Γ E (gBsI Γ E) 12 (0, 0) 158 S1 [(0, vA (some o)), (2, vI z2), (3, vI z3), (4, vI z4), (6, vI z6), (7, vI z7), (8, vI z8), (9, vI z9), (10, vI z10), (11, vI z11)] [] (k158 z2 z3 z4 z6 z7 z8 z9 z10 z11 S1)) (x2 : Int32) (x3 : Int32) (x4 : Int32) (x6 : Int32) (x7 : Int32) (x8 : Int32) (x11 : Int32) (y0 : Int32) (S : GS) : Go Γ E (gBsI Γ E) 12 (0, 0) 192 S [(0, vA (some o)), (2, vI x2), (3, vI x3), (4, vI x4), (6, vI x6), (7, vI x7), (8, vI x8), (11, vI x11)] [vI y0] (f_X12_climb_192 k158 o x2 x3 x4 x6 x7 x8 x11 y0 S) := by
  unfold f_X12_climb_192
  refine g_istore (lv' := [(9, vI y0), (0, vA (some o)), (2, vI x2), (3, vI x3), (4, vI x4), (6, vI x6), (7, vI x7), (8, vI x8), (11, vI x11)]) hO d_X12_climb_192 (by decide) rfl ?_
  refine g_iload hO d_X12_climb_194 8 rfl ?_
  refine g_istore (lv' := [(10, vI x11), (9, vI y0), (0, vA (some o)), (2, vI x2), (3, vI x3), (4, vI x4), (6, vI x6), (7, vI x7), (8, vI x8), (11, vI x11)]) hO d_X12_climb_196 (by decide) rfl ?_
  exact g_sub [2, 3, 4, 5, 6, 7, 8, 1, 0, 9] rfl (w_X12_climb_198 hO o hk158 _ _ _ _ _ _ _ _ _ _)
set_option maxRecDepth 20000 in
theorem w_X12_climb_158 {Γ : GC} {E : GE} (hO : gOk Γ E cX12_climb RX12 12 rm_X12_climb (some .int) "climb") (o : Nat) : ∀ (n : Nat) (x2 : Int32) (x3 : Int32) (x4 : Int32) (x6 : Int32) (x7 : Int32) (x8 : Int32) (x9 : Int32) (x10 : Int32) (x11 : Int32) (S : GS), Go Γ E (gBsI Γ E) 12 (0, 0) 158 S [(0, vA (some o)), (2, vI x2), (3, vI x3), (4, vI x4), (6, vI x6), (7, vI x7), (8, vI x8), (9, vI x9), (10, vI x10), (11, vI x11)] [] (f_X12_climb_158 o n x2 x3 x4 x6 x7 x8 x9 x10 x11 S) := by
  intro n
  induction n with
  | zero =>
    intro x2 x3 x4 x6 x7 x8 x9 x10 x11 S
    exact g_none
  | succ n ih =>
    intro x2 x3 x4 x6 x7 x8 x9 x10 x11 S
    rw [f_X12_climb_158]
    refine g_iload hO d_X12_climb_158 9 rfl ?_
    refine g_bipush hO 31 d_X12_climb_160 (by decide) ?_
    refine g_ic_ge (tgt := 204) hO d_X12_climb_162.1 d_X12_climb_162.2 (fun _ => ?_) (fun _ => ?_)
    · skip
      refine g_iload hO d_X12_climb_204 3 rfl ?_
      refine g_if_ne (tgt := 214) hO d_X12_climb_206.1 d_X12_climb_206.2 (fun _ => ?_) (fun _ => ?_)
      · skip
        refine g_iload hO d_X12_climb_209 5 rfl ?_
        refine g_goto (tgt := 249) hO d_X12_climb_211.1 d_X12_climb_211.2 ?_
        exact g_ret hO rfl rfl ⟨Nat.le_of_ble_eq_true rfl, Nat.le_of_ble_eq_true rfl⟩ rfl rfl d_X12_climb_249.1
      · skip
        refine g_iload hO d_X12_climb_214 3 rfl ?_
        refine g_iconst hO 1 d_X12_climb_216 (by decide) ?_
        refine g_ic_ne (tgt := 225) hO d_X12_climb_217.1 d_X12_climb_217.2 (fun _ => ?_) (fun _ => ?_)
        · skip
          refine g_iload hO d_X12_climb_220 4 rfl ?_
          refine g_goto (tgt := 249) hO d_X12_climb_222.1 d_X12_climb_222.2 ?_
          exact g_ret hO rfl rfl ⟨Nat.le_of_ble_eq_true rfl, Nat.le_of_ble_eq_true rfl⟩ rfl rfl d_X12_climb_249.1
        · skip
          refine g_iload hO d_X12_climb_225 3 rfl ?_
          refine g_iconst hO 2 d_X12_climb_227 (by decide) ?_
          refine g_ic_ne (tgt := 236) hO d_X12_climb_228.1 d_X12_climb_228.2 (fun _ => ?_) (fun _ => ?_)
          · skip
            refine g_iload hO d_X12_climb_231 6 rfl ?_
            refine g_goto (tgt := 249) hO d_X12_climb_233.1 d_X12_climb_233.2 ?_
            exact g_ret hO rfl rfl ⟨Nat.le_of_ble_eq_true rfl, Nat.le_of_ble_eq_true rfl⟩ rfl rfl d_X12_climb_249.1
          · skip
            refine g_iload hO d_X12_climb_236 3 rfl ?_
            refine g_iconst hO 3 d_X12_climb_238 (by decide) ?_
            refine g_ic_ne (tgt := 247) hO d_X12_climb_239.1 d_X12_climb_239.2 (fun _ => ?_) (fun _ => ?_)
            · skip
              refine g_iload hO d_X12_climb_242 7 rfl ?_
              refine g_goto (tgt := 249) hO d_X12_climb_244.1 d_X12_climb_244.2 ?_
              exact g_ret hO rfl rfl ⟨Nat.le_of_ble_eq_true rfl, Nat.le_of_ble_eq_true rfl⟩ rfl rfl d_X12_climb_249.1
            · skip
              refine g_iload hO d_X12_climb_247 8 rfl ?_
              exact g_ret hO rfl rfl ⟨Nat.le_of_ble_eq_true rfl, Nat.le_of_ble_eq_true rfl⟩ rfl rfl d_X12_climb_249.1
    · skip
      refine g_aload_n hO d_X12_climb_165 (by rfl) 0 rfl ?_
      refine g_iload_n hO d_X12_climb_166 (by rfl) 1 rfl ?_
      refine g_iload hO d_X12_climb_167 9 rfl ?_
      refine g_iload_n hO d_X12_climb_169 (by rfl) 2 rfl ?_
      refine k_virtIp hO cl_X12 mm_X12_stands lkV_X12_424 ⟨⟨Nat.le_of_ble_eq_true rfl, Nat.le_of_ble_eq_true rfl⟩, Nat.le_of_ble_eq_true rfl, Nat.le_of_ble_eq_true rfl⟩ (kn' := (0, 0)) rfl (As := [vI x2, vI x11, vI x3]) rfl (Nat.le_of_ble_eq_true rfl) (fun o' _ => t_X12_stands Γ.2.1 E o' x2 x11 x3 S) d_X12_climb_170 rfl (fun v1 => ?_)
      refine g_if_eq (tgt := 198) hO d_X12_climb_173.1 d_X12_climb_173.2 (fun _ => ?_) (fun _ => ?_)
      · skip
        exact g_sub [0, 1, 2, 3, 4, 5, 6, 7, 8, 9] rfl (w_X12_climb_198 hO o ih _ _ _ _ _ _ _ _ _ _)
      · skip
        refine g_iinc (lv' := [(8, vI (x8 + 1)), (0, vA (some o)), (2, vI x2), (3, vI x3), (4, vI x4), (6, vI x6), (7, vI x7), (9, vI x9), (10, vI x10), (11, vI x11)]) hO 1 d_X12_climb_176 (by decide) 6 rfl (by decide) rfl ?_
        refine g_iload hO d_X12_climb_179 7 rfl ?_
        refine g_iconst hO (-1) d_X12_climb_181 (by decide) ?_
        refine g_ic_ne (tgt := 190) hO d_X12_climb_182.1 d_X12_climb_182.2 (fun _ => ?_) (fun _ => ?_)
        · skip
          refine g_iload hO d_X12_climb_185 9 rfl ?_
          refine g_goto (tgt := 192) hO d_X12_climb_187.1 d_X12_climb_187.2 ?_
          exact g_sub [1, 2, 3, 4, 5, 6, 0, 9] rfl (w_X12_climb_192 hO o ih _ _ _ _ _ _ _ _ _)
        · skip
          refine g_iload hO d_X12_climb_190 7 rfl ?_
          exact g_sub [1, 2, 3, 4, 5, 6, 0, 9] rfl (w_X12_climb_192 hO o ih _ _ _ _ _ _ _ _ _)
set_option maxRecDepth 20000 in
theorem w_X12_climb_100 {Γ : GC} {E : GE} (hO : gOk Γ E cX12_climb RX12 12 rm_X12_climb (some .int) "climb") (o : Nat) : ∀ (n : Nat) (x2 : Int32) (x3 : Int32) (x4 : Int32) (x5 : Int32) (x6 : Int32) (x7 : Int32) (x8 : Int32) (S : GS), Go Γ E (gBsI Γ E) 12 (0, 0) 100 S [(0, vA (some o)), (2, vI x2), (3, vI x3), (4, vI x4), (5, vI x5), (6, vI x6), (7, vI x7), (8, vI x8)] [] (f_X12_climb_100 o n x2 x3 x4 x5 x6 x7 x8 S) := by
  intro n
  induction n with
  | zero =>
    intro x2 x3 x4 x5 x6 x7 x8 S
    exact g_none
  | succ n ih =>
    intro x2 x3 x4 x5 x6 x7 x8 S
    rw [f_X12_climb_100]
    refine g_iload hO d_X12_climb_100 7 rfl ?_
    refine g_aload_n hO d_X12_climb_102 (by rfl) 0 rfl ?_
    refine h_getI hO cl_X12 26 rfl wf_X12_291 d_X12_climb_103 (fun v1 => ?_)
    refine g_ic_ge (tgt := 146) hO d_X12_climb_106.1 d_X12_climb_106.2 (fun _ => ?_) (fun _ => ?_)
    · skip
      refine g_iconst hO 0 d_X12_climb_146 (by decide) ?_
      refine g_istore (lv' := [(8, vI 0), (0, vA (some o)), (2, vI x2), (3, vI x3), (4, vI x4), (5, vI x5), (6, vI x6), (7, vI x7)]) hO d_X12_climb_147 (by decide) rfl ?_
      refine g_iconst hO (-1) d_X12_climb_149 (by decide) ?_
      refine g_istore (lv' := [(9, vI (-1)), (8, vI 0), (0, vA (some o)), (2, vI x2), (3, vI x3), (4, vI x4), (5, vI x5), (6, vI x6), (7, vI x7)]) hO d_X12_climb_150 (by decide) rfl ?_
      refine g_iconst hO (-1) d_X12_climb_152 (by decide) ?_
      refine g_istore (lv' := [(10, vI (-1)), (9, vI (-1)), (8, vI 0), (0, vA (some o)), (2, vI x2), (3, vI x3), (4, vI x4), (5, vI x5), (6, vI x6), (7, vI x7)]) hO d_X12_climb_153 (by decide) rfl ?_
      refine g_iconst hO 0 d_X12_climb_155 (by decide) ?_
      refine g_istore (lv' := [(11, vI 0), (10, vI (-1)), (9, vI (-1)), (8, vI 0), (0, vA (some o)), (2, vI x2), (3, vI x3), (4, vI x4), (5, vI x5), (6, vI x6), (7, vI x7)]) hO d_X12_climb_156 (by decide) rfl ?_
      exact g_sub [4, 5, 6, 7, 9, 10, 3, 2, 1, 0] rfl (w_X12_climb_158 hO o _ _ _ _ _ _ _ _ _ _ _)
    · skip
      refine g_iload hO d_X12_climb_109 5 rfl ?_
      refine g_aload_n hO d_X12_climb_111 (by rfl) 0 rfl ?_
      refine g_iload_n hO d_X12_climb_112 (by rfl) 1 rfl ?_
      refine g_iload hO d_X12_climb_113 4 rfl ?_
      refine g_iload_n hO d_X12_climb_115 (by rfl) 2 rfl ?_
      refine g_aload_n hO d_X12_climb_116 (by rfl) 0 rfl ?_
      refine g_iload hO d_X12_climb_117 7 rfl ?_
      refine k_virtIp hO cl_X12 mm_X12_heightOf lkV_X12_358 ⟨⟨Nat.le_of_ble_eq_true rfl, Nat.le_of_ble_eq_true rfl⟩, Nat.le_of_ble_eq_true rfl, Nat.le_of_ble_eq_true rfl⟩ (kn' := (0, 0)) rfl (As := [vI x8]) rfl (Nat.le_of_ble_eq_true rfl) (fun o' _ => t_X12_heightOf Γ.2.1 E o' x8 S) d_X12_climb_119 rfl (fun v2 => ?_)
      refine g_isub hO d_X12_climb_122 ?_
      refine k_virtIp hO cl_X12 mm_X12_does lkV_X12_309 ⟨⟨Nat.le_of_ble_eq_true rfl, Nat.le_of_ble_eq_true rfl⟩, Nat.le_of_ble_eq_true rfl, Nat.le_of_ble_eq_true rfl⟩ (kn' := (0, 0)) rfl (As := [vI x2, vI x5, vI (x3 - v2)]) rfl (Nat.le_of_ble_eq_true rfl) (fun o' _ => t_X12_does Γ.2.1 E o' x2 x5 (x3 - v2) S) d_X12_climb_123 rfl (fun v4 => ?_)
      refine g_if_ne (tgt := 136) hO d_X12_climb_126.1 d_X12_climb_126.2 (fun _ => ?_) (fun _ => ?_)
      · skip
        refine g_iconst hO 1 d_X12_climb_129 (by decide) ?_
        refine g_iload hO d_X12_climb_130 7 rfl ?_
        refine g_ishl hO d_X12_climb_132 ?_
        refine g_goto (tgt := 137) hO d_X12_climb_133.1 d_X12_climb_133.2 ?_
        exact g_sub [0, 1, 2, 3, 4, 6, 7] rfl (w_X12_climb_137 hO o ih _ _ _ _ _ _ _ _ _)
      · skip
        refine g_iconst hO 0 d_X12_climb_136 (by decide) ?_
        exact g_sub [0, 1, 2, 3, 4, 6, 7] rfl (w_X12_climb_137 hO o ih _ _ _ _ _ _ _ _ _)
set_option maxRecDepth 20000 in
theorem w_X12_climb_61 {Γ : GC} {E : GE} (hO : gOk Γ E cX12_climb RX12 12 rm_X12_climb (some .int) "climb") (o : Nat) : ∀ (n : Nat) (x2 : Int32) (x3 : Int32) (x4 : Int32) (x5 : Int32) (x6 : Int32) (x7 : Int32) (x8 : Int32) (S : GS), Go Γ E (gBsI Γ E) 12 (0, 0) 61 S [(0, vA (some o)), (2, vI x2), (3, vI x3), (4, vI x4), (5, vI x5), (6, vI x6), (7, vI x7), (8, vI x8)] [] (f_X12_climb_61 o n x2 x3 x4 x5 x6 x7 x8 S) := by
  intro n
  induction n with
  | zero =>
    intro x2 x3 x4 x5 x6 x7 x8 S
    exact g_none
  | succ n ih =>
    intro x2 x3 x4 x5 x6 x7 x8 S
    rw [f_X12_climb_61]
    refine g_iload hO d_X12_climb_61 7 rfl ?_
    refine g_bipush hO 40 d_X12_climb_63 (by decide) ?_
    refine g_ic_gt (tgt := 97) hO d_X12_climb_65.1 d_X12_climb_65.2 (fun _ => ?_) (fun _ => ?_)
    · skip
      refine g_iconst hO 0 d_X12_climb_97 (by decide) ?_
      refine g_istore (lv' := [(8, vI 0), (0, vA (some o)), (2, vI x2), (3, vI x3), (4, vI x4), (5, vI x5), (6, vI x6), (7, vI x7)]) hO d_X12_climb_98 (by decide) rfl ?_
      exact g_sub [1, 2, 3, 4, 5, 6, 7, 0] rfl (w_X12_climb_100 hO o _ _ _ _ _ _ _ _ _)
    · skip
      refine g_aload_n hO d_X12_climb_68 (by rfl) 0 rfl ?_
      refine g_iload_n hO d_X12_climb_69 (by rfl) 1 rfl ?_
      refine g_iload hO d_X12_climb_70 4 rfl ?_
      refine g_iload_n hO d_X12_climb_72 (by rfl) 2 rfl ?_
      refine g_iload hO d_X12_climb_73 7 rfl ?_
      refine g_isub hO d_X12_climb_75 ?_
      refine k_virtIp hO cl_X12 mm_X12_does lkV_X12_309 ⟨⟨Nat.le_of_ble_eq_true rfl, Nat.le_of_ble_eq_true rfl⟩, Nat.le_of_ble_eq_true rfl, Nat.le_of_ble_eq_true rfl⟩ (kn' := (0, 0)) rfl (As := [vI x2, vI x5, vI (x3 - x8)]) rfl (Nat.le_of_ble_eq_true rfl) (fun o' _ => t_X12_does Γ.2.1 E o' x2 x5 (x3 - x8) S) d_X12_climb_76 rfl (fun v1 => ?_)
      refine g_if_ne (tgt := 87) hO d_X12_climb_79.1 d_X12_climb_79.2 (fun _ => ?_) (fun _ => ?_)
      · skip
        refine g_iload hO d_X12_climb_82 7 rfl ?_
        refine g_goto (tgt := 89) hO d_X12_climb_84.1 d_X12_climb_84.2 ?_
        exact g_sub [0, 1, 2, 3, 4, 5, 7] rfl (w_X12_climb_89 hO o ih _ _ _ _ _ _ _ _)
      · skip
        refine g_iload hO d_X12_climb_87 6 rfl ?_
        exact g_sub [0, 1, 2, 3, 4, 5, 7] rfl (w_X12_climb_89 hO o ih _ _ _ _ _ _ _ _)
set_option maxRecDepth 20000 in
theorem w_X12_climb {Γ : GC} {E : GE} (hO : gOk Γ E cX12_climb RX12 12 rm_X12_climb (some .int) "climb") (o : Nat) (x1 : Int32) (x2 : Int32) (x3 : Int32) (x4 : Int32) (S : GS) : Go Γ E (gBsI Γ E) 12 (0, 0) 0 S [(0, vA (some o)), (1, vI x1), (2, vI x2), (3, vI x3), (4, vI x4)] [] (f_X12_climb o x1 x2 x3 x4 S) := by
  unfold f_X12_climb
  refine g_aload_n hO d_X12_climb_0 (by rfl) 0 rfl ?_
  refine g_iconst hO 0 d_X12_climb_1 (by decide) ?_
  refine h_putI hO cl_X12 0 rfl rfl wf_X12_100 (Or.inl rfl) d_X12_climb_2 (fun S1 => ?_)
  refine g_iload_n hO d_X12_climb_5 (by rfl) 3 rfl ?_
  refine g_iconst hO 0 d_X12_climb_6 (by decide) ?_
  refine g_bipush hO 40 d_X12_climb_7 (by decide) ?_
  refine k_statIp hO mm_X12_in lkS_X12_112 ⟨⟨Nat.le_of_ble_eq_true rfl, Nat.le_of_ble_eq_true rfl⟩, Nat.le_of_ble_eq_true rfl, Nat.le_of_ble_eq_true rfl⟩ (kn' := (0, 0)) rfl (As := [vI x3, vI 0, vI 40]) rfl (Nat.le_of_ble_eq_true rfl) (t_X12_in Γ.2.1 E x3 0 40 S1) d_X12_climb_9 rfl (fun v2 => ?_)
  refine g_if_eq (tgt := 41) hO d_X12_climb_12.1 d_X12_climb_12.2 (fun _ => ?_) (fun _ => ?_)
  · skip
    refine g_bipush hO (-2) d_X12_climb_41 (by decide) ?_
    exact g_ret hO rfl rfl ⟨Nat.le_of_ble_eq_true rfl, Nat.le_of_ble_eq_true rfl⟩ rfl rfl d_X12_climb_43.1
  · skip
    refine g_iload hO d_X12_climb_15 4 rfl ?_
    refine g_iconst hO 0 d_X12_climb_17 (by decide) ?_
    refine g_iconst hO 4 d_X12_climb_18 (by decide) ?_
    refine k_statIp hO mm_X12_in lkS_X12_112 ⟨⟨Nat.le_of_ble_eq_true rfl, Nat.le_of_ble_eq_true rfl⟩, Nat.le_of_ble_eq_true rfl, Nat.le_of_ble_eq_true rfl⟩ (kn' := (0, 0)) rfl (As := [vI x4, vI 0, vI 4]) rfl (Nat.le_of_ble_eq_true rfl) (t_X12_in Γ.2.1 E x4 0 4 S1) d_X12_climb_19 rfl (fun v4 => ?_)
    refine g_if_eq (tgt := 41) hO d_X12_climb_22.1 d_X12_climb_22.2 (fun _ => ?_) (fun _ => ?_)
    · skip
      refine g_bipush hO (-2) d_X12_climb_41 (by decide) ?_
      exact g_ret hO rfl rfl ⟨Nat.le_of_ble_eq_true rfl, Nat.le_of_ble_eq_true rfl⟩ rfl rfl d_X12_climb_43.1
    · skip
      refine g_aload_n hO d_X12_climb_25 (by rfl) 0 rfl ?_
      refine g_iload_n hO d_X12_climb_26 (by rfl) 1 rfl ?_
      refine k_virtIs hO cl_X12 mm_X12_hand lkV_X12_297 ⟨⟨Nat.le_of_ble_eq_true rfl, Nat.le_of_ble_eq_true rfl⟩, Nat.le_of_ble_eq_true rfl, Nat.le_of_ble_eq_true rfl⟩ (kn' := (0, 0)) rfl (As := [vI x1]) rfl (Nat.le_of_ble_eq_true rfl) (fun o' _ => t_X12_hand Γ.2.1 E o' x1 S1) d_X12_climb_27 rfl (fun v6 S7 => ?_)
      refine g_if_eq (tgt := 41) hO d_X12_climb_30.1 d_X12_climb_30.2 (fun _ => ?_) (fun _ => ?_)
      · skip
        refine g_bipush hO (-2) d_X12_climb_41 (by decide) ?_
        exact g_ret hO rfl rfl ⟨Nat.le_of_ble_eq_true rfl, Nat.le_of_ble_eq_true rfl⟩ rfl rfl d_X12_climb_43.1
      · skip
        refine g_aload_n hO d_X12_climb_33 (by rfl) 0 rfl ?_
        refine g_iload_n hO d_X12_climb_34 (by rfl) 2 rfl ?_
        refine k_virtIp hO cl_X12 mm_X12_isLady lkV_X12_303 ⟨⟨Nat.le_of_ble_eq_true rfl, Nat.le_of_ble_eq_true rfl⟩, Nat.le_of_ble_eq_true rfl, Nat.le_of_ble_eq_true rfl⟩ (kn' := (0, 0)) rfl (As := [vI x2]) rfl (Nat.le_of_ble_eq_true rfl) (fun o' _ => t_X12_isLady Γ.2.1 E o' x2 S7) d_X12_climb_35 rfl (fun v8 => ?_)
        refine g_if_ne (tgt := 44) hO d_X12_climb_38.1 d_X12_climb_38.2 (fun _ => ?_) (fun _ => ?_)
        · skip
          refine g_bipush hO (-2) d_X12_climb_41 (by decide) ?_
          exact g_ret hO rfl rfl ⟨Nat.le_of_ble_eq_true rfl, Nat.le_of_ble_eq_true rfl⟩ rfl rfl d_X12_climb_43.1
        · skip
          refine g_aload_n hO d_X12_climb_44 (by rfl) 0 rfl ?_
          refine g_iload_n hO d_X12_climb_45 (by rfl) 2 rfl ?_
          refine g_iconst hO 1 d_X12_climb_46 (by decide) ?_
          refine k_virtIp hO cl_X12 mm_X12_ofLady lkV_X12_306 ⟨⟨Nat.le_of_ble_eq_true rfl, Nat.le_of_ble_eq_true rfl⟩, Nat.le_of_ble_eq_true rfl, Nat.le_of_ble_eq_true rfl⟩ (kn' := (0, 0)) rfl (As := [vI x2, vI 1]) rfl (Nat.le_of_ble_eq_true rfl) (fun o' _ => t_X12_ofLady Γ.2.1 E o' x2 1 S7) d_X12_climb_47 rfl (fun v10 => ?_)
          refine g_istore (lv' := [(5, vI v10), (0, vA (some o)), (1, vI x1), (2, vI x2), (3, vI x3), (4, vI x4)]) hO d_X12_climb_50 (by decide) rfl ?_
          refine g_iconst hO 0 d_X12_climb_52 (by decide) ?_
          refine g_istore (lv' := [(6, vI 0), (5, vI v10), (0, vA (some o)), (1, vI x1), (2, vI x2), (3, vI x3), (4, vI x4)]) hO d_X12_climb_53 (by decide) rfl ?_
          refine g_iconst hO (-1) d_X12_climb_55 (by decide) ?_
          refine g_istore (lv' := [(7, vI (-1)), (6, vI 0), (5, vI v10), (0, vA (some o)), (1, vI x1), (2, vI x2), (3, vI x3), (4, vI x4)]) hO d_X12_climb_56 (by decide) rfl ?_
          refine g_iconst hO 0 d_X12_climb_58 (by decide) ?_
          refine g_istore (lv' := [(8, vI 0), (7, vI (-1)), (6, vI 0), (5, vI v10), (0, vA (some o)), (1, vI x1), (2, vI x2), (3, vI x3), (4, vI x4)]) hO d_X12_climb_59 (by decide) rfl ?_
          exact g_sub [4, 6, 7, 8, 3, 2, 1, 0] rfl (w_X12_climb_61 hO o _ _ _ _ _ _ _ _ _)
theorem t_X12_climb (l : Launch) (E : GE) (o : Nat) (x1 : Int32) (x2 : Int32) (x3 : Int32) (x4 : Int32) (S : GS) : ∀ a, f_X12_climb o x1 x2 x3 x4 S = some a → Ct l E yX12_climb cX12_climb 12 (some .int) rm_X12_climb [vA (some o), vI x1, vI x2, vI x3, vI x4] S (some (vI a.1)) a.2 :=
  Ct_of (val := fun (b : Int32 × GS) => some (vI b.1)) (nxt := fun (b : Int32 × GS) => b.2) (by decide) (Nat.le_of_ble_eq_true rfl) (fun Γ hl hO => w_X12_climb hO o x1 x2 x3 x4 S)
theorem d_X12_calmOf_0 : gD cX12_calmOf 0 (.iconst 0) 1 1 := ⟨by decide +kernel, rfl⟩
theorem d_X12_calmOf_1 : gD cX12_calmOf 1 (.istore_n 3) 1 2 := ⟨by decide +kernel, rfl⟩
theorem d_X12_calmOf_2 : gD cX12_calmOf 2 (.iconst 0) 1 3 := ⟨by decide +kernel, rfl⟩
theorem d_X12_calmOf_3 : gD cX12_calmOf 3 (.istore 4) 2 5 := ⟨by decide +kernel, rfl⟩
theorem d_X12_calmOf_5 : gD cX12_calmOf 5 (.iconst 0) 1 6 := ⟨by decide +kernel, rfl⟩
theorem d_X12_calmOf_6 : gD cX12_calmOf 6 (.istore 5) 2 8 := ⟨by decide +kernel, rfl⟩
theorem d_X12_calmOf_8 : gD cX12_calmOf 8 (.iload 5) 2 10 := ⟨by decide +kernel, rfl⟩
theorem d_X12_calmOf_10 : gD cX12_calmOf 10 (.bipush 40) 2 12 := ⟨by decide +kernel, rfl⟩
theorem d_X12_calmOf_12 : gD cX12_calmOf 12 (.if_icmp .gt 37) 3 15 ∧ ((12 : Nat) : Int) + 37 = ((49 : Nat) : Int) := ⟨⟨by decide +kernel, rfl⟩, by decide⟩
theorem d_X12_calmOf_15 : gD cX12_calmOf 15 (.aload_n 0) 1 16 := ⟨by decide +kernel, rfl⟩
theorem d_X12_calmOf_16 : gD cX12_calmOf 16 (.iload_n 1) 1 17 := ⟨by decide +kernel, rfl⟩
theorem d_X12_calmOf_17 : gD cX12_calmOf 17 (.iload_n 2) 1 18 := ⟨by decide +kernel, rfl⟩
theorem d_X12_calmOf_18 : gD cX12_calmOf 18 (.iload 5) 2 20 := ⟨by decide +kernel, rfl⟩
theorem d_X12_calmOf_20 : gD cX12_calmOf 20 (.invokevirtual 424) 3 23 := ⟨by decide +kernel, rfl⟩
theorem d_X12_calmOf_23 : gD cX12_calmOf 23 (.ifCond .eq 10) 3 26 ∧ ((23 : Nat) : Int) + 10 = ((33 : Nat) : Int) := ⟨⟨by decide +kernel, rfl⟩, by decide⟩
theorem d_X12_calmOf_26 : gD cX12_calmOf 26 (.iload 4) 2 28 := ⟨by decide +kernel, rfl⟩
theorem d_X12_calmOf_28 : gD cX12_calmOf 28 (.iconst 1) 1 29 := ⟨by decide +kernel, rfl⟩
theorem d_X12_calmOf_29 : gD cX12_calmOf 29 (.iadd) 1 30 := ⟨by decide +kernel, rfl⟩
theorem d_X12_calmOf_30 : decode cX12_calmOf 30 = .ok (.goto 4, 3) ∧ ((30 : Nat) : Int) + 4 = ((34 : Nat) : Int) := ⟨by decide +kernel, by decide⟩
theorem d_X12_calmOf_33 : gD cX12_calmOf 33 (.iconst 0) 1 34 := ⟨by decide +kernel, rfl⟩
theorem d_X12_calmOf_34 : gD cX12_calmOf 34 (.istore 4) 2 36 := ⟨by decide +kernel, rfl⟩
theorem d_X12_calmOf_36 : gD cX12_calmOf 36 (.iload_n 3) 1 37 := ⟨by decide +kernel, rfl⟩
theorem d_X12_calmOf_37 : gD cX12_calmOf 37 (.iload 4) 2 39 := ⟨by decide +kernel, rfl⟩
theorem d_X12_calmOf_39 : gD cX12_calmOf 39 (.invokestatic 173) 3 42 := ⟨by decide +kernel, rfl⟩
theorem d_X12_calmOf_42 : gD cX12_calmOf 42 (.istore_n 3) 1 43 := ⟨by decide +kernel, rfl⟩
theorem d_X12_calmOf_43 : gD cX12_calmOf 43 (.iinc 5 1) 3 46 := ⟨by decide +kernel, rfl⟩
theorem d_X12_calmOf_46 : decode cX12_calmOf 46 = .ok (.goto (-38), 3) ∧ ((46 : Nat) : Int) + (-38) = ((8 : Nat) : Int) := ⟨by decide +kernel, by decide⟩
theorem d_X12_calmOf_49 : gD cX12_calmOf 49 (.iload_n 3) 1 50 := ⟨by decide +kernel, rfl⟩
theorem d_X12_calmOf_50 : gD cX12_calmOf 50 (.ireturn) 1 51 := ⟨by decide +kernel, rfl⟩
abbrev rm_X12_calmOf : Room := { frames := 4, cells := 0, slots := 0, locals := 89 }
set_option maxRecDepth 20000 in
theorem w_X12_calmOf_34 {Γ : GC} {E : GE} (hO : gOk Γ E cX12_calmOf RX12 6 rm_X12_calmOf (some .int) "calmOf") (o : Nat) (S : GS) {k8 : (Int32 → Int32 → Int32 → Int32 → Int32 → Option Int32)} (hk8 : ∀ (z1 : Int32) (z2 : Int32) (z3 : Int32) (z4 : Int32) (z5 : Int32), Go Γ E (gBpI Γ E S) 6 (0, 0) 8 S [(0, vA (some o)), (1, vI z1), (2, vI z2), (3, vI z3), (4, vI z4), (5, vI z5)] [] (k8 z1 z2 z3 z4 z5)) (x1 : Int32) (x2 : Int32) (x3 : Int32) (x5 : Int32) (y0 : Int32) : Go Γ E (gBpI Γ E S) 6 (0, 0) 34 S [(0, vA (some o)), (1, vI x1), (2, vI x2), (3, vI x3), (5, vI x5)] [vI y0] (f_X12_calmOf_34 k8 o S x1 x2 x3 x5 y0) := by
  unfold f_X12_calmOf_34
  refine g_istore (lv' := [(4, vI y0), (0, vA (some o)), (1, vI x1), (2, vI x2), (3, vI x3), (5, vI x5)]) hO d_X12_calmOf_34 (by decide) rfl ?_
  refine g_iload_n hO d_X12_calmOf_36 (by rfl) 4 rfl ?_
  refine g_iload hO d_X12_calmOf_37 0 rfl ?_
  refine k_statIp hO mm_X12_greater lkS_X12_173 ⟨⟨Nat.le_of_ble_eq_true rfl, Nat.le_of_ble_eq_true rfl⟩, Nat.le_of_ble_eq_true rfl, Nat.le_of_ble_eq_true rfl⟩ (kn' := (0, 0)) rfl (As := [vI x3, vI y0]) rfl (Nat.le_of_ble_eq_true rfl) (t_X12_greater Γ.2.1 E x3 y0 S) d_X12_calmOf_39 rfl (fun v1 => ?_)
  refine g_istore_n (lv' := [(3, vI v1), (4, vI y0), (0, vA (some o)), (1, vI x1), (2, vI x2), (5, vI x5)]) hO d_X12_calmOf_42 (by rfl) (by decide) rfl ?_
  refine g_iinc (lv' := [(5, vI (x5 + 1)), (3, vI v1), (4, vI y0), (0, vA (some o)), (1, vI x1), (2, vI x2)]) hO 1 d_X12_calmOf_43 (by decide) 5 rfl (by decide) rfl ?_
  refine g_goto (tgt := 8) hO d_X12_calmOf_46.1 d_X12_calmOf_46.2 ?_
  exact g_sub [3, 4, 5, 1, 2, 0] rfl (hk8 _ _ _ _ _)
set_option maxRecDepth 20000 in
theorem w_X12_calmOf_8 {Γ : GC} {E : GE} (hO : gOk Γ E cX12_calmOf RX12 6 rm_X12_calmOf (some .int) "calmOf") (o : Nat) (S : GS) : ∀ (n : Nat) (x1 : Int32) (x2 : Int32) (x3 : Int32) (x4 : Int32) (x5 : Int32), Go Γ E (gBpI Γ E S) 6 (0, 0) 8 S [(0, vA (some o)), (1, vI x1), (2, vI x2), (3, vI x3), (4, vI x4), (5, vI x5)] [] (f_X12_calmOf_8 o S n x1 x2 x3 x4 x5) := by
  intro n
  induction n with
  | zero =>
    intro x1 x2 x3 x4 x5
    exact g_none
  | succ n ih =>
    intro x1 x2 x3 x4 x5
    rw [f_X12_calmOf_8]
    refine g_iload hO d_X12_calmOf_8 5 rfl ?_
    refine g_bipush hO 40 d_X12_calmOf_10 (by decide) ?_
    refine g_ic_gt (tgt := 49) hO d_X12_calmOf_12.1 d_X12_calmOf_12.2 (fun _ => ?_) (fun _ => ?_)
    · skip
      refine g_iload_n hO d_X12_calmOf_49 (by rfl) 3 rfl ?_
      exact g_ret hO rfl rfl ⟨Nat.le_of_ble_eq_true rfl, Nat.le_of_ble_eq_true rfl⟩ rfl rfl d_X12_calmOf_50.1
    · skip
      refine g_aload_n hO d_X12_calmOf_15 (by rfl) 0 rfl ?_
      refine g_iload_n hO d_X12_calmOf_16 (by rfl) 1 rfl ?_
      refine g_iload_n hO d_X12_calmOf_17 (by rfl) 2 rfl ?_
      refine g_iload hO d_X12_calmOf_18 5 rfl ?_
      refine k_virtIp hO cl_X12 mm_X12_stands lkV_X12_424 ⟨⟨Nat.le_of_ble_eq_true rfl, Nat.le_of_ble_eq_true rfl⟩, Nat.le_of_ble_eq_true rfl, Nat.le_of_ble_eq_true rfl⟩ (kn' := (0, 0)) rfl (As := [vI x1, vI x2, vI x5]) rfl (Nat.le_of_ble_eq_true rfl) (fun o' _ => t_X12_stands Γ.2.1 E o' x1 x2 x5 S) d_X12_calmOf_20 rfl (fun v1 => ?_)
      refine g_if_eq (tgt := 33) hO d_X12_calmOf_23.1 d_X12_calmOf_23.2 (fun _ => ?_) (fun _ => ?_)
      · skip
        refine g_iconst hO 0 d_X12_calmOf_33 (by decide) ?_
        exact g_sub [0, 1, 2, 3, 5] rfl (w_X12_calmOf_34 hO o _ ih _ _ _ _ _)
      · skip
        refine g_iload hO d_X12_calmOf_26 4 rfl ?_
        refine g_iconst hO 1 d_X12_calmOf_28 (by decide) ?_
        refine g_iadd hO d_X12_calmOf_29 ?_
        refine g_goto (tgt := 34) hO d_X12_calmOf_30.1 d_X12_calmOf_30.2 ?_
        exact g_sub [0, 1, 2, 3, 5] rfl (w_X12_calmOf_34 hO o _ ih _ _ _ _ _)
set_option maxRecDepth 20000 in
theorem w_X12_calmOf {Γ : GC} {E : GE} (hO : gOk Γ E cX12_calmOf RX12 6 rm_X12_calmOf (some .int) "calmOf") (o : Nat) (x1 : Int32) (x2 : Int32) (S : GS) : Go Γ E (gBpI Γ E S) 6 (0, 0) 0 S [(0, vA (some o)), (1, vI x1), (2, vI x2)] [] (f_X12_calmOf o x1 x2 S) := by
  unfold f_X12_calmOf
  refine g_iconst hO 0 d_X12_calmOf_0 (by decide) ?_
  refine g_istore_n (lv' := [(3, vI 0), (0, vA (some o)), (1, vI x1), (2, vI x2)]) hO d_X12_calmOf_1 (by rfl) (by decide) rfl ?_
  refine g_iconst hO 0 d_X12_calmOf_2 (by decide) ?_
  refine g_istore (lv' := [(4, vI 0), (3, vI 0), (0, vA (some o)), (1, vI x1), (2, vI x2)]) hO d_X12_calmOf_3 (by decide) rfl ?_
  refine g_iconst hO 0 d_X12_calmOf_5 (by decide) ?_
  refine g_istore (lv' := [(5, vI 0), (4, vI 0), (3, vI 0), (0, vA (some o)), (1, vI x1), (2, vI x2)]) hO d_X12_calmOf_6 (by decide) rfl ?_
  exact g_sub [3, 4, 5, 2, 1, 0] rfl (w_X12_calmOf_8 hO o _ _ _ _ _ _ _)
theorem t_X12_calmOf (l : Launch) (E : GE) (o : Nat) (x1 : Int32) (x2 : Int32) (S : GS) : ∀ a, f_X12_calmOf o x1 x2 S = some a → Ct l E yX12_calmOf cX12_calmOf 6 (some .int) rm_X12_calmOf [vA (some o), vI x1, vI x2] S (some (vI a)) S :=
  Ct_of (val := fun b => some (vI b)) (nxt := fun _ => S) (by decide) (Nat.le_of_ble_eq_true rfl) (fun Γ hl hO => w_X12_calmOf hO o x1 x2 S)
theorem d_X12_calm_0 : gD cX12_calm 0 (.aload_n 0) 1 1 := ⟨by decide +kernel, rfl⟩
theorem d_X12_calm_1 : gD cX12_calm 1 (.iconst 0) 1 2 := ⟨by decide +kernel, rfl⟩
theorem d_X12_calm_2 : gD cX12_calm 2 (.putfield 100) 3 5 := ⟨by decide +kernel, rfl⟩
theorem d_X12_calm_5 : gD cX12_calm 5 (.iload_n 3) 1 6 := ⟨by decide +kernel, rfl⟩
theorem d_X12_calm_6 : gD cX12_calm 6 (.iconst (-1)) 1 7 := ⟨by decide +kernel, rfl⟩
theorem d_X12_calm_7 : gD cX12_calm 7 (.bipush 30) 2 9 := ⟨by decide +kernel, rfl⟩
theorem d_X12_calm_9 : gD cX12_calm 9 (.invokestatic 112) 3 12 := ⟨by decide +kernel, rfl⟩
theorem d_X12_calm_12 : gD cX12_calm 12 (.ifCond .eq 19) 3 15 ∧ ((12 : Nat) : Int) + 19 = ((31 : Nat) : Int) := ⟨⟨by decide +kernel, rfl⟩, by decide⟩
theorem d_X12_calm_15 : gD cX12_calm 15 (.aload_n 0) 1 16 := ⟨by decide +kernel, rfl⟩
theorem d_X12_calm_16 : gD cX12_calm 16 (.iload_n 1) 1 17 := ⟨by decide +kernel, rfl⟩
theorem d_X12_calm_17 : gD cX12_calm 17 (.invokevirtual 297) 3 20 := ⟨by decide +kernel, rfl⟩
theorem d_X12_calm_20 : gD cX12_calm 20 (.ifCond .eq 11) 3 23 ∧ ((20 : Nat) : Int) + 11 = ((31 : Nat) : Int) := ⟨⟨by decide +kernel, rfl⟩, by decide⟩
theorem d_X12_calm_23 : gD cX12_calm 23 (.aload_n 0) 1 24 := ⟨by decide +kernel, rfl⟩
theorem d_X12_calm_24 : gD cX12_calm 24 (.iload_n 2) 1 25 := ⟨by decide +kernel, rfl⟩
theorem d_X12_calm_25 : gD cX12_calm 25 (.invokevirtual 303) 3 28 := ⟨by decide +kernel, rfl⟩
theorem d_X12_calm_28 : gD cX12_calm 28 (.ifCond .ne 5) 3 31 ∧ ((28 : Nat) : Int) + 5 = ((33 : Nat) : Int) := ⟨⟨by decide +kernel, rfl⟩, by decide⟩
theorem d_X12_calm_31 : gD cX12_calm 31 (.iconst (-1)) 1 32 := ⟨by decide +kernel, rfl⟩
theorem d_X12_calm_32 : gD cX12_calm 32 (.ireturn) 1 33 := ⟨by decide +kernel, rfl⟩
theorem d_X12_calm_33 : gD cX12_calm 33 (.iload_n 3) 1 34 := ⟨by decide +kernel, rfl⟩
theorem d_X12_calm_34 : gD cX12_calm 34 (.iconst (-1)) 1 35 := ⟨by decide +kernel, rfl⟩
theorem d_X12_calm_35 : gD cX12_calm 35 (.if_icmp .eq 10) 3 38 ∧ ((35 : Nat) : Int) + 10 = ((45 : Nat) : Int) := ⟨⟨by decide +kernel, rfl⟩, by decide⟩
theorem d_X12_calm_38 : gD cX12_calm 38 (.aload_n 0) 1 39 := ⟨by decide +kernel, rfl⟩
theorem d_X12_calm_39 : gD cX12_calm 39 (.iload_n 2) 1 40 := ⟨by decide +kernel, rfl⟩
theorem d_X12_calm_40 : gD cX12_calm 40 (.iload_n 3) 1 41 := ⟨by decide +kernel, rfl⟩
theorem d_X12_calm_41 : gD cX12_calm 41 (.invokevirtual 562) 3 44 := ⟨by decide +kernel, rfl⟩
theorem d_X12_calm_44 : gD cX12_calm 44 (.ireturn) 1 45 := ⟨by decide +kernel, rfl⟩
theorem d_X12_calm_45 : gD cX12_calm 45 (.iconst 0) 1 46 := ⟨by decide +kernel, rfl⟩
theorem d_X12_calm_46 : gD cX12_calm 46 (.istore 4) 2 48 := ⟨by decide +kernel, rfl⟩
theorem d_X12_calm_48 : gD cX12_calm 48 (.iconst 1) 1 49 := ⟨by decide +kernel, rfl⟩
theorem d_X12_calm_49 : gD cX12_calm 49 (.istore 5) 2 51 := ⟨by decide +kernel, rfl⟩
theorem d_X12_calm_51 : gD cX12_calm 51 (.iload 5) 2 53 := ⟨by decide +kernel, rfl⟩
theorem d_X12_calm_53 : gD cX12_calm 53 (.bipush 31) 2 55 := ⟨by decide +kernel, rfl⟩
theorem d_X12_calm_55 : gD cX12_calm 55 (.if_icmp .ge 35) 3 58 ∧ ((55 : Nat) : Int) + 35 = ((90 : Nat) : Int) := ⟨⟨by decide +kernel, rfl⟩, by decide⟩
theorem d_X12_calm_58 : gD cX12_calm 58 (.aload_n 0) 1 59 := ⟨by decide +kernel, rfl⟩
theorem d_X12_calm_59 : gD cX12_calm 59 (.iload_n 2) 1 60 := ⟨by decide +kernel, rfl⟩
theorem d_X12_calm_60 : gD cX12_calm 60 (.iload 5) 2 62 := ⟨by decide +kernel, rfl⟩
theorem d_X12_calm_62 : gD cX12_calm 62 (.invokevirtual 562) 3 65 := ⟨by decide +kernel, rfl⟩
theorem d_X12_calm_65 : gD cX12_calm 65 (.aload_n 0) 1 66 := ⟨by decide +kernel, rfl⟩
theorem d_X12_calm_66 : gD cX12_calm 66 (.iload_n 2) 1 67 := ⟨by decide +kernel, rfl⟩
theorem d_X12_calm_67 : gD cX12_calm 67 (.iload 4) 2 69 := ⟨by decide +kernel, rfl⟩
theorem d_X12_calm_69 : gD cX12_calm 69 (.invokevirtual 562) 3 72 := ⟨by decide +kernel, rfl⟩
theorem d_X12_calm_72 : gD cX12_calm 72 (.if_icmp .le 8) 3 75 ∧ ((72 : Nat) : Int) + 8 = ((80 : Nat) : Int) := ⟨⟨by decide +kernel, rfl⟩, by decide⟩
theorem d_X12_calm_75 : gD cX12_calm 75 (.iload 5) 2 77 := ⟨by decide +kernel, rfl⟩
theorem d_X12_calm_77 : decode cX12_calm 77 = .ok (.goto 5, 3) ∧ ((77 : Nat) : Int) + 5 = ((82 : Nat) : Int) := ⟨by decide +kernel, by decide⟩
theorem d_X12_calm_80 : gD cX12_calm 80 (.iload 4) 2 82 := ⟨by decide +kernel, rfl⟩
theorem d_X12_calm_82 : gD cX12_calm 82 (.istore 4) 2 84 := ⟨by decide +kernel, rfl⟩
theorem d_X12_calm_84 : gD cX12_calm 84 (.iinc 5 1) 3 87 := ⟨by decide +kernel, rfl⟩
theorem d_X12_calm_87 : decode cX12_calm 87 = .ok (.goto (-36), 3) ∧ ((87 : Nat) : Int) + (-36) = ((51 : Nat) : Int) := ⟨by decide +kernel, by decide⟩
theorem d_X12_calm_90 : gD cX12_calm 90 (.iload 4) 2 92 := ⟨by decide +kernel, rfl⟩
theorem d_X12_calm_92 : gD cX12_calm 92 (.ireturn) 1 93 := ⟨by decide +kernel, rfl⟩
abbrev rm_X12_calm : Room := { frames := 5, cells := 0, slots := 0, locals := 114 }
set_option maxRecDepth 20000 in
theorem w_X12_calm_82 {Γ : GC} {E : GE} (hO : gOk Γ E cX12_calm RX12 6 rm_X12_calm (some .int) "calm") (o : Nat) {k51 : (Int32 → Int32 → Int32 → GS → Option (Int32 × GS))} (hk51 : ∀ (z2 : Int32) (z4 : Int32) (z5 : Int32) (S1 : GS), Go Γ E (gBsI Γ E) 6 (0, 0) 51 S1 [(0, vA (some o)), (2, vI z2), (4, vI z4), (5, vI z5)] [] (k51 z2 z4 z5 S1)) (x2 : Int32) (x5 : Int32) (y0 : Int32) (S : GS) : Go Γ E (gBsI Γ E) 6 (0, 0) 82 S [(0, vA (some o)), (2, vI x2), (5, vI x5)] [vI y0] (f_X12_calm_82 k51 o x2 x5 y0 S) := by
  unfold f_X12_calm_82
  refine g_istore (lv' := [(4, vI y0), (0, vA (some o)), (2, vI x2), (5, vI x5)]) hO d_X12_calm_82 (by decide) rfl ?_
  refine g_iinc (lv' := [(5, vI (x5 + 1)), (4, vI y0), (0, vA (some o)), (2, vI x2)]) hO 1 d_X12_calm_84 (by decide) 3 rfl (by decide) rfl ?_
  refine g_goto (tgt := 51) hO d_X12_calm_87.1 d_X12_calm_87.2 ?_
  exact g_sub [2, 3, 1, 0] rfl (hk51 _ _ _ _)
set_option maxRecDepth 20000 in
theorem w_X12_calm_51 {Γ : GC} {E : GE} (hO : gOk Γ E cX12_calm RX12 6 rm_X12_calm (some .int) "calm") (o : Nat) : ∀ (n : Nat) (x2 : Int32) (x4 : Int32) (x5 : Int32) (S : GS), Go Γ E (gBsI Γ E) 6 (0, 0) 51 S [(0, vA (some o)), (2, vI x2), (4, vI x4), (5, vI x5)] [] (f_X12_calm_51 o n x2 x4 x5 S) := by
  intro n
  induction n with
  | zero =>
    intro x2 x4 x5 S
    exact g_none
  | succ n ih =>
    intro x2 x4 x5 S
    rw [f_X12_calm_51]
    refine g_iload hO d_X12_calm_51 3 rfl ?_
    refine g_bipush hO 31 d_X12_calm_53 (by decide) ?_
    refine g_ic_ge (tgt := 90) hO d_X12_calm_55.1 d_X12_calm_55.2 (fun _ => ?_) (fun _ => ?_)
    · skip
      refine g_iload hO d_X12_calm_90 2 rfl ?_
      exact g_ret hO rfl rfl ⟨Nat.le_of_ble_eq_true rfl, Nat.le_of_ble_eq_true rfl⟩ rfl rfl d_X12_calm_92.1
    · skip
      refine g_aload_n hO d_X12_calm_58 (by rfl) 0 rfl ?_
      refine g_iload_n hO d_X12_calm_59 (by rfl) 1 rfl ?_
      refine g_iload hO d_X12_calm_60 3 rfl ?_
      refine k_virtIp hO cl_X12 mm_X12_calmOf lkV_X12_562 ⟨⟨Nat.le_of_ble_eq_true rfl, Nat.le_of_ble_eq_true rfl⟩, Nat.le_of_ble_eq_true rfl, Nat.le_of_ble_eq_true rfl⟩ (kn' := (0, 0)) rfl (As := [vI x2, vI x5]) rfl (Nat.le_of_ble_eq_true rfl) (fun o' _ => t_X12_calmOf Γ.2.1 E o' x2 x5 S) d_X12_calm_62 rfl (fun v1 => ?_)
      refine g_aload_n hO d_X12_calm_65 (by rfl) 0 rfl ?_
      refine g_iload_n hO d_X12_calm_66 (by rfl) 1 rfl ?_
      refine g_iload hO d_X12_calm_67 2 rfl ?_
      refine k_virtIp hO cl_X12 mm_X12_calmOf lkV_X12_562 ⟨⟨Nat.le_of_ble_eq_true rfl, Nat.le_of_ble_eq_true rfl⟩, Nat.le_of_ble_eq_true rfl, Nat.le_of_ble_eq_true rfl⟩ (kn' := (0, 0)) rfl (As := [vI x2, vI x4]) rfl (Nat.le_of_ble_eq_true rfl) (fun o' _ => t_X12_calmOf Γ.2.1 E o' x2 x4 S) d_X12_calm_69 rfl (fun v3 => ?_)
      refine g_ic_le (tgt := 80) hO d_X12_calm_72.1 d_X12_calm_72.2 (fun _ => ?_) (fun _ => ?_)
      · skip
        refine g_iload hO d_X12_calm_80 2 rfl ?_
        exact g_sub [0, 1, 3] rfl (w_X12_calm_82 hO o ih _ _ _ _)
      · skip
        refine g_iload hO d_X12_calm_75 3 rfl ?_
        refine g_goto (tgt := 82) hO d_X12_calm_77.1 d_X12_calm_77.2 ?_
        exact g_sub [0, 1, 3] rfl (w_X12_calm_82 hO o ih _ _ _ _)
set_option maxRecDepth 20000 in
theorem w_X12_calm {Γ : GC} {E : GE} (hO : gOk Γ E cX12_calm RX12 6 rm_X12_calm (some .int) "calm") (o : Nat) (x1 : Int32) (x2 : Int32) (x3 : Int32) (S : GS) : Go Γ E (gBsI Γ E) 6 (0, 0) 0 S [(0, vA (some o)), (1, vI x1), (2, vI x2), (3, vI x3)] [] (f_X12_calm o x1 x2 x3 S) := by
  unfold f_X12_calm
  refine g_aload_n hO d_X12_calm_0 (by rfl) 0 rfl ?_
  refine g_iconst hO 0 d_X12_calm_1 (by decide) ?_
  refine h_putI hO cl_X12 0 rfl rfl wf_X12_100 (Or.inl rfl) d_X12_calm_2 (fun S1 => ?_)
  refine g_iload_n hO d_X12_calm_5 (by rfl) 3 rfl ?_
  refine g_iconst hO (-1) d_X12_calm_6 (by decide) ?_
  refine g_bipush hO 30 d_X12_calm_7 (by decide) ?_
  refine k_statIp hO mm_X12_in lkS_X12_112 ⟨⟨Nat.le_of_ble_eq_true rfl, Nat.le_of_ble_eq_true rfl⟩, Nat.le_of_ble_eq_true rfl, Nat.le_of_ble_eq_true rfl⟩ (kn' := (0, 0)) rfl (As := [vI x3, vI (-1), vI 30]) rfl (Nat.le_of_ble_eq_true rfl) (t_X12_in Γ.2.1 E x3 (-1) 30 S1) d_X12_calm_9 rfl (fun v2 => ?_)
  refine g_if_eq (tgt := 31) hO d_X12_calm_12.1 d_X12_calm_12.2 (fun _ => ?_) (fun _ => ?_)
  · skip
    refine g_iconst hO (-1) d_X12_calm_31 (by decide) ?_
    exact g_ret hO rfl rfl ⟨Nat.le_of_ble_eq_true rfl, Nat.le_of_ble_eq_true rfl⟩ rfl rfl d_X12_calm_32.1
  · skip
    refine g_aload_n hO d_X12_calm_15 (by rfl) 0 rfl ?_
    refine g_iload_n hO d_X12_calm_16 (by rfl) 1 rfl ?_
    refine k_virtIs hO cl_X12 mm_X12_hand lkV_X12_297 ⟨⟨Nat.le_of_ble_eq_true rfl, Nat.le_of_ble_eq_true rfl⟩, Nat.le_of_ble_eq_true rfl, Nat.le_of_ble_eq_true rfl⟩ (kn' := (0, 0)) rfl (As := [vI x1]) rfl (Nat.le_of_ble_eq_true rfl) (fun o' _ => t_X12_hand Γ.2.1 E o' x1 S1) d_X12_calm_17 rfl (fun v4 S5 => ?_)
    refine g_if_eq (tgt := 31) hO d_X12_calm_20.1 d_X12_calm_20.2 (fun _ => ?_) (fun _ => ?_)
    · skip
      refine g_iconst hO (-1) d_X12_calm_31 (by decide) ?_
      exact g_ret hO rfl rfl ⟨Nat.le_of_ble_eq_true rfl, Nat.le_of_ble_eq_true rfl⟩ rfl rfl d_X12_calm_32.1
    · skip
      refine g_aload_n hO d_X12_calm_23 (by rfl) 0 rfl ?_
      refine g_iload_n hO d_X12_calm_24 (by rfl) 2 rfl ?_
      refine k_virtIp hO cl_X12 mm_X12_isLady lkV_X12_303 ⟨⟨Nat.le_of_ble_eq_true rfl, Nat.le_of_ble_eq_true rfl⟩, Nat.le_of_ble_eq_true rfl, Nat.le_of_ble_eq_true rfl⟩ (kn' := (0, 0)) rfl (As := [vI x2]) rfl (Nat.le_of_ble_eq_true rfl) (fun o' _ => t_X12_isLady Γ.2.1 E o' x2 S5) d_X12_calm_25 rfl (fun v6 => ?_)
      refine g_if_ne (tgt := 33) hO d_X12_calm_28.1 d_X12_calm_28.2 (fun _ => ?_) (fun _ => ?_)
      · skip
        refine g_iconst hO (-1) d_X12_calm_31 (by decide) ?_
        exact g_ret hO rfl rfl ⟨Nat.le_of_ble_eq_true rfl, Nat.le_of_ble_eq_true rfl⟩ rfl rfl d_X12_calm_32.1
      · skip
        refine g_iload_n hO d_X12_calm_33 (by rfl) 3 rfl ?_
        refine g_iconst hO (-1) d_X12_calm_34 (by decide) ?_
        refine g_ic_eq (tgt := 45) hO d_X12_calm_35.1 d_X12_calm_35.2 (fun _ => ?_) (fun _ => ?_)
        · skip
          refine g_iconst hO 0 d_X12_calm_45 (by decide) ?_
          refine g_istore (lv' := [(4, vI 0), (0, vA (some o)), (1, vI x1), (2, vI x2), (3, vI x3)]) hO d_X12_calm_46 (by decide) rfl ?_
          refine g_iconst hO 1 d_X12_calm_48 (by decide) ?_
          refine g_istore (lv' := [(5, vI 1), (4, vI 0), (0, vA (some o)), (1, vI x1), (2, vI x2), (3, vI x3)]) hO d_X12_calm_49 (by decide) rfl ?_
          exact g_sub [2, 4, 1, 0] rfl (w_X12_calm_51 hO o _ _ _ _ _)
        · skip
          refine g_aload_n hO d_X12_calm_38 (by rfl) 0 rfl ?_
          refine g_iload_n hO d_X12_calm_39 (by rfl) 2 rfl ?_
          refine g_iload_n hO d_X12_calm_40 (by rfl) 3 rfl ?_
          refine k_virtIp hO cl_X12 mm_X12_calmOf lkV_X12_562 ⟨⟨Nat.le_of_ble_eq_true rfl, Nat.le_of_ble_eq_true rfl⟩, Nat.le_of_ble_eq_true rfl, Nat.le_of_ble_eq_true rfl⟩ (kn' := (0, 0)) rfl (As := [vI x2, vI x3]) rfl (Nat.le_of_ble_eq_true rfl) (fun o' _ => t_X12_calmOf Γ.2.1 E o' x2 x3 S5) d_X12_calm_41 rfl (fun v8 => ?_)
          exact g_ret hO rfl rfl ⟨Nat.le_of_ble_eq_true rfl, Nat.le_of_ble_eq_true rfl⟩ rfl rfl d_X12_calm_44.1
theorem t_X12_calm (l : Launch) (E : GE) (o : Nat) (x1 : Int32) (x2 : Int32) (x3 : Int32) (S : GS) : ∀ a, f_X12_calm o x1 x2 x3 S = some a → Ct l E yX12_calm cX12_calm 6 (some .int) rm_X12_calm [vA (some o), vI x1, vI x2, vI x3] S (some (vI a.1)) a.2 :=
  Ct_of (val := fun (b : Int32 × GS) => some (vI b.1)) (nxt := fun (b : Int32 × GS) => b.2) (by decide) (Nat.le_of_ble_eq_true rfl) (fun Γ hl hO => w_X12_calm hO o x1 x2 x3 S)
theorem d_X12_count_0 : gD cX12_count 0 (.aload_n 0) 1 1 := ⟨by decide +kernel, rfl⟩
theorem d_X12_count_1 : gD cX12_count 1 (.iconst 0) 1 2 := ⟨by decide +kernel, rfl⟩
theorem d_X12_count_2 : gD cX12_count 2 (.putfield 100) 3 5 := ⟨by decide +kernel, rfl⟩
theorem d_X12_count_5 : gD cX12_count 5 (.iload_n 1) 1 6 := ⟨by decide +kernel, rfl⟩
theorem d_X12_count_6 : gD cX12_count 6 (.iconst 0) 1 7 := ⟨by decide +kernel, rfl⟩
theorem d_X12_count_7 : gD cX12_count 7 (.iconst 5) 1 8 := ⟨by decide +kernel, rfl⟩
theorem d_X12_count_8 : gD cX12_count 8 (.invokestatic 112) 3 11 := ⟨by decide +kernel, rfl⟩
theorem d_X12_count_11 : gD cX12_count 11 (.ifCond .eq 12) 3 14 ∧ ((11 : Nat) : Int) + 12 = ((23 : Nat) : Int) := ⟨⟨by decide +kernel, rfl⟩, by decide⟩
theorem d_X12_count_14 : gD cX12_count 14 (.aload_n 0) 1 15 := ⟨by decide +kernel, rfl⟩
theorem d_X12_count_15 : gD cX12_count 15 (.getfield 23) 3 18 := ⟨by decide +kernel, rfl⟩
theorem d_X12_count_18 : gD cX12_count 18 (.iload_n 1) 1 19 := ⟨by decide +kernel, rfl⟩
theorem d_X12_count_19 : gD cX12_count 19 (.iaload) 1 20 := ⟨by decide +kernel, rfl⟩
theorem d_X12_count_20 : decode cX12_count 20 = .ok (.goto 5, 3) ∧ ((20 : Nat) : Int) + 5 = ((25 : Nat) : Int) := ⟨by decide +kernel, by decide⟩
theorem d_X12_count_23 : gD cX12_count 23 (.bipush (-2)) 2 25 := ⟨by decide +kernel, rfl⟩
theorem d_X12_count_25 : gD cX12_count 25 (.ireturn) 1 26 := ⟨by decide +kernel, rfl⟩
abbrev rm_X12_count : Room := { frames := 1, cells := 0, slots := 0, locals := 22 }
set_option maxRecDepth 20000 in
theorem w_X12_count {Γ : GC} {E : GE} (hO : gOk Γ E cX12_count RX12 2 rm_X12_count (some .int) "count") (o : Nat) (x1 : Int32) (S : GS) : Go Γ E (gBsI Γ E) 2 (0, 0) 0 S [(0, vA (some o)), (1, vI x1)] [] (f_X12_count o x1 S) := by
  unfold f_X12_count
  refine g_aload_n hO d_X12_count_0 (by rfl) 0 rfl ?_
  refine g_iconst hO 0 d_X12_count_1 (by decide) ?_
  refine h_putI hO cl_X12 0 rfl rfl wf_X12_100 (Or.inl rfl) d_X12_count_2 (fun S1 => ?_)
  refine g_iload_n hO d_X12_count_5 (by rfl) 1 rfl ?_
  refine g_iconst hO 0 d_X12_count_6 (by decide) ?_
  refine g_iconst hO 5 d_X12_count_7 (by decide) ?_
  refine k_statIp hO mm_X12_in lkS_X12_112 ⟨⟨Nat.le_of_ble_eq_true rfl, Nat.le_of_ble_eq_true rfl⟩, Nat.le_of_ble_eq_true rfl, Nat.le_of_ble_eq_true rfl⟩ (kn' := (0, 0)) rfl (As := [vI x1, vI 0, vI 5]) rfl (Nat.le_of_ble_eq_true rfl) (t_X12_in Γ.2.1 E x1 0 5 S1) d_X12_count_8 rfl (fun v2 => ?_)
  refine g_if_eq (tgt := 23) hO d_X12_count_11.1 d_X12_count_11.2 (fun _ => ?_) (fun _ => ?_)
  · skip
    refine g_bipush hO (-2) d_X12_count_23 (by decide) ?_
    exact g_ret hO rfl rfl ⟨Nat.le_of_ble_eq_true rfl, Nat.le_of_ble_eq_true rfl⟩ rfl rfl d_X12_count_25.1
  · skip
    refine g_aload_n hO d_X12_count_14 (by rfl) 0 rfl ?_
    refine h_getR hO cl_X12 5 rfl wf_X12_23 d_X12_count_15 (fun v4 => ?_)
    refine g_iload_n hO d_X12_count_18 (by rfl) 1 rfl ?_
    refine h_iald hO d_X12_count_19 (fun v5 => ?_)
    refine g_goto (tgt := 25) hO d_X12_count_20.1 d_X12_count_20.2 ?_
    exact g_ret hO rfl rfl ⟨Nat.le_of_ble_eq_true rfl, Nat.le_of_ble_eq_true rfl⟩ rfl rfl d_X12_count_25.1
theorem t_X12_count (l : Launch) (E : GE) (o : Nat) (x1 : Int32) (S : GS) : ∀ a, f_X12_count o x1 S = some a → Ct l E yX12_count cX12_count 2 (some .int) rm_X12_count [vA (some o), vI x1] S (some (vI a.1)) a.2 :=
  Ct_of (val := fun (b : Int32 × GS) => some (vI b.1)) (nxt := fun (b : Int32 × GS) => b.2) (by decide) (Nat.le_of_ble_eq_true rfl) (fun Γ hl hO => w_X12_count hO o x1 S)
theorem d_X12_image_0 : gD cX12_image 0 (.aload_n 0) 1 1 := ⟨by decide +kernel, rfl⟩
theorem d_X12_image_1 : gD cX12_image 1 (.iconst 0) 1 2 := ⟨by decide +kernel, rfl⟩
theorem d_X12_image_2 : gD cX12_image 2 (.putfield 100) 3 5 := ⟨by decide +kernel, rfl⟩
theorem d_X12_image_5 : gD cX12_image 5 (.iload_n 1) 1 6 := ⟨by decide +kernel, rfl⟩
theorem d_X12_image_6 : gD cX12_image 6 (.iconst 0) 1 7 := ⟨by decide +kernel, rfl⟩
theorem d_X12_image_7 : gD cX12_image 7 (.iconst 2) 1 8 := ⟨by decide +kernel, rfl⟩
theorem d_X12_image_8 : gD cX12_image 8 (.invokestatic 112) 3 11 := ⟨by decide +kernel, rfl⟩
theorem d_X12_image_11 : gD cX12_image 11 (.ifCond .ne 5) 3 14 ∧ ((11 : Nat) : Int) + 5 = ((16 : Nat) : Int) := ⟨⟨by decide +kernel, rfl⟩, by decide⟩
theorem d_X12_image_14 : gD cX12_image 14 (.iconst 0) 1 15 := ⟨by decide +kernel, rfl⟩
theorem d_X12_image_15 : gD cX12_image 15 (.ireturn) 1 16 := ⟨by decide +kernel, rfl⟩
theorem d_X12_image_16 : gD cX12_image 16 (.aload_n 0) 1 17 := ⟨by decide +kernel, rfl⟩
theorem d_X12_image_17 : gD cX12_image 17 (.iconst 0) 1 18 := ⟨by decide +kernel, rfl⟩
theorem d_X12_image_18 : gD cX12_image 18 (.iload_n 1) 1 19 := ⟨by decide +kernel, rfl⟩
theorem d_X12_image_19 : gD cX12_image 19 (.iconst 1) 1 20 := ⟨by decide +kernel, rfl⟩
theorem d_X12_image_20 : gD cX12_image 20 (.iadd) 1 21 := ⟨by decide +kernel, rfl⟩
theorem d_X12_image_21 : gD cX12_image 21 (.invokevirtual 565) 3 24 := ⟨by decide +kernel, rfl⟩
theorem d_X12_image_24 : gD cX12_image 24 (.aload_n 0) 1 25 := ⟨by decide +kernel, rfl⟩
theorem d_X12_image_25 : gD cX12_image 25 (.getfield 96) 3 28 := ⟨by decide +kernel, rfl⟩
theorem d_X12_image_28 : gD cX12_image 28 (.iload_n 1) 1 29 := ⟨by decide +kernel, rfl⟩
theorem d_X12_image_29 : gD cX12_image 29 (.iconst 1) 1 30 := ⟨by decide +kernel, rfl⟩
theorem d_X12_image_30 : gD cX12_image 30 (.bastore) 1 31 := ⟨by decide +kernel, rfl⟩
theorem d_X12_image_31 : gD cX12_image 31 (.iconst 1) 1 32 := ⟨by decide +kernel, rfl⟩
theorem d_X12_image_32 : gD cX12_image 32 (.ireturn) 1 33 := ⟨by decide +kernel, rfl⟩
abbrev rm_X12_image : Room := { frames := 2, cells := 0, slots := 0, locals := 47 }
set_option maxRecDepth 20000 in
theorem w_X12_image {Γ : GC} {E : GE} (hO : gOk Γ E cX12_image RX12 2 rm_X12_image (some .boolean) "image") (o : Nat) (x1 : Int32) (S : GS) : Go Γ E (gBsI Γ E) 2 (0, 0) 0 S [(0, vA (some o)), (1, vI x1)] [] (f_X12_image o x1 S) := by
  unfold f_X12_image
  refine g_aload_n hO d_X12_image_0 (by rfl) 0 rfl ?_
  refine g_iconst hO 0 d_X12_image_1 (by decide) ?_
  refine h_putI hO cl_X12 0 rfl rfl wf_X12_100 (Or.inl rfl) d_X12_image_2 (fun S1 => ?_)
  refine g_iload_n hO d_X12_image_5 (by rfl) 1 rfl ?_
  refine g_iconst hO 0 d_X12_image_6 (by decide) ?_
  refine g_iconst hO 2 d_X12_image_7 (by decide) ?_
  refine k_statIp hO mm_X12_in lkS_X12_112 ⟨⟨Nat.le_of_ble_eq_true rfl, Nat.le_of_ble_eq_true rfl⟩, Nat.le_of_ble_eq_true rfl, Nat.le_of_ble_eq_true rfl⟩ (kn' := (0, 0)) rfl (As := [vI x1, vI 0, vI 2]) rfl (Nat.le_of_ble_eq_true rfl) (t_X12_in Γ.2.1 E x1 0 2 S1) d_X12_image_8 rfl (fun v2 => ?_)
  refine g_if_ne (tgt := 16) hO d_X12_image_11.1 d_X12_image_11.2 (fun _ => ?_) (fun _ => ?_)
  · skip
    refine g_iconst hO 0 d_X12_image_14 (by decide) ?_
    exact g_ret hO rfl rfl ⟨Nat.le_of_ble_eq_true rfl, Nat.le_of_ble_eq_true rfl⟩ rfl rfl d_X12_image_15.1
  · skip
    refine g_aload_n hO d_X12_image_16 (by rfl) 0 rfl ?_
    refine g_iconst hO 0 d_X12_image_17 (by decide) ?_
    refine g_iload_n hO d_X12_image_18 (by rfl) 1 rfl ?_
    refine g_iconst hO 1 d_X12_image_19 (by decide) ?_
    refine g_iadd hO d_X12_image_20 ?_
    refine k_virtVs hO cl_X12 mm_X12_copyAll lkV_X12_565 ⟨⟨Nat.le_of_ble_eq_true rfl, Nat.le_of_ble_eq_true rfl⟩, Nat.le_of_ble_eq_true rfl, Nat.le_of_ble_eq_true rfl⟩ (kn' := (0, 0)) rfl (As := [vI 0, vI (x1 + 1)]) rfl (Nat.le_of_ble_eq_true rfl) (fun o' _ => t_X12_copyAll Γ.2.1 E o' 0 (x1 + 1) S1) d_X12_image_21 rfl (fun S5 => ?_)
    refine g_aload_n hO d_X12_image_24 (by rfl) 0 rfl ?_
    refine h_getR hO cl_X12 61 rfl wf_X12_96 d_X12_image_25 (fun v6 => ?_)
    refine g_iload_n hO d_X12_image_28 (by rfl) 1 rfl ?_
    refine g_iconst hO 1 d_X12_image_29 (by decide) ?_
    refine h_zast hO d_X12_image_30 (fun S7 => ?_)
    refine g_iconst hO 1 d_X12_image_31 (by decide) ?_
    exact g_ret hO rfl rfl ⟨Nat.le_of_ble_eq_true rfl, Nat.le_of_ble_eq_true rfl⟩ rfl rfl d_X12_image_32.1
theorem t_X12_image (l : Launch) (E : GE) (o : Nat) (x1 : Int32) (S : GS) : ∀ a, f_X12_image o x1 S = some a → Ct l E yX12_image cX12_image 2 (some .boolean) rm_X12_image [vA (some o), vI x1] S (some (vI a.1)) a.2 :=
  Ct_of (val := fun (b : Int32 × GS) => some (vI b.1)) (nxt := fun (b : Int32 × GS) => b.2) (by decide) (Nat.le_of_ble_eq_true rfl) (fun Γ hl hO => w_X12_image hO o x1 S)
theorem d_X12_again_0 : gD cX12_again 0 (.aload_n 0) 1 1 := ⟨by decide +kernel, rfl⟩
theorem d_X12_again_1 : gD cX12_again 1 (.iconst 0) 1 2 := ⟨by decide +kernel, rfl⟩
theorem d_X12_again_2 : gD cX12_again 2 (.putfield 100) 3 5 := ⟨by decide +kernel, rfl⟩
theorem d_X12_again_5 : gD cX12_again 5 (.iload_n 1) 1 6 := ⟨by decide +kernel, rfl⟩
theorem d_X12_again_6 : gD cX12_again 6 (.iconst 0) 1 7 := ⟨by decide +kernel, rfl⟩
theorem d_X12_again_7 : gD cX12_again 7 (.iconst 2) 1 8 := ⟨by decide +kernel, rfl⟩
theorem d_X12_again_8 : gD cX12_again 8 (.invokestatic 112) 3 11 := ⟨by decide +kernel, rfl⟩
theorem d_X12_again_11 : gD cX12_again 11 (.ifCond .eq 12) 3 14 ∧ ((11 : Nat) : Int) + 12 = ((23 : Nat) : Int) := ⟨⟨by decide +kernel, rfl⟩, by decide⟩
theorem d_X12_again_14 : gD cX12_again 14 (.aload_n 0) 1 15 := ⟨by decide +kernel, rfl⟩
theorem d_X12_again_15 : gD cX12_again 15 (.getfield 96) 3 18 := ⟨by decide +kernel, rfl⟩
theorem d_X12_again_18 : gD cX12_again 18 (.iload_n 1) 1 19 := ⟨by decide +kernel, rfl⟩
theorem d_X12_again_19 : gD cX12_again 19 (.baload) 1 20 := ⟨by decide +kernel, rfl⟩
theorem d_X12_again_20 : gD cX12_again 20 (.ifCond .ne 5) 3 23 ∧ ((20 : Nat) : Int) + 5 = ((25 : Nat) : Int) := ⟨⟨by decide +kernel, rfl⟩, by decide⟩
theorem d_X12_again_23 : gD cX12_again 23 (.iconst 0) 1 24 := ⟨by decide +kernel, rfl⟩
theorem d_X12_again_24 : gD cX12_again 24 (.ireturn) 1 25 := ⟨by decide +kernel, rfl⟩
theorem d_X12_again_25 : gD cX12_again 25 (.aload_n 0) 1 26 := ⟨by decide +kernel, rfl⟩
theorem d_X12_again_26 : gD cX12_again 26 (.iload_n 1) 1 27 := ⟨by decide +kernel, rfl⟩
theorem d_X12_again_27 : gD cX12_again 27 (.iconst 1) 1 28 := ⟨by decide +kernel, rfl⟩
theorem d_X12_again_28 : gD cX12_again 28 (.iadd) 1 29 := ⟨by decide +kernel, rfl⟩
theorem d_X12_again_29 : gD cX12_again 29 (.iconst 0) 1 30 := ⟨by decide +kernel, rfl⟩
theorem d_X12_again_30 : gD cX12_again 30 (.invokevirtual 565) 3 33 := ⟨by decide +kernel, rfl⟩
theorem d_X12_again_33 : gD cX12_again 33 (.iconst 1) 1 34 := ⟨by decide +kernel, rfl⟩
theorem d_X12_again_34 : gD cX12_again 34 (.ireturn) 1 35 := ⟨by decide +kernel, rfl⟩
abbrev rm_X12_again : Room := { frames := 2, cells := 0, slots := 0, locals := 47 }
set_option maxRecDepth 20000 in
theorem w_X12_again {Γ : GC} {E : GE} (hO : gOk Γ E cX12_again RX12 2 rm_X12_again (some .boolean) "again") (o : Nat) (x1 : Int32) (S : GS) : Go Γ E (gBsI Γ E) 2 (0, 0) 0 S [(0, vA (some o)), (1, vI x1)] [] (f_X12_again o x1 S) := by
  unfold f_X12_again
  refine g_aload_n hO d_X12_again_0 (by rfl) 0 rfl ?_
  refine g_iconst hO 0 d_X12_again_1 (by decide) ?_
  refine h_putI hO cl_X12 0 rfl rfl wf_X12_100 (Or.inl rfl) d_X12_again_2 (fun S1 => ?_)
  refine g_iload_n hO d_X12_again_5 (by rfl) 1 rfl ?_
  refine g_iconst hO 0 d_X12_again_6 (by decide) ?_
  refine g_iconst hO 2 d_X12_again_7 (by decide) ?_
  refine k_statIp hO mm_X12_in lkS_X12_112 ⟨⟨Nat.le_of_ble_eq_true rfl, Nat.le_of_ble_eq_true rfl⟩, Nat.le_of_ble_eq_true rfl, Nat.le_of_ble_eq_true rfl⟩ (kn' := (0, 0)) rfl (As := [vI x1, vI 0, vI 2]) rfl (Nat.le_of_ble_eq_true rfl) (t_X12_in Γ.2.1 E x1 0 2 S1) d_X12_again_8 rfl (fun v2 => ?_)
  refine g_if_eq (tgt := 23) hO d_X12_again_11.1 d_X12_again_11.2 (fun _ => ?_) (fun _ => ?_)
  · skip
    refine g_iconst hO 0 d_X12_again_23 (by decide) ?_
    exact g_ret hO rfl rfl ⟨Nat.le_of_ble_eq_true rfl, Nat.le_of_ble_eq_true rfl⟩ rfl rfl d_X12_again_24.1
  · skip
    refine g_aload_n hO d_X12_again_14 (by rfl) 0 rfl ?_
    refine h_getR hO cl_X12 61 rfl wf_X12_96 d_X12_again_15 (fun v4 => ?_)
    refine g_iload_n hO d_X12_again_18 (by rfl) 1 rfl ?_
    refine h_zald hO d_X12_again_19 (fun v5 => ?_)
    refine g_if_ne (tgt := 25) hO d_X12_again_20.1 d_X12_again_20.2 (fun _ => ?_) (fun _ => ?_)
    · skip
      refine g_iconst hO 0 d_X12_again_23 (by decide) ?_
      exact g_ret hO rfl rfl ⟨Nat.le_of_ble_eq_true rfl, Nat.le_of_ble_eq_true rfl⟩ rfl rfl d_X12_again_24.1
    · skip
      refine g_aload_n hO d_X12_again_25 (by rfl) 0 rfl ?_
      refine g_iload_n hO d_X12_again_26 (by rfl) 1 rfl ?_
      refine g_iconst hO 1 d_X12_again_27 (by decide) ?_
      refine g_iadd hO d_X12_again_28 ?_
      refine g_iconst hO 0 d_X12_again_29 (by decide) ?_
      refine k_virtVs hO cl_X12 mm_X12_copyAll lkV_X12_565 ⟨⟨Nat.le_of_ble_eq_true rfl, Nat.le_of_ble_eq_true rfl⟩, Nat.le_of_ble_eq_true rfl, Nat.le_of_ble_eq_true rfl⟩ (kn' := (0, 0)) rfl (As := [vI (x1 + 1), vI 0]) rfl (Nat.le_of_ble_eq_true rfl) (fun o' _ => t_X12_copyAll Γ.2.1 E o' (x1 + 1) 0 S1) d_X12_again_30 rfl (fun S7 => ?_)
      refine g_iconst hO 1 d_X12_again_33 (by decide) ?_
      exact g_ret hO rfl rfl ⟨Nat.le_of_ble_eq_true rfl, Nat.le_of_ble_eq_true rfl⟩ rfl rfl d_X12_again_34.1
theorem t_X12_again (l : Launch) (E : GE) (o : Nat) (x1 : Int32) (S : GS) : ∀ a, f_X12_again o x1 S = some a → Ct l E yX12_again cX12_again 2 (some .boolean) rm_X12_again [vA (some o), vI x1] S (some (vI a.1)) a.2 :=
  Ct_of (val := fun (b : Int32 × GS) => some (vI b.1)) (nxt := fun (b : Int32 × GS) => b.2) (by decide) (Nat.le_of_ble_eq_true rfl) (fun Γ hl hO => w_X12_again hO o x1 S)
