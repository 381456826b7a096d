theorem d_X5_nextToken_0 : gD cX5_nextToken 0 (.aload_n 0) 1 1 := ⟨by decide +kernel, rfl⟩
theorem d_X5_nextToken_1 : gD cX5_nextToken 1 (.aload_n 0) 1 2 := ⟨by decide +kernel, rfl⟩
theorem d_X5_nextToken_2 : gD cX5_nextToken 2 (.getfield 123) 3 5 := ⟨by decide +kernel, rfl⟩
theorem d_X5_nextToken_5 : gD cX5_nextToken 5 (.putfield 171) 3 8 := ⟨by decide +kernel, rfl⟩
theorem d_X5_nextToken_8 : gD cX5_nextToken 8 (.aload_n 0) 1 9 := ⟨by decide +kernel, rfl⟩
theorem d_X5_nextToken_9 : gD cX5_nextToken 9 (.getfield 171) 3 12 := ⟨by decide +kernel, rfl⟩
theorem d_X5_nextToken_12 : gD cX5_nextToken 12 (.aload_n 0) 1 13 := ⟨by decide +kernel, rfl⟩
theorem d_X5_nextToken_13 : gD cX5_nextToken 13 (.getfield 87) 3 16 := ⟨by decide +kernel, rfl⟩
theorem d_X5_nextToken_16 : gD cX5_nextToken 16 (.if_icmp .ge 30) 3 19 ∧ ((16 : Nat) : Int) + 30 = ((46 : Nat) : Int) := ⟨⟨by decide +kernel, rfl⟩, by decide⟩
theorem d_X5_nextToken_19 : gD cX5_nextToken 19 (.aload_n 0) 1 20 := ⟨by decide +kernel, rfl⟩
theorem d_X5_nextToken_20 : gD cX5_nextToken 20 (.aload_n 0) 1 21 := ⟨by decide +kernel, rfl⟩
theorem d_X5_nextToken_21 : gD cX5_nextToken 21 (.getfield 171) 3 24 := ⟨by decide +kernel, rfl⟩
theorem d_X5_nextToken_24 : gD cX5_nextToken 24 (.invokevirtual 246) 3 27 := ⟨by decide +kernel, rfl⟩
theorem d_X5_nextToken_27 : gD cX5_nextToken 27 (.invokestatic 250) 3 30 := ⟨by decide +kernel, rfl⟩
theorem d_X5_nextToken_30 : gD cX5_nextToken 30 (.ifCond .eq 16) 3 33 ∧ ((30 : Nat) : Int) + 16 = ((46 : Nat) : Int) := ⟨⟨by decide +kernel, rfl⟩, by decide⟩
theorem d_X5_nextToken_33 : gD cX5_nextToken 33 (.aload_n 0) 1 34 := ⟨by decide +kernel, rfl⟩
theorem d_X5_nextToken_34 : gD cX5_nextToken 34 (.dup) 1 35 := ⟨by decide +kernel, rfl⟩
theorem d_X5_nextToken_35 : gD cX5_nextToken 35 (.getfield 171) 3 38 := ⟨by decide +kernel, rfl⟩
theorem d_X5_nextToken_38 : gD cX5_nextToken 38 (.iconst 1) 1 39 := ⟨by decide +kernel, rfl⟩
theorem d_X5_nextToken_39 : gD cX5_nextToken 39 (.iadd) 1 40 := ⟨by decide +kernel, rfl⟩
theorem d_X5_nextToken_40 : gD cX5_nextToken 40 (.putfield 171) 3 43 := ⟨by decide +kernel, rfl⟩
theorem d_X5_nextToken_43 : decode cX5_nextToken 43 = .ok (.goto (-35), 3) ∧ ((43 : Nat) : Int) + (-35) = ((8 : Nat) : Int) := ⟨by decide +kernel, by decide⟩
theorem d_X5_nextToken_46 : gD cX5_nextToken 46 (.aload_n 0) 1 47 := ⟨by decide +kernel, rfl⟩
theorem d_X5_nextToken_47 : gD cX5_nextToken 47 (.aload_n 0) 1 48 := ⟨by decide +kernel, rfl⟩
theorem d_X5_nextToken_48 : gD cX5_nextToken 48 (.getfield 171) 3 51 := ⟨by decide +kernel, rfl⟩
theorem d_X5_nextToken_51 : gD cX5_nextToken 51 (.iconst 1) 1 52 := ⟨by decide +kernel, rfl⟩
theorem d_X5_nextToken_52 : gD cX5_nextToken 52 (.iadd) 1 53 := ⟨by decide +kernel, rfl⟩
theorem d_X5_nextToken_53 : gD cX5_nextToken 53 (.putfield 123) 3 56 := ⟨by decide +kernel, rfl⟩
theorem d_X5_nextToken_56 : gD cX5_nextToken 56 (.aload_n 0) 1 57 := ⟨by decide +kernel, rfl⟩
theorem d_X5_nextToken_57 : gD cX5_nextToken 57 (.aload_n 0) 1 58 := ⟨by decide +kernel, rfl⟩
theorem d_X5_nextToken_58 : gD cX5_nextToken 58 (.getfield 171) 3 61 := ⟨by decide +kernel, rfl⟩
theorem d_X5_nextToken_61 : gD cX5_nextToken 61 (.invokevirtual 246) 3 64 := ⟨by decide +kernel, rfl⟩
theorem d_X5_nextToken_64 : gD cX5_nextToken 64 (.istore_n 1) 1 65 := ⟨by decide +kernel, rfl⟩
theorem d_X5_nextToken_65 : gD cX5_nextToken 65 (.aload_n 0) 1 66 := ⟨by decide +kernel, rfl⟩
theorem d_X5_nextToken_66 : gD cX5_nextToken 66 (.getfield 171) 3 69 := ⟨by decide +kernel, rfl⟩
theorem d_X5_nextToken_69 : gD cX5_nextToken 69 (.aload_n 0) 1 70 := ⟨by decide +kernel, rfl⟩
theorem d_X5_nextToken_70 : gD cX5_nextToken 70 (.getfield 87) 3 73 := ⟨by decide +kernel, rfl⟩
theorem d_X5_nextToken_73 : gD cX5_nextToken 73 (.if_icmp .lt 19) 3 76 ∧ ((73 : Nat) : Int) + 19 = ((92 : Nat) : Int) := ⟨⟨by decide +kernel, rfl⟩, by decide⟩
theorem d_X5_nextToken_76 : gD cX5_nextToken 76 (.aload_n 0) 1 77 := ⟨by decide +kernel, rfl⟩
theorem d_X5_nextToken_77 : gD cX5_nextToken 77 (.aload_n 0) 1 78 := ⟨by decide +kernel, rfl⟩
theorem d_X5_nextToken_78 : gD cX5_nextToken 78 (.getfield 87) 3 81 := ⟨by decide +kernel, rfl⟩
theorem d_X5_nextToken_81 : gD cX5_nextToken 81 (.putfield 123) 3 84 := ⟨by decide +kernel, rfl⟩
theorem d_X5_nextToken_84 : gD cX5_nextToken 84 (.aload_n 0) 1 85 := ⟨by decide +kernel, rfl⟩
theorem d_X5_nextToken_85 : gD cX5_nextToken 85 (.iconst 0) 1 86 := ⟨by decide +kernel, rfl⟩
theorem d_X5_nextToken_86 : gD cX5_nextToken 86 (.putfield 51) 3 89 := ⟨by decide +kernel, rfl⟩
theorem d_X5_nextToken_89 : decode cX5_nextToken 89 = .ok (.goto 141, 3) ∧ ((89 : Nat) : Int) + 141 = ((230 : Nat) : Int) := ⟨by decide +kernel, by decide⟩
theorem d_X5_nextToken_92 : gD cX5_nextToken 92 (.iload_n 1) 1 93 := ⟨by decide +kernel, rfl⟩
theorem d_X5_nextToken_93 : gD cX5_nextToken 93 (.invokestatic 254) 3 96 := ⟨by decide +kernel, rfl⟩
theorem d_X5_nextToken_96 : gD cX5_nextToken 96 (.ifCond .eq 49) 3 99 ∧ ((96 : Nat) : Int) + 49 = ((145 : Nat) : Int) := ⟨⟨by decide +kernel, rfl⟩, by decide⟩
theorem d_X5_nextToken_99 : gD cX5_nextToken 99 (.aload_n 0) 1 100 := ⟨by decide +kernel, rfl⟩
theorem d_X5_nextToken_100 : gD cX5_nextToken 100 (.getfield 123) 3 103 := ⟨by decide +kernel, rfl⟩
theorem d_X5_nextToken_103 : gD cX5_nextToken 103 (.aload_n 0) 1 104 := ⟨by decide +kernel, rfl⟩
theorem d_X5_nextToken_104 : gD cX5_nextToken 104 (.getfield 87) 3 107 := ⟨by decide +kernel, rfl⟩
theorem d_X5_nextToken_107 : gD cX5_nextToken 107 (.if_icmp .ge 30) 3 110 ∧ ((107 : Nat) : Int) + 30 = ((137 : Nat) : Int) := ⟨⟨by decide +kernel, rfl⟩, by decide⟩
theorem d_X5_nextToken_110 : gD cX5_nextToken 110 (.aload_n 0) 1 111 := ⟨by decide +kernel, rfl⟩
theorem d_X5_nextToken_111 : gD cX5_nextToken 111 (.aload_n 0) 1 112 := ⟨by decide +kernel, rfl⟩
theorem d_X5_nextToken_112 : gD cX5_nextToken 112 (.getfield 123) 3 115 := ⟨by decide +kernel, rfl⟩
theorem d_X5_nextToken_115 : gD cX5_nextToken 115 (.invokevirtual 246) 3 118 := ⟨by decide +kernel, rfl⟩
theorem d_X5_nextToken_118 : gD cX5_nextToken 118 (.invokestatic 254) 3 121 := ⟨by decide +kernel, rfl⟩
theorem d_X5_nextToken_121 : gD cX5_nextToken 121 (.ifCond .eq 16) 3 124 ∧ ((121 : Nat) : Int) + 16 = ((137 : Nat) : Int) := ⟨⟨by decide +kernel, rfl⟩, by decide⟩
theorem d_X5_nextToken_124 : gD cX5_nextToken 124 (.aload_n 0) 1 125 := ⟨by decide +kernel, rfl⟩
theorem d_X5_nextToken_125 : gD cX5_nextToken 125 (.dup) 1 126 := ⟨by decide +kernel, rfl⟩
theorem d_X5_nextToken_126 : gD cX5_nextToken 126 (.getfield 123) 3 129 := ⟨by decide +kernel, rfl⟩
theorem d_X5_nextToken_129 : gD cX5_nextToken 129 (.iconst 1) 1 130 := ⟨by decide +kernel, rfl⟩
theorem d_X5_nextToken_130 : gD cX5_nextToken 130 (.iadd) 1 131 := ⟨by decide +kernel, rfl⟩
theorem d_X5_nextToken_131 : gD cX5_nextToken 131 (.putfield 123) 3 134 := ⟨by decide +kernel, rfl⟩
theorem d_X5_nextToken_134 : decode cX5_nextToken 134 = .ok (.goto (-35), 3) ∧ ((134 : Nat) : Int) + (-35) = ((99 : Nat) : Int) := ⟨by decide +kernel, by decide⟩
theorem d_X5_nextToken_137 : gD cX5_nextToken 137 (.aload_n 0) 1 138 := ⟨by decide +kernel, rfl⟩
theorem d_X5_nextToken_138 : gD cX5_nextToken 138 (.iconst 1) 1 139 := ⟨by decide +kernel, rfl⟩
theorem d_X5_nextToken_139 : gD cX5_nextToken 139 (.putfield 51) 3 142 := ⟨by decide +kernel, rfl⟩
theorem d_X5_nextToken_142 : decode cX5_nextToken 142 = .ok (.goto 88, 3) ∧ ((142 : Nat) : Int) + 88 = ((230 : Nat) : Int) := ⟨by decide +kernel, by decide⟩
theorem d_X5_nextToken_145 : gD cX5_nextToken 145 (.iload_n 1) 1 146 := ⟨by decide +kernel, rfl⟩
theorem d_X5_nextToken_146 : gD cX5_nextToken 146 (.invokestatic 257) 3 149 := ⟨by decide +kernel, rfl⟩
theorem d_X5_nextToken_149 : gD cX5_nextToken 149 (.ifCond .eq 66) 3 152 ∧ ((149 : Nat) : Int) + 66 = ((215 : Nat) : Int) := ⟨⟨by decide +kernel, rfl⟩, by decide⟩
theorem d_X5_nextToken_152 : gD cX5_nextToken 152 (.aload_n 0) 1 153 := ⟨by decide +kernel, rfl⟩
theorem d_X5_nextToken_153 : gD cX5_nextToken 153 (.getfield 123) 3 156 := ⟨by decide +kernel, rfl⟩
theorem d_X5_nextToken_156 : gD cX5_nextToken 156 (.aload_n 0) 1 157 := ⟨by decide +kernel, rfl⟩
theorem d_X5_nextToken_157 : gD cX5_nextToken 157 (.getfield 87) 3 160 := ⟨by decide +kernel, rfl⟩
theorem d_X5_nextToken_160 : gD cX5_nextToken 160 (.if_icmp .ge 30) 3 163 ∧ ((160 : Nat) : Int) + 30 = ((190 : Nat) : Int) := ⟨⟨by decide +kernel, rfl⟩, by decide⟩
theorem d_X5_nextToken_163 : gD cX5_nextToken 163 (.aload_n 0) 1 164 := ⟨by decide +kernel, rfl⟩
theorem d_X5_nextToken_164 : gD cX5_nextToken 164 (.aload_n 0) 1 165 := ⟨by decide +kernel, rfl⟩
theorem d_X5_nextToken_165 : gD cX5_nextToken 165 (.getfield 123) 3 168 := ⟨by decide +kernel, rfl⟩
theorem d_X5_nextToken_168 : gD cX5_nextToken 168 (.invokevirtual 246) 3 171 := ⟨by decide +kernel, rfl⟩
theorem d_X5_nextToken_171 : gD cX5_nextToken 171 (.invokestatic 257) 3 174 := ⟨by decide +kernel, rfl⟩
theorem d_X5_nextToken_174 : gD cX5_nextToken 174 (.ifCond .eq 16) 3 177 ∧ ((174 : Nat) : Int) + 16 = ((190 : Nat) : Int) := ⟨⟨by decide +kernel, rfl⟩, by decide⟩
theorem d_X5_nextToken_177 : gD cX5_nextToken 177 (.aload_n 0) 1 178 := ⟨by decide +kernel, rfl⟩
theorem d_X5_nextToken_178 : gD cX5_nextToken 178 (.dup) 1 179 := ⟨by decide +kernel, rfl⟩
theorem d_X5_nextToken_179 : gD cX5_nextToken 179 (.getfield 123) 3 182 := ⟨by decide +kernel, rfl⟩
theorem d_X5_nextToken_182 : gD cX5_nextToken 182 (.iconst 1) 1 183 := ⟨by decide +kernel, rfl⟩
theorem d_X5_nextToken_183 : gD cX5_nextToken 183 (.iadd) 1 184 := ⟨by decide +kernel, rfl⟩
theorem d_X5_nextToken_184 : gD cX5_nextToken 184 (.putfield 123) 3 187 := ⟨by decide +kernel, rfl⟩
theorem d_X5_nextToken_187 : decode cX5_nextToken 187 = .ok (.goto (-35), 3) ∧ ((187 : Nat) : Int) + (-35) = ((152 : Nat) : Int) := ⟨by decide +kernel, by decide⟩
theorem d_X5_nextToken_190 : gD cX5_nextToken 190 (.aload_n 0) 1 191 := ⟨by decide +kernel, rfl⟩
theorem d_X5_nextToken_191 : gD cX5_nextToken 191 (.aload_n 0) 1 192 := ⟨by decide +kernel, rfl⟩
theorem d_X5_nextToken_192 : gD cX5_nextToken 192 (.getfield 123) 3 195 := ⟨by decide +kernel, rfl⟩
theorem d_X5_nextToken_195 : gD cX5_nextToken 195 (.aload_n 0) 1 196 := ⟨by decide +kernel, rfl⟩
theorem d_X5_nextToken_196 : gD cX5_nextToken 196 (.getfield 171) 3 199 := ⟨by decide +kernel, rfl⟩
theorem d_X5_nextToken_199 : gD cX5_nextToken 199 (.isub) 1 200 := ⟨by decide +kernel, rfl⟩
theorem d_X5_nextToken_200 : gD cX5_nextToken 200 (.iconst 2) 1 201 := ⟨by decide +kernel, rfl⟩
theorem d_X5_nextToken_201 : gD cX5_nextToken 201 (.if_icmp .gt 7) 3 204 ∧ ((201 : Nat) : Int) + 7 = ((208 : Nat) : Int) := ⟨⟨by decide +kernel, rfl⟩, by decide⟩
theorem d_X5_nextToken_204 : gD cX5_nextToken 204 (.iconst 2) 1 205 := ⟨by decide +kernel, rfl⟩
theorem d_X5_nextToken_205 : decode cX5_nextToken 205 = .ok (.goto 4, 3) ∧ ((205 : Nat) : Int) + 4 = ((209 : Nat) : Int) := ⟨by decide +kernel, by decide⟩
theorem d_X5_nextToken_208 : gD cX5_nextToken 208 (.iconst 4) 1 209 := ⟨by decide +kernel, rfl⟩
theorem d_X5_nextToken_209 : gD cX5_nextToken 209 (.putfield 51) 3 212 := ⟨by decide +kernel, rfl⟩
theorem d_X5_nextToken_212 : decode cX5_nextToken 212 = .ok (.goto 18, 3) ∧ ((212 : Nat) : Int) + 18 = ((230 : Nat) : Int) := ⟨by decide +kernel, by decide⟩
theorem d_X5_nextToken_215 : gD cX5_nextToken 215 (.aload_n 0) 1 216 := ⟨by decide +kernel, rfl⟩
theorem d_X5_nextToken_216 : gD cX5_nextToken 216 (.iload_n 1) 1 217 := ⟨by decide +kernel, rfl⟩
theorem d_X5_nextToken_217 : gD cX5_nextToken 217 (.bipush 59) 2 219 := ⟨by decide +kernel, rfl⟩
theorem d_X5_nextToken_219 : gD cX5_nextToken 219 (.if_icmp .ne 7) 3 222 ∧ ((219 : Nat) : Int) + 7 = ((226 : Nat) : Int) := ⟨⟨by decide +kernel, rfl⟩, by decide⟩
theorem d_X5_nextToken_222 : gD cX5_nextToken 222 (.iconst 3) 1 223 := ⟨by decide +kernel, rfl⟩
theorem d_X5_nextToken_223 : decode cX5_nextToken 223 = .ok (.goto 4, 3) ∧ ((223 : Nat) : Int) + 4 = ((227 : Nat) : Int) := ⟨by decide +kernel, by decide⟩
theorem d_X5_nextToken_226 : gD cX5_nextToken 226 (.iconst 4) 1 227 := ⟨by decide +kernel, rfl⟩
theorem d_X5_nextToken_227 : gD cX5_nextToken 227 (.putfield 51) 3 230 := ⟨by decide +kernel, rfl⟩
theorem d_X5_nextToken_230 : gD cX5_nextToken 230 (.return_) 1 231 := ⟨by decide +kernel, rfl⟩
abbrev rm_X5_nextToken : Room := { frames := 1, cells := 0, slots := 0, locals := 21 }
set_option maxRecDepth 20000 in
theorem w_X5_nextToken_137 {Γ : GC} {E : GE} (hO : gOk Γ E cX5_nextToken RX5 2 rm_X5_nextToken none "nextToken") (o : Nat) (S : GS) : Go Γ E (gBsV Γ E) 2 (0, 0) 137 S [(0, vA (some o))] [] (f_X5_nextToken_137 o S) := by
  unfold f_X5_nextToken_137
  refine g_aload_n hO d_X5_nextToken_137 (by rfl) 0 rfl ?_
  refine g_iconst hO 1 d_X5_nextToken_138 (by decide) ?_
  refine h_putI hO cl_X5 8 rfl rfl wf_X5_51 (Or.inl rfl) d_X5_nextToken_139 (fun S1 => ?_)
  refine g_goto (tgt := 230) hO d_X5_nextToken_142.1 d_X5_nextToken_142.2 ?_
  exact g_vret hO rfl ⟨Nat.le_of_ble_eq_true rfl, Nat.le_of_ble_eq_true rfl⟩ rfl rfl d_X5_nextToken_230.1
set_option maxRecDepth 20000 in
theorem w_X5_nextToken_99 {Γ : GC} {E : GE} (hO : gOk Γ E cX5_nextToken RX5 2 rm_X5_nextToken none "nextToken") (o : Nat) : ∀ (n : Nat) (S : GS), Go Γ E (gBsV Γ E) 2 (0, 0) 99 S [(0, vA (some o))] [] (f_X5_nextToken_99 o n S) := by
  intro n
  induction n with
  | zero =>
    intro S
    exact g_none
  | succ n ih =>
    intro S
    rw [f_X5_nextToken_99]
    refine g_aload_n hO d_X5_nextToken_99 (by rfl) 0 rfl ?_
    refine h_getI hO cl_X5 10 rfl wf_X5_123 d_X5_nextToken_100 (fun v1 => ?_)
    refine g_aload_n hO d_X5_nextToken_103 (by rfl) 0 rfl ?_
    refine h_getI hO cl_X5 7 rfl wf_X5_87 d_X5_nextToken_104 (fun v2 => ?_)
    refine g_ic_ge (tgt := 137) hO d_X5_nextToken_107.1 d_X5_nextToken_107.2 (fun _ => ?_) (fun _ => ?_)
    · skip
      exact g_sub [0] rfl (w_X5_nextToken_137 hO o _)
    · skip
      refine g_aload_n hO d_X5_nextToken_110 (by rfl) 0 rfl ?_
      refine g_aload_n hO d_X5_nextToken_111 (by rfl) 0 rfl ?_
      refine h_getI hO cl_X5 10 rfl wf_X5_123 d_X5_nextToken_112 (fun v3 => ?_)
      refine k_virtIp hO cl_X5 mm_X5_byteAt lkV_X5_246 ⟨⟨Nat.le_of_ble_eq_true rfl, Nat.le_of_ble_eq_true rfl⟩, Nat.le_of_ble_eq_true rfl, Nat.le_of_ble_eq_true rfl⟩ (kn' := (0, 0)) rfl (As := [vI v3]) rfl (Nat.le_of_ble_eq_true rfl) (fun o' _ => t_X5_byteAt Γ.2.1 E o' v3 S) d_X5_nextToken_115 rfl (fun v4 => ?_)
      refine k_statIp hO mm_X5_isLetter lkS_X5_254 ⟨⟨Nat.le_of_ble_eq_true rfl, Nat.le_of_ble_eq_true rfl⟩, Nat.le_of_ble_eq_true rfl, Nat.le_of_ble_eq_true rfl⟩ (kn' := (0, 0)) rfl (As := [vI v4]) rfl (Nat.le_of_ble_eq_true rfl) (t_X5_isLetter Γ.2.1 E v4 S) d_X5_nextToken_118 rfl (fun v6 => ?_)
      refine g_if_eq (tgt := 137) hO d_X5_nextToken_121.1 d_X5_nextToken_121.2 (fun _ => ?_) (fun _ => ?_)
      · skip
        exact g_sub [0] rfl (w_X5_nextToken_137 hO o _)
      · skip
        refine g_aload_n hO d_X5_nextToken_124 (by rfl) 0 rfl ?_
        refine g_dup hO d_X5_nextToken_125 rfl ?_
        refine h_getI hO cl_X5 10 rfl wf_X5_123 d_X5_nextToken_126 (fun v8 => ?_)
        refine g_iconst hO 1 d_X5_nextToken_129 (by decide) ?_
        refine g_iadd hO d_X5_nextToken_130 ?_
        refine h_putI hO cl_X5 10 rfl rfl wf_X5_123 (Or.inl rfl) d_X5_nextToken_131 (fun S9 => ?_)
        refine g_goto (tgt := 99) hO d_X5_nextToken_134.1 d_X5_nextToken_134.2 ?_
        exact g_sub [0] rfl (ih _)
set_option maxRecDepth 20000 in
theorem w_X5_nextToken_209 {Γ : GC} {E : GE} (hO : gOk Γ E cX5_nextToken RX5 2 rm_X5_nextToken none "nextToken") (o : Nat) (y0 : Option Nat) (y1 : Int32) (S : GS) : Go Γ E (gBsV Γ E) 2 (0, 0) 209 S [(0, vA (some o))] [vI y1, vA y0] (f_X5_nextToken_209 o y0 y1 S) := by
  unfold f_X5_nextToken_209
  refine h_putI hO cl_X5 8 rfl rfl wf_X5_51 (Or.inl rfl) d_X5_nextToken_209 (fun S1 => ?_)
  refine g_goto (tgt := 230) hO d_X5_nextToken_212.1 d_X5_nextToken_212.2 ?_
  exact g_vret hO rfl ⟨Nat.le_of_ble_eq_true rfl, Nat.le_of_ble_eq_true rfl⟩ rfl rfl d_X5_nextToken_230.1
set_option maxRecDepth 20000 in
theorem w_X5_nextToken_190 {Γ : GC} {E : GE} (hO : gOk Γ E cX5_nextToken RX5 2 rm_X5_nextToken none "nextToken") (o : Nat) (S : GS) : Go Γ E (gBsV Γ E) 2 (0, 0) 190 S [(0, vA (some o))] [] (f_X5_nextToken_190 o S) := by
  unfold f_X5_nextToken_190
  refine g_aload_n hO d_X5_nextToken_190 (by rfl) 0 rfl ?_
  refine g_aload_n hO d_X5_nextToken_191 (by rfl) 0 rfl ?_
  refine h_getI hO cl_X5 10 rfl wf_X5_123 d_X5_nextToken_192 (fun v1 => ?_)
  refine g_aload_n hO d_X5_nextToken_195 (by rfl) 0 rfl ?_
  refine h_getI hO cl_X5 9 rfl wf_X5_171 d_X5_nextToken_196 (fun v2 => ?_)
  refine g_isub hO d_X5_nextToken_199 ?_
  refine g_iconst hO 2 d_X5_nextToken_200 (by decide) ?_
  refine g_ic_gt (tgt := 208) hO d_X5_nextToken_201.1 d_X5_nextToken_201.2 (fun _ => ?_) (fun _ => ?_)
  · skip
    refine g_iconst hO 4 d_X5_nextToken_208 (by decide) ?_
    exact g_sub [0] rfl (w_X5_nextToken_209 hO o _ _ _)
  · skip
    refine g_iconst hO 2 d_X5_nextToken_204 (by decide) ?_
    refine g_goto (tgt := 209) hO d_X5_nextToken_205.1 d_X5_nextToken_205.2 ?_
    exact g_sub [0] rfl (w_X5_nextToken_209 hO o _ _ _)
set_option maxRecDepth 20000 in
theorem w_X5_nextToken_152 {Γ : GC} {E : GE} (hO : gOk Γ E cX5_nextToken RX5 2 rm_X5_nextToken none "nextToken") (o : Nat) : ∀ (n : Nat) (S : GS), Go Γ E (gBsV Γ E) 2 (0, 0) 152 S [(0, vA (some o))] [] (f_X5_nextToken_152 o n S) := by
  intro n
  induction n with
  | zero =>
    intro S
    exact g_none
  | succ n ih =>
    intro S
    rw [f_X5_nextToken_152]
    refine g_aload_n hO d_X5_nextToken_152 (by rfl) 0 rfl ?_
    refine h_getI hO cl_X5 10 rfl wf_X5_123 d_X5_nextToken_153 (fun v1 => ?_)
    refine g_aload_n hO d_X5_nextToken_156 (by rfl) 0 rfl ?_
    refine h_getI hO cl_X5 7 rfl wf_X5_87 d_X5_nextToken_157 (fun v2 => ?_)
    refine g_ic_ge (tgt := 190) hO d_X5_nextToken_160.1 d_X5_nextToken_160.2 (fun _ => ?_) (fun _ => ?_)
    · skip
      exact g_sub [0] rfl (w_X5_nextToken_190 hO o _)
    · skip
      refine g_aload_n hO d_X5_nextToken_163 (by rfl) 0 rfl ?_
      refine g_aload_n hO d_X5_nextToken_164 (by rfl) 0 rfl ?_
      refine h_getI hO cl_X5 10 rfl wf_X5_123 d_X5_nextToken_165 (fun v3 => ?_)
      refine k_virtIp hO cl_X5 mm_X5_byteAt lkV_X5_246 ⟨⟨Nat.le_of_ble_eq_true rfl, Nat.le_of_ble_eq_true rfl⟩, Nat.le_of_ble_eq_true rfl, Nat.le_of_ble_eq_true rfl⟩ (kn' := (0, 0)) rfl (As := [vI v3]) rfl (Nat.le_of_ble_eq_true rfl) (fun o' _ => t_X5_byteAt Γ.2.1 E o' v3 S) d_X5_nextToken_168 rfl (fun v4 => ?_)
      refine k_statIp hO mm_X5_isDigit lkS_X5_257 ⟨⟨Nat.le_of_ble_eq_true rfl, Nat.le_of_ble_eq_true rfl⟩, Nat.le_of_ble_eq_true rfl, Nat.le_of_ble_eq_true rfl⟩ (kn' := (0, 0)) rfl (As := [vI v4]) rfl (Nat.le_of_ble_eq_true rfl) (t_X5_isDigit Γ.2.1 E v4 S) d_X5_nextToken_171 rfl (fun v6 => ?_)
      refine g_if_eq (tgt := 190) hO d_X5_nextToken_174.1 d_X5_nextToken_174.2 (fun _ => ?_) (fun _ => ?_)
      · skip
        exact g_sub [0] rfl (w_X5_nextToken_190 hO o _)
      · skip
        refine g_aload_n hO d_X5_nextToken_177 (by rfl) 0 rfl ?_
        refine g_dup hO d_X5_nextToken_178 rfl ?_
        refine h_getI hO cl_X5 10 rfl wf_X5_123 d_X5_nextToken_179 (fun v8 => ?_)
        refine g_iconst hO 1 d_X5_nextToken_182 (by decide) ?_
        refine g_iadd hO d_X5_nextToken_183 ?_
        refine h_putI hO cl_X5 10 rfl rfl wf_X5_123 (Or.inl rfl) d_X5_nextToken_184 (fun S9 => ?_)
        refine g_goto (tgt := 152) hO d_X5_nextToken_187.1 d_X5_nextToken_187.2 ?_
        exact g_sub [0] rfl (ih _)
set_option maxRecDepth 20000 in
theorem w_X5_nextToken_46 {Γ : GC} {E : GE} (hO : gOk Γ E cX5_nextToken RX5 2 rm_X5_nextToken none "nextToken") (o : Nat) (S : GS) : Go Γ E (gBsV Γ E) 2 (0, 0) 46 S [(0, vA (some o))] [] (f_X5_nextToken_46 o S) := by
  unfold f_X5_nextToken_46
  refine g_aload_n hO d_X5_nextToken_46 (by rfl) 0 rfl ?_
  refine g_aload_n hO d_X5_nextToken_47 (by rfl) 0 rfl ?_
  refine h_getI hO cl_X5 9 rfl wf_X5_171 d_X5_nextToken_48 (fun v1 => ?_)
  refine g_iconst hO 1 d_X5_nextToken_51 (by decide) ?_
  refine g_iadd hO d_X5_nextToken_52 ?_
  refine h_putI hO cl_X5 10 rfl rfl wf_X5_123 (Or.inl rfl) d_X5_nextToken_53 (fun S2 => ?_)
  refine g_aload_n hO d_X5_nextToken_56 (by rfl) 0 rfl ?_
  refine g_aload_n hO d_X5_nextToken_57 (by rfl) 0 rfl ?_
  refine h_getI hO cl_X5 9 rfl wf_X5_171 d_X5_nextToken_58 (fun v3 => ?_)
  refine k_virtIp hO cl_X5 mm_X5_byteAt lkV_X5_246 ⟨⟨Nat.le_of_ble_eq_true rfl, Nat.le_of_ble_eq_true rfl⟩, Nat.le_of_ble_eq_true rfl, Nat.le_of_ble_eq_true rfl⟩ (kn' := (0, 0)) rfl (As := [vI v3]) rfl (Nat.le_of_ble_eq_true rfl) (fun o' _ => t_X5_byteAt Γ.2.1 E o' v3 S2) d_X5_nextToken_61 rfl (fun v4 => ?_)
  refine g_istore_n (lv' := [(1, vI v4), (0, vA (some o))]) hO d_X5_nextToken_64 (by rfl) (by decide) rfl ?_
  refine g_aload_n hO d_X5_nextToken_65 (by rfl) 1 rfl ?_
  refine h_getI hO cl_X5 9 rfl wf_X5_171 d_X5_nextToken_66 (fun v6 => ?_)
  refine g_aload_n hO d_X5_nextToken_69 (by rfl) 1 rfl ?_
  refine h_getI hO cl_X5 7 rfl wf_X5_87 d_X5_nextToken_70 (fun v7 => ?_)
  refine g_ic_lt (tgt := 92) hO d_X5_nextToken_73.1 d_X5_nextToken_73.2 (fun _ => ?_) (fun _ => ?_)
  · skip
    refine g_iload_n hO d_X5_nextToken_92 (by rfl) 0 rfl ?_
    refine k_statIp hO mm_X5_isLetter lkS_X5_254 ⟨⟨Nat.le_of_ble_eq_true rfl, Nat.le_of_ble_eq_true rfl⟩, Nat.le_of_ble_eq_true rfl, Nat.le_of_ble_eq_true rfl⟩ (kn' := (0, 0)) rfl (As := [vI v4]) rfl (Nat.le_of_ble_eq_true rfl) (t_X5_isLetter Γ.2.1 E v4 S2) d_X5_nextToken_93 rfl (fun v8 => ?_)
    refine g_if_eq (tgt := 145) hO d_X5_nextToken_96.1 d_X5_nextToken_96.2 (fun _ => ?_) (fun _ => ?_)
    · skip
      refine g_iload_n hO d_X5_nextToken_145 (by rfl) 0 rfl ?_
      refine k_statIp hO mm_X5_isDigit lkS_X5_257 ⟨⟨Nat.le_of_ble_eq_true rfl, Nat.le_of_ble_eq_true rfl⟩, Nat.le_of_ble_eq_true rfl, Nat.le_of_ble_eq_true rfl⟩ (kn' := (0, 0)) rfl (As := [vI v4]) rfl (Nat.le_of_ble_eq_true rfl) (t_X5_isDigit Γ.2.1 E v4 S2) d_X5_nextToken_146 rfl (fun v10 => ?_)
      refine g_if_eq (tgt := 215) hO d_X5_nextToken_149.1 d_X5_nextToken_149.2 (fun _ => ?_) (fun _ => ?_)
      · skip
        refine g_aload_n hO d_X5_nextToken_215 (by rfl) 1 rfl ?_
        refine g_iload_n hO d_X5_nextToken_216 (by rfl) 0 rfl ?_
        refine g_bipush hO 59 d_X5_nextToken_217 (by decide) ?_
        refine g_ic_ne (tgt := 226) hO d_X5_nextToken_219.1 d_X5_nextToken_219.2 (fun _ => ?_) (fun _ => ?_)
        · skip
          refine g_iconst hO 3 d_X5_nextToken_222 (by decide) ?_
          refine g_goto (tgt := 227) hO d_X5_nextToken_223.1 d_X5_nextToken_223.2 ?_
          refine h_putI hO cl_X5 8 rfl rfl wf_X5_51 (Or.inl rfl) d_X5_nextToken_227 (fun S12 => ?_)
          exact g_vret hO rfl ⟨Nat.le_of_ble_eq_true rfl, Nat.le_of_ble_eq_true rfl⟩ rfl rfl d_X5_nextToken_230.1
        · skip
          refine g_iconst hO 4 d_X5_nextToken_226 (by decide) ?_
          refine h_putI hO cl_X5 8 rfl rfl wf_X5_51 (Or.inl rfl) d_X5_nextToken_227 (fun S13 => ?_)
          exact g_vret hO rfl ⟨Nat.le_of_ble_eq_true rfl, Nat.le_of_ble_eq_true rfl⟩ rfl rfl d_X5_nextToken_230.1
      · skip
        exact g_sub [1] rfl (w_X5_nextToken_152 hO o _ _)
    · skip
      exact g_sub [1] rfl (w_X5_nextToken_99 hO o _ _)
  · skip
    refine g_aload_n hO d_X5_nextToken_76 (by rfl) 1 rfl ?_
    refine g_aload_n hO d_X5_nextToken_77 (by rfl) 1 rfl ?_
    refine h_getI hO cl_X5 7 rfl wf_X5_87 d_X5_nextToken_78 (fun v14 => ?_)
    refine h_putI hO cl_X5 10 rfl rfl wf_X5_123 (Or.inl rfl) d_X5_nextToken_81 (fun S15 => ?_)
    refine g_aload_n hO d_X5_nextToken_84 (by rfl) 1 rfl ?_
    refine g_iconst hO 0 d_X5_nextToken_85 (by decide) ?_
    refine h_putI hO cl_X5 8 rfl rfl wf_X5_51 (Or.inl rfl) d_X5_nextToken_86 (fun S16 => ?_)
    refine g_goto (tgt := 230) hO d_X5_nextToken_89.1 d_X5_nextToken_89.2 ?_
    exact g_vret hO rfl ⟨Nat.le_of_ble_eq_true rfl, Nat.le_of_ble_eq_true rfl⟩ rfl rfl d_X5_nextToken_230.1
set_option maxRecDepth 20000 in
theorem w_X5_nextToken_8 {Γ : GC} {E : GE} (hO : gOk Γ E cX5_nextToken RX5 2 rm_X5_nextToken none "nextToken") (o : Nat) : ∀ (n : Nat) (S : GS), Go Γ E (gBsV Γ E) 2 (0, 0) 8 S [(0, vA (some o))] [] (f_X5_nextToken_8 o n S) := by
  intro n
  induction n with
  | zero =>
    intro S
    exact g_none
  | succ n ih =>
    intro S
    rw [f_X5_nextToken_8]
    refine g_aload_n hO d_X5_nextToken_8 (by rfl) 0 rfl ?_
    refine h_getI hO cl_X5 9 rfl wf_X5_171 d_X5_nextToken_9 (fun v1 => ?_)
    refine g_aload_n hO d_X5_nextToken_12 (by rfl) 0 rfl ?_
    refine h_getI hO cl_X5 7 rfl wf_X5_87 d_X5_nextToken_13 (fun v2 => ?_)
    refine g_ic_ge (tgt := 46) hO d_X5_nextToken_16.1 d_X5_nextToken_16.2 (fun _ => ?_) (fun _ => ?_)
    · skip
      exact g_sub [0] rfl (w_X5_nextToken_46 hO o _)
    · skip
      refine g_aload_n hO d_X5_nextToken_19 (by rfl) 0 rfl ?_
      refine g_aload_n hO d_X5_nextToken_20 (by rfl) 0 rfl ?_
      refine h_getI hO cl_X5 9 rfl wf_X5_171 d_X5_nextToken_21 (fun v3 => ?_)
      refine k_virtIp hO cl_X5 mm_X5_byteAt lkV_X5_246 ⟨⟨Nat.le_of_ble_eq_true rfl, Nat.le_of_ble_eq_true rfl⟩, Nat.le_of_ble_eq_true rfl, Nat.le_of_ble_eq_true rfl⟩ (kn' := (0, 0)) rfl (As := [vI v3]) rfl (Nat.le_of_ble_eq_true rfl) (fun o' _ => t_X5_byteAt Γ.2.1 E o' v3 S) d_X5_nextToken_24 rfl (fun v4 => ?_)
      refine k_statIp hO mm_X5_isBlank lkS_X5_250 ⟨⟨Nat.le_of_ble_eq_true rfl, Nat.le_of_ble_eq_true rfl⟩, Nat.le_of_ble_eq_true rfl, Nat.le_of_ble_eq_true rfl⟩ (kn' := (0, 0)) rfl (As := [vI v4]) rfl (Nat.le_of_ble_eq_true rfl) (t_X5_isBlank Γ.2.1 E v4 S) d_X5_nextToken_27 rfl (fun v6 => ?_)
      refine g_if_eq (tgt := 46) hO d_X5_nextToken_30.1 d_X5_nextToken_30.2 (fun _ => ?_) (fun _ => ?_)
      · skip
        exact g_sub [0] rfl (w_X5_nextToken_46 hO o _)
      · skip
        refine g_aload_n hO d_X5_nextToken_33 (by rfl) 0 rfl ?_
        refine g_dup hO d_X5_nextToken_34 rfl ?_
        refine h_getI hO cl_X5 9 rfl wf_X5_171 d_X5_nextToken_35 (fun v8 => ?_)
        refine g_iconst hO 1 d_X5_nextToken_38 (by decide) ?_
        refine g_iadd hO d_X5_nextToken_39 ?_
        refine h_putI hO cl_X5 9 rfl rfl wf_X5_171 (Or.inl rfl) d_X5_nextToken_40 (fun S9 => ?_)
        refine g_goto (tgt := 8) hO d_X5_nextToken_43.1 d_X5_nextToken_43.2 ?_
        exact g_sub [0] rfl (ih _)
set_option maxRecDepth 20000 in
theorem w_X5_nextToken {Γ : GC} {E : GE} (hO : gOk Γ E cX5_nextToken RX5 2 rm_X5_nextToken none "nextToken") (o : Nat) (S : GS) : Go Γ E (gBsV Γ E) 2 (0, 0) 0 S [(0, vA (some o))] [] (f_X5_nextToken o S) := by
  unfold f_X5_nextToken
  refine g_aload_n hO d_X5_nextToken_0 (by rfl) 0 rfl ?_
  refine g_aload_n hO d_X5_nextToken_1 (by rfl) 0 rfl ?_
  refine h_getI hO cl_X5 10 rfl wf_X5_123 d_X5_nextToken_2 (fun v1 => ?_)
  refine h_putI hO cl_X5 9 rfl rfl wf_X5_171 (Or.inl rfl) d_X5_nextToken_5 (fun S2 => ?_)
  exact g_sub [0] rfl (w_X5_nextToken_8 hO o _ _)
theorem t_X5_nextToken (l : Launch) (E : GE) (o : Nat) (S : GS) : ∀ a, f_X5_nextToken o S = some a → Ct l E yX5_nextToken cX5_nextToken 2 none rm_X5_nextToken [vA (some o)] S none a :=
  Ct_of (val := fun _ => none) (nxt := fun b => b) (by decide) (Nat.le_of_ble_eq_true rfl) (fun Γ hl hO => w_X5_nextToken hO o S)
theorem d_X5_begin_0 : gD cX5_begin 0 (.aload_n 1) 1 1 := ⟨by decide +kernel, rfl⟩
theorem d_X5_begin_1 : gD cX5_begin 1 (.getfield 93) 3 4 := ⟨by decide +kernel, rfl⟩
theorem d_X5_begin_4 : gD cX5_begin 4 (.iconst 0) 1 5 := ⟨by decide +kernel, rfl⟩
theorem d_X5_begin_5 : gD cX5_begin 5 (.aload_n 0) 1 6 := ⟨by decide +kernel, rfl⟩
theorem d_X5_begin_6 : gD cX5_begin 6 (.getfield 9) 3 9 := ⟨by decide +kernel, rfl⟩
theorem d_X5_begin_9 : gD cX5_begin 9 (.iconst 0) 1 10 := ⟨by decide +kernel, rfl⟩
theorem d_X5_begin_10 : gD cX5_begin 10 (.sipush 600) 3 13 := ⟨by decide +kernel, rfl⟩
theorem d_X5_begin_13 : gD cX5_begin 13 (.invokestatic 96) 3 16 := ⟨by decide +kernel, rfl⟩
theorem d_X5_begin_16 : gD cX5_begin 16 (.aload_n 0) 1 17 := ⟨by decide +kernel, rfl⟩
theorem d_X5_begin_17 : gD cX5_begin 17 (.iconst 0) 1 18 := ⟨by decide +kernel, rfl⟩
theorem d_X5_begin_18 : gD cX5_begin 18 (.sipush 600) 3 21 := ⟨by decide +kernel, rfl⟩
theorem d_X5_begin_21 : gD cX5_begin 21 (.aload_n 1) 1 22 := ⟨by decide +kernel, rfl⟩
theorem d_X5_begin_22 : gD cX5_begin 22 (.getfield 102) 3 25 := ⟨by decide +kernel, rfl⟩
theorem d_X5_begin_25 : gD cX5_begin 25 (.invokestatic 103) 3 28 := ⟨by decide +kernel, rfl⟩
theorem d_X5_begin_28 : gD cX5_begin 28 (.invokestatic 109) 3 31 := ⟨by decide +kernel, rfl⟩
theorem d_X5_begin_31 : gD cX5_begin 31 (.putfield 87) 3 34 := ⟨by decide +kernel, rfl⟩
theorem d_X5_begin_34 : gD cX5_begin 34 (.aload_n 0) 1 35 := ⟨by decide +kernel, rfl⟩
theorem d_X5_begin_35 : gD cX5_begin 35 (.getfield 18) 3 38 := ⟨by decide +kernel, rfl⟩
theorem d_X5_begin_38 : gD cX5_begin 38 (.invokevirtual 112) 3 41 := ⟨by decide +kernel, rfl⟩
theorem d_X5_begin_41 : gD cX5_begin 41 (.aload_n 0) 1 42 := ⟨by decide +kernel, rfl⟩
theorem d_X5_begin_42 : gD cX5_begin 42 (.getfield 25) 3 45 := ⟨by decide +kernel, rfl⟩
theorem d_X5_begin_45 : gD cX5_begin 45 (.invokevirtual 115) 3 48 := ⟨by decide +kernel, rfl⟩
theorem d_X5_begin_48 : gD cX5_begin 48 (.aload_n 0) 1 49 := ⟨by decide +kernel, rfl⟩
theorem d_X5_begin_49 : gD cX5_begin 49 (.getfield 34) 3 52 := ⟨by decide +kernel, rfl⟩
theorem d_X5_begin_52 : gD cX5_begin 52 (.invokevirtual 116) 3 55 := ⟨by decide +kernel, rfl⟩
theorem d_X5_begin_55 : gD cX5_begin 55 (.aload_n 0) 1 56 := ⟨by decide +kernel, rfl⟩
theorem d_X5_begin_56 : gD cX5_begin 56 (.getfield 38) 3 59 := ⟨by decide +kernel, rfl⟩
theorem d_X5_begin_59 : gD cX5_begin 59 (.invokevirtual 116) 3 62 := ⟨by decide +kernel, rfl⟩
theorem d_X5_begin_62 : gD cX5_begin 62 (.aload_n 0) 1 63 := ⟨by decide +kernel, rfl⟩
theorem d_X5_begin_63 : gD cX5_begin 63 (.getfield 41) 3 66 := ⟨by decide +kernel, rfl⟩
theorem d_X5_begin_66 : gD cX5_begin 66 (.invokevirtual 116) 3 69 := ⟨by decide +kernel, rfl⟩
theorem d_X5_begin_69 : gD cX5_begin 69 (.aload_n 0) 1 70 := ⟨by decide +kernel, rfl⟩
theorem d_X5_begin_70 : gD cX5_begin 70 (.getfield 44) 3 73 := ⟨by decide +kernel, rfl⟩
theorem d_X5_begin_73 : gD cX5_begin 73 (.invokevirtual 116) 3 76 := ⟨by decide +kernel, rfl⟩
theorem d_X5_begin_76 : gD cX5_begin 76 (.aload_n 0) 1 77 := ⟨by decide +kernel, rfl⟩
theorem d_X5_begin_77 : gD cX5_begin 77 (.iconst 0) 1 78 := ⟨by decide +kernel, rfl⟩
theorem d_X5_begin_78 : gD cX5_begin 78 (.putfield 117) 3 81 := ⟨by decide +kernel, rfl⟩
theorem d_X5_begin_81 : gD cX5_begin 81 (.aload_n 0) 1 82 := ⟨by decide +kernel, rfl⟩
theorem d_X5_begin_82 : gD cX5_begin 82 (.iconst (-1)) 1 83 := ⟨by decide +kernel, rfl⟩
theorem d_X5_begin_83 : gD cX5_begin 83 (.putfield 120) 3 86 := ⟨by decide +kernel, rfl⟩
theorem d_X5_begin_86 : gD cX5_begin 86 (.aload_n 0) 1 87 := ⟨by decide +kernel, rfl⟩
theorem d_X5_begin_87 : gD cX5_begin 87 (.iconst 0) 1 88 := ⟨by decide +kernel, rfl⟩
theorem d_X5_begin_88 : gD cX5_begin 88 (.putfield 123) 3 91 := ⟨by decide +kernel, rfl⟩
theorem d_X5_begin_91 : gD cX5_begin 91 (.aload_n 0) 1 92 := ⟨by decide +kernel, rfl⟩
theorem d_X5_begin_92 : gD cX5_begin 92 (.invokevirtual 126) 3 95 := ⟨by decide +kernel, rfl⟩
theorem d_X5_begin_95 : gD cX5_begin 95 (.return_) 1 96 := ⟨by decide +kernel, rfl⟩
abbrev rm_X5_begin : Room := { frames := 2, cells := 0, slots := 0, locals := 43 }
set_option maxRecDepth 20000 in
theorem w_X5_begin {Γ : GC} {E : GE} (hO : gOk Γ E cX5_begin RX5 2 rm_X5_begin none "begin") (o : Nat) (x1 : Option Nat) (S : GS) : Go Γ E (gBsV Γ E) 2 (0, 0) 0 S [(0, vA (some o)), (1, vA x1)] [] (f_X5_begin o x1 S) := by
  unfold f_X5_begin
  refine g_aload_n hO d_X5_begin_0 (by rfl) 1 rfl ?_
  refine h_getR hO cl_X9 0 rfl wf_X5_93 d_X5_begin_1 (fun v1 => ?_)
  refine g_iconst hO 0 d_X5_begin_4 (by decide) ?_
  refine g_aload_n hO d_X5_begin_5 (by rfl) 0 rfl ?_
  refine h_getR hO cl_X5 0 rfl wf_X5_9 d_X5_begin_6 (fun v2 => ?_)
  refine g_iconst hO 0 d_X5_begin_9 (by decide) ?_
  refine g_sipush hO 600 d_X5_begin_10 (by decide) ?_
  refine h_acI hO 13 (Or.inl rfl) wm_X5_96 w_acn w_acs wi_System ⟨by decide, Nat.le_of_ble_eq_true rfl⟩ d_X5_begin_13 (fun S3 => ?_)
  refine g_aload_n hO d_X5_begin_16 (by rfl) 0 rfl ?_
  refine g_iconst hO 0 d_X5_begin_17 (by decide) ?_
  refine g_sipush hO 600 d_X5_begin_18 (by decide) ?_
  refine g_aload_n hO d_X5_begin_21 (by rfl) 1 rfl ?_
  refine h_getI hO cl_X9 8 rfl wf_X5_102 d_X5_begin_22 (fun v4 => ?_)
  refine g_mmin hO wm_X5_103 wt_min wi_Math wc_min ⟨by decide, Nat.le_of_ble_eq_true rfl, Nat.zero_le _, Nat.zero_le _⟩ d_X5_begin_25 ?_
  refine g_mmax hO wm_X5_109 wt_max wi_Math wc_max ⟨by decide, Nat.le_of_ble_eq_true rfl, Nat.zero_le _, Nat.zero_le _⟩ d_X5_begin_28 ?_
  refine h_putI hO cl_X5 7 rfl rfl wf_X5_87 (Or.inl rfl) d_X5_begin_31 (fun S5 => ?_)
  refine g_aload_n hO d_X5_begin_34 (by rfl) 0 rfl ?_
  refine h_getR hO cl_X5 1 rfl wf_X5_18 d_X5_begin_35 (fun v6 => ?_)
  refine k_virtVs hO cl_X0 mm_X0_clear lkV_X5_112 ⟨⟨Nat.le_of_ble_eq_true rfl, Nat.le_of_ble_eq_true rfl⟩, Nat.le_of_ble_eq_true rfl, Nat.le_of_ble_eq_true rfl⟩ (kn' := (0, 0)) rfl (As := []) rfl (Nat.le_of_ble_eq_true rfl) (fun o' _ => t_X0_clear Γ.2.1 E o' S5) d_X5_begin_38 rfl (fun S8 => ?_)
  refine g_aload_n hO d_X5_begin_41 (by rfl) 0 rfl ?_
  refine h_getR hO cl_X5 2 rfl wf_X5_25 d_X5_begin_42 (fun v9 => ?_)
  refine k_virtVs hO cl_X8 mm_X8_clear lkV_X5_115 ⟨⟨Nat.le_of_ble_eq_true rfl, Nat.le_of_ble_eq_true rfl⟩, Nat.le_of_ble_eq_true rfl, Nat.le_of_ble_eq_true rfl⟩ (kn' := (0, 0)) rfl (As := []) rfl (Nat.le_of_ble_eq_true rfl) (fun o' _ => t_X8_clear Γ.2.1 E o' S8) d_X5_begin_45 rfl (fun S11 => ?_)
  refine g_aload_n hO d_X5_begin_48 (by rfl) 0 rfl ?_
  refine h_getR hO cl_X5 3 rfl wf_X5_34 d_X5_begin_49 (fun v12 => ?_)
  refine k_virtVs hO cl_X7 mm_X7_clear lkV_X5_116 ⟨⟨Nat.le_of_ble_eq_true rfl, Nat.le_of_ble_eq_true rfl⟩, Nat.le_of_ble_eq_true rfl, Nat.le_of_ble_eq_true rfl⟩ (kn' := (0, 0)) rfl (As := []) rfl (Nat.le_of_ble_eq_true rfl) (fun o' _ => t_X7_clear Γ.2.1 E o' S11) d_X5_begin_52 rfl (fun S14 => ?_)
  refine g_aload_n hO d_X5_begin_55 (by rfl) 0 rfl ?_
  refine h_getR hO cl_X5 4 rfl wf_X5_38 d_X5_begin_56 (fun v15 => ?_)
  refine k_virtVs hO cl_X7 mm_X7_clear lkV_X5_116 ⟨⟨Nat.le_of_ble_eq_true rfl, Nat.le_of_ble_eq_true rfl⟩, Nat.le_of_ble_eq_true rfl, Nat.le_of_ble_eq_true rfl⟩ (kn' := (0, 0)) rfl (As := []) rfl (Nat.le_of_ble_eq_true rfl) (fun o' _ => t_X7_clear Γ.2.1 E o' S14) d_X5_begin_59 rfl (fun S17 => ?_)
  refine g_aload_n hO d_X5_begin_62 (by rfl) 0 rfl ?_
  refine h_getR hO cl_X5 5 rfl wf_X5_41 d_X5_begin_63 (fun v18 => ?_)
  refine k_virtVs hO cl_X7 mm_X7_clear lkV_X5_116 ⟨⟨Nat.le_of_ble_eq_true rfl, Nat.le_of_ble_eq_true rfl⟩, Nat.le_of_ble_eq_true rfl, Nat.le_of_ble_eq_true rfl⟩ (kn' := (0, 0)) rfl (As := []) rfl (Nat.le_of_ble_eq_true rfl) (fun o' _ => t_X7_clear Γ.2.1 E o' S17) d_X5_begin_66 rfl (fun S20 => ?_)
  refine g_aload_n hO d_X5_begin_69 (by rfl) 0 rfl ?_
  refine h_getR hO cl_X5 6 rfl wf_X5_44 d_X5_begin_70 (fun v21 => ?_)
  refine k_virtVs hO cl_X7 mm_X7_clear lkV_X5_116 ⟨⟨Nat.le_of_ble_eq_true rfl, Nat.le_of_ble_eq_true rfl⟩, Nat.le_of_ble_eq_true rfl, Nat.le_of_ble_eq_true rfl⟩ (kn' := (0, 0)) rfl (As := []) rfl (Nat.le_of_ble_eq_true rfl) (fun o' _ => t_X7_clear Γ.2.1 E o' S20) d_X5_begin_73 rfl (fun S23 => ?_)
  refine g_aload_n hO d_X5_begin_76 (by rfl) 0 rfl ?_
  refine g_iconst hO 0 d_X5_begin_77 (by decide) ?_
  refine h_putI hO cl_X5 11 rfl rfl wf_X5_117 (Or.inl rfl) d_X5_begin_78 (fun S24 => ?_)
  refine g_aload_n hO d_X5_begin_81 (by rfl) 0 rfl ?_
  refine g_iconst hO (-1) d_X5_begin_82 (by decide) ?_
  refine h_putI hO cl_X5 12 rfl rfl wf_X5_120 (Or.inl rfl) d_X5_begin_83 (fun S25 => ?_)
  refine g_aload_n hO d_X5_begin_86 (by rfl) 0 rfl ?_
  refine g_iconst hO 0 d_X5_begin_87 (by decide) ?_
  refine h_putI hO cl_X5 10 rfl rfl wf_X5_123 (Or.inl rfl) d_X5_begin_88 (fun S26 => ?_)
  refine g_aload_n hO d_X5_begin_91 (by rfl) 0 rfl ?_
  refine k_virtVs hO cl_X5 mm_X5_nextToken lkV_X5_126 ⟨⟨Nat.le_of_ble_eq_true rfl, Nat.le_of_ble_eq_true rfl⟩, Nat.le_of_ble_eq_true rfl, Nat.le_of_ble_eq_true rfl⟩ (kn' := (0, 0)) rfl (As := []) rfl (Nat.le_of_ble_eq_true rfl) (fun o' _ => t_X5_nextToken Γ.2.1 E o' S26) d_X5_begin_92 rfl (fun S28 => ?_)
  exact g_vret hO rfl ⟨Nat.le_of_ble_eq_true rfl, Nat.le_of_ble_eq_true rfl⟩ rfl rfl d_X5_begin_95.1
theorem t_X5_begin (l : Launch) (E : GE) (o : Nat) (x1 : Option Nat) (S : GS) : ∀ a, f_X5_begin o x1 S = some a → Ct l E yX5_begin cX5_begin 2 none rm_X5_begin [vA (some o), vA x1] S none a :=
  Ct_of (val := fun _ => none) (nxt := fun b => b) (by decide) (Nat.le_of_ble_eq_true rfl) (fun Γ hl hO => w_X5_begin hO o x1 S)
theorem d_X5_noteFault_0 : gD cX5_noteFault 0 (.aload_n 0) 1 1 := ⟨by decide +kernel, rfl⟩
theorem d_X5_noteFault_1 : gD cX5_noteFault 1 (.getfield 117) 3 4 := ⟨by decide +kernel, rfl⟩
theorem d_X5_noteFault_4 : gD cX5_noteFault 4 (.ifCond .ne 13) 3 7 ∧ ((4 : Nat) : Int) + 13 = ((17 : Nat) : Int) := ⟨⟨by decide +kernel, rfl⟩, by decide⟩
theorem d_X5_noteFault_7 : gD cX5_noteFault 7 (.aload_n 0) 1 8 := ⟨by decide +kernel, rfl⟩
theorem d_X5_noteFault_8 : gD cX5_noteFault 8 (.iload_n 1) 1 9 := ⟨by decide +kernel, rfl⟩
theorem d_X5_noteFault_9 : gD cX5_noteFault 9 (.putfield 117) 3 12 := ⟨by decide +kernel, rfl⟩
theorem d_X5_noteFault_12 : gD cX5_noteFault 12 (.aload_n 0) 1 13 := ⟨by decide +kernel, rfl⟩
theorem d_X5_noteFault_13 : gD cX5_noteFault 13 (.iload_n 2) 1 14 := ⟨by decide +kernel, rfl⟩
theorem d_X5_noteFault_14 : gD cX5_noteFault 14 (.putfield 120) 3 17 := ⟨by decide +kernel, rfl⟩
theorem d_X5_noteFault_17 : gD cX5_noteFault 17 (.return_) 1 18 := ⟨by decide +kernel, rfl⟩
abbrev rm_X5_noteFault : Room := { frames := 0, cells := 0, slots := 0, locals := 0 }
set_option maxRecDepth 20000 in
theorem w_X5_noteFault {Γ : GC} {E : GE} (hO : gOk Γ E cX5_noteFault RX5 3 rm_X5_noteFault none "noteFault") (o : Nat) (x1 : Int32) (x2 : Int32) (S : GS) : Go Γ E (gBsV Γ E) 3 (0, 0) 0 S [(0, vA (some o)), (1, vI x1), (2, vI x2)] [] (f_X5_noteFault o x1 x2 S) := by
  unfold f_X5_noteFault
  refine g_aload_n hO d_X5_noteFault_0 (by rfl) 0 rfl ?_
  refine h_getI hO cl_X5 11 rfl wf_X5_117 d_X5_noteFault_1 (fun v1 => ?_)
  refine g_if_ne (tgt := 17) hO d_X5_noteFault_4.1 d_X5_noteFault_4.2 (fun _ => ?_) (fun _ => ?_)
  · skip
    refine g_aload_n hO d_X5_noteFault_7 (by rfl) 0 rfl ?_
    refine g_iload_n hO d_X5_noteFault_8 (by rfl) 1 rfl ?_
    refine h_putI hO cl_X5 11 rfl rfl wf_X5_117 (Or.inl rfl) d_X5_noteFault_9 (fun S2 => ?_)
    refine g_aload_n hO d_X5_noteFault_12 (by rfl) 0 rfl ?_
    refine g_iload_n hO d_X5_noteFault_13 (by rfl) 2 rfl ?_
    refine h_putI hO cl_X5 12 rfl rfl wf_X5_120 (Or.inl rfl) d_X5_noteFault_14 (fun S3 => ?_)
    exact g_vret hO rfl ⟨Nat.le_of_ble_eq_true rfl, Nat.le_of_ble_eq_true rfl⟩ rfl rfl d_X5_noteFault_17.1
  · skip
    exact g_vret hO rfl ⟨Nat.le_of_ble_eq_true rfl, Nat.le_of_ble_eq_true rfl⟩ rfl rfl d_X5_noteFault_17.1
theorem t_X5_noteFault (l : Launch) (E : GE) (o : Nat) (x1 : Int32) (x2 : Int32) (S : GS) : ∀ a, f_X5_noteFault o x1 x2 S = some a → Ct l E yX5_noteFault cX5_noteFault 3 none rm_X5_noteFault [vA (some o), vI x1, vI x2] S none a :=
  Ct_of (val := fun _ => none) (nxt := fun b => b) (by decide) (Nat.le_of_ble_eq_true rfl) (fun Γ hl hO => w_X5_noteFault hO o x1 x2 S)
theorem d_X5_isBroken_0 : gD cX5_isBroken 0 (.aload_n 0) 1 1 := ⟨by decide +kernel, rfl⟩
theorem d_X5_isBroken_1 : gD cX5_isBroken 1 (.getfield 117) 3 4 := ⟨by decide +kernel, rfl⟩
theorem d_X5_isBroken_4 : gD cX5_isBroken 4 (.iconst 1) 1 5 := ⟨by decide +kernel, rfl⟩
theorem d_X5_isBroken_5 : gD cX5_isBroken 5 (.if_icmp .ne 7) 3 8 ∧ ((5 : Nat) : Int) + 7 = ((12 : Nat) : Int) := ⟨⟨by decide +kernel, rfl⟩, by decide⟩
theorem d_X5_isBroken_8 : gD cX5_isBroken 8 (.iconst 1) 1 9 := ⟨by decide +kernel, rfl⟩
theorem d_X5_isBroken_9 : decode cX5_isBroken 9 = .ok (.goto 4, 3) ∧ ((9 : Nat) : Int) + 4 = ((13 : Nat) : Int) := ⟨by decide +kernel, by decide⟩
theorem d_X5_isBroken_12 : gD cX5_isBroken 12 (.iconst 0) 1 13 := ⟨by decide +kernel, rfl⟩
theorem d_X5_isBroken_13 : gD cX5_isBroken 13 (.ireturn) 1 14 := ⟨by decide +kernel, rfl⟩
abbrev rm_X5_isBroken : Room := { frames := 0, cells := 0, slots := 0, locals := 0 }
set_option maxRecDepth 20000 in
theorem w_X5_isBroken {Γ : GC} {E : GE} (hO : gOk Γ E cX5_isBroken RX5 1 rm_X5_isBroken (some .boolean) "isBroken") (o : Nat) (S : GS) : Go Γ E (gBpI Γ E S) 1 (0, 0) 0 S [(0, vA (some o))] [] (f_X5_isBroken o S) := by
  unfold f_X5_isBroken
  refine g_aload_n hO d_X5_isBroken_0 (by rfl) 0 rfl ?_
  refine h_getI hO cl_X5 11 rfl wf_X5_117 d_X5_isBroken_1 (fun v1 => ?_)
  refine g_iconst hO 1 d_X5_isBroken_4 (by decide) ?_
  refine g_ic_ne (tgt := 12) hO d_X5_isBroken_5.1 d_X5_isBroken_5.2 (fun _ => ?_) (fun _ => ?_)
  · skip
    refine g_iconst hO 1 d_X5_isBroken_8 (by decide) ?_
    refine g_goto (tgt := 13) hO d_X5_isBroken_9.1 d_X5_isBroken_9.2 ?_
    exact g_ret hO rfl rfl ⟨Nat.le_of_ble_eq_true rfl, Nat.le_of_ble_eq_true rfl⟩ rfl rfl d_X5_isBroken_13.1
  · skip
    refine g_iconst hO 0 d_X5_isBroken_12 (by decide) ?_
    exact g_ret hO rfl rfl ⟨Nat.le_of_ble_eq_true rfl, Nat.le_of_ble_eq_true rfl⟩ rfl rfl d_X5_isBroken_13.1
theorem t_X5_isBroken (l : Launch) (E : GE) (o : Nat) (S : GS) : ∀ a, f_X5_isBroken o S = some a → Ct l E yX5_isBroken cX5_isBroken 1 (some .boolean) rm_X5_isBroken [vA (some o)] S (some (vI a)) S :=
  Ct_of (val := fun b => some (vI b)) (nxt := fun _ => S) (by decide) (Nat.le_of_ble_eq_true rfl) (fun Γ hl hO => w_X5_isBroken hO o S)
theorem d_J0_coder_7d493_0 : gD cJ0_coder_7d493 0 (.getstatic 38) 3 3 := ⟨by decide +kernel, rfl⟩
theorem d_J0_coder_7d493_3 : gD cJ0_coder_7d493 3 (.ifCond .eq 10) 3 6 ∧ ((3 : Nat) : Int) + 10 = ((13 : Nat) : Int) := ⟨⟨by decide +kernel, rfl⟩, by decide⟩
theorem d_J0_coder_7d493_6 : gD cJ0_coder_7d493 6 (.aload_n 0) 1 7 := ⟨by decide +kernel, rfl⟩
theorem d_J0_coder_7d493_7 : gD cJ0_coder_7d493 7 (.getfield 15) 3 10 := ⟨by decide +kernel, rfl⟩
theorem d_J0_coder_7d493_10 : decode cJ0_coder_7d493 10 = .ok (.goto 4, 3) ∧ ((10 : Nat) : Int) + 4 = ((14 : Nat) : Int) := ⟨by decide +kernel, by decide⟩
theorem d_J0_coder_7d493_13 : gD cJ0_coder_7d493 13 (.iconst 1) 1 14 := ⟨by decide +kernel, rfl⟩
theorem d_J0_coder_7d493_14 : gD cJ0_coder_7d493 14 (.ireturn) 1 15 := ⟨by decide +kernel, rfl⟩
abbrev rm_J0_coder_7d493 : Room := { frames := 0, cells := 0, slots := 0, locals := 0 }
set_option maxRecDepth 20000 in
theorem w_J0_coder_7d493 {Γ : GC} {E : GE} (hO : gOk Γ E cJ0_coder_7d493 RJ0 1 rm_J0_coder_7d493 (some .byte) "coder") (o : Nat) (S : GS) : Go Γ E (gBpI Γ E S) 1 (0, 0) 0 S [(0, vA (some o))] [] (f_J0_coder_7d493 o S) := by
  unfold f_J0_coder_7d493
  refine g_gsC hO wf_J0_38 d_J0_coder_7d493_0 ?_
  refine g_if_eq (tgt := 13) hO d_J0_coder_7d493_3.1 d_J0_coder_7d493_3.2 (fun _ => ?_) (fun _ => ?_)
  · skip
    refine g_iconst hO 1 d_J0_coder_7d493_13 (by decide) ?_
    exact g_ret hO rfl rfl ⟨Nat.le_of_ble_eq_true rfl, Nat.le_of_ble_eq_true rfl⟩ rfl rfl d_J0_coder_7d493_14.1
  · skip
    refine g_aload_n hO d_J0_coder_7d493_6 (by rfl) 0 rfl ?_
    refine h_zC hO wf_J0_15 d_J0_coder_7d493_7 ?_
    refine g_goto (tgt := 14) hO d_J0_coder_7d493_10.1 d_J0_coder_7d493_10.2 ?_
    exact g_ret hO rfl rfl ⟨Nat.le_of_ble_eq_true rfl, Nat.le_of_ble_eq_true rfl⟩ rfl rfl d_J0_coder_7d493_14.1
theorem t_J0_coder_7d493 (l : Launch) (E : GE) (o : Nat) (S : GS) : ∀ a, f_J0_coder_7d493 o S = some a → Ct l E yJ0_coder_7d493 cJ0_coder_7d493 1 (some .byte) rm_J0_coder_7d493 [vA (some o)] S (some (vI a)) S :=
  Ct_of (val := fun b => some (vI b)) (nxt := fun _ => S) (by decide) (Nat.le_of_ble_eq_true rfl) (fun Γ hl hO => w_J0_coder_7d493 hO o S)
theorem d_J0_length_8abf5_0 : gD cJ0_length_8abf5 0 (.aload_n 0) 1 1 := ⟨by decide +kernel, rfl⟩
theorem d_J0_length_8abf5_1 : gD cJ0_length_8abf5 1 (.getfield 9) 3 4 := ⟨by decide +kernel, rfl⟩
theorem d_J0_length_8abf5_4 : gD cJ0_length_8abf5 4 (.arraylength) 1 5 := ⟨by decide +kernel, rfl⟩
theorem d_J0_length_8abf5_5 : gD cJ0_length_8abf5 5 (.aload_n 0) 1 6 := ⟨by decide +kernel, rfl⟩
theorem d_J0_length_8abf5_6 : gD cJ0_length_8abf5 6 (.invokevirtual 335) 3 9 := ⟨by decide +kernel, rfl⟩
theorem d_J0_length_8abf5_9 : gD cJ0_length_8abf5 9 (.ishr) 1 10 := ⟨by decide +kernel, rfl⟩
theorem d_J0_length_8abf5_10 : gD cJ0_length_8abf5 10 (.ireturn) 1 11 := ⟨by decide +kernel, rfl⟩
abbrev rm_J0_length_8abf5 : Room := { frames := 1, cells := 0, slots := 0, locals := 20 }
set_option maxRecDepth 20000 in
theorem w_J0_length_8abf5 {Γ : GC} {E : GE} (hO : gOk Γ E cJ0_length_8abf5 RJ0 1 rm_J0_length_8abf5 (some .int) "length") (o : Nat) (S : GS) : Go Γ E (gBpI Γ E S) 1 (0, 0) 0 S [(0, vA (some o))] [] (f_J0_length_8abf5 o S) := by
  unfold f_J0_length_8abf5
  refine g_aload_n hO d_J0_length_8abf5_0 (by rfl) 0 rfl ?_
  refine h_zV hO wf_J0_9 d_J0_length_8abf5_1 (fun v1 => ?_)
  refine h_zl hO d_J0_length_8abf5_4 (fun v2 => ?_)
  refine g_aload_n hO d_J0_length_8abf5_5 (by rfl) 0 rfl ?_
  refine k_virtSIp hO rfl mm_J0_coder_7d493 lkV_J0_335 ⟨⟨Nat.le_of_ble_eq_true rfl, Nat.le_of_ble_eq_true rfl⟩, Nat.le_of_ble_eq_true rfl, Nat.le_of_ble_eq_true rfl⟩ (kn' := (0, 0)) rfl (As := []) rfl (Nat.le_of_ble_eq_true rfl) (fun o' => t_J0_coder_7d493 Γ.2.1 E o' S) d_J0_length_8abf5_6 rfl (fun v3 => ?_)
  refine g_ishr hO d_J0_length_8abf5_9 ?_
  exact g_ret hO rfl rfl ⟨Nat.le_of_ble_eq_true rfl, Nat.le_of_ble_eq_true rfl⟩ rfl rfl d_J0_length_8abf5_10.1
theorem t_J0_length_8abf5 (l : Launch) (E : GE) (o : Nat) (S : GS) : ∀ a, f_J0_length_8abf5 o S = some a → Ct l E yJ0_length_8abf5 cJ0_length_8abf5 1 (some .int) rm_J0_length_8abf5 [vA (some o)] S (some (vI a)) S :=
  Ct_of (val := fun b => some (vI b)) (nxt := fun _ => S) (by decide) (Nat.le_of_ble_eq_true rfl) (fun Γ hl hO => w_J0_length_8abf5 hO o S)
theorem d_J0_isLatin1_aae02_0 : gD cJ0_isLatin1_aae02 0 (.getstatic 38) 3 3 := ⟨by decide +kernel, rfl⟩
theorem d_J0_isLatin1_aae02_3 : gD cJ0_isLatin1_aae02 3 (.ifCond .eq 14) 3 6 ∧ ((3 : Nat) : Int) + 14 = ((17 : Nat) : Int) := ⟨⟨by decide +kernel, rfl⟩, by decide⟩
theorem d_J0_isLatin1_aae02_6 : gD cJ0_isLatin1_aae02 6 (.aload_n 0) 1 7 := ⟨by decide +kernel, rfl⟩
theorem d_J0_isLatin1_aae02_7 : gD cJ0_isLatin1_aae02 7 (.getfield 15) 3 10 := ⟨by decide +kernel, rfl⟩
theorem d_J0_isLatin1_aae02_10 : gD cJ0_isLatin1_aae02 10 (.ifCond .ne 7) 3 13 ∧ ((10 : Nat) : Int) + 7 = ((17 : Nat) : Int) := ⟨⟨by decide +kernel, rfl⟩, by decide⟩
theorem d_J0_isLatin1_aae02_13 : gD cJ0_isLatin1_aae02 13 (.iconst 1) 1 14 := ⟨by decide +kernel, rfl⟩
theorem d_J0_isLatin1_aae02_14 : decode cJ0_isLatin1_aae02 14 = .ok (.goto 4, 3) ∧ ((14 : Nat) : Int) + 4 = ((18 : Nat) : Int) := ⟨by decide +kernel, by decide⟩
theorem d_J0_isLatin1_aae02_17 : gD cJ0_isLatin1_aae02 17 (.iconst 0) 1 18 := ⟨by decide +kernel, rfl⟩
theorem d_J0_isLatin1_aae02_18 : gD cJ0_isLatin1_aae02 18 (.ireturn) 1 19 := ⟨by decide +kernel, rfl⟩
abbrev rm_J0_isLatin1_aae02 : Room := { frames := 0, cells := 0, slots := 0, locals := 0 }
set_option maxRecDepth 20000 in
theorem w_J0_isLatin1_aae02 {Γ : GC} {E : GE} (hO : gOk Γ E cJ0_isLatin1_aae02 RJ0 1 rm_J0_isLatin1_aae02 (some .boolean) "isLatin1") (o : Nat) (S : GS) : Go Γ E (gBpI Γ E S) 1 (0, 0) 0 S [(0, vA (some o))] [] (f_J0_isLatin1_aae02 o S) := by
  unfold f_J0_isLatin1_aae02
  refine g_gsC hO wf_J0_38 d_J0_isLatin1_aae02_0 ?_
  refine g_if_eq (tgt := 17) hO d_J0_isLatin1_aae02_3.1 d_J0_isLatin1_aae02_3.2 (fun _ => ?_) (fun _ => ?_)
  · skip
    refine g_iconst hO 0 d_J0_isLatin1_aae02_17 (by decide) ?_
    exact g_ret hO rfl rfl ⟨Nat.le_of_ble_eq_true rfl, Nat.le_of_ble_eq_true rfl⟩ rfl rfl d_J0_isLatin1_aae02_18.1
  · skip
    refine g_aload_n hO d_J0_isLatin1_aae02_6 (by rfl) 0 rfl ?_
    refine h_zC hO wf_J0_15 d_J0_isLatin1_aae02_7 ?_
    refine g_if_ne (tgt := 17) hO d_J0_isLatin1_aae02_10.1 d_J0_isLatin1_aae02_10.2 (fun _ => ?_) (fun _ => ?_)
    · skip
      refine g_iconst hO 1 d_J0_isLatin1_aae02_13 (by decide) ?_
      refine g_goto (tgt := 18) hO d_J0_isLatin1_aae02_14.1 d_J0_isLatin1_aae02_14.2 ?_
      exact g_ret hO rfl rfl ⟨Nat.le_of_ble_eq_true rfl, Nat.le_of_ble_eq_true rfl⟩ rfl rfl d_J0_isLatin1_aae02_18.1
    · skip
      refine g_iconst hO 0 d_J0_isLatin1_aae02_17 (by decide) ?_
      exact g_ret hO rfl rfl ⟨Nat.le_of_ble_eq_true rfl, Nat.le_of_ble_eq_true rfl⟩ rfl rfl d_J0_isLatin1_aae02_18.1
theorem t_J0_isLatin1_aae02 (l : Launch) (E : GE) (o : Nat) (S : GS) : ∀ a, f_J0_isLatin1_aae02 o S = some a → Ct l E yJ0_isLatin1_aae02 cJ0_isLatin1_aae02 1 (some .boolean) rm_J0_isLatin1_aae02 [vA (some o)] S (some (vI a)) S :=
  Ct_of (val := fun b => some (vI b)) (nxt := fun _ => S) (by decide) (Nat.le_of_ble_eq_true rfl) (fun Γ hl hO => w_J0_isLatin1_aae02 hO o S)
theorem d_J3_checkIndex_8e157_0 : gD cJ3_checkIndex_8e157 0 (.iload_n 0) 1 1 := ⟨by decide +kernel, rfl⟩
theorem d_J3_checkIndex_8e157_1 : gD cJ3_checkIndex_8e157 1 (.ifCond .lt 8) 3 4 ∧ ((1 : Nat) : Int) + 8 = ((9 : Nat) : Int) := ⟨⟨by decide +kernel, rfl⟩, by decide⟩
theorem d_J3_checkIndex_8e157_4 : gD cJ3_checkIndex_8e157 4 (.iload_n 0) 1 5 := ⟨by decide +kernel, rfl⟩
theorem d_J3_checkIndex_8e157_5 : gD cJ3_checkIndex_8e157 5 (.iload_n 1) 1 6 := ⟨by decide +kernel, rfl⟩
theorem d_J3_checkIndex_8e157_6 : gD cJ3_checkIndex_8e157 6 (.if_icmp .lt 10) 3 9 ∧ ((6 : Nat) : Int) + 10 = ((16 : Nat) : Int) := ⟨⟨by decide +kernel, rfl⟩, by decide⟩
theorem d_J3_checkIndex_8e157_9 : gD cJ3_checkIndex_8e157 9 (.aload_n 2) 1 10 := ⟨by decide +kernel, rfl⟩
theorem d_J3_checkIndex_8e157_10 : gD cJ3_checkIndex_8e157 10 (.iload_n 0) 1 11 := ⟨by decide +kernel, rfl⟩
theorem d_J3_checkIndex_8e157_11 : gD cJ3_checkIndex_8e157 11 (.iload_n 1) 1 12 := ⟨by decide +kernel, rfl⟩
theorem d_J3_checkIndex_8e157_12 : gD cJ3_checkIndex_8e157 12 (.invokestatic 95) 3 15 := ⟨by decide +kernel, rfl⟩
theorem d_J3_checkIndex_8e157_15 : gD cJ3_checkIndex_8e157 15 (.athrow) 1 16 := ⟨by decide +kernel, rfl⟩
theorem d_J3_checkIndex_8e157_16 : gD cJ3_checkIndex_8e157 16 (.iload_n 0) 1 17 := ⟨by decide +kernel, rfl⟩
theorem d_J3_checkIndex_8e157_17 : gD cJ3_checkIndex_8e157 17 (.ireturn) 1 18 := ⟨by decide +kernel, rfl⟩
abbrev rm_J3_checkIndex_8e157 : Room := { frames := 0, cells := 0, slots := 0, locals := 0 }
set_option maxRecDepth 20000 in
theorem w_J3_checkIndex_8e157_9 {Γ : GC} {E : GE} (hO : gOk Γ E cJ3_checkIndex_8e157 RJ3 3 rm_J3_checkIndex_8e157 (some .int) "checkIndex") (S : GS) (x0 : Int32) (x1 : Int32) (x2 : Option Nat) : Go Γ E (gBpI Γ E S) 3 (0, 0) 9 S [(0, vI x0), (1, vI x1), (2, vA x2)] [] (f_J3_checkIndex_8e157_9 S x0 x1 x2) := by
  unfold f_J3_checkIndex_8e157_9
  refine g_aload_n hO d_J3_checkIndex_8e157_9 (by rfl) 2 rfl ?_
  refine g_iload_n hO d_J3_checkIndex_8e157_10 (by rfl) 0 rfl ?_
  refine g_iload_n hO d_J3_checkIndex_8e157_11 (by rfl) 1 rfl ?_
  exact g_none
set_option maxRecDepth 20000 in
theorem w_J3_checkIndex_8e157 {Γ : GC} {E : GE} (hO : gOk Γ E cJ3_checkIndex_8e157 RJ3 3 rm_J3_checkIndex_8e157 (some .int) "checkIndex") (x0 : Int32) (x1 : Int32) (x2 : Option Nat) (S : GS) : Go Γ E (gBpI Γ E S) 3 (0, 0) 0 S [(0, vI x0), (1, vI x1), (2, vA x2)] [] (f_J3_checkIndex_8e157 x0 x1 x2 S) := by
  unfold f_J3_checkIndex_8e157
  refine g_iload_n hO d_J3_checkIndex_8e157_0 (by rfl) 0 rfl ?_
  refine g_if_lt (tgt := 9) hO d_J3_checkIndex_8e157_1.1 d_J3_checkIndex_8e157_1.2 (fun _ => ?_) (fun _ => ?_)
  · skip
    exact g_sub [0, 1, 2] rfl (w_J3_checkIndex_8e157_9 hO _ _ _ _)
  · skip
    refine g_iload_n hO d_J3_checkIndex_8e157_4 (by rfl) 0 rfl ?_
    refine g_iload_n hO d_J3_checkIndex_8e157_5 (by rfl) 1 rfl ?_
    refine g_ic_lt (tgt := 16) hO d_J3_checkIndex_8e157_6.1 d_J3_checkIndex_8e157_6.2 (fun _ => ?_) (fun _ => ?_)
    · skip
      refine g_iload_n hO d_J3_checkIndex_8e157_16 (by rfl) 0 rfl ?_
      exact g_ret hO rfl rfl ⟨Nat.le_of_ble_eq_true rfl, Nat.le_of_ble_eq_true rfl⟩ rfl rfl d_J3_checkIndex_8e157_17.1
    · skip
      exact g_sub [0, 1, 2] rfl (w_J3_checkIndex_8e157_9 hO _ _ _ _)
theorem t_J3_checkIndex_8e157 (l : Launch) (E : GE) (x0 : Int32) (x1 : Int32) (x2 : Option Nat) (S : GS) : ∀ a, f_J3_checkIndex_8e157 x0 x1 x2 S = some a → Ct l E yJ3_checkIndex_8e157 cJ3_checkIndex_8e157 3 (some .int) rm_J3_checkIndex_8e157 [vI x0, vI x1, vA x2] S (some (vI a)) S :=
  Ct_of (val := fun b => some (vI b)) (nxt := fun _ => S) (by decide) (Nat.le_of_ble_eq_true rfl) (fun Γ hl hO => w_J3_checkIndex_8e157 hO x0 x1 x2 S)
theorem d_J0_checkIndex_df160_0 : gD cJ0_checkIndex_df160 0 (.iload_n 0) 1 1 := ⟨by decide +kernel, rfl⟩
theorem d_J0_checkIndex_df160_1 : gD cJ0_checkIndex_df160 1 (.iload_n 1) 1 2 := ⟨by decide +kernel, rfl⟩
theorem d_J0_checkIndex_df160_2 : gD cJ0_checkIndex_df160 2 (.getstatic 1053) 3 5 := ⟨by decide +kernel, rfl⟩
theorem d_J0_checkIndex_df160_5 : gD cJ0_checkIndex_df160 5 (.invokestatic 1059) 3 8 := ⟨by decide +kernel, rfl⟩
theorem d_J0_checkIndex_df160_8 : gD cJ0_checkIndex_df160 8 (.pop) 1 9 := ⟨by decide +kernel, rfl⟩
theorem d_J0_checkIndex_df160_9 : gD cJ0_checkIndex_df160 9 (.return_) 1 10 := ⟨by decide +kernel, rfl⟩
abbrev rm_J0_checkIndex_df160 : Room := { frames := 1, cells := 0, slots := 0, locals := 22 }
set_option maxRecDepth 20000 in
theorem w_J0_checkIndex_df160 {Γ : GC} {E : GE} (hO : gOk Γ E cJ0_checkIndex_df160 RJ0 2 rm_J0_checkIndex_df160 none "checkIndex") (x0 : Int32) (x1 : Int32) (S : GS) : Go Γ E (gBpV Γ E S) 2 (0, 0) 0 S [(0, vI x0), (1, vI x1)] [] (f_J0_checkIndex_df160 x0 x1 S) := by
  unfold f_J0_checkIndex_df160
  refine g_iload_n hO d_J0_checkIndex_df160_0 (by rfl) 0 rfl ?_
  refine g_iload_n hO d_J0_checkIndex_df160_1 (by rfl) 1 rfl ?_
  refine g_gsF hO wf_J0_1053 d_J0_checkIndex_df160_2 (fun v1 => ?_)
  refine k_statIp hO mm_J3_checkIndex_8e157 lkS_J0_1059 ⟨⟨Nat.le_of_ble_eq_true rfl, Nat.le_of_ble_eq_true rfl⟩, Nat.le_of_ble_eq_true rfl, Nat.le_of_ble_eq_true rfl⟩ (kn' := (0, 0)) rfl (As := [vI x0, vI x1, vA v1]) rfl (Nat.le_of_ble_eq_true rfl) (t_J3_checkIndex_8e157 Γ.2.1 E x0 x1 v1 S) d_J0_checkIndex_df160_5 rfl (fun v2 => ?_)
  refine g_pop hO d_J0_checkIndex_df160_8 rfl ?_
  exact g_vret hO rfl ⟨Nat.le_of_ble_eq_true rfl, Nat.le_of_ble_eq_true rfl⟩ rfl rfl d_J0_checkIndex_df160_9.1
theorem t_J0_checkIndex_df160 (l : Launch) (E : GE) (x0 : Int32) (x1 : Int32) (S : GS) : ∀ a, f_J0_checkIndex_df160 x0 x1 S = some a → Ct l E yJ0_checkIndex_df160 cJ0_checkIndex_df160 2 none rm_J0_checkIndex_df160 [vI x0, vI x1] S none S :=
  Ct_of (val := fun (_ : Unit) => none) (nxt := fun _ => S) (by decide) (Nat.le_of_ble_eq_true rfl) (fun Γ hl hO => w_J0_checkIndex_df160 hO x0 x1 S)
theorem d_J1_charAt_3b067_0 : gD cJ1_charAt_3b067 0 (.iload_n 1) 1 1 := ⟨by decide +kernel, rfl⟩
theorem d_J1_charAt_3b067_1 : gD cJ1_charAt_3b067 1 (.aload_n 0) 1 2 := ⟨by decide +kernel, rfl⟩
theorem d_J1_charAt_3b067_2 : gD cJ1_charAt_3b067 2 (.arraylength) 1 3 := ⟨by decide +kernel, rfl⟩
theorem d_J1_charAt_3b067_3 : gD cJ1_charAt_3b067 3 (.invokestatic 9) 3 6 := ⟨by decide +kernel, rfl⟩
theorem d_J1_charAt_3b067_6 : gD cJ1_charAt_3b067 6 (.aload_n 0) 1 7 := ⟨by decide +kernel, rfl⟩
theorem d_J1_charAt_3b067_7 : gD cJ1_charAt_3b067 7 (.iload_n 1) 1 8 := ⟨by decide +kernel, rfl⟩
theorem d_J1_charAt_3b067_8 : gD cJ1_charAt_3b067 8 (.baload) 1 9 := ⟨by decide +kernel, rfl⟩
theorem d_J1_charAt_3b067_9 : gD cJ1_charAt_3b067 9 (.sipush 255) 3 12 := ⟨by decide +kernel, rfl⟩
theorem d_J1_charAt_3b067_12 : gD cJ1_charAt_3b067 12 (.iand) 1 13 := ⟨by decide +kernel, rfl⟩
theorem d_J1_charAt_3b067_13 : gD cJ1_charAt_3b067 13 (.i2c) 1 14 := ⟨by decide +kernel, rfl⟩
theorem d_J1_charAt_3b067_14 : gD cJ1_charAt_3b067 14 (.ireturn) 1 15 := ⟨by decide +kernel, rfl⟩
abbrev rm_J1_charAt_3b067 : Room := { frames := 2, cells := 0, slots := 0, locals := 43 }
set_option maxRecDepth 20000 in
theorem w_J1_charAt_3b067 {Γ : GC} {E : GE} (hO : gOk Γ E cJ1_charAt_3b067 RJ1 2 rm_J1_charAt_3b067 (some .char) "charAt") (x0 : Option Nat) (x1 : Int32) (S : GS) : Go Γ E (gBpI Γ E S) 2 (0, 0) 0 S [(0, vA x0), (1, vI x1)] [] (f_J1_charAt_3b067 x0 x1 S) := by
  unfold f_J1_charAt_3b067
  refine g_iload_n hO d_J1_charAt_3b067_0 (by rfl) 1 rfl ?_
  refine g_aload_n hO d_J1_charAt_3b067_1 (by rfl) 0 rfl ?_
  refine h_zl hO d_J1_charAt_3b067_2 (fun v1 => ?_)
  refine k_statVp hO mm_J0_checkIndex_df160 lkS_J1_9 ⟨⟨Nat.le_of_ble_eq_true rfl, Nat.le_of_ble_eq_true rfl⟩, Nat.le_of_ble_eq_true rfl, Nat.le_of_ble_eq_true rfl⟩ (kn' := (0, 0)) rfl (As := [vI x1, vI v1]) rfl (Nat.le_of_ble_eq_true rfl) (t_J0_checkIndex_df160 Γ.2.1 E x1 v1 S) d_J1_charAt_3b067_3 rfl (fun v2 => ?_)
  refine g_aload_n hO d_J1_charAt_3b067_6 (by rfl) 0 rfl ?_
  refine g_iload_n hO d_J1_charAt_3b067_7 (by rfl) 1 rfl ?_
  refine h_zb hO d_J1_charAt_3b067_8 (fun v4 => ?_)
  refine g_sipush hO 255 d_J1_charAt_3b067_9 (by decide) ?_
  refine g_iand hO d_J1_charAt_3b067_12 ?_
  refine g_i2c hO d_J1_charAt_3b067_13 ?_
  exact g_cret hO rfl ⟨Nat.le_of_ble_eq_true rfl, Nat.le_of_ble_eq_true rfl⟩ rfl rfl d_J1_charAt_3b067_14.1
theorem t_J1_charAt_3b067 (l : Launch) (E : GE) (x0 : Option Nat) (x1 : Int32) (S : GS) : ∀ a, f_J1_charAt_3b067 x0 x1 S = some a → Ct l E yJ1_charAt_3b067 cJ1_charAt_3b067 2 (some .char) rm_J1_charAt_3b067 [vA x0, vI x1] S (some (vI a)) S :=
  Ct_of (val := fun b => some (vI b)) (nxt := fun _ => S) (by decide) (Nat.le_of_ble_eq_true rfl) (fun Γ hl hO => w_J1_charAt_3b067 hO x0 x1 S)
theorem d_J0_charAt_5068e_0 : gD cJ0_charAt_5068e 0 (.aload_n 0) 1 1 := ⟨by decide +kernel, rfl⟩
theorem d_J0_charAt_5068e_1 : gD cJ0_charAt_5068e 1 (.invokevirtual 492) 3 4 := ⟨by decide +kernel, rfl⟩
theorem d_J0_charAt_5068e_4 : gD cJ0_charAt_5068e 4 (.ifCond .eq 12) 3 7 ∧ ((4 : Nat) : Int) + 12 = ((16 : Nat) : Int) := ⟨⟨by decide +kernel, rfl⟩, by decide⟩
theorem d_J0_charAt_5068e_7 : gD cJ0_charAt_5068e 7 (.aload_n 0) 1 8 := ⟨by decide +kernel, rfl⟩
theorem d_J0_charAt_5068e_8 : gD cJ0_charAt_5068e 8 (.getfield 9) 3 11 := ⟨by decide +kernel, rfl⟩
theorem d_J0_charAt_5068e_11 : gD cJ0_charAt_5068e 11 (.iload_n 1) 1 12 := ⟨by decide +kernel, rfl⟩
theorem d_J0_charAt_5068e_12 : gD cJ0_charAt_5068e 12 (.invokestatic 495) 3 15 := ⟨by decide +kernel, rfl⟩
theorem d_J0_charAt_5068e_15 : gD cJ0_charAt_5068e 15 (.ireturn) 1 16 := ⟨by decide +kernel, rfl⟩
theorem d_J0_charAt_5068e_16 : gD cJ0_charAt_5068e 16 (.aload_n 0) 1 17 := ⟨by decide +kernel, rfl⟩
theorem d_J0_charAt_5068e_17 : gD cJ0_charAt_5068e 17 (.getfield 9) 3 20 := ⟨by decide +kernel, rfl⟩
theorem d_J0_charAt_5068e_20 : gD cJ0_charAt_5068e 20 (.iload_n 1) 1 21 := ⟨by decide +kernel, rfl⟩
theorem d_J0_charAt_5068e_21 : gD cJ0_charAt_5068e 21 (.invokestatic 498) 3 24 := ⟨by decide +kernel, rfl⟩
theorem d_J0_charAt_5068e_24 : gD cJ0_charAt_5068e 24 (.ireturn) 1 25 := ⟨by decide +kernel, rfl⟩
abbrev rm_J0_charAt_5068e : Room := { frames := 3, cells := 0, slots := 0, locals := 64 }
set_option maxRecDepth 20000 in
theorem w_J0_charAt_5068e {Γ : GC} {E : GE} (hO : gOk Γ E cJ0_charAt_5068e RJ0 2 rm_J0_charAt_5068e (some .char) "charAt") (o : Nat) (x1 : Int32) (S : GS) : Go Γ E (gBpI Γ E S) 2 (0, 0) 0 S [(0, vA (some o)), (1, vI x1)] [] (f_J0_charAt_5068e o x1 S) := by
  unfold f_J0_charAt_5068e
  refine g_aload_n hO d_J0_charAt_5068e_0 (by rfl) 0 rfl ?_
  refine k_virtSIp hO rfl mm_J0_isLatin1_aae02 lkV_J0_492 ⟨⟨Nat.le_of_ble_eq_true rfl, Nat.le_of_ble_eq_true rfl⟩, Nat.le_of_ble_eq_true rfl, Nat.le_of_ble_eq_true rfl⟩ (kn' := (0, 0)) rfl (As := []) rfl (Nat.le_of_ble_eq_true rfl) (fun o' => t_J0_isLatin1_aae02 Γ.2.1 E o' S) d_J0_charAt_5068e_1 rfl (fun v1 => ?_)
  refine g_if_eq (tgt := 16) hO d_J0_charAt_5068e_4.1 d_J0_charAt_5068e_4.2 (fun _ => ?_) (fun _ => ?_)
  · skip
    refine g_aload_n hO d_J0_charAt_5068e_16 (by rfl) 0 rfl ?_
    refine h_zV hO wf_J0_9 d_J0_charAt_5068e_17 (fun v3 => ?_)
    refine g_iload_n hO d_J0_charAt_5068e_20 (by rfl) 1 rfl ?_
    exact g_none
  · skip
    refine g_aload_n hO d_J0_charAt_5068e_7 (by rfl) 0 rfl ?_
    refine h_zV hO wf_J0_9 d_J0_charAt_5068e_8 (fun v4 => ?_)
    refine g_iload_n hO d_J0_charAt_5068e_11 (by rfl) 1 rfl ?_
    refine k_statIp hO mm_J1_charAt_3b067 lkS_J0_495 ⟨⟨Nat.le_of_ble_eq_true rfl, Nat.le_of_ble_eq_true rfl⟩, Nat.le_of_ble_eq_true rfl, Nat.le_of_ble_eq_true rfl⟩ (kn' := (0, 0)) rfl (As := [vA v4, vI x1]) rfl (Nat.le_of_ble_eq_true rfl) (t_J1_charAt_3b067 Γ.2.1 E v4 x1 S) d_J0_charAt_5068e_12 rfl (fun v5 => ?_)
    exact g_cret hO rfl ⟨Nat.le_of_ble_eq_true rfl, Nat.le_of_ble_eq_true rfl⟩ rfl rfl d_J0_charAt_5068e_15.1
theorem t_J0_charAt_5068e (l : Launch) (E : GE) (o : Nat) (x1 : Int32) (S : GS) : ∀ a, f_J0_charAt_5068e o x1 S = some a → Ct l E yJ0_charAt_5068e cJ0_charAt_5068e 2 (some .char) rm_J0_charAt_5068e [vA (some o), vI x1] S (some (vI a)) S :=
  Ct_of (val := fun b => some (vI b)) (nxt := fun _ => S) (by decide) (Nat.le_of_ble_eq_true rfl) (fun Γ hl hO => w_J0_charAt_5068e hO o x1 S)
theorem d_X5_isWord_0 : gD cX5_isWord 0 (.aload_n 0) 1 1 := ⟨by decide +kernel, rfl⟩
theorem d_X5_isWord_1 : gD cX5_isWord 1 (.getfield 51) 3 4 := ⟨by decide +kernel, rfl⟩
theorem d_X5_isWord_4 : gD cX5_isWord 4 (.iconst 1) 1 5 := ⟨by decide +kernel, rfl⟩
theorem d_X5_isWord_5 : gD cX5_isWord 5 (.if_icmp .ne 19) 3 8 ∧ ((5 : Nat) : Int) + 19 = ((24 : Nat) : Int) := ⟨⟨by decide +kernel, rfl⟩, by decide⟩
theorem d_X5_isWord_8 : gD cX5_isWord 8 (.aload_n 0) 1 9 := ⟨by decide +kernel, rfl⟩
theorem d_X5_isWord_9 : gD cX5_isWord 9 (.getfield 123) 3 12 := ⟨by decide +kernel, rfl⟩
theorem d_X5_isWord_12 : gD cX5_isWord 12 (.aload_n 0) 1 13 := ⟨by decide +kernel, rfl⟩
theorem d_X5_isWord_13 : gD cX5_isWord 13 (.getfield 171) 3 16 := ⟨by decide +kernel, rfl⟩
theorem d_X5_isWord_16 : gD cX5_isWord 16 (.isub) 1 17 := ⟨by decide +kernel, rfl⟩
theorem d_X5_isWord_17 : gD cX5_isWord 17 (.aload_n 1) 1 18 := ⟨by decide +kernel, rfl⟩
theorem d_X5_isWord_18 : gD cX5_isWord 18 (.invokevirtual 260) 3 21 := ⟨by decide +kernel, rfl⟩
theorem d_X5_isWord_21 : gD cX5_isWord 21 (.if_icmp .eq 5) 3 24 ∧ ((21 : Nat) : Int) + 5 = ((26 : Nat) : Int) := ⟨⟨by decide +kernel, rfl⟩, by decide⟩
theorem d_X5_isWord_24 : gD cX5_isWord 24 (.iconst 0) 1 25 := ⟨by decide +kernel, rfl⟩
theorem d_X5_isWord_25 : gD cX5_isWord 25 (.ireturn) 1 26 := ⟨by decide +kernel, rfl⟩
theorem d_X5_isWord_26 : gD cX5_isWord 26 (.iconst 0) 1 27 := ⟨by decide +kernel, rfl⟩
theorem d_X5_isWord_27 : gD cX5_isWord 27 (.istore_n 2) 1 28 := ⟨by decide +kernel, rfl⟩
theorem d_X5_isWord_28 : gD cX5_isWord 28 (.iload_n 2) 1 29 := ⟨by decide +kernel, rfl⟩
theorem d_X5_isWord_29 : gD cX5_isWord 29 (.aload_n 1) 1 30 := ⟨by decide +kernel, rfl⟩
theorem d_X5_isWord_30 : gD cX5_isWord 30 (.invokevirtual 260) 3 33 := ⟨by decide +kernel, rfl⟩
theorem d_X5_isWord_33 : gD cX5_isWord 33 (.if_icmp .ge 29) 3 36 ∧ ((33 : Nat) : Int) + 29 = ((62 : Nat) : Int) := ⟨⟨by decide +kernel, rfl⟩, by decide⟩
theorem d_X5_isWord_36 : gD cX5_isWord 36 (.aload_n 0) 1 37 := ⟨by decide +kernel, rfl⟩
theorem d_X5_isWord_37 : gD cX5_isWord 37 (.aload_n 0) 1 38 := ⟨by decide +kernel, rfl⟩
theorem d_X5_isWord_38 : gD cX5_isWord 38 (.getfield 171) 3 41 := ⟨by decide +kernel, rfl⟩
theorem d_X5_isWord_41 : gD cX5_isWord 41 (.iload_n 2) 1 42 := ⟨by decide +kernel, rfl⟩
theorem d_X5_isWord_42 : gD cX5_isWord 42 (.iadd) 1 43 := ⟨by decide +kernel, rfl⟩
theorem d_X5_isWord_43 : gD cX5_isWord 43 (.invokevirtual 246) 3 46 := ⟨by decide +kernel, rfl⟩
theorem d_X5_isWord_46 : gD cX5_isWord 46 (.aload_n 1) 1 47 := ⟨by decide +kernel, rfl⟩
theorem d_X5_isWord_47 : gD cX5_isWord 47 (.iload_n 2) 1 48 := ⟨by decide +kernel, rfl⟩
theorem d_X5_isWord_48 : gD cX5_isWord 48 (.invokevirtual 264) 3 51 := ⟨by decide +kernel, rfl⟩
theorem d_X5_isWord_51 : gD cX5_isWord 51 (.if_icmp .eq 5) 3 54 ∧ ((51 : Nat) : Int) + 5 = ((56 : Nat) : Int) := ⟨⟨by decide +kernel, rfl⟩, by decide⟩
theorem d_X5_isWord_54 : gD cX5_isWord 54 (.iconst 0) 1 55 := ⟨by decide +kernel, rfl⟩
theorem d_X5_isWord_55 : gD cX5_isWord 55 (.ireturn) 1 56 := ⟨by decide +kernel, rfl⟩
theorem d_X5_isWord_56 : gD cX5_isWord 56 (.iinc 2 1) 3 59 := ⟨by decide +kernel, rfl⟩
theorem d_X5_isWord_59 : decode cX5_isWord 59 = .ok (.goto (-31), 3) ∧ ((59 : Nat) : Int) + (-31) = ((28 : Nat) : Int) := ⟨by decide +kernel, by decide⟩
theorem d_X5_isWord_62 : gD cX5_isWord 62 (.iconst 1) 1 63 := ⟨by decide +kernel, rfl⟩
theorem d_X5_isWord_63 : gD cX5_isWord 63 (.ireturn) 1 64 := ⟨by decide +kernel, rfl⟩
abbrev rm_X5_isWord : Room := { frames := 4, cells := 0, slots := 0, locals := 85 }
set_option maxRecDepth 20000 in
theorem w_X5_isWord_28 {Γ : GC} {E : GE} (hO : gOk Γ E cX5_isWord RX5 3 rm_X5_isWord (some .boolean) "isWord") (o : Nat) (S : GS) : ∀ (n : Nat) (x1 : Option Nat) (x2 : Int32), Go Γ E (gBpI Γ E S) 3 (0, 0) 28 S [(0, vA (some o)), (1, vA x1), (2, vI x2)] [] (f_X5_isWord_28 o S n x1 x2) := by
  intro n
  induction n with
  | zero =>
    intro x1 x2
    exact g_none
  | succ n ih =>
    intro x1 x2
    rw [f_X5_isWord_28]
    refine g_iload_n hO d_X5_isWord_28 (by rfl) 2 rfl ?_
    refine g_aload_n hO d_X5_isWord_29 (by rfl) 1 rfl ?_
    refine k_virtSIp hO rfl mm_J0_length_8abf5 lkV_X5_260 ⟨⟨Nat.le_of_ble_eq_true rfl, Nat.le_of_ble_eq_true rfl⟩, Nat.le_of_ble_eq_true rfl, Nat.le_of_ble_eq_true rfl⟩ (kn' := (0, 0)) rfl (As := []) rfl (Nat.le_of_ble_eq_true rfl) (fun o' => t_J0_length_8abf5 Γ.2.1 E o' S) d_X5_isWord_30 rfl (fun v1 => ?_)
    refine g_ic_ge (tgt := 62) hO d_X5_isWord_33.1 d_X5_isWord_33.2 (fun _ => ?_) (fun _ => ?_)
    · skip
      refine g_iconst hO 1 d_X5_isWord_62 (by decide) ?_
      exact g_ret hO rfl rfl ⟨Nat.le_of_ble_eq_true rfl, Nat.le_of_ble_eq_true rfl⟩ rfl rfl d_X5_isWord_63.1
    · skip
      refine g_aload_n hO d_X5_isWord_36 (by rfl) 0 rfl ?_
      refine g_aload_n hO d_X5_isWord_37 (by rfl) 0 rfl ?_
      refine h_getI hO cl_X5 9 rfl wf_X5_171 d_X5_isWord_38 (fun v3 => ?_)
      refine g_iload_n hO d_X5_isWord_41 (by rfl) 2 rfl ?_
      refine g_iadd hO d_X5_isWord_42 ?_
      refine k_virtIp hO cl_X5 mm_X5_byteAt lkV_X5_246 ⟨⟨Nat.le_of_ble_eq_true rfl, Nat.le_of_ble_eq_true rfl⟩, Nat.le_of_ble_eq_true rfl, Nat.le_of_ble_eq_true rfl⟩ (kn' := (0, 0)) rfl (As := [vI (v3 + x2)]) rfl (Nat.le_of_ble_eq_true rfl) (fun o' _ => t_X5_byteAt Γ.2.1 E o' (v3 + x2) S) d_X5_isWord_43 rfl (fun v4 => ?_)
      refine g_aload_n hO d_X5_isWord_46 (by rfl) 1 rfl ?_
      refine g_iload_n hO d_X5_isWord_47 (by rfl) 2 rfl ?_
      refine k_virtSIp hO rfl mm_J0_charAt_5068e lkV_X5_264 ⟨⟨Nat.le_of_ble_eq_true rfl, Nat.le_of_ble_eq_true rfl⟩, Nat.le_of_ble_eq_true rfl, Nat.le_of_ble_eq_true rfl⟩ (kn' := (0, 0)) rfl (As := [vI x2]) rfl (Nat.le_of_ble_eq_true rfl) (fun o' => t_J0_charAt_5068e Γ.2.1 E o' x2 S) d_X5_isWord_48 rfl (fun v6 => ?_)
      refine g_ic_eq (tgt := 56) hO d_X5_isWord_51.1 d_X5_isWord_51.2 (fun _ => ?_) (fun _ => ?_)
      · skip
        refine g_iinc (lv' := [(2, vI (x2 + 1)), (0, vA (some o)), (1, vA x1)]) hO 1 d_X5_isWord_56 (by decide) 2 rfl (by decide) rfl ?_
        refine g_goto (tgt := 28) hO d_X5_isWord_59.1 d_X5_isWord_59.2 ?_
        exact g_sub [1, 2, 0] rfl (ih _ _)
      · skip
        refine g_iconst hO 0 d_X5_isWord_54 (by decide) ?_
        exact g_ret hO rfl rfl ⟨Nat.le_of_ble_eq_true rfl, Nat.le_of_ble_eq_true rfl⟩ rfl rfl d_X5_isWord_55.1
set_option maxRecDepth 20000 in
theorem w_X5_isWord {Γ : GC} {E : GE} (hO : gOk Γ E cX5_isWord RX5 3 rm_X5_isWord (some .boolean) "isWord") (o : Nat) (x1 : Option Nat) (S : GS) : Go Γ E (gBpI Γ E S) 3 (0, 0) 0 S [(0, vA (some o)), (1, vA x1)] [] (f_X5_isWord o x1 S) := by
  unfold f_X5_isWord
  refine g_aload_n hO d_X5_isWord_0 (by rfl) 0 rfl ?_
  refine h_getI hO cl_X5 8 rfl wf_X5_51 d_X5_isWord_1 (fun v1 => ?_)
  refine g_iconst hO 1 d_X5_isWord_4 (by decide) ?_
  refine g_ic_ne (tgt := 24) hO d_X5_isWord_5.1 d_X5_isWord_5.2 (fun _ => ?_) (fun _ => ?_)
  · skip
    refine g_aload_n hO d_X5_isWord_8 (by rfl) 0 rfl ?_
    refine h_getI hO cl_X5 10 rfl wf_X5_123 d_X5_isWord_9 (fun v2 => ?_)
    refine g_aload_n hO d_X5_isWord_12 (by rfl) 0 rfl ?_
    refine h_getI hO cl_X5 9 rfl wf_X5_171 d_X5_isWord_13 (fun v3 => ?_)
    refine g_isub hO d_X5_isWord_16 ?_
    refine g_aload_n hO d_X5_isWord_17 (by rfl) 1 rfl ?_
    refine k_virtSIp hO rfl mm_J0_length_8abf5 lkV_X5_260 ⟨⟨Nat.le_of_ble_eq_true rfl, Nat.le_of_ble_eq_true rfl⟩, Nat.le_of_ble_eq_true rfl, Nat.le_of_ble_eq_true rfl⟩ (kn' := (0, 0)) rfl (As := []) rfl (Nat.le_of_ble_eq_true rfl) (fun o' => t_J0_length_8abf5 Γ.2.1 E o' S) d_X5_isWord_18 rfl (fun v4 => ?_)
    refine g_ic_eq (tgt := 26) hO d_X5_isWord_21.1 d_X5_isWord_21.2 (fun _ => ?_) (fun _ => ?_)
    · skip
      refine g_iconst hO 0 d_X5_isWord_26 (by decide) ?_
      refine g_istore_n (lv' := [(2, vI 0), (0, vA (some o)), (1, vA x1)]) hO d_X5_isWord_27 (by rfl) (by decide) rfl ?_
      exact g_sub [1, 2, 0] rfl (w_X5_isWord_28 hO o _ _ _ _)
    · skip
      refine g_iconst hO 0 d_X5_isWord_24 (by decide) ?_
      exact g_ret hO rfl rfl ⟨Nat.le_of_ble_eq_true rfl, Nat.le_of_ble_eq_true rfl⟩ rfl rfl d_X5_isWord_25.1
  · skip
    refine g_iconst hO 0 d_X5_isWord_24 (by decide) ?_
    exact g_ret hO rfl rfl ⟨Nat.le_of_ble_eq_true rfl, Nat.le_of_ble_eq_true rfl⟩ rfl rfl d_X5_isWord_25.1
theorem t_X5_isWord (l : Launch) (E : GE) (o : Nat) (x1 : Option Nat) (S : GS) : ∀ a, f_X5_isWord o x1 S = some a → Ct l E yX5_isWord cX5_isWord 3 (some .boolean) rm_X5_isWord [vA (some o), vA x1] S (some (vI a)) S :=
  Ct_of (val := fun b => some (vI b)) (nxt := fun _ => S) (by decide) (Nat.le_of_ble_eq_true rfl) (fun Γ hl hO => w_X5_isWord hO o x1 S)
theorem d_X7_addRow_0 : gD cX7_addRow 0 (.aload_n 0) 1 1 := ⟨by decide +kernel, rfl⟩
theorem d_X7_addRow_1 : gD cX7_addRow 1 (.getfield 22) 3 4 := ⟨by decide +kernel, rfl⟩
theorem d_X7_addRow_4 : gD cX7_addRow 4 (.aload_n 0) 1 5 := ⟨by decide +kernel, rfl⟩
theorem d_X7_addRow_5 : gD cX7_addRow 5 (.getfield 9) 3 8 := ⟨by decide +kernel, rfl⟩
theorem d_X7_addRow_8 : gD cX7_addRow 8 (.if_icmp .ge 48) 3 11 ∧ ((8 : Nat) : Int) + 48 = ((56 : Nat) : Int) := ⟨⟨by decide +kernel, rfl⟩, by decide⟩
theorem d_X7_addRow_11 : gD cX7_addRow 11 (.aload_n 0) 1 12 := ⟨by decide +kernel, rfl⟩
theorem d_X7_addRow_12 : gD cX7_addRow 12 (.dup) 1 13 := ⟨by decide +kernel, rfl⟩
theorem d_X7_addRow_13 : gD cX7_addRow 13 (.getfield 22) 3 16 := ⟨by decide +kernel, rfl⟩
theorem d_X7_addRow_16 : gD cX7_addRow 16 (.iconst 1) 1 17 := ⟨by decide +kernel, rfl⟩
theorem d_X7_addRow_17 : gD cX7_addRow 17 (.iadd) 1 18 := ⟨by decide +kernel, rfl⟩
theorem d_X7_addRow_18 : gD cX7_addRow 18 (.putfield 22) 3 21 := ⟨by decide +kernel, rfl⟩
theorem d_X7_addRow_21 : gD cX7_addRow 21 (.iconst 0) 1 22 := ⟨by decide +kernel, rfl⟩
theorem d_X7_addRow_22 : gD cX7_addRow 22 (.istore_n 1) 1 23 := ⟨by decide +kernel, rfl⟩
theorem d_X7_addRow_23 : gD cX7_addRow 23 (.iload_n 1) 1 24 := ⟨by decide +kernel, rfl⟩
theorem d_X7_addRow_24 : gD cX7_addRow 24 (.aload_n 0) 1 25 := ⟨by decide +kernel, rfl⟩
theorem d_X7_addRow_25 : gD cX7_addRow 25 (.getfield 15) 3 28 := ⟨by decide +kernel, rfl⟩
theorem d_X7_addRow_28 : gD cX7_addRow 28 (.if_icmp .ge 28) 3 31 ∧ ((28 : Nat) : Int) + 28 = ((56 : Nat) : Int) := ⟨⟨by decide +kernel, rfl⟩, by decide⟩
theorem d_X7_addRow_31 : gD cX7_addRow 31 (.aload_n 0) 1 32 := ⟨by decide +kernel, rfl⟩
theorem d_X7_addRow_32 : gD cX7_addRow 32 (.getfield 18) 3 35 := ⟨by decide +kernel, rfl⟩
theorem d_X7_addRow_35 : gD cX7_addRow 35 (.aload_n 0) 1 36 := ⟨by decide +kernel, rfl⟩
theorem d_X7_addRow_36 : gD cX7_addRow 36 (.getfield 22) 3 39 := ⟨by decide +kernel, rfl⟩
theorem d_X7_addRow_39 : gD cX7_addRow 39 (.iconst 1) 1 40 := ⟨by decide +kernel, rfl⟩
theorem d_X7_addRow_40 : gD cX7_addRow 40 (.isub) 1 41 := ⟨by decide +kernel, rfl⟩
theorem d_X7_addRow_41 : gD cX7_addRow 41 (.aload_n 0) 1 42 := ⟨by decide +kernel, rfl⟩
theorem d_X7_addRow_42 : gD cX7_addRow 42 (.getfield 15) 3 45 := ⟨by decide +kernel, rfl⟩
theorem d_X7_addRow_45 : gD cX7_addRow 45 (.imul) 1 46 := ⟨by decide +kernel, rfl⟩
theorem d_X7_addRow_46 : gD cX7_addRow 46 (.iload_n 1) 1 47 := ⟨by decide +kernel, rfl⟩
theorem d_X7_addRow_47 : gD cX7_addRow 47 (.iadd) 1 48 := ⟨by decide +kernel, rfl⟩
theorem d_X7_addRow_48 : gD cX7_addRow 48 (.iconst (-1)) 1 49 := ⟨by decide +kernel, rfl⟩
theorem d_X7_addRow_49 : gD cX7_addRow 49 (.iastore) 1 50 := ⟨by decide +kernel, rfl⟩
theorem d_X7_addRow_50 : gD cX7_addRow 50 (.iinc 1 1) 3 53 := ⟨by decide +kernel, rfl⟩
theorem d_X7_addRow_53 : decode cX7_addRow 53 = .ok (.goto (-30), 3) ∧ ((53 : Nat) : Int) + (-30) = ((23 : Nat) : Int) := ⟨by decide +kernel, by decide⟩
theorem d_X7_addRow_56 : gD cX7_addRow 56 (.return_) 1 57 := ⟨by decide +kernel, rfl⟩
abbrev rm_X7_addRow : Room := { frames := 0, cells := 0, slots := 0, locals := 0 }
set_option maxRecDepth 20000 in
theorem w_X7_addRow_23 {Γ : GC} {E : GE} (hO : gOk Γ E cX7_addRow RX7 2 rm_X7_addRow none "addRow") (o : Nat) : ∀ (n : Nat) (x1 : Int32) (S : GS), Go Γ E (gBsV Γ E) 2 (0, 0) 23 S [(0, vA (some o)), (1, vI x1)] [] (f_X7_addRow_23 o n x1 S) := by
  intro n
  induction n with
  | zero =>
    intro x1 S
    exact g_none
  | succ n ih =>
    intro x1 S
    rw [f_X7_addRow_23]
    refine g_iload_n hO d_X7_addRow_23 (by rfl) 1 rfl ?_
    refine g_aload_n hO d_X7_addRow_24 (by rfl) 0 rfl ?_
    refine h_getI hO cl_X7 1 rfl wf_X7_15 d_X7_addRow_25 (fun v1 => ?_)
    refine g_ic_ge (tgt := 56) hO d_X7_addRow_28.1 d_X7_addRow_28.2 (fun _ => ?_) (fun _ => ?_)
    · skip
      exact g_vret hO rfl ⟨Nat.le_of_ble_eq_true rfl, Nat.le_of_ble_eq_true rfl⟩ rfl rfl d_X7_addRow_56.1
    · skip
      refine g_aload_n hO d_X7_addRow_31 (by rfl) 0 rfl ?_
      refine h_getR hO cl_X7 2 rfl wf_X7_18 d_X7_addRow_32 (fun v2 => ?_)
      refine g_aload_n hO d_X7_addRow_35 (by rfl) 0 rfl ?_
      refine h_getI hO cl_X7 3 rfl wf_X7_22 d_X7_addRow_36 (fun v3 => ?_)
      refine g_iconst hO 1 d_X7_addRow_39 (by decide) ?_
      refine g_isub hO d_X7_addRow_40 ?_
      refine g_aload_n hO d_X7_addRow_41 (by rfl) 0 rfl ?_
      refine h_getI hO cl_X7 1 rfl wf_X7_15 d_X7_addRow_42 (fun v4 => ?_)
      refine g_imul hO d_X7_addRow_45 ?_
      refine g_iload_n hO d_X7_addRow_46 (by rfl) 1 rfl ?_
      refine g_iadd hO d_X7_addRow_47 ?_
      refine g_iconst hO (-1) d_X7_addRow_48 (by decide) ?_
      refine h_iast hO d_X7_addRow_49 (fun S5 => ?_)
      refine g_iinc (lv' := [(1, vI (x1 + 1)), (0, vA (some o))]) hO 1 d_X7_addRow_50 (by decide) 1 rfl (by decide) rfl ?_
      refine g_goto (tgt := 23) hO d_X7_addRow_53.1 d_X7_addRow_53.2 ?_
      exact g_sub [1, 0] rfl (ih _ _)
set_option maxRecDepth 20000 in
theorem w_X7_addRow {Γ : GC} {E : GE} (hO : gOk Γ E cX7_addRow RX7 2 rm_X7_addRow none "addRow") (o : Nat) (S : GS) : Go Γ E (gBsV Γ E) 2 (0, 0) 0 S [(0, vA (some o))] [] (f_X7_addRow o S) := by
  unfold f_X7_addRow
  refine g_aload_n hO d_X7_addRow_0 (by rfl) 0 rfl ?_
  refine h_getI hO cl_X7 3 rfl wf_X7_22 d_X7_addRow_1 (fun v1 => ?_)
  refine g_aload_n hO d_X7_addRow_4 (by rfl) 0 rfl ?_
  refine h_getI hO cl_X7 0 rfl wf_X7_9 d_X7_addRow_5 (fun v2 => ?_)
  refine g_ic_ge (tgt := 56) hO d_X7_addRow_8.1 d_X7_addRow_8.2 (fun _ => ?_) (fun _ => ?_)
  · skip
    exact g_vret hO rfl ⟨Nat.le_of_ble_eq_true rfl, Nat.le_of_ble_eq_true rfl⟩ rfl rfl d_X7_addRow_56.1
  · skip
    refine g_aload_n hO d_X7_addRow_11 (by rfl) 0 rfl ?_
    refine g_dup hO d_X7_addRow_12 rfl ?_
    refine h_getI hO cl_X7 3 rfl wf_X7_22 d_X7_addRow_13 (fun v3 => ?_)
    refine g_iconst hO 1 d_X7_addRow_16 (by decide) ?_
    refine g_iadd hO d_X7_addRow_17 ?_
    refine h_putI hO cl_X7 3 rfl rfl wf_X7_22 (Or.inl rfl) d_X7_addRow_18 (fun S4 => ?_)
    refine g_iconst hO 0 d_X7_addRow_21 (by decide) ?_
    refine g_istore_n (lv' := [(1, vI 0), (0, vA (some o))]) hO d_X7_addRow_22 (by rfl) (by decide) rfl ?_
    exact g_sub [1, 0] rfl (w_X7_addRow_23 hO o _ _ _)
theorem t_X7_addRow (l : Launch) (E : GE) (o : Nat) (S : GS) : ∀ a, f_X7_addRow o S = some a → Ct l E yX7_addRow cX7_addRow 2 none rm_X7_addRow [vA (some o)] S none a :=
  Ct_of (val := fun _ => none) (nxt := fun b => b) (by decide) (Nat.le_of_ble_eq_true rfl) (fun Γ hl hO => w_X7_addRow hO o S)
theorem d_X5_addRowAt_0 : gD cX5_addRowAt 0 (.aload_n 1) 1 1 := ⟨by decide +kernel, rfl⟩
theorem d_X5_addRowAt_1 : gD cX5_addRowAt 1 (.getfield 238) 3 4 := ⟨by decide +kernel, rfl⟩
theorem d_X5_addRowAt_4 : gD cX5_addRowAt 4 (.aload_n 1) 1 5 := ⟨by decide +kernel, rfl⟩
theorem d_X5_addRowAt_5 : gD cX5_addRowAt 5 (.getfield 241) 3 8 := ⟨by decide +kernel, rfl⟩
theorem d_X5_addRowAt_8 : gD cX5_addRowAt 8 (.if_icmp .lt 9) 3 11 ∧ ((8 : Nat) : Int) + 9 = ((17 : Nat) : Int) := ⟨⟨by decide +kernel, rfl⟩, by decide⟩
theorem d_X5_addRowAt_11 : gD cX5_addRowAt 11 (.aload_n 0) 1 12 := ⟨by decide +kernel, rfl⟩
theorem d_X5_addRowAt_12 : gD cX5_addRowAt 12 (.iconst 3) 1 13 := ⟨by decide +kernel, rfl⟩
theorem d_X5_addRowAt_13 : gD cX5_addRowAt 13 (.iload_n 2) 1 14 := ⟨by decide +kernel, rfl⟩
theorem d_X5_addRowAt_14 : gD cX5_addRowAt 14 (.invokevirtual 90) 3 17 := ⟨by decide +kernel, rfl⟩
theorem d_X5_addRowAt_17 : gD cX5_addRowAt 17 (.aload_n 1) 1 18 := ⟨by decide +kernel, rfl⟩
theorem d_X5_addRowAt_18 : gD cX5_addRowAt 18 (.invokevirtual 243) 3 21 := ⟨by decide +kernel, rfl⟩
theorem d_X5_addRowAt_21 : gD cX5_addRowAt 21 (.return_) 1 22 := ⟨by decide +kernel, rfl⟩
abbrev rm_X5_addRowAt : Room := { frames := 1, cells := 0, slots := 0, locals := 22 }
set_option maxRecDepth 20000 in
theorem w_X5_addRowAt_17 {Γ : GC} {E : GE} (hO : gOk Γ E cX5_addRowAt RX5 3 rm_X5_addRowAt none "addRowAt") (o : Nat) (x1 : Option Nat) (S : GS) : Go Γ E (gBsV Γ E) 3 (0, 0) 17 S [(0, vA (some o)), (1, vA x1)] [] (f_X5_addRowAt_17 o x1 S) := by
  unfold f_X5_addRowAt_17
  refine g_aload_n hO d_X5_addRowAt_17 (by rfl) 1 rfl ?_
  refine k_virtVs hO cl_X7 mm_X7_addRow lkV_X5_243 ⟨⟨Nat.le_of_ble_eq_true rfl, Nat.le_of_ble_eq_true rfl⟩, Nat.le_of_ble_eq_true rfl, Nat.le_of_ble_eq_true rfl⟩ (kn' := (0, 0)) rfl (As := []) rfl (Nat.le_of_ble_eq_true rfl) (fun o' _ => t_X7_addRow Γ.2.1 E o' S) d_X5_addRowAt_18 rfl (fun S2 => ?_)
  exact g_vret hO rfl ⟨Nat.le_of_ble_eq_true rfl, Nat.le_of_ble_eq_true rfl⟩ rfl rfl d_X5_addRowAt_21.1
set_option maxRecDepth 20000 in
theorem w_X5_addRowAt {Γ : GC} {E : GE} (hO : gOk Γ E cX5_addRowAt RX5 3 rm_X5_addRowAt none "addRowAt") (o : Nat) (x1 : Option Nat) (x2 : Int32) (S : GS) : Go Γ E (gBsV Γ E) 3 (0, 0) 0 S [(0, vA (some o)), (1, vA x1), (2, vI x2)] [] (f_X5_addRowAt o x1 x2 S) := by
  unfold f_X5_addRowAt
  refine g_aload_n hO d_X5_addRowAt_0 (by rfl) 1 rfl ?_
  refine h_getI hO cl_X7 3 rfl wf_X5_238 d_X5_addRowAt_1 (fun v1 => ?_)
  refine g_aload_n hO d_X5_addRowAt_4 (by rfl) 1 rfl ?_
  refine h_getI hO cl_X7 0 rfl wf_X5_241 d_X5_addRowAt_5 (fun v2 => ?_)
  refine g_ic_lt (tgt := 17) hO d_X5_addRowAt_8.1 d_X5_addRowAt_8.2 (fun _ => ?_) (fun _ => ?_)
  · skip
    exact g_sub [0, 1] rfl (w_X5_addRowAt_17 hO o _ _)
  · skip
    refine g_aload_n hO d_X5_addRowAt_11 (by rfl) 0 rfl ?_
    refine g_iconst hO 3 d_X5_addRowAt_12 (by decide) ?_
    refine g_iload_n hO d_X5_addRowAt_13 (by rfl) 2 rfl ?_
    refine k_virtVs hO cl_X5 mm_X5_noteFault lkV_X5_90 ⟨⟨Nat.le_of_ble_eq_true rfl, Nat.le_of_ble_eq_true rfl⟩, Nat.le_of_ble_eq_true rfl, Nat.le_of_ble_eq_true rfl⟩ (kn' := (0, 0)) rfl (As := [vI 3, vI x2]) rfl (Nat.le_of_ble_eq_true rfl) (fun o' _ => t_X5_noteFault Γ.2.1 E o' 3 x2 S) d_X5_addRowAt_14 rfl (fun S4 => ?_)
    exact g_sub [0, 1] rfl (w_X5_addRowAt_17 hO o _ _)
theorem t_X5_addRowAt (l : Launch) (E : GE) (o : Nat) (x1 : Option Nat) (x2 : Int32) (S : GS) : ∀ a, f_X5_addRowAt o x1 x2 S = some a → Ct l E yX5_addRowAt cX5_addRowAt 3 none rm_X5_addRowAt [vA (some o), vA x1, vI x2] S none a :=
  Ct_of (val := fun _ => none) (nxt := fun b => b) (by decide) (Nat.le_of_ble_eq_true rfl) (fun Γ hl hO => w_X5_addRowAt hO o x1 x2 S)
theorem d_X5_openLine_0 : gD cX5_openLine 0 (.aload_n 0) 1 1 := ⟨by decide +kernel, rfl⟩
theorem d_X5_openLine_1 : gD cX5_openLine 1 (.aload_n 1) 1 2 := ⟨by decide +kernel, rfl⟩
theorem d_X5_openLine_2 : gD cX5_openLine 2 (.aload_n 0) 1 3 := ⟨by decide +kernel, rfl⟩
theorem d_X5_openLine_3 : gD cX5_openLine 3 (.getfield 171) 3 6 := ⟨by decide +kernel, rfl⟩
theorem d_X5_openLine_6 : gD cX5_openLine 6 (.invokevirtual 218) 3 9 := ⟨by decide +kernel, rfl⟩
theorem d_X5_openLine_9 : gD cX5_openLine 9 (.aload_n 0) 1 10 := ⟨by decide +kernel, rfl⟩
theorem d_X5_openLine_10 : gD cX5_openLine 10 (.invokevirtual 126) 3 13 := ⟨by decide +kernel, rfl⟩
theorem d_X5_openLine_13 : gD cX5_openLine 13 (.return_) 1 14 := ⟨by decide +kernel, rfl⟩
abbrev rm_X5_openLine : Room := { frames := 2, cells := 0, slots := 0, locals := 44 }
set_option maxRecDepth 20000 in
theorem w_X5_openLine {Γ : GC} {E : GE} (hO : gOk Γ E cX5_openLine RX5 2 rm_X5_openLine none "openLine") (o : Nat) (x1 : Option Nat) (S : GS) : Go Γ E (gBsV Γ E) 2 (0, 0) 0 S [(0, vA (some o)), (1, vA x1)] [] (f_X5_openLine o x1 S) := by
  unfold f_X5_openLine
  refine g_aload_n hO d_X5_openLine_0 (by rfl) 0 rfl ?_
  refine g_aload_n hO d_X5_openLine_1 (by rfl) 1 rfl ?_
  refine g_aload_n hO d_X5_openLine_2 (by rfl) 0 rfl ?_
  refine h_getI hO cl_X5 9 rfl wf_X5_171 d_X5_openLine_3 (fun v1 => ?_)
  refine k_virtVs hO cl_X5 mm_X5_addRowAt lkV_X5_218 ⟨⟨Nat.le_of_ble_eq_true rfl, Nat.le_of_ble_eq_true rfl⟩, Nat.le_of_ble_eq_true rfl, Nat.le_of_ble_eq_true rfl⟩ (kn' := (0, 0)) rfl (As := [vA x1, vI v1]) rfl (Nat.le_of_ble_eq_true rfl) (fun o' _ => t_X5_addRowAt Γ.2.1 E o' x1 v1 S) d_X5_openLine_6 rfl (fun S3 => ?_)
  refine g_aload_n hO d_X5_openLine_9 (by rfl) 0 rfl ?_
  refine k_virtVs hO cl_X5 mm_X5_nextToken lkV_X5_126 ⟨⟨Nat.le_of_ble_eq_true rfl, Nat.le_of_ble_eq_true rfl⟩, Nat.le_of_ble_eq_true rfl, Nat.le_of_ble_eq_true rfl⟩ (kn' := (0, 0)) rfl (As := []) rfl (Nat.le_of_ble_eq_true rfl) (fun o' _ => t_X5_nextToken Γ.2.1 E o' S3) d_X5_openLine_10 rfl (fun S5 => ?_)
  exact g_vret hO rfl ⟨Nat.le_of_ble_eq_true rfl, Nat.le_of_ble_eq_true rfl⟩ rfl rfl d_X5_openLine_13.1
theorem t_X5_openLine (l : Launch) (E : GE) (o : Nat) (x1 : Option Nat) (S : GS) : ∀ a, f_X5_openLine o x1 S = some a → Ct l E yX5_openLine cX5_openLine 2 none rm_X5_openLine [vA (some o), vA x1] S none a :=
  Ct_of (val := fun _ => none) (nxt := fun b => b) (by decide) (Nat.le_of_ble_eq_true rfl) (fun Γ hl hO => w_X5_openLine hO o x1 S)
theorem d_X5_breakHere_0 : gD cX5_breakHere 0 (.aload_n 0) 1 1 := ⟨by decide +kernel, rfl⟩
theorem d_X5_breakHere_1 : gD cX5_breakHere 1 (.invokevirtual 55) 3 4 := ⟨by decide +kernel, rfl⟩
theorem d_X5_breakHere_4 : gD cX5_breakHere 4 (.ifCond .ne 16) 3 7 ∧ ((4 : Nat) : Int) + 16 = ((20 : Nat) : Int) := ⟨⟨by decide +kernel, rfl⟩, by decide⟩
theorem d_X5_breakHere_7 : gD cX5_breakHere 7 (.aload_n 0) 1 8 := ⟨by decide +kernel, rfl⟩
theorem d_X5_breakHere_8 : gD cX5_breakHere 8 (.iconst 1) 1 9 := ⟨by decide +kernel, rfl⟩
theorem d_X5_breakHere_9 : gD cX5_breakHere 9 (.putfield 117) 3 12 := ⟨by decide +kernel, rfl⟩
theorem d_X5_breakHere_12 : gD cX5_breakHere 12 (.aload_n 0) 1 13 := ⟨by decide +kernel, rfl⟩
theorem d_X5_breakHere_13 : gD cX5_breakHere 13 (.aload_n 0) 1 14 := ⟨by decide +kernel, rfl⟩
theorem d_X5_breakHere_14 : gD cX5_breakHere 14 (.getfield 171) 3 17 := ⟨by decide +kernel, rfl⟩
theorem d_X5_breakHere_17 : gD cX5_breakHere 17 (.putfield 120) 3 20 := ⟨by decide +kernel, rfl⟩
theorem d_X5_breakHere_20 : gD cX5_breakHere 20 (.return_) 1 21 := ⟨by decide +kernel, rfl⟩
abbrev rm_X5_breakHere : Room := { frames := 1, cells := 0, slots := 0, locals := 20 }
set_option maxRecDepth 20000 in
theorem w_X5_breakHere {Γ : GC} {E : GE} (hO : gOk Γ E cX5_breakHere RX5 1 rm_X5_breakHere none "breakHere") (o : Nat) (S : GS) : Go Γ E (gBsV Γ E) 1 (0, 0) 0 S [(0, vA (some o))] [] (f_X5_breakHere o S) := by
  unfold f_X5_breakHere
  refine g_aload_n hO d_X5_breakHere_0 (by rfl) 0 rfl ?_
  refine k_virtIp hO cl_X5 mm_X5_isBroken lkV_X5_55 ⟨⟨Nat.le_of_ble_eq_true rfl, Nat.le_of_ble_eq_true rfl⟩, Nat.le_of_ble_eq_true rfl, Nat.le_of_ble_eq_true rfl⟩ (kn' := (0, 0)) rfl (As := []) rfl (Nat.le_of_ble_eq_true rfl) (fun o' _ => t_X5_isBroken Γ.2.1 E o' S) d_X5_breakHere_1 rfl (fun v1 => ?_)
  refine g_if_ne (tgt := 20) hO d_X5_breakHere_4.1 d_X5_breakHere_4.2 (fun _ => ?_) (fun _ => ?_)
  · skip
    refine g_aload_n hO d_X5_breakHere_7 (by rfl) 0 rfl ?_
    refine g_iconst hO 1 d_X5_breakHere_8 (by decide) ?_
    refine h_putI hO cl_X5 11 rfl rfl wf_X5_117 (Or.inl rfl) d_X5_breakHere_9 (fun S3 => ?_)
    refine g_aload_n hO d_X5_breakHere_12 (by rfl) 0 rfl ?_
    refine g_aload_n hO d_X5_breakHere_13 (by rfl) 0 rfl ?_
    refine h_getI hO cl_X5 9 rfl wf_X5_171 d_X5_breakHere_14 (fun v4 => ?_)
    refine h_putI hO cl_X5 12 rfl rfl wf_X5_120 (Or.inl rfl) d_X5_breakHere_17 (fun S5 => ?_)
    exact g_vret hO rfl ⟨Nat.le_of_ble_eq_true rfl, Nat.le_of_ble_eq_true rfl⟩ rfl rfl d_X5_breakHere_20.1
  · skip
    exact g_vret hO rfl ⟨Nat.le_of_ble_eq_true rfl, Nat.le_of_ble_eq_true rfl⟩ rfl rfl d_X5_breakHere_20.1
theorem t_X5_breakHere (l : Launch) (E : GE) (o : Nat) (S : GS) : ∀ a, f_X5_breakHere o S = some a → Ct l E yX5_breakHere cX5_breakHere 1 none rm_X5_breakHere [vA (some o)] S none a :=
  Ct_of (val := fun _ => none) (nxt := fun b => b) (by decide) (Nat.le_of_ble_eq_true rfl) (fun Γ hl hO => w_X5_breakHere hO o S)
theorem d_X5_tokenValue_0 : gD cX5_tokenValue 0 (.iconst 0) 1 1 := ⟨by decide +kernel, rfl⟩
theorem d_X5_tokenValue_1 : gD cX5_tokenValue 1 (.istore_n 1) 1 2 := ⟨by decide +kernel, rfl⟩
theorem d_X5_tokenValue_2 : gD cX5_tokenValue 2 (.aload_n 0) 1 3 := ⟨by decide +kernel, rfl⟩
theorem d_X5_tokenValue_3 : gD cX5_tokenValue 3 (.getfield 171) 3 6 := ⟨by decide +kernel, rfl⟩
theorem d_X5_tokenValue_6 : gD cX5_tokenValue 6 (.istore_n 2) 1 7 := ⟨by decide +kernel, rfl⟩
theorem d_X5_tokenValue_7 : gD cX5_tokenValue 7 (.iload_n 2) 1 8 := ⟨by decide +kernel, rfl⟩
theorem d_X5_tokenValue_8 : gD cX5_tokenValue 8 (.aload_n 0) 1 9 := ⟨by decide +kernel, rfl⟩
theorem d_X5_tokenValue_9 : gD cX5_tokenValue 9 (.getfield 123) 3 12 := ⟨by decide +kernel, rfl⟩
theorem d_X5_tokenValue_12 : gD cX5_tokenValue 12 (.if_icmp .ge 23) 3 15 ∧ ((12 : Nat) : Int) + 23 = ((35 : Nat) : Int) := ⟨⟨by decide +kernel, rfl⟩, by decide⟩
theorem d_X5_tokenValue_15 : gD cX5_tokenValue 15 (.iload_n 1) 1 16 := ⟨by decide +kernel, rfl⟩
theorem d_X5_tokenValue_16 : gD cX5_tokenValue 16 (.bipush 10) 2 18 := ⟨by decide +kernel, rfl⟩
theorem d_X5_tokenValue_18 : gD cX5_tokenValue 18 (.imul) 1 19 := ⟨by decide +kernel, rfl⟩
theorem d_X5_tokenValue_19 : gD cX5_tokenValue 19 (.aload_n 0) 1 20 := ⟨by decide +kernel, rfl⟩
theorem d_X5_tokenValue_20 : gD cX5_tokenValue 20 (.iload_n 2) 1 21 := ⟨by decide +kernel, rfl⟩
theorem d_X5_tokenValue_21 : gD cX5_tokenValue 21 (.invokevirtual 246) 3 24 := ⟨by decide +kernel, rfl⟩
theorem d_X5_tokenValue_24 : gD cX5_tokenValue 24 (.iadd) 1 25 := ⟨by decide +kernel, rfl⟩
theorem d_X5_tokenValue_25 : gD cX5_tokenValue 25 (.bipush 48) 2 27 := ⟨by decide +kernel, rfl⟩
theorem d_X5_tokenValue_27 : gD cX5_tokenValue 27 (.isub) 1 28 := ⟨by decide +kernel, rfl⟩
theorem d_X5_tokenValue_28 : gD cX5_tokenValue 28 (.istore_n 1) 1 29 := ⟨by decide +kernel, rfl⟩
theorem d_X5_tokenValue_29 : gD cX5_tokenValue 29 (.iinc 2 1) 3 32 := ⟨by decide +kernel, rfl⟩
theorem d_X5_tokenValue_32 : decode cX5_tokenValue 32 = .ok (.goto (-25), 3) ∧ ((32 : Nat) : Int) + (-25) = ((7 : Nat) : Int) := ⟨by decide +kernel, by decide⟩
theorem d_X5_tokenValue_35 : gD cX5_tokenValue 35 (.iload_n 1) 1 36 := ⟨by decide +kernel, rfl⟩
theorem d_X5_tokenValue_36 : gD cX5_tokenValue 36 (.ireturn) 1 37 := ⟨by decide +kernel, rfl⟩
abbrev rm_X5_tokenValue : Room := { frames := 1, cells := 0, slots := 0, locals := 21 }
set_option maxRecDepth 20000 in
theorem w_X5_tokenValue_7 {Γ : GC} {E : GE} (hO : gOk Γ E cX5_tokenValue RX5 3 rm_X5_tokenValue (some .int) "tokenValue") (o : Nat) (S : GS) : ∀ (n : Nat) (x1 : Int32) (x2 : Int32), Go Γ E (gBpI Γ E S) 3 (0, 0) 7 S [(0, vA (some o)), (1, vI x1), (2, vI x2)] [] (f_X5_tokenValue_7 o S n x1 x2) := by
  intro n
  induction n with
  | zero =>
    intro x1 x2
    exact g_none
  | succ n ih =>
    intro x1 x2
    rw [f_X5_tokenValue_7]
    refine g_iload_n hO d_X5_tokenValue_7 (by rfl) 2 rfl ?_
    refine g_aload_n hO d_X5_tokenValue_8 (by rfl) 0 rfl ?_
    refine h_getI hO cl_X5 10 rfl wf_X5_123 d_X5_tokenValue_9 (fun v1 => ?_)
    refine g_ic_ge (tgt := 35) hO d_X5_tokenValue_12.1 d_X5_tokenValue_12.2 (fun _ => ?_) (fun _ => ?_)
    · skip
      refine g_iload_n hO d_X5_tokenValue_35 (by rfl) 1 rfl ?_
      exact g_ret hO rfl rfl ⟨Nat.le_of_ble_eq_true rfl, Nat.le_of_ble_eq_true rfl⟩ rfl rfl d_X5_tokenValue_36.1
    · skip
      refine g_iload_n hO d_X5_tokenValue_15 (by rfl) 1 rfl ?_
      refine g_bipush hO 10 d_X5_tokenValue_16 (by decide) ?_
      refine g_imul hO d_X5_tokenValue_18 ?_
      refine g_aload_n hO d_X5_tokenValue_19 (by rfl) 0 rfl ?_
      refine g_iload_n hO d_X5_tokenValue_20 (by rfl) 2 rfl ?_
      refine k_virtIp hO cl_X5 mm_X5_byteAt lkV_X5_246 ⟨⟨Nat.le_of_ble_eq_true rfl, Nat.le_of_ble_eq_true rfl⟩, Nat.le_of_ble_eq_true rfl, Nat.le_of_ble_eq_true rfl⟩ (kn' := (0, 0)) rfl (As := [vI x2]) rfl (Nat.le_of_ble_eq_true rfl) (fun o' _ => t_X5_byteAt Γ.2.1 E o' x2 S) d_X5_tokenValue_21 rfl (fun v2 => ?_)
      refine g_iadd hO d_X5_tokenValue_24 ?_
      refine g_bipush hO 48 d_X5_tokenValue_25 (by decide) ?_
      refine g_isub hO d_X5_tokenValue_27 ?_
      refine g_istore_n (lv' := [(1, vI (((x1 * 10) + v2) - 48)), (0, vA (some o)), (2, vI x2)]) hO d_X5_tokenValue_28 (by rfl) (by decide) rfl ?_
      refine g_iinc (lv' := [(2, vI (x2 + 1)), (1, vI (((x1 * 10) + v2) - 48)), (0, vA (some o))]) hO 1 d_X5_tokenValue_29 (by decide) 2 rfl (by decide) rfl ?_
      refine g_goto (tgt := 7) hO d_X5_tokenValue_32.1 d_X5_tokenValue_32.2 ?_
      exact g_sub [2, 1, 0] rfl (ih _ _)
set_option maxRecDepth 20000 in
theorem w_X5_tokenValue {Γ : GC} {E : GE} (hO : gOk Γ E cX5_tokenValue RX5 3 rm_X5_tokenValue (some .int) "tokenValue") (o : Nat) (S : GS) : Go Γ E (gBpI Γ E S) 3 (0, 0) 0 S [(0, vA (some o))] [] (f_X5_tokenValue o S) := by
  unfold f_X5_tokenValue
  refine g_iconst hO 0 d_X5_tokenValue_0 (by decide) ?_
  refine g_istore_n (lv' := [(1, vI 0), (0, vA (some o))]) hO d_X5_tokenValue_1 (by rfl) (by decide) rfl ?_
  refine g_aload_n hO d_X5_tokenValue_2 (by rfl) 1 rfl ?_
  refine h_getI hO cl_X5 9 rfl wf_X5_171 d_X5_tokenValue_3 (fun v1 => ?_)
  refine g_istore_n (lv' := [(2, vI v1), (1, vI 0), (0, vA (some o))]) hO d_X5_tokenValue_6 (by rfl) (by decide) rfl ?_
  exact g_sub [2, 1, 0] rfl (w_X5_tokenValue_7 hO o _ _ _ _)
theorem t_X5_tokenValue (l : Launch) (E : GE) (o : Nat) (S : GS) : ∀ a, f_X5_tokenValue o S = some a → Ct l E yX5_tokenValue cX5_tokenValue 3 (some .int) rm_X5_tokenValue [vA (some o)] S (some (vI a)) S :=
  Ct_of (val := fun b => some (vI b)) (nxt := fun _ => S) (by decide) (Nat.le_of_ble_eq_true rfl) (fun Γ hl hO => w_X5_tokenValue hO o S)
theorem d_X5_takeNumber_0 : gD cX5_takeNumber 0 (.aload_n 0) 1 1 := ⟨by decide +kernel, rfl⟩
theorem d_X5_takeNumber_1 : gD cX5_takeNumber 1 (.getfield 51) 3 4 := ⟨by decide +kernel, rfl⟩
theorem d_X5_takeNumber_4 : gD cX5_takeNumber 4 (.iconst 2) 1 5 := ⟨by decide +kernel, rfl⟩
theorem d_X5_takeNumber_5 : gD cX5_takeNumber 5 (.if_icmp .ne 10) 3 8 ∧ ((5 : Nat) : Int) + 10 = ((15 : Nat) : Int) := ⟨⟨by decide +kernel, rfl⟩, by decide⟩
theorem d_X5_takeNumber_8 : gD cX5_takeNumber 8 (.aload_n 0) 1 9 := ⟨by decide +kernel, rfl⟩
theorem d_X5_takeNumber_9 : gD cX5_takeNumber 9 (.invokevirtual 55) 3 12 := ⟨by decide +kernel, rfl⟩
theorem d_X5_takeNumber_12 : gD cX5_takeNumber 12 (.ifCond .eq 9) 3 15 ∧ ((12 : Nat) : Int) + 9 = ((21 : Nat) : Int) := ⟨⟨by decide +kernel, rfl⟩, by decide⟩
theorem d_X5_takeNumber_15 : gD cX5_takeNumber 15 (.aload_n 0) 1 16 := ⟨by decide +kernel, rfl⟩
theorem d_X5_takeNumber_16 : gD cX5_takeNumber 16 (.invokevirtual 191) 3 19 := ⟨by decide +kernel, rfl⟩
theorem d_X5_takeNumber_19 : gD cX5_takeNumber 19 (.iload_n 1) 1 20 := ⟨by decide +kernel, rfl⟩
theorem d_X5_takeNumber_20 : gD cX5_takeNumber 20 (.ireturn) 1 21 := ⟨by decide +kernel, rfl⟩
theorem d_X5_takeNumber_21 : gD cX5_takeNumber 21 (.aload_n 0) 1 22 := ⟨by decide +kernel, rfl⟩
theorem d_X5_takeNumber_22 : gD cX5_takeNumber 22 (.invokevirtual 164) 3 25 := ⟨by decide +kernel, rfl⟩
theorem d_X5_takeNumber_25 : gD cX5_takeNumber 25 (.istore_n 3) 1 26 := ⟨by decide +kernel, rfl⟩
theorem d_X5_takeNumber_26 : gD cX5_takeNumber 26 (.iload_n 3) 1 27 := ⟨by decide +kernel, rfl⟩
theorem d_X5_takeNumber_27 : gD cX5_takeNumber 27 (.iload_n 1) 1 28 := ⟨by decide +kernel, rfl⟩
theorem d_X5_takeNumber_28 : gD cX5_takeNumber 28 (.if_icmp .lt 8) 3 31 ∧ ((28 : Nat) : Int) + 8 = ((36 : Nat) : Int) := ⟨⟨by decide +kernel, rfl⟩, by decide⟩
theorem d_X5_takeNumber_31 : gD cX5_takeNumber 31 (.iload_n 3) 1 32 := ⟨by decide +kernel, rfl⟩
theorem d_X5_takeNumber_32 : gD cX5_takeNumber 32 (.iload_n 2) 1 33 := ⟨by decide +kernel, rfl⟩
theorem d_X5_takeNumber_33 : gD cX5_takeNumber 33 (.if_icmp .le 12) 3 36 ∧ ((33 : Nat) : Int) + 12 = ((45 : Nat) : Int) := ⟨⟨by decide +kernel, rfl⟩, by decide⟩
theorem d_X5_takeNumber_36 : gD cX5_takeNumber 36 (.aload_n 0) 1 37 := ⟨by decide +kernel, rfl⟩
theorem d_X5_takeNumber_37 : gD cX5_takeNumber 37 (.iconst 2) 1 38 := ⟨by decide +kernel, rfl⟩
theorem d_X5_takeNumber_38 : gD cX5_takeNumber 38 (.aload_n 0) 1 39 := ⟨by decide +kernel, rfl⟩
theorem d_X5_takeNumber_39 : gD cX5_takeNumber 39 (.getfield 171) 3 42 := ⟨by decide +kernel, rfl⟩
theorem d_X5_takeNumber_42 : gD cX5_takeNumber 42 (.invokevirtual 90) 3 45 := ⟨by decide +kernel, rfl⟩
theorem d_X5_takeNumber_45 : gD cX5_takeNumber 45 (.aload_n 0) 1 46 := ⟨by decide +kernel, rfl⟩
theorem d_X5_takeNumber_46 : gD cX5_takeNumber 46 (.invokevirtual 126) 3 49 := ⟨by decide +kernel, rfl⟩
theorem d_X5_takeNumber_49 : gD cX5_takeNumber 49 (.iload_n 3) 1 50 := ⟨by decide +kernel, rfl⟩
theorem d_X5_takeNumber_50 : gD cX5_takeNumber 50 (.ireturn) 1 51 := ⟨by decide +kernel, rfl⟩
abbrev rm_X5_takeNumber : Room := { frames := 2, cells := 0, slots := 0, locals := 43 }
set_option maxRecDepth 20000 in
theorem w_X5_takeNumber_15 {Γ : GC} {E : GE} (hO : gOk Γ E cX5_takeNumber RX5 4 rm_X5_takeNumber (some .int) "takeNumber") (o : Nat) (x1 : Int32) (S : GS) : Go Γ E (gBsI Γ E) 4 (0, 0) 15 S [(0, vA (some o)), (1, vI x1)] [] (f_X5_takeNumber_15 o x1 S) := by
  unfold f_X5_takeNumber_15
  refine g_aload_n hO d_X5_takeNumber_15 (by rfl) 0 rfl ?_
  refine k_virtVs hO cl_X5 mm_X5_breakHere lkV_X5_191 ⟨⟨Nat.le_of_ble_eq_true rfl, Nat.le_of_ble_eq_true rfl⟩, Nat.le_of_ble_eq_true rfl, Nat.le_of_ble_eq_true rfl⟩ (kn' := (0, 0)) rfl (As := []) rfl (Nat.le_of_ble_eq_true rfl) (fun o' _ => t_X5_breakHere Γ.2.1 E o' S) d_X5_takeNumber_16 rfl (fun S2 => ?_)
  refine g_iload_n hO d_X5_takeNumber_19 (by rfl) 1 rfl ?_
  exact g_ret hO rfl rfl ⟨Nat.le_of_ble_eq_true rfl, Nat.le_of_ble_eq_true rfl⟩ rfl rfl d_X5_takeNumber_20.1
set_option maxRecDepth 20000 in
theorem w_X5_takeNumber_45 {Γ : GC} {E : GE} (hO : gOk Γ E cX5_takeNumber RX5 4 rm_X5_takeNumber (some .int) "takeNumber") (o : Nat) (x3 : Int32) (S : GS) : Go Γ E (gBsI Γ E) 4 (0, 0) 45 S [(0, vA (some o)), (3, vI x3)] [] (f_X5_takeNumber_45 o x3 S) := by
  unfold f_X5_takeNumber_45
  refine g_aload_n hO d_X5_takeNumber_45 (by rfl) 0 rfl ?_
  refine k_virtVs hO cl_X5 mm_X5_nextToken lkV_X5_126 ⟨⟨Nat.le_of_ble_eq_true rfl, Nat.le_of_ble_eq_true rfl⟩, Nat.le_of_ble_eq_true rfl, Nat.le_of_ble_eq_true rfl⟩ (kn' := (0, 0)) rfl (As := []) rfl (Nat.le_of_ble_eq_true rfl) (fun o' _ => t_X5_nextToken Γ.2.1 E o' S) d_X5_takeNumber_46 rfl (fun S2 => ?_)
  refine g_iload_n hO d_X5_takeNumber_49 (by rfl) 1 rfl ?_
  exact g_ret hO rfl rfl ⟨Nat.le_of_ble_eq_true rfl, Nat.le_of_ble_eq_true rfl⟩ rfl rfl d_X5_takeNumber_50.1
set_option maxRecDepth 20000 in
theorem w_X5_takeNumber_36 {Γ : GC} {E : GE} (hO : gOk Γ E cX5_takeNumber RX5 4 rm_X5_takeNumber (some .int) "takeNumber") (o : Nat) (x3 : Int32) (S : GS) : Go Γ E (gBsI Γ E) 4 (0, 0) 36 S [(0, vA (some o)), (3, vI x3)] [] (f_X5_takeNumber_36 o x3 S) := by
  unfold f_X5_takeNumber_36
  refine g_aload_n hO d_X5_takeNumber_36 (by rfl) 0 rfl ?_
  refine g_iconst hO 2 d_X5_takeNumber_37 (by decide) ?_
  refine g_aload_n hO d_X5_takeNumber_38 (by rfl) 0 rfl ?_
  refine h_getI hO cl_X5 9 rfl wf_X5_171 d_X5_takeNumber_39 (fun v1 => ?_)
  refine k_virtVs hO cl_X5 mm_X5_noteFault lkV_X5_90 ⟨⟨Nat.le_of_ble_eq_true rfl, Nat.le_of_ble_eq_true rfl⟩, Nat.le_of_ble_eq_true rfl, Nat.le_of_ble_eq_true rfl⟩ (kn' := (0, 0)) rfl (As := [vI 2, vI v1]) rfl (Nat.le_of_ble_eq_true rfl) (fun o' _ => t_X5_noteFault Γ.2.1 E o' 2 v1 S) d_X5_takeNumber_42 rfl (fun S3 => ?_)
  exact g_sub [0, 1] rfl (w_X5_takeNumber_45 hO o _ _)
set_option maxRecDepth 20000 in
theorem w_X5_takeNumber {Γ : GC} {E : GE} (hO : gOk Γ E cX5_takeNumber RX5 4 rm_X5_takeNumber (some .int) "takeNumber") (o : Nat) (x1 : Int32) (x2 : Int32) (S : GS) : Go Γ E (gBsI Γ E) 4 (0, 0) 0 S [(0, vA (some o)), (1, vI x1), (2, vI x2)] [] (f_X5_takeNumber o x1 x2 S) := by
  unfold f_X5_takeNumber
  refine g_aload_n hO d_X5_takeNumber_0 (by rfl) 0 rfl ?_
  refine h_getI hO cl_X5 8 rfl wf_X5_51 d_X5_takeNumber_1 (fun v1 => ?_)
  refine g_iconst hO 2 d_X5_takeNumber_4 (by decide) ?_
  refine g_ic_ne (tgt := 15) hO d_X5_takeNumber_5.1 d_X5_takeNumber_5.2 (fun _ => ?_) (fun _ => ?_)
  · skip
    refine g_aload_n hO d_X5_takeNumber_8 (by rfl) 0 rfl ?_
    refine k_virtIp hO cl_X5 mm_X5_isBroken lkV_X5_55 ⟨⟨Nat.le_of_ble_eq_true rfl, Nat.le_of_ble_eq_true rfl⟩, Nat.le_of_ble_eq_true rfl, Nat.le_of_ble_eq_true rfl⟩ (kn' := (0, 0)) rfl (As := []) rfl (Nat.le_of_ble_eq_true rfl) (fun o' _ => t_X5_isBroken Γ.2.1 E o' S) d_X5_takeNumber_9 rfl (fun v2 => ?_)
    refine g_if_eq (tgt := 21) hO d_X5_takeNumber_12.1 d_X5_takeNumber_12.2 (fun _ => ?_) (fun _ => ?_)
    · skip
      refine g_aload_n hO d_X5_takeNumber_21 (by rfl) 0 rfl ?_
      refine k_virtIp hO cl_X5 mm_X5_tokenValue lkV_X5_164 ⟨⟨Nat.le_of_ble_eq_true rfl, Nat.le_of_ble_eq_true rfl⟩, Nat.le_of_ble_eq_true rfl, Nat.le_of_ble_eq_true rfl⟩ (kn' := (0, 0)) rfl (As := []) rfl (Nat.le_of_ble_eq_true rfl) (fun o' _ => t_X5_tokenValue Γ.2.1 E o' S) d_X5_takeNumber_22 rfl (fun v4 => ?_)
      refine g_istore_n (lv' := [(3, vI v4), (0, vA (some o)), (1, vI x1), (2, vI x2)]) hO d_X5_takeNumber_25 (by rfl) (by decide) rfl ?_
      refine g_iload_n hO d_X5_takeNumber_26 (by rfl) 0 rfl ?_
      refine g_iload_n hO d_X5_takeNumber_27 (by rfl) 2 rfl ?_
      refine g_ic_lt (tgt := 36) hO d_X5_takeNumber_28.1 d_X5_takeNumber_28.2 (fun _ => ?_) (fun _ => ?_)
      · skip
        exact g_sub [1, 0] rfl (w_X5_takeNumber_36 hO o _ _)
      · skip
        refine g_iload_n hO d_X5_takeNumber_31 (by rfl) 0 rfl ?_
        refine g_iload_n hO d_X5_takeNumber_32 (by rfl) 3 rfl ?_
        refine g_ic_le (tgt := 45) hO d_X5_takeNumber_33.1 d_X5_takeNumber_33.2 (fun _ => ?_) (fun _ => ?_)
        · skip
          exact g_sub [1, 0] rfl (w_X5_takeNumber_45 hO o _ _)
        · skip
          exact g_sub [1, 0] rfl (w_X5_takeNumber_36 hO o _ _)
    · skip
      exact g_sub [0, 1] rfl (w_X5_takeNumber_15 hO o _ _)
  · skip
    exact g_sub [0, 1] rfl (w_X5_takeNumber_15 hO o _ _)
theorem t_X5_takeNumber (l : Launch) (E : GE) (o : Nat) (x1 : Int32) (x2 : Int32) (S : GS) : ∀ a, f_X5_takeNumber o x1 x2 S = some a → Ct l E yX5_takeNumber cX5_takeNumber 4 (some .int) rm_X5_takeNumber [vA (some o), vI x1, vI x2] S (some (vI a.1)) a.2 :=
  Ct_of (val := fun (b : Int32 × GS) => some (vI b.1)) (nxt := fun (b : Int32 × GS) => b.2) (by decide) (Nat.le_of_ble_eq_true rfl) (fun Γ hl hO => w_X5_takeNumber hO o x1 x2 S)
theorem d_X7_setLast_0 : gD cX7_setLast 0 (.aload_n 0) 1 1 := ⟨by decide +kernel, rfl⟩
theorem d_X7_setLast_1 : gD cX7_setLast 1 (.getfield 22) 3 4 := ⟨by decide +kernel, rfl⟩
theorem d_X7_setLast_4 : gD cX7_setLast 4 (.ifCond .le 34) 3 7 ∧ ((4 : Nat) : Int) + 34 = ((38 : Nat) : Int) := ⟨⟨by decide +kernel, rfl⟩, by decide⟩
theorem d_X7_setLast_7 : gD cX7_setLast 7 (.iload_n 1) 1 8 := ⟨by decide +kernel, rfl⟩
theorem d_X7_setLast_8 : gD cX7_setLast 8 (.ifCond .lt 30) 3 11 ∧ ((8 : Nat) : Int) + 30 = ((38 : Nat) : Int) := ⟨⟨by decide +kernel, rfl⟩, by decide⟩
theorem d_X7_setLast_11 : gD cX7_setLast 11 (.iload_n 1) 1 12 := ⟨by decide +kernel, rfl⟩
theorem d_X7_setLast_12 : gD cX7_setLast 12 (.aload_n 0) 1 13 := ⟨by decide +kernel, rfl⟩
theorem d_X7_setLast_13 : gD cX7_setLast 13 (.getfield 15) 3 16 := ⟨by decide +kernel, rfl⟩
theorem d_X7_setLast_16 : gD cX7_setLast 16 (.if_icmp .ge 22) 3 19 ∧ ((16 : Nat) : Int) + 22 = ((38 : Nat) : Int) := ⟨⟨by decide +kernel, rfl⟩, by decide⟩
theorem d_X7_setLast_19 : gD cX7_setLast 19 (.aload_n 0) 1 20 := ⟨by decide +kernel, rfl⟩
theorem d_X7_setLast_20 : gD cX7_setLast 20 (.getfield 18) 3 23 := ⟨by decide +kernel, rfl⟩
theorem d_X7_setLast_23 : gD cX7_setLast 23 (.aload_n 0) 1 24 := ⟨by decide +kernel, rfl⟩
theorem d_X7_setLast_24 : gD cX7_setLast 24 (.getfield 22) 3 27 := ⟨by decide +kernel, rfl⟩
theorem d_X7_setLast_27 : gD cX7_setLast 27 (.iconst 1) 1 28 := ⟨by decide +kernel, rfl⟩
theorem d_X7_setLast_28 : gD cX7_setLast 28 (.isub) 1 29 := ⟨by decide +kernel, rfl⟩
theorem d_X7_setLast_29 : gD cX7_setLast 29 (.aload_n 0) 1 30 := ⟨by decide +kernel, rfl⟩
theorem d_X7_setLast_30 : gD cX7_setLast 30 (.getfield 15) 3 33 := ⟨by decide +kernel, rfl⟩
theorem d_X7_setLast_33 : gD cX7_setLast 33 (.imul) 1 34 := ⟨by decide +kernel, rfl⟩
theorem d_X7_setLast_34 : gD cX7_setLast 34 (.iload_n 1) 1 35 := ⟨by decide +kernel, rfl⟩
theorem d_X7_setLast_35 : gD cX7_setLast 35 (.iadd) 1 36 := ⟨by decide +kernel, rfl⟩
theorem d_X7_setLast_36 : gD cX7_setLast 36 (.iload_n 2) 1 37 := ⟨by decide +kernel, rfl⟩
theorem d_X7_setLast_37 : gD cX7_setLast 37 (.iastore) 1 38 := ⟨by decide +kernel, rfl⟩
theorem d_X7_setLast_38 : gD cX7_setLast 38 (.return_) 1 39 := ⟨by decide +kernel, rfl⟩
abbrev rm_X7_setLast : Room := { frames := 0, cells := 0, slots := 0, locals := 0 }
set_option maxRecDepth 20000 in
theorem w_X7_setLast {Γ : GC} {E : GE} (hO : gOk Γ E cX7_setLast RX7 3 rm_X7_setLast none "setLast") (o : Nat) (x1 : Int32) (x2 : Int32) (S : GS) : Go Γ E (gBsV Γ E) 3 (0, 0) 0 S [(0, vA (some o)), (1, vI x1), (2, vI x2)] [] (f_X7_setLast o x1 x2 S) := by
  unfold f_X7_setLast
  refine g_aload_n hO d_X7_setLast_0 (by rfl) 0 rfl ?_
  refine h_getI hO cl_X7 3 rfl wf_X7_22 d_X7_setLast_1 (fun v1 => ?_)
  refine g_if_le (tgt := 38) hO d_X7_setLast_4.1 d_X7_setLast_4.2 (fun _ => ?_) (fun _ => ?_)
  · skip
    exact g_vret hO rfl ⟨Nat.le_of_ble_eq_true rfl, Nat.le_of_ble_eq_true rfl⟩ rfl rfl d_X7_setLast_38.1
  · skip
    refine g_iload_n hO d_X7_setLast_7 (by rfl) 1 rfl ?_
    refine g_if_lt (tgt := 38) hO d_X7_setLast_8.1 d_X7_setLast_8.2 (fun _ => ?_) (fun _ => ?_)
    · skip
      exact g_vret hO rfl ⟨Nat.le_of_ble_eq_true rfl, Nat.le_of_ble_eq_true rfl⟩ rfl rfl d_X7_setLast_38.1
    · skip
      refine g_iload_n hO d_X7_setLast_11 (by rfl) 1 rfl ?_
      refine g_aload_n hO d_X7_setLast_12 (by rfl) 0 rfl ?_
      refine h_getI hO cl_X7 1 rfl wf_X7_15 d_X7_setLast_13 (fun v2 => ?_)
      refine g_ic_ge (tgt := 38) hO d_X7_setLast_16.1 d_X7_setLast_16.2 (fun _ => ?_) (fun _ => ?_)
      · skip
        exact g_vret hO rfl ⟨Nat.le_of_ble_eq_true rfl, Nat.le_of_ble_eq_true rfl⟩ rfl rfl d_X7_setLast_38.1
      · skip
        refine g_aload_n hO d_X7_setLast_19 (by rfl) 0 rfl ?_
        refine h_getR hO cl_X7 2 rfl wf_X7_18 d_X7_setLast_20 (fun v3 => ?_)
        refine g_aload_n hO d_X7_setLast_23 (by rfl) 0 rfl ?_
        refine h_getI hO cl_X7 3 rfl wf_X7_22 d_X7_setLast_24 (fun v4 => ?_)
        refine g_iconst hO 1 d_X7_setLast_27 (by decide) ?_
        refine g_isub hO d_X7_setLast_28 ?_
        refine g_aload_n hO d_X7_setLast_29 (by rfl) 0 rfl ?_
        refine h_getI hO cl_X7 1 rfl wf_X7_15 d_X7_setLast_30 (fun v5 => ?_)
        refine g_imul hO d_X7_setLast_33 ?_
        refine g_iload_n hO d_X7_setLast_34 (by rfl) 1 rfl ?_
        refine g_iadd hO d_X7_setLast_35 ?_
        refine g_iload_n hO d_X7_setLast_36 (by rfl) 2 rfl ?_
        refine h_iast hO d_X7_setLast_37 (fun S6 => ?_)
        exact g_vret hO rfl ⟨Nat.le_of_ble_eq_true rfl, Nat.le_of_ble_eq_true rfl⟩ rfl rfl d_X7_setLast_38.1
theorem t_X7_setLast (l : Launch) (E : GE) (o : Nat) (x1 : Int32) (x2 : Int32) (S : GS) : ∀ a, f_X7_setLast o x1 x2 S = some a → Ct l E yX7_setLast cX7_setLast 3 none rm_X7_setLast [vA (some o), vI x1, vI x2] S none a :=
  Ct_of (val := fun _ => none) (nxt := fun b => b) (by decide) (Nat.le_of_ble_eq_true rfl) (fun Γ hl hO => w_X7_setLast hO o x1 x2 S)
theorem d_X7_hasInColumn_0 : gD cX7_hasInColumn 0 (.iconst 0) 1 1 := ⟨by decide +kernel, rfl⟩
theorem d_X7_hasInColumn_1 : gD cX7_hasInColumn 1 (.istore_n 3) 1 2 := ⟨by decide +kernel, rfl⟩
theorem d_X7_hasInColumn_2 : gD cX7_hasInColumn 2 (.iload_n 3) 1 3 := ⟨by decide +kernel, rfl⟩
theorem d_X7_hasInColumn_3 : gD cX7_hasInColumn 3 (.aload_n 0) 1 4 := ⟨by decide +kernel, rfl⟩
theorem d_X7_hasInColumn_4 : gD cX7_hasInColumn 4 (.getfield 22) 3 7 := ⟨by decide +kernel, rfl⟩
theorem d_X7_hasInColumn_7 : gD cX7_hasInColumn 7 (.if_icmp .ge 21) 3 10 ∧ ((7 : Nat) : Int) + 21 = ((28 : Nat) : Int) := ⟨⟨by decide +kernel, rfl⟩, by decide⟩
theorem d_X7_hasInColumn_10 : gD cX7_hasInColumn 10 (.aload_n 0) 1 11 := ⟨by decide +kernel, rfl⟩
theorem d_X7_hasInColumn_11 : gD cX7_hasInColumn 11 (.iload_n 3) 1 12 := ⟨by decide +kernel, rfl⟩
theorem d_X7_hasInColumn_12 : gD cX7_hasInColumn 12 (.iload_n 1) 1 13 := ⟨by decide +kernel, rfl⟩
theorem d_X7_hasInColumn_13 : gD cX7_hasInColumn 13 (.invokevirtual 25) 3 16 := ⟨by decide +kernel, rfl⟩
theorem d_X7_hasInColumn_16 : gD cX7_hasInColumn 16 (.iload_n 2) 1 17 := ⟨by decide +kernel, rfl⟩
theorem d_X7_hasInColumn_17 : gD cX7_hasInColumn 17 (.if_icmp .ne 5) 3 20 ∧ ((17 : Nat) : Int) + 5 = ((22 : Nat) : Int) := ⟨⟨by decide +kernel, rfl⟩, by decide⟩
theorem d_X7_hasInColumn_20 : gD cX7_hasInColumn 20 (.iconst 1) 1 21 := ⟨by decide +kernel, rfl⟩
theorem d_X7_hasInColumn_21 : gD cX7_hasInColumn 21 (.ireturn) 1 22 := ⟨by decide +kernel, rfl⟩
theorem d_X7_hasInColumn_22 : gD cX7_hasInColumn 22 (.iinc 3 1) 3 25 := ⟨by decide +kernel, rfl⟩
theorem d_X7_hasInColumn_25 : decode cX7_hasInColumn 25 = .ok (.goto (-23), 3) ∧ ((25 : Nat) : Int) + (-23) = ((2 : Nat) : Int) := ⟨by decide +kernel, by decide⟩
theorem d_X7_hasInColumn_28 : gD cX7_hasInColumn 28 (.iconst 0) 1 29 := ⟨by decide +kernel, rfl⟩
theorem d_X7_hasInColumn_29 : gD cX7_hasInColumn 29 (.ireturn) 1 30 := ⟨by decide +kernel, rfl⟩
abbrev rm_X7_hasInColumn : Room := { frames := 1, cells := 0, slots := 0, locals := 22 }
set_option maxRecDepth 20000 in
theorem w_X7_hasInColumn_2 {Γ : GC} {E : GE} (hO : gOk Γ E cX7_hasInColumn RX7 4 rm_X7_hasInColumn (some .boolean) "hasInColumn") (o : Nat) (S : GS) : ∀ (n : Nat) (x1 : Int32) (x2 : Int32) (x3 : Int32), Go Γ E (gBpI Γ E S) 4 (0, 0) 2 S [(0, vA (some o)), (1, vI x1), (2, vI x2), (3, vI x3)] [] (f_X7_hasInColumn_2 o S n x1 x2 x3) := by
  intro n
  induction n with
  | zero =>
    intro x1 x2 x3
    exact g_none
  | succ n ih =>
    intro x1 x2 x3
    rw [f_X7_hasInColumn_2]
    refine g_iload_n hO d_X7_hasInColumn_2 (by rfl) 3 rfl ?_
    refine g_aload_n hO d_X7_hasInColumn_3 (by rfl) 0 rfl ?_
    refine h_getI hO cl_X7 3 rfl wf_X7_22 d_X7_hasInColumn_4 (fun v1 => ?_)
    refine g_ic_ge (tgt := 28) hO d_X7_hasInColumn_7.1 d_X7_hasInColumn_7.2 (fun _ => ?_) (fun _ => ?_)
    · skip
      refine g_iconst hO 0 d_X7_hasInColumn_28 (by decide) ?_
      exact g_ret hO rfl rfl ⟨Nat.le_of_ble_eq_true rfl, Nat.le_of_ble_eq_true rfl⟩ rfl rfl d_X7_hasInColumn_29.1
    · skip
      refine g_aload_n hO d_X7_hasInColumn_10 (by rfl) 0 rfl ?_
      refine g_iload_n hO d_X7_hasInColumn_11 (by rfl) 3 rfl ?_
      refine g_iload_n hO d_X7_hasInColumn_12 (by rfl) 1 rfl ?_
      refine k_virtIp hO cl_X7 mm_X7_cell lkV_X7_25 ⟨⟨Nat.le_of_ble_eq_true rfl, Nat.le_of_ble_eq_true rfl⟩, Nat.le_of_ble_eq_true rfl, Nat.le_of_ble_eq_true rfl⟩ (kn' := (0, 0)) rfl (As := [vI x3, vI x1]) rfl (Nat.le_of_ble_eq_true rfl) (fun o' _ => t_X7_cell Γ.2.1 E o' x3 x1 S) d_X7_hasInColumn_13 rfl (fun v2 => ?_)
      refine g_iload_n hO d_X7_hasInColumn_16 (by rfl) 2 rfl ?_
      refine g_ic_ne (tgt := 22) hO d_X7_hasInColumn_17.1 d_X7_hasInColumn_17.2 (fun _ => ?_) (fun _ => ?_)
      · skip
        refine g_iconst hO 1 d_X7_hasInColumn_20 (by decide) ?_
        exact g_ret hO rfl rfl ⟨Nat.le_of_ble_eq_true rfl, Nat.le_of_ble_eq_true rfl⟩ rfl rfl d_X7_hasInColumn_21.1
      · skip
        refine g_iinc (lv' := [(3, vI (x3 + 1)), (0, vA (some o)), (1, vI x1), (2, vI x2)]) hO 1 d_X7_hasInColumn_22 (by decide) 3 rfl (by decide) rfl ?_
        refine g_goto (tgt := 2) hO d_X7_hasInColumn_25.1 d_X7_hasInColumn_25.2 ?_
        exact g_sub [1, 2, 3, 0] rfl (ih _ _ _)
set_option maxRecDepth 20000 in
theorem w_X7_hasInColumn {Γ : GC} {E : GE} (hO : gOk Γ E cX7_hasInColumn RX7 4 rm_X7_hasInColumn (some .boolean) "hasInColumn") (o : Nat) (x1 : Int32) (x2 : Int32) (S : GS) : Go Γ E (gBpI Γ E S) 4 (0, 0) 0 S [(0, vA (some o)), (1, vI x1), (2, vI x2)] [] (f_X7_hasInColumn o x1 x2 S) := by
  unfold f_X7_hasInColumn
  refine g_iconst hO 0 d_X7_hasInColumn_0 (by decide) ?_
  refine g_istore_n (lv' := [(3, vI 0), (0, vA (some o)), (1, vI x1), (2, vI x2)]) hO d_X7_hasInColumn_1 (by rfl) (by decide) rfl ?_
  exact g_sub [1, 2, 3, 0] rfl (w_X7_hasInColumn_2 hO o _ _ _ _ _)
theorem t_X7_hasInColumn (l : Launch) (E : GE) (o : Nat) (x1 : Int32) (x2 : Int32) (S : GS) : ∀ a, f_X7_hasInColumn o x1 x2 S = some a → Ct l E yX7_hasInColumn cX7_hasInColumn 4 (some .boolean) rm_X7_hasInColumn [vA (some o), vI x1, vI x2] S (some (vI a)) S :=
  Ct_of (val := fun b => some (vI b)) (nxt := fun _ => S) (by decide) (Nat.le_of_ble_eq_true rfl) (fun Γ hl hO => w_X7_hasInColumn hO o x1 x2 S)
theorem d_X5_readProper_0 : gD cX5_readProper 0 (.aload_n 0) 1 1 := ⟨by decide +kernel, rfl⟩
theorem d_X5_readProper_1 : gD cX5_readProper 1 (.aload_n 0) 1 2 := ⟨by decide +kernel, rfl⟩
theorem d_X5_readProper_2 : gD cX5_readProper 2 (.getfield 18) 3 5 := ⟨by decide +kernel, rfl⟩
theorem d_X5_readProper_5 : gD cX5_readProper 5 (.getfield 161) 3 8 := ⟨by decide +kernel, rfl⟩
theorem d_X5_readProper_8 : gD cX5_readProper 8 (.invokevirtual 138) 3 11 := ⟨by decide +kernel, rfl⟩
theorem d_X5_readProper_11 : gD cX5_readProper 11 (.aload_n 0) 1 12 := ⟨by decide +kernel, rfl⟩
theorem d_X5_readProper_12 : gD cX5_readProper 12 (.getfield 51) 3 15 := ⟨by decide +kernel, rfl⟩
theorem d_X5_readProper_15 : gD cX5_readProper 15 (.iconst 2) 1 16 := ⟨by decide +kernel, rfl⟩
theorem d_X5_readProper_16 : gD cX5_readProper 16 (.if_icmp .ne 30) 3 19 ∧ ((16 : Nat) : Int) + 30 = ((46 : Nat) : Int) := ⟨⟨by decide +kernel, rfl⟩, by decide⟩
theorem d_X5_readProper_19 : gD cX5_readProper 19 (.aload_n 0) 1 20 := ⟨by decide +kernel, rfl⟩
theorem d_X5_readProper_20 : gD cX5_readProper 20 (.getfield 18) 3 23 := ⟨by decide +kernel, rfl⟩
theorem d_X5_readProper_23 : gD cX5_readProper 23 (.getfield 161) 3 26 := ⟨by decide +kernel, rfl⟩
theorem d_X5_readProper_26 : gD cX5_readProper 26 (.iconst 0) 1 27 := ⟨by decide +kernel, rfl⟩
theorem d_X5_readProper_27 : gD cX5_readProper 27 (.aload_n 0) 1 28 := ⟨by decide +kernel, rfl⟩
theorem d_X5_readProper_28 : gD cX5_readProper 28 (.invokevirtual 164) 3 31 := ⟨by decide +kernel, rfl⟩
theorem d_X5_readProper_31 : gD cX5_readProper 31 (.invokevirtual 167) 3 34 := ⟨by decide +kernel, rfl⟩
theorem d_X5_readProper_34 : gD cX5_readProper 34 (.ifCond .eq 12) 3 37 ∧ ((34 : Nat) : Int) + 12 = ((46 : Nat) : Int) := ⟨⟨by decide +kernel, rfl⟩, by decide⟩
theorem d_X5_readProper_37 : gD cX5_readProper 37 (.aload_n 0) 1 38 := ⟨by decide +kernel, rfl⟩
theorem d_X5_readProper_38 : gD cX5_readProper 38 (.iconst 2) 1 39 := ⟨by decide +kernel, rfl⟩
theorem d_X5_readProper_39 : gD cX5_readProper 39 (.aload_n 0) 1 40 := ⟨by decide +kernel, rfl⟩
theorem d_X5_readProper_40 : gD cX5_readProper 40 (.getfield 171) 3 43 := ⟨by decide +kernel, rfl⟩
theorem d_X5_readProper_43 : gD cX5_readProper 43 (.invokevirtual 90) 3 46 := ⟨by decide +kernel, rfl⟩
theorem d_X5_readProper_46 : gD cX5_readProper 46 (.aload_n 0) 1 47 := ⟨by decide +kernel, rfl⟩
theorem d_X5_readProper_47 : gD cX5_readProper 47 (.getfield 18) 3 50 := ⟨by decide +kernel, rfl⟩
theorem d_X5_readProper_50 : gD cX5_readProper 50 (.getfield 161) 3 53 := ⟨by decide +kernel, rfl⟩
theorem d_X5_readProper_53 : gD cX5_readProper 53 (.iconst 0) 1 54 := ⟨by decide +kernel, rfl⟩
theorem d_X5_readProper_54 : gD cX5_readProper 54 (.aload_n 0) 1 55 := ⟨by decide +kernel, rfl⟩
theorem d_X5_readProper_55 : gD cX5_readProper 55 (.iconst 0) 1 56 := ⟨by decide +kernel, rfl⟩
theorem d_X5_readProper_56 : gD cX5_readProper 56 (.bipush 40) 2 58 := ⟨by decide +kernel, rfl⟩
theorem d_X5_readProper_58 : gD cX5_readProper 58 (.invokevirtual 142) 3 61 := ⟨by decide +kernel, rfl⟩
theorem d_X5_readProper_61 : gD cX5_readProper 61 (.invokevirtual 145) 3 64 := ⟨by decide +kernel, rfl⟩
theorem d_X5_readProper_64 : gD cX5_readProper 64 (.aload_n 0) 1 65 := ⟨by decide +kernel, rfl⟩
theorem d_X5_readProper_65 : gD cX5_readProper 65 (.getfield 18) 3 68 := ⟨by decide +kernel, rfl⟩
theorem d_X5_readProper_68 : gD cX5_readProper 68 (.getfield 161) 3 71 := ⟨by decide +kernel, rfl⟩
theorem d_X5_readProper_71 : gD cX5_readProper 71 (.iconst 1) 1 72 := ⟨by decide +kernel, rfl⟩
theorem d_X5_readProper_72 : gD cX5_readProper 72 (.aload_n 0) 1 73 := ⟨by decide +kernel, rfl⟩
theorem d_X5_readProper_73 : gD cX5_readProper 73 (.iconst 0) 1 74 := ⟨by decide +kernel, rfl⟩
theorem d_X5_readProper_74 : gD cX5_readProper 74 (.bipush 30) 2 76 := ⟨by decide +kernel, rfl⟩
theorem d_X5_readProper_76 : gD cX5_readProper 76 (.invokevirtual 142) 3 79 := ⟨by decide +kernel, rfl⟩
theorem d_X5_readProper_79 : gD cX5_readProper 79 (.invokevirtual 145) 3 82 := ⟨by decide +kernel, rfl⟩
theorem d_X5_readProper_82 : gD cX5_readProper 82 (.return_) 1 83 := ⟨by decide +kernel, rfl⟩
abbrev rm_X5_readProper : Room := { frames := 3, cells := 0, slots := 0, locals := 66 }
set_option maxRecDepth 20000 in
theorem w_X5_readProper_46 {Γ : GC} {E : GE} (hO : gOk Γ E cX5_readProper RX5 1 rm_X5_readProper none "readProper") (o : Nat) (S : GS) : Go Γ E (gBsV Γ E) 1 (0, 0) 46 S [(0, vA (some o))] [] (f_X5_readProper_46 o S) := by
  unfold f_X5_readProper_46
  refine g_aload_n hO d_X5_readProper_46 (by rfl) 0 rfl ?_
  refine h_getR hO cl_X5 1 rfl wf_X5_18 d_X5_readProper_47 (fun v1 => ?_)
  refine h_getR hO cl_X0 2 rfl wf_X5_161 d_X5_readProper_50 (fun v2 => ?_)
  refine g_iconst hO 0 d_X5_readProper_53 (by decide) ?_
  refine g_aload_n hO d_X5_readProper_54 (by rfl) 0 rfl ?_
  refine g_iconst hO 0 d_X5_readProper_55 (by decide) ?_
  refine g_bipush hO 40 d_X5_readProper_56 (by decide) ?_
  refine k_virtIs hO cl_X5 mm_X5_takeNumber lkV_X5_142 ⟨⟨Nat.le_of_ble_eq_true rfl, Nat.le_of_ble_eq_true rfl⟩, Nat.le_of_ble_eq_true rfl, Nat.le_of_ble_eq_true rfl⟩ (kn' := (0, 0)) rfl (As := [vI 0, vI 40]) rfl (Nat.le_of_ble_eq_true rfl) (fun o' _ => t_X5_takeNumber Γ.2.1 E o' 0 40 S) d_X5_readProper_58 rfl (fun v3 S4 => ?_)
  refine k_virtVs hO cl_X7 mm_X7_setLast lkV_X5_145 ⟨⟨Nat.le_of_ble_eq_true rfl, Nat.le_of_ble_eq_true rfl⟩, Nat.le_of_ble_eq_true rfl, Nat.le_of_ble_eq_true rfl⟩ (kn' := (0, 0)) rfl (As := [vI 0, vI v3]) rfl (Nat.le_of_ble_eq_true rfl) (fun o' _ => t_X7_setLast Γ.2.1 E o' 0 v3 S4) d_X5_readProper_61 rfl (fun S6 => ?_)
  refine g_aload_n hO d_X5_readProper_64 (by rfl) 0 rfl ?_
  refine h_getR hO cl_X5 1 rfl wf_X5_18 d_X5_readProper_65 (fun v7 => ?_)
  refine h_getR hO cl_X0 2 rfl wf_X5_161 d_X5_readProper_68 (fun v8 => ?_)
  refine g_iconst hO 1 d_X5_readProper_71 (by decide) ?_
  refine g_aload_n hO d_X5_readProper_72 (by rfl) 0 rfl ?_
  refine g_iconst hO 0 d_X5_readProper_73 (by decide) ?_
  refine g_bipush hO 30 d_X5_readProper_74 (by decide) ?_
  refine k_virtIs hO cl_X5 mm_X5_takeNumber lkV_X5_142 ⟨⟨Nat.le_of_ble_eq_true rfl, Nat.le_of_ble_eq_true rfl⟩, Nat.le_of_ble_eq_true rfl, Nat.le_of_ble_eq_true rfl⟩ (kn' := (0, 0)) rfl (As := [vI 0, vI 30]) rfl (Nat.le_of_ble_eq_true rfl) (fun o' _ => t_X5_takeNumber Γ.2.1 E o' 0 30 S6) d_X5_readProper_76 rfl (fun v9 S10 => ?_)
  refine k_virtVs hO cl_X7 mm_X7_setLast lkV_X5_145 ⟨⟨Nat.le_of_ble_eq_true rfl, Nat.le_of_ble_eq_true rfl⟩, Nat.le_of_ble_eq_true rfl, Nat.le_of_ble_eq_true rfl⟩ (kn' := (0, 0)) rfl (As := [vI 1, vI v9]) rfl (Nat.le_of_ble_eq_true rfl) (fun o' _ => t_X7_setLast Γ.2.1 E o' 1 v9 S10) d_X5_readProper_79 rfl (fun S12 => ?_)
  exact g_vret hO rfl ⟨Nat.le_of_ble_eq_true rfl, Nat.le_of_ble_eq_true rfl⟩ rfl rfl d_X5_readProper_82.1
set_option maxRecDepth 20000 in
theorem w_X5_readProper {Γ : GC} {E : GE} (hO : gOk Γ E cX5_readProper RX5 1 rm_X5_readProper none "readProper") (o : Nat) (S : GS) : Go Γ E (gBsV Γ E) 1 (0, 0) 0 S [(0, vA (some o))] [] (f_X5_readProper o S) := by
  unfold f_X5_readProper
  refine g_aload_n hO d_X5_readProper_0 (by rfl) 0 rfl ?_
  refine g_aload_n hO d_X5_readProper_1 (by rfl) 0 rfl ?_
  refine h_getR hO cl_X5 1 rfl wf_X5_18 d_X5_readProper_2 (fun v1 => ?_)
  refine h_getR hO cl_X0 2 rfl wf_X5_161 d_X5_readProper_5 (fun v2 => ?_)
  refine k_virtVs hO cl_X5 mm_X5_openLine lkV_X5_138 ⟨⟨Nat.le_of_ble_eq_true rfl, Nat.le_of_ble_eq_true rfl⟩, Nat.le_of_ble_eq_true rfl, Nat.le_of_ble_eq_true rfl⟩ (kn' := (0, 0)) rfl (As := [vA v2]) rfl (Nat.le_of_ble_eq_true rfl) (fun o' _ => t_X5_openLine Γ.2.1 E o' v2 S) d_X5_readProper_8 rfl (fun S4 => ?_)
  refine g_aload_n hO d_X5_readProper_11 (by rfl) 0 rfl ?_
  refine h_getI hO cl_X5 8 rfl wf_X5_51 d_X5_readProper_12 (fun v5 => ?_)
  refine g_iconst hO 2 d_X5_readProper_15 (by decide) ?_
  refine g_ic_ne (tgt := 46) hO d_X5_readProper_16.1 d_X5_readProper_16.2 (fun _ => ?_) (fun _ => ?_)
  · skip
    refine g_aload_n hO d_X5_readProper_19 (by rfl) 0 rfl ?_
    refine h_getR hO cl_X5 1 rfl wf_X5_18 d_X5_readProper_20 (fun v6 => ?_)
    refine h_getR hO cl_X0 2 rfl wf_X5_161 d_X5_readProper_23 (fun v7 => ?_)
    refine g_iconst hO 0 d_X5_readProper_26 (by decide) ?_
    refine g_aload_n hO d_X5_readProper_27 (by rfl) 0 rfl ?_
    refine k_virtIp hO cl_X5 mm_X5_tokenValue lkV_X5_164 ⟨⟨Nat.le_of_ble_eq_true rfl, Nat.le_of_ble_eq_true rfl⟩, Nat.le_of_ble_eq_true rfl, Nat.le_of_ble_eq_true rfl⟩ (kn' := (0, 0)) rfl (As := []) rfl (Nat.le_of_ble_eq_true rfl) (fun o' _ => t_X5_tokenValue Γ.2.1 E o' S4) d_X5_readProper_28 rfl (fun v8 => ?_)
    refine k_virtIp hO cl_X7 mm_X7_hasInColumn lkV_X5_167 ⟨⟨Nat.le_of_ble_eq_true rfl, Nat.le_of_ble_eq_true rfl⟩, Nat.le_of_ble_eq_true rfl, Nat.le_of_ble_eq_true rfl⟩ (kn' := (0, 0)) rfl (As := [vI 0, vI v8]) rfl (Nat.le_of_ble_eq_true rfl) (fun o' _ => t_X7_hasInColumn Γ.2.1 E o' 0 v8 S4) d_X5_readProper_31 rfl (fun v10 => ?_)
    refine g_if_eq (tgt := 46) hO d_X5_readProper_34.1 d_X5_readProper_34.2 (fun _ => ?_) (fun _ => ?_)
    · skip
      exact g_sub [0] rfl (w_X5_readProper_46 hO o _)
    · skip
      refine g_aload_n hO d_X5_readProper_37 (by rfl) 0 rfl ?_
      refine g_iconst hO 2 d_X5_readProper_38 (by decide) ?_
      refine g_aload_n hO d_X5_readProper_39 (by rfl) 0 rfl ?_
      refine h_getI hO cl_X5 9 rfl wf_X5_171 d_X5_readProper_40 (fun v12 => ?_)
      refine k_virtVs hO cl_X5 mm_X5_noteFault lkV_X5_90 ⟨⟨Nat.le_of_ble_eq_true rfl, Nat.le_of_ble_eq_true rfl⟩, Nat.le_of_ble_eq_true rfl, Nat.le_of_ble_eq_true rfl⟩ (kn' := (0, 0)) rfl (As := [vI 2, vI v12]) rfl (Nat.le_of_ble_eq_true rfl) (fun o' _ => t_X5_noteFault Γ.2.1 E o' 2 v12 S4) d_X5_readProper_43 rfl (fun S14 => ?_)
      exact g_sub [0] rfl (w_X5_readProper_46 hO o _)
  · skip
    exact g_sub [0] rfl (w_X5_readProper_46 hO o _)
theorem t_X5_readProper (l : Launch) (E : GE) (o : Nat) (S : GS) : ∀ a, f_X5_readProper o S = some a → Ct l E yX5_readProper cX5_readProper 1 none rm_X5_readProper [vA (some o)] S none a :=
  Ct_of (val := fun _ => none) (nxt := fun b => b) (by decide) (Nat.le_of_ble_eq_true rfl) (fun Γ hl hO => w_X5_readProper hO o S)
theorem d_X5_readCourtSetting_0 : gD cX5_readCourtSetting 0 (.aload_n 0) 1 1 := ⟨by decide +kernel, rfl⟩
theorem d_X5_readCourtSetting_1 : gD cX5_readCourtSetting 1 (.ldc 174) 2 3 := ⟨by decide +kernel, rfl⟩
theorem d_X5_readCourtSetting_3 : gD cX5_readCourtSetting 3 (.invokevirtual 131) 3 6 := ⟨by decide +kernel, rfl⟩
theorem d_X5_readCourtSetting_6 : gD cX5_readCourtSetting 6 (.ifCond .eq 24) 3 9 ∧ ((6 : Nat) : Int) + 24 = ((30 : Nat) : Int) := ⟨⟨by decide +kernel, rfl⟩, by decide⟩
theorem d_X5_readCourtSetting_9 : gD cX5_readCourtSetting 9 (.aload_n 0) 1 10 := ⟨by decide +kernel, rfl⟩
theorem d_X5_readCourtSetting_10 : gD cX5_readCourtSetting 10 (.invokevirtual 126) 3 13 := ⟨by decide +kernel, rfl⟩
theorem d_X5_readCourtSetting_13 : gD cX5_readCourtSetting 13 (.aload_n 0) 1 14 := ⟨by decide +kernel, rfl⟩
theorem d_X5_readCourtSetting_14 : gD cX5_readCourtSetting 14 (.getfield 18) 3 17 := ⟨by decide +kernel, rfl⟩
theorem d_X5_readCourtSetting_17 : gD cX5_readCourtSetting 17 (.aload_n 0) 1 18 := ⟨by decide +kernel, rfl⟩
theorem d_X5_readCourtSetting_18 : gD cX5_readCourtSetting 18 (.iconst 0) 1 19 := ⟨by decide +kernel, rfl⟩
theorem d_X5_readCourtSetting_19 : gD cX5_readCourtSetting 19 (.bipush 9) 2 21 := ⟨by decide +kernel, rfl⟩
theorem d_X5_readCourtSetting_21 : gD cX5_readCourtSetting 21 (.invokevirtual 142) 3 24 := ⟨by decide +kernel, rfl⟩
theorem d_X5_readCourtSetting_24 : gD cX5_readCourtSetting 24 (.putfield 176) 3 27 := ⟨by decide +kernel, rfl⟩
theorem d_X5_readCourtSetting_27 : decode cX5_readCourtSetting 27 = .ok (.goto 131, 3) ∧ ((27 : Nat) : Int) + 131 = ((158 : Nat) : Int) := ⟨by decide +kernel, by decide⟩
theorem d_X5_readCourtSetting_30 : gD cX5_readCourtSetting 30 (.aload_n 0) 1 31 := ⟨by decide +kernel, rfl⟩
theorem d_X5_readCourtSetting_31 : gD cX5_readCourtSetting 31 (.ldc 178) 2 33 := ⟨by decide +kernel, rfl⟩
theorem d_X5_readCourtSetting_33 : gD cX5_readCourtSetting 33 (.invokevirtual 131) 3 36 := ⟨by decide +kernel, rfl⟩
theorem d_X5_readCourtSetting_36 : gD cX5_readCourtSetting 36 (.ifCond .eq 24) 3 39 ∧ ((36 : Nat) : Int) + 24 = ((60 : Nat) : Int) := ⟨⟨by decide +kernel, rfl⟩, by decide⟩
theorem d_X5_readCourtSetting_39 : gD cX5_readCourtSetting 39 (.aload_n 0) 1 40 := ⟨by decide +kernel, rfl⟩
theorem d_X5_readCourtSetting_40 : gD cX5_readCourtSetting 40 (.invokevirtual 126) 3 43 := ⟨by decide +kernel, rfl⟩
theorem d_X5_readCourtSetting_43 : gD cX5_readCourtSetting 43 (.aload_n 0) 1 44 := ⟨by decide +kernel, rfl⟩
theorem d_X5_readCourtSetting_44 : gD cX5_readCourtSetting 44 (.getfield 18) 3 47 := ⟨by decide +kernel, rfl⟩
theorem d_X5_readCourtSetting_47 : gD cX5_readCourtSetting 47 (.aload_n 0) 1 48 := ⟨by decide +kernel, rfl⟩
theorem d_X5_readCourtSetting_48 : gD cX5_readCourtSetting 48 (.iconst 1) 1 49 := ⟨by decide +kernel, rfl⟩
theorem d_X5_readCourtSetting_49 : gD cX5_readCourtSetting 49 (.bipush 9) 2 51 := ⟨by decide +kernel, rfl⟩
theorem d_X5_readCourtSetting_51 : gD cX5_readCourtSetting 51 (.invokevirtual 142) 3 54 := ⟨by decide +kernel, rfl⟩
theorem d_X5_readCourtSetting_54 : gD cX5_readCourtSetting 54 (.putfield 180) 3 57 := ⟨by decide +kernel, rfl⟩
theorem d_X5_readCourtSetting_57 : decode cX5_readCourtSetting 57 = .ok (.goto 101, 3) ∧ ((57 : Nat) : Int) + 101 = ((158 : Nat) : Int) := ⟨by decide +kernel, by decide⟩
theorem d_X5_readCourtSetting_60 : gD cX5_readCourtSetting 60 (.aload_n 0) 1 61 := ⟨by decide +kernel, rfl⟩
theorem d_X5_readCourtSetting_61 : gD cX5_readCourtSetting 61 (.ldc 182) 2 63 := ⟨by decide +kernel, rfl⟩
theorem d_X5_readCourtSetting_63 : gD cX5_readCourtSetting 63 (.invokevirtual 131) 3 66 := ⟨by decide +kernel, rfl⟩
theorem d_X5_readCourtSetting_66 : gD cX5_readCourtSetting 66 (.ifCond .eq 24) 3 69 ∧ ((66 : Nat) : Int) + 24 = ((90 : Nat) : Int) := ⟨⟨by decide +kernel, rfl⟩, by decide⟩
theorem d_X5_readCourtSetting_69 : gD cX5_readCourtSetting 69 (.aload_n 0) 1 70 := ⟨by decide +kernel, rfl⟩
theorem d_X5_readCourtSetting_70 : gD cX5_readCourtSetting 70 (.invokevirtual 126) 3 73 := ⟨by decide +kernel, rfl⟩
theorem d_X5_readCourtSetting_73 : gD cX5_readCourtSetting 73 (.aload_n 0) 1 74 := ⟨by decide +kernel, rfl⟩
theorem d_X5_readCourtSetting_74 : gD cX5_readCourtSetting 74 (.getfield 18) 3 77 := ⟨by decide +kernel, rfl⟩
theorem d_X5_readCourtSetting_77 : gD cX5_readCourtSetting 77 (.aload_n 0) 1 78 := ⟨by decide +kernel, rfl⟩
theorem d_X5_readCourtSetting_78 : gD cX5_readCourtSetting 78 (.iconst 0) 1 79 := ⟨by decide +kernel, rfl⟩
theorem d_X5_readCourtSetting_79 : gD cX5_readCourtSetting 79 (.bipush 40) 2 81 := ⟨by decide +kernel, rfl⟩
theorem d_X5_readCourtSetting_81 : gD cX5_readCourtSetting 81 (.invokevirtual 142) 3 84 := ⟨by decide +kernel, rfl⟩
theorem d_X5_readCourtSetting_84 : gD cX5_readCourtSetting 84 (.putfield 184) 3 87 := ⟨by decide +kernel, rfl⟩
theorem d_X5_readCourtSetting_87 : decode cX5_readCourtSetting 87 = .ok (.goto 71, 3) ∧ ((87 : Nat) : Int) + 71 = ((158 : Nat) : Int) := ⟨by decide +kernel, by decide⟩
theorem d_X5_readCourtSetting_90 : gD cX5_readCourtSetting 90 (.aload_n 0) 1 91 := ⟨by decide +kernel, rfl⟩
theorem d_X5_readCourtSetting_91 : gD cX5_readCourtSetting 91 (.ldc 186) 2 93 := ⟨by decide +kernel, rfl⟩
theorem d_X5_readCourtSetting_93 : gD cX5_readCourtSetting 93 (.invokevirtual 131) 3 96 := ⟨by decide +kernel, rfl⟩
theorem d_X5_readCourtSetting_96 : gD cX5_readCourtSetting 96 (.ifCond .eq 58) 3 99 ∧ ((96 : Nat) : Int) + 58 = ((154 : Nat) : Int) := ⟨⟨by decide +kernel, rfl⟩, by decide⟩
theorem d_X5_readCourtSetting_99 : gD cX5_readCourtSetting 99 (.aload_n 0) 1 100 := ⟨by decide +kernel, rfl⟩
theorem d_X5_readCourtSetting_100 : gD cX5_readCourtSetting 100 (.invokevirtual 126) 3 103 := ⟨by decide +kernel, rfl⟩
theorem d_X5_readCourtSetting_103 : gD cX5_readCourtSetting 103 (.aload_n 0) 1 104 := ⟨by decide +kernel, rfl⟩
theorem d_X5_readCourtSetting_104 : gD cX5_readCourtSetting 104 (.getfield 18) 3 107 := ⟨by decide +kernel, rfl⟩
theorem d_X5_readCourtSetting_107 : gD cX5_readCourtSetting 107 (.getfield 188) 3 110 := ⟨by decide +kernel, rfl⟩
theorem d_X5_readCourtSetting_110 : gD cX5_readCourtSetting 110 (.iconst 0) 1 111 := ⟨by decide +kernel, rfl⟩
theorem d_X5_readCourtSetting_111 : gD cX5_readCourtSetting 111 (.aload_n 0) 1 112 := ⟨by decide +kernel, rfl⟩
theorem d_X5_readCourtSetting_112 : gD cX5_readCourtSetting 112 (.iconst 0) 1 113 := ⟨by decide +kernel, rfl⟩
theorem d_X5_readCourtSetting_113 : gD cX5_readCourtSetting 113 (.bipush 9) 2 115 := ⟨by decide +kernel, rfl⟩
theorem d_X5_readCourtSetting_115 : gD cX5_readCourtSetting 115 (.invokevirtual 142) 3 118 := ⟨by decide +kernel, rfl⟩
theorem d_X5_readCourtSetting_118 : gD cX5_readCourtSetting 118 (.iastore) 1 119 := ⟨by decide +kernel, rfl⟩
theorem d_X5_readCourtSetting_119 : gD cX5_readCourtSetting 119 (.aload_n 0) 1 120 := ⟨by decide +kernel, rfl⟩
theorem d_X5_readCourtSetting_120 : gD cX5_readCourtSetting 120 (.getfield 18) 3 123 := ⟨by decide +kernel, rfl⟩
theorem d_X5_readCourtSetting_123 : gD cX5_readCourtSetting 123 (.getfield 188) 3 126 := ⟨by decide +kernel, rfl⟩
theorem d_X5_readCourtSetting_126 : gD cX5_readCourtSetting 126 (.iconst 1) 1 127 := ⟨by decide +kernel, rfl⟩
theorem d_X5_readCourtSetting_127 : gD cX5_readCourtSetting 127 (.aload_n 0) 1 128 := ⟨by decide +kernel, rfl⟩
theorem d_X5_readCourtSetting_128 : gD cX5_readCourtSetting 128 (.iconst 0) 1 129 := ⟨by decide +kernel, rfl⟩
theorem d_X5_readCourtSetting_129 : gD cX5_readCourtSetting 129 (.bipush 9) 2 131 := ⟨by decide +kernel, rfl⟩
theorem d_X5_readCourtSetting_131 : gD cX5_readCourtSetting 131 (.invokevirtual 142) 3 134 := ⟨by decide +kernel, rfl⟩
theorem d_X5_readCourtSetting_134 : gD cX5_readCourtSetting 134 (.iastore) 1 135 := ⟨by decide +kernel, rfl⟩
theorem d_X5_readCourtSetting_135 : gD cX5_readCourtSetting 135 (.aload_n 0) 1 136 := ⟨by decide +kernel, rfl⟩
theorem d_X5_readCourtSetting_136 : gD cX5_readCourtSetting 136 (.getfield 18) 3 139 := ⟨by decide +kernel, rfl⟩
theorem d_X5_readCourtSetting_139 : gD cX5_readCourtSetting 139 (.getfield 188) 3 142 := ⟨by decide +kernel, rfl⟩
theorem d_X5_readCourtSetting_142 : gD cX5_readCourtSetting 142 (.iconst 2) 1 143 := ⟨by decide +kernel, rfl⟩
theorem d_X5_readCourtSetting_143 : gD cX5_readCourtSetting 143 (.aload_n 0) 1 144 := ⟨by decide +kernel, rfl⟩
theorem d_X5_readCourtSetting_144 : gD cX5_readCourtSetting 144 (.iconst 0) 1 145 := ⟨by decide +kernel, rfl⟩
theorem d_X5_readCourtSetting_145 : gD cX5_readCourtSetting 145 (.bipush 9) 2 147 := ⟨by decide +kernel, rfl⟩
theorem d_X5_readCourtSetting_147 : gD cX5_readCourtSetting 147 (.invokevirtual 142) 3 150 := ⟨by decide +kernel, rfl⟩
theorem d_X5_readCourtSetting_150 : gD cX5_readCourtSetting 150 (.iastore) 1 151 := ⟨by decide +kernel, rfl⟩
theorem d_X5_readCourtSetting_151 : decode cX5_readCourtSetting 151 = .ok (.goto 7, 3) ∧ ((151 : Nat) : Int) + 7 = ((158 : Nat) : Int) := ⟨by decide +kernel, by decide⟩
theorem d_X5_readCourtSetting_154 : gD cX5_readCourtSetting 154 (.aload_n 0) 1 155 := ⟨by decide +kernel, rfl⟩
theorem d_X5_readCourtSetting_155 : gD cX5_readCourtSetting 155 (.invokevirtual 191) 3 158 := ⟨by decide +kernel, rfl⟩
theorem d_X5_readCourtSetting_158 : gD cX5_readCourtSetting 158 (.return_) 1 159 := ⟨by decide +kernel, rfl⟩
abbrev rm_X5_readCourtSetting : Room := { frames := 5, cells := 0, slots := 0, locals := 107 }
set_option maxRecDepth 20000 in
theorem w_X5_readCourtSetting {Γ : GC} {E : GE} (hO : gOk Γ E cX5_readCourtSetting RX5 1 rm_X5_readCourtSetting none "readCourtSetting") (o : Nat) (S : GS) : Go Γ E (gBsV Γ E) 1 (0, 0) 0 S [(0, vA (some o))] [] (f_X5_readCourtSetting o S) := by
  unfold f_X5_readCourtSetting
  refine g_aload_n hO d_X5_readCourtSetting_0 (by rfl) 0 rfl ?_
  refine g_ldcS hO 3 (by decide) rfl d_X5_readCourtSetting_1 ?_
  refine k_virtIp hO cl_X5 mm_X5_isWord lkV_X5_131 ⟨⟨Nat.le_of_ble_eq_true rfl, Nat.le_of_ble_eq_true rfl⟩, Nat.le_of_ble_eq_true rfl, Nat.le_of_ble_eq_true rfl⟩ (kn' := (0, 0)) rfl (As := [vA (some 100003)]) rfl (Nat.le_of_ble_eq_true rfl) (fun o' _ => t_X5_isWord Γ.2.1 E o' (some 100003) S) d_X5_readCourtSetting_3 rfl (fun v1 => ?_)
  refine g_if_eq (tgt := 30) hO d_X5_readCourtSetting_6.1 d_X5_readCourtSetting_6.2 (fun _ => ?_) (fun _ => ?_)
  · skip
    refine g_aload_n hO d_X5_readCourtSetting_30 (by rfl) 0 rfl ?_
    refine g_ldcS hO 4 (by decide) rfl d_X5_readCourtSetting_31 ?_
    refine k_virtIp hO cl_X5 mm_X5_isWord lkV_X5_131 ⟨⟨Nat.le_of_ble_eq_true rfl, Nat.le_of_ble_eq_true rfl⟩, Nat.le_of_ble_eq_true rfl, Nat.le_of_ble_eq_true rfl⟩ (kn' := (0, 0)) rfl (As := [vA (some 100004)]) rfl (Nat.le_of_ble_eq_true rfl) (fun o' _ => t_X5_isWord Γ.2.1 E o' (some 100004) S) d_X5_readCourtSetting_33 rfl (fun v3 => ?_)
    refine g_if_eq (tgt := 60) hO d_X5_readCourtSetting_36.1 d_X5_readCourtSetting_36.2 (fun _ => ?_) (fun _ => ?_)
    · skip
      refine g_aload_n hO d_X5_readCourtSetting_60 (by rfl) 0 rfl ?_
      refine g_ldcS hO 5 (by decide) rfl d_X5_readCourtSetting_61 ?_
      refine k_virtIp hO cl_X5 mm_X5_isWord lkV_X5_131 ⟨⟨Nat.le_of_ble_eq_true rfl, Nat.le_of_ble_eq_true rfl⟩, Nat.le_of_ble_eq_true rfl, Nat.le_of_ble_eq_true rfl⟩ (kn' := (0, 0)) rfl (As := [vA (some 100005)]) rfl (Nat.le_of_ble_eq_true rfl) (fun o' _ => t_X5_isWord Γ.2.1 E o' (some 100005) S) d_X5_readCourtSetting_63 rfl (fun v5 => ?_)
      refine g_if_eq (tgt := 90) hO d_X5_readCourtSetting_66.1 d_X5_readCourtSetting_66.2 (fun _ => ?_) (fun _ => ?_)
      · skip
        refine g_aload_n hO d_X5_readCourtSetting_90 (by rfl) 0 rfl ?_
        refine g_ldcS hO 6 (by decide) rfl d_X5_readCourtSetting_91 ?_
        refine k_virtIp hO cl_X5 mm_X5_isWord lkV_X5_131 ⟨⟨Nat.le_of_ble_eq_true rfl, Nat.le_of_ble_eq_true rfl⟩, Nat.le_of_ble_eq_true rfl, Nat.le_of_ble_eq_true rfl⟩ (kn' := (0, 0)) rfl (As := [vA (some 100006)]) rfl (Nat.le_of_ble_eq_true rfl) (fun o' _ => t_X5_isWord Γ.2.1 E o' (some 100006) S) d_X5_readCourtSetting_93 rfl (fun v7 => ?_)
        refine g_if_eq (tgt := 154) hO d_X5_readCourtSetting_96.1 d_X5_readCourtSetting_96.2 (fun _ => ?_) (fun _ => ?_)
        · skip
          refine g_aload_n hO d_X5_readCourtSetting_154 (by rfl) 0 rfl ?_
          refine k_virtVs hO cl_X5 mm_X5_breakHere lkV_X5_191 ⟨⟨Nat.le_of_ble_eq_true rfl, Nat.le_of_ble_eq_true rfl⟩, Nat.le_of_ble_eq_true rfl, Nat.le_of_ble_eq_true rfl⟩ (kn' := (0, 0)) rfl (As := []) rfl (Nat.le_of_ble_eq_true rfl) (fun o' _ => t_X5_breakHere Γ.2.1 E o' S) d_X5_readCourtSetting_155 rfl (fun S10 => ?_)
          exact g_vret hO rfl ⟨Nat.le_of_ble_eq_true rfl, Nat.le_of_ble_eq_true rfl⟩ rfl rfl d_X5_readCourtSetting_158.1
        · skip
          refine g_aload_n hO d_X5_readCourtSetting_99 (by rfl) 0 rfl ?_
          refine k_virtVs hO cl_X5 mm_X5_nextToken lkV_X5_126 ⟨⟨Nat.le_of_ble_eq_true rfl, Nat.le_of_ble_eq_true rfl⟩, Nat.le_of_ble_eq_true rfl, Nat.le_of_ble_eq_true rfl⟩ (kn' := (0, 0)) rfl (As := []) rfl (Nat.le_of_ble_eq_true rfl) (fun o' _ => t_X5_nextToken Γ.2.1 E o' S) d_X5_readCourtSetting_100 rfl (fun S12 => ?_)
          refine g_aload_n hO d_X5_readCourtSetting_103 (by rfl) 0 rfl ?_
          refine h_getR hO cl_X5 1 rfl wf_X5_18 d_X5_readCourtSetting_104 (fun v13 => ?_)
          refine h_getR hO cl_X0 3 rfl wf_X5_188 d_X5_readCourtSetting_107 (fun v14 => ?_)
          refine g_iconst hO 0 d_X5_readCourtSetting_110 (by decide) ?_
          refine g_aload_n hO d_X5_readCourtSetting_111 (by rfl) 0 rfl ?_
          refine g_iconst hO 0 d_X5_readCourtSetting_112 (by decide) ?_
          refine g_bipush hO 9 d_X5_readCourtSetting_113 (by decide) ?_
          refine k_virtIs hO cl_X5 mm_X5_takeNumber lkV_X5_142 ⟨⟨Nat.le_of_ble_eq_true rfl, Nat.le_of_ble_eq_true rfl⟩, Nat.le_of_ble_eq_true rfl, Nat.le_of_ble_eq_true rfl⟩ (kn' := (0, 0)) rfl (As := [vI 0, vI 9]) rfl (Nat.le_of_ble_eq_true rfl) (fun o' _ => t_X5_takeNumber Γ.2.1 E o' 0 9 S12) d_X5_readCourtSetting_115 rfl (fun v15 S16 => ?_)
          refine h_iast hO d_X5_readCourtSetting_118 (fun S17 => ?_)
          refine g_aload_n hO d_X5_readCourtSetting_119 (by rfl) 0 rfl ?_
          refine h_getR hO cl_X5 1 rfl wf_X5_18 d_X5_readCourtSetting_120 (fun v18 => ?_)
          refine h_getR hO cl_X0 3 rfl wf_X5_188 d_X5_readCourtSetting_123 (fun v19 => ?_)
          refine g_iconst hO 1 d_X5_readCourtSetting_126 (by decide) ?_
          refine g_aload_n hO d_X5_readCourtSetting_127 (by rfl) 0 rfl ?_
          refine g_iconst hO 0 d_X5_readCourtSetting_128 (by decide) ?_
          refine g_bipush hO 9 d_X5_readCourtSetting_129 (by decide) ?_
          refine k_virtIs hO cl_X5 mm_X5_takeNumber lkV_X5_142 ⟨⟨Nat.le_of_ble_eq_true rfl, Nat.le_of_ble_eq_true rfl⟩, Nat.le_of_ble_eq_true rfl, Nat.le_of_ble_eq_true rfl⟩ (kn' := (0, 0)) rfl (As := [vI 0, vI 9]) rfl (Nat.le_of_ble_eq_true rfl) (fun o' _ => t_X5_takeNumber Γ.2.1 E o' 0 9 S17) d_X5_readCourtSetting_131 rfl (fun v20 S21 => ?_)
          refine h_iast hO d_X5_readCourtSetting_134 (fun S22 => ?_)
          refine g_aload_n hO d_X5_readCourtSetting_135 (by rfl) 0 rfl ?_
          refine h_getR hO cl_X5 1 rfl wf_X5_18 d_X5_readCourtSetting_136 (fun v23 => ?_)
          refine h_getR hO cl_X0 3 rfl wf_X5_188 d_X5_readCourtSetting_139 (fun v24 => ?_)
          refine g_iconst hO 2 d_X5_readCourtSetting_142 (by decide) ?_
          refine g_aload_n hO d_X5_readCourtSetting_143 (by rfl) 0 rfl ?_
          refine g_iconst hO 0 d_X5_readCourtSetting_144 (by decide) ?_
          refine g_bipush hO 9 d_X5_readCourtSetting_145 (by decide) ?_
          refine k_virtIs hO cl_X5 mm_X5_takeNumber lkV_X5_142 ⟨⟨Nat.le_of_ble_eq_true rfl, Nat.le_of_ble_eq_true rfl⟩, Nat.le_of_ble_eq_true rfl, Nat.le_of_ble_eq_true rfl⟩ (kn' := (0, 0)) rfl (As := [vI 0, vI 9]) rfl (Nat.le_of_ble_eq_true rfl) (fun o' _ => t_X5_takeNumber Γ.2.1 E o' 0 9 S22) d_X5_readCourtSetting_147 rfl (fun v25 S26 => ?_)
          refine h_iast hO d_X5_readCourtSetting_150 (fun S27 => ?_)
          refine g_goto (tgt := 158) hO d_X5_readCourtSetting_151.1 d_X5_readCourtSetting_151.2 ?_
          exact g_vret hO rfl ⟨Nat.le_of_ble_eq_true rfl, Nat.le_of_ble_eq_true rfl⟩ rfl rfl d_X5_readCourtSetting_158.1
      · skip
        refine g_aload_n hO d_X5_readCourtSetting_69 (by rfl) 0 rfl ?_
        refine k_virtVs hO cl_X5 mm_X5_nextToken lkV_X5_126 ⟨⟨Nat.le_of_ble_eq_true rfl, Nat.le_of_ble_eq_true rfl⟩, Nat.le_of_ble_eq_true rfl, Nat.le_of_ble_eq_true rfl⟩ (kn' := (0, 0)) rfl (As := []) rfl (Nat.le_of_ble_eq_true rfl) (fun o' _ => t_X5_nextToken Γ.2.1 E o' S) d_X5_readCourtSetting_70 rfl (fun S29 => ?_)
        refine g_aload_n hO d_X5_readCourtSetting_73 (by rfl) 0 rfl ?_
        refine h_getR hO cl_X5 1 rfl wf_X5_18 d_X5_readCourtSetting_74 (fun v30 => ?_)
        refine g_aload_n hO d_X5_readCourtSetting_77 (by rfl) 0 rfl ?_
        refine g_iconst hO 0 d_X5_readCourtSetting_78 (by decide) ?_
        refine g_bipush hO 40 d_X5_readCourtSetting_79 (by decide) ?_
        refine k_virtIs hO cl_X5 mm_X5_takeNumber lkV_X5_142 ⟨⟨Nat.le_of_ble_eq_true rfl, Nat.le_of_ble_eq_true rfl⟩, Nat.le_of_ble_eq_true rfl, Nat.le_of_ble_eq_true rfl⟩ (kn' := (0, 0)) rfl (As := [vI 0, vI 40]) rfl (Nat.le_of_ble_eq_true rfl) (fun o' _ => t_X5_takeNumber Γ.2.1 E o' 0 40 S29) d_X5_readCourtSetting_81 rfl (fun v31 S32 => ?_)
        refine h_putI hO cl_X0 6 rfl rfl wf_X5_184 (Or.inl rfl) d_X5_readCourtSetting_84 (fun S33 => ?_)
        refine g_goto (tgt := 158) hO d_X5_readCourtSetting_87.1 d_X5_readCourtSetting_87.2 ?_
        exact g_vret hO rfl ⟨Nat.le_of_ble_eq_true rfl, Nat.le_of_ble_eq_true rfl⟩ rfl rfl d_X5_readCourtSetting_158.1
    · skip
      refine g_aload_n hO d_X5_readCourtSetting_39 (by rfl) 0 rfl ?_
      refine k_virtVs hO cl_X5 mm_X5_nextToken lkV_X5_126 ⟨⟨Nat.le_of_ble_eq_true rfl, Nat.le_of_ble_eq_true rfl⟩, Nat.le_of_ble_eq_true rfl, Nat.le_of_ble_eq_true rfl⟩ (kn' := (0, 0)) rfl (As := []) rfl (Nat.le_of_ble_eq_true rfl) (fun o' _ => t_X5_nextToken Γ.2.1 E o' S) d_X5_readCourtSetting_40 rfl (fun S35 => ?_)
      refine g_aload_n hO d_X5_readCourtSetting_43 (by rfl) 0 rfl ?_
      refine h_getR hO cl_X5 1 rfl wf_X5_18 d_X5_readCourtSetting_44 (fun v36 => ?_)
      refine g_aload_n hO d_X5_readCourtSetting_47 (by rfl) 0 rfl ?_
      refine g_iconst hO 1 d_X5_readCourtSetting_48 (by decide) ?_
      refine g_bipush hO 9 d_X5_readCourtSetting_49 (by decide) ?_
      refine k_virtIs hO cl_X5 mm_X5_takeNumber lkV_X5_142 ⟨⟨Nat.le_of_ble_eq_true rfl, Nat.le_of_ble_eq_true rfl⟩, Nat.le_of_ble_eq_true rfl, Nat.le_of_ble_eq_true rfl⟩ (kn' := (0, 0)) rfl (As := [vI 1, vI 9]) rfl (Nat.le_of_ble_eq_true rfl) (fun o' _ => t_X5_takeNumber Γ.2.1 E o' 1 9 S35) d_X5_readCourtSetting_51 rfl (fun v37 S38 => ?_)
      refine h_putI hO cl_X0 5 rfl rfl wf_X5_180 (Or.inl rfl) d_X5_readCourtSetting_54 (fun S39 => ?_)
      refine g_goto (tgt := 158) hO d_X5_readCourtSetting_57.1 d_X5_readCourtSetting_57.2 ?_
      exact g_vret hO rfl ⟨Nat.le_of_ble_eq_true rfl, Nat.le_of_ble_eq_true rfl⟩ rfl rfl d_X5_readCourtSetting_158.1
  · skip
    refine g_aload_n hO d_X5_readCourtSetting_9 (by rfl) 0 rfl ?_
    refine k_virtVs hO cl_X5 mm_X5_nextToken lkV_X5_126 ⟨⟨Nat.le_of_ble_eq_true rfl, Nat.le_of_ble_eq_true rfl⟩, Nat.le_of_ble_eq_true rfl, Nat.le_of_ble_eq_true rfl⟩ (kn' := (0, 0)) rfl (As := []) rfl (Nat.le_of_ble_eq_true rfl) (fun o' _ => t_X5_nextToken Γ.2.1 E o' S) d_X5_readCourtSetting_10 rfl (fun S41 => ?_)
    refine g_aload_n hO d_X5_readCourtSetting_13 (by rfl) 0 rfl ?_
    refine h_getR hO cl_X5 1 rfl wf_X5_18 d_X5_readCourtSetting_14 (fun v42 => ?_)
    refine g_aload_n hO d_X5_readCourtSetting_17 (by rfl) 0 rfl ?_
    refine g_iconst hO 0 d_X5_readCourtSetting_18 (by decide) ?_
    refine g_bipush hO 9 d_X5_readCourtSetting_19 (by decide) ?_
    refine k_virtIs hO cl_X5 mm_X5_takeNumber lkV_X5_142 ⟨⟨Nat.le_of_ble_eq_true rfl, Nat.le_of_ble_eq_true rfl⟩, Nat.le_of_ble_eq_true rfl, Nat.le_of_ble_eq_true rfl⟩ (kn' := (0, 0)) rfl (As := [vI 0, vI 9]) rfl (Nat.le_of_ble_eq_true rfl) (fun o' _ => t_X5_takeNumber Γ.2.1 E o' 0 9 S41) d_X5_readCourtSetting_21 rfl (fun v43 S44 => ?_)
    refine h_putI hO cl_X0 4 rfl rfl wf_X5_176 (Or.inl rfl) d_X5_readCourtSetting_24 (fun S45 => ?_)
    refine g_goto (tgt := 158) hO d_X5_readCourtSetting_27.1 d_X5_readCourtSetting_27.2 ?_
    exact g_vret hO rfl ⟨Nat.le_of_ble_eq_true rfl, Nat.le_of_ble_eq_true rfl⟩ rfl rfl d_X5_readCourtSetting_158.1
theorem t_X5_readCourtSetting (l : Launch) (E : GE) (o : Nat) (S : GS) : ∀ a, f_X5_readCourtSetting o S = some a → Ct l E yX5_readCourtSetting cX5_readCourtSetting 1 none rm_X5_readCourtSetting [vA (some o)] S none a :=
  Ct_of (val := fun _ => none) (nxt := fun b => b) (by decide) (Nat.le_of_ble_eq_true rfl) (fun Γ hl hO => w_X5_readCourtSetting hO o S)
theorem d_X5_readCourtLine_0 : gD cX5_readCourtLine 0 (.aload_n 0) 1 1 := ⟨by decide +kernel, rfl⟩
theorem d_X5_readCourtLine_1 : gD cX5_readCourtLine 1 (.ldc 129) 2 3 := ⟨by decide +kernel, rfl⟩
theorem d_X5_readCourtLine_3 : gD cX5_readCourtLine 3 (.invokevirtual 131) 3 6 := ⟨by decide +kernel, rfl⟩
theorem d_X5_readCourtLine_6 : gD cX5_readCourtLine 6 (.ifCond .eq 53) 3 9 ∧ ((6 : Nat) : Int) + 53 = ((59 : Nat) : Int) := ⟨⟨by decide +kernel, rfl⟩, by decide⟩
theorem d_X5_readCourtLine_9 : gD cX5_readCourtLine 9 (.aload_n 0) 1 10 := ⟨by decide +kernel, rfl⟩
theorem d_X5_readCourtLine_10 : gD cX5_readCourtLine 10 (.aload_n 0) 1 11 := ⟨by decide +kernel, rfl⟩
theorem d_X5_readCourtLine_11 : gD cX5_readCourtLine 11 (.getfield 18) 3 14 := ⟨by decide +kernel, rfl⟩
theorem d_X5_readCourtLine_14 : gD cX5_readCourtLine 14 (.getfield 135) 3 17 := ⟨by decide +kernel, rfl⟩
theorem d_X5_readCourtLine_17 : gD cX5_readCourtLine 17 (.invokevirtual 138) 3 20 := ⟨by decide +kernel, rfl⟩
theorem d_X5_readCourtLine_20 : gD cX5_readCourtLine 20 (.aload_n 0) 1 21 := ⟨by decide +kernel, rfl⟩
theorem d_X5_readCourtLine_21 : gD cX5_readCourtLine 21 (.getfield 18) 3 24 := ⟨by decide +kernel, rfl⟩
theorem d_X5_readCourtLine_24 : gD cX5_readCourtLine 24 (.getfield 135) 3 27 := ⟨by decide +kernel, rfl⟩
theorem d_X5_readCourtLine_27 : gD cX5_readCourtLine 27 (.iconst 0) 1 28 := ⟨by decide +kernel, rfl⟩
theorem d_X5_readCourtLine_28 : gD cX5_readCourtLine 28 (.aload_n 0) 1 29 := ⟨by decide +kernel, rfl⟩
theorem d_X5_readCourtLine_29 : gD cX5_readCourtLine 29 (.iconst 1) 1 30 := ⟨by decide +kernel, rfl⟩
theorem d_X5_readCourtLine_30 : gD cX5_readCourtLine 30 (.bipush 9) 2 32 := ⟨by decide +kernel, rfl⟩
theorem d_X5_readCourtLine_32 : gD cX5_readCourtLine 32 (.invokevirtual 142) 3 35 := ⟨by decide +kernel, rfl⟩
theorem d_X5_readCourtLine_35 : gD cX5_readCourtLine 35 (.invokevirtual 145) 3 38 := ⟨by decide +kernel, rfl⟩
theorem d_X5_readCourtLine_38 : gD cX5_readCourtLine 38 (.aload_n 0) 1 39 := ⟨by decide +kernel, rfl⟩
theorem d_X5_readCourtLine_39 : gD cX5_readCourtLine 39 (.getfield 18) 3 42 := ⟨by decide +kernel, rfl⟩
theorem d_X5_readCourtLine_42 : gD cX5_readCourtLine 42 (.getfield 135) 3 45 := ⟨by decide +kernel, rfl⟩
theorem d_X5_readCourtLine_45 : gD cX5_readCourtLine 45 (.iconst 1) 1 46 := ⟨by decide +kernel, rfl⟩
theorem d_X5_readCourtLine_46 : gD cX5_readCourtLine 46 (.aload_n 0) 1 47 := ⟨by decide +kernel, rfl⟩
theorem d_X5_readCourtLine_47 : gD cX5_readCourtLine 47 (.iconst 0) 1 48 := ⟨by decide +kernel, rfl⟩
theorem d_X5_readCourtLine_48 : gD cX5_readCourtLine 48 (.bipush 9) 2 50 := ⟨by decide +kernel, rfl⟩
theorem d_X5_readCourtLine_50 : gD cX5_readCourtLine 50 (.invokevirtual 142) 3 53 := ⟨by decide +kernel, rfl⟩
theorem d_X5_readCourtLine_53 : gD cX5_readCourtLine 53 (.invokevirtual 145) 3 56 := ⟨by decide +kernel, rfl⟩
theorem d_X5_readCourtLine_56 : decode cX5_readCourtLine 56 = .ok (.goto 135, 3) ∧ ((56 : Nat) : Int) + 135 = ((191 : Nat) : Int) := ⟨by decide +kernel, by decide⟩
theorem d_X5_readCourtLine_59 : gD cX5_readCourtLine 59 (.aload_n 0) 1 60 := ⟨by decide +kernel, rfl⟩
theorem d_X5_readCourtLine_60 : gD cX5_readCourtLine 60 (.ldc 148) 2 62 := ⟨by decide +kernel, rfl⟩
theorem d_X5_readCourtLine_62 : gD cX5_readCourtLine 62 (.invokevirtual 131) 3 65 := ⟨by decide +kernel, rfl⟩
theorem d_X5_readCourtLine_65 : gD cX5_readCourtLine 65 (.ifCond .eq 106) 3 68 ∧ ((65 : Nat) : Int) + 106 = ((171 : Nat) : Int) := ⟨⟨by decide +kernel, rfl⟩, by decide⟩
theorem d_X5_readCourtLine_68 : gD cX5_readCourtLine 68 (.aload_n 0) 1 69 := ⟨by decide +kernel, rfl⟩
theorem d_X5_readCourtLine_69 : gD cX5_readCourtLine 69 (.aload_n 0) 1 70 := ⟨by decide +kernel, rfl⟩
theorem d_X5_readCourtLine_70 : gD cX5_readCourtLine 70 (.getfield 18) 3 73 := ⟨by decide +kernel, rfl⟩
theorem d_X5_readCourtLine_73 : gD cX5_readCourtLine 73 (.getfield 150) 3 76 := ⟨by decide +kernel, rfl⟩
theorem d_X5_readCourtLine_76 : gD cX5_readCourtLine 76 (.invokevirtual 138) 3 79 := ⟨by decide +kernel, rfl⟩
theorem d_X5_readCourtLine_79 : gD cX5_readCourtLine 79 (.aload_n 0) 1 80 := ⟨by decide +kernel, rfl⟩
theorem d_X5_readCourtLine_80 : gD cX5_readCourtLine 80 (.getfield 18) 3 83 := ⟨by decide +kernel, rfl⟩
theorem d_X5_readCourtLine_83 : gD cX5_readCourtLine 83 (.getfield 150) 3 86 := ⟨by decide +kernel, rfl⟩
theorem d_X5_readCourtLine_86 : gD cX5_readCourtLine 86 (.iconst 0) 1 87 := ⟨by decide +kernel, rfl⟩
theorem d_X5_readCourtLine_87 : gD cX5_readCourtLine 87 (.aload_n 0) 1 88 := ⟨by decide +kernel, rfl⟩
theorem d_X5_readCourtLine_88 : gD cX5_readCourtLine 88 (.iconst 0) 1 89 := ⟨by decide +kernel, rfl⟩
theorem d_X5_readCourtLine_89 : gD cX5_readCourtLine 89 (.iconst 3) 1 90 := ⟨by decide +kernel, rfl⟩
theorem d_X5_readCourtLine_90 : gD cX5_readCourtLine 90 (.invokevirtual 142) 3 93 := ⟨by decide +kernel, rfl⟩
theorem d_X5_readCourtLine_93 : gD cX5_readCourtLine 93 (.invokevirtual 145) 3 96 := ⟨by decide +kernel, rfl⟩
theorem d_X5_readCourtLine_96 : gD cX5_readCourtLine 96 (.aload_n 0) 1 97 := ⟨by decide +kernel, rfl⟩
theorem d_X5_readCourtLine_97 : gD cX5_readCourtLine 97 (.getfield 18) 3 100 := ⟨by decide +kernel, rfl⟩
theorem d_X5_readCourtLine_100 : gD cX5_readCourtLine 100 (.getfield 150) 3 103 := ⟨by decide +kernel, rfl⟩
theorem d_X5_readCourtLine_103 : gD cX5_readCourtLine 103 (.iconst 1) 1 104 := ⟨by decide +kernel, rfl⟩
theorem d_X5_readCourtLine_104 : gD cX5_readCourtLine 104 (.aload_n 0) 1 105 := ⟨by decide +kernel, rfl⟩
theorem d_X5_readCourtLine_105 : gD cX5_readCourtLine 105 (.iconst 0) 1 106 := ⟨by decide +kernel, rfl⟩
theorem d_X5_readCourtLine_106 : gD cX5_readCourtLine 106 (.bipush 30) 2 108 := ⟨by decide +kernel, rfl⟩
theorem d_X5_readCourtLine_108 : gD cX5_readCourtLine 108 (.invokevirtual 142) 3 111 := ⟨by decide +kernel, rfl⟩
theorem d_X5_readCourtLine_111 : gD cX5_readCourtLine 111 (.invokevirtual 145) 3 114 := ⟨by decide +kernel, rfl⟩
theorem d_X5_readCourtLine_114 : gD cX5_readCourtLine 114 (.aload_n 0) 1 115 := ⟨by decide +kernel, rfl⟩
theorem d_X5_readCourtLine_115 : gD cX5_readCourtLine 115 (.getfield 18) 3 118 := ⟨by decide +kernel, rfl⟩
theorem d_X5_readCourtLine_118 : gD cX5_readCourtLine 118 (.getfield 150) 3 121 := ⟨by decide +kernel, rfl⟩
theorem d_X5_readCourtLine_121 : gD cX5_readCourtLine 121 (.iconst 2) 1 122 := ⟨by decide +kernel, rfl⟩
theorem d_X5_readCourtLine_122 : gD cX5_readCourtLine 122 (.aload_n 0) 1 123 := ⟨by decide +kernel, rfl⟩
theorem d_X5_readCourtLine_123 : gD cX5_readCourtLine 123 (.iconst 0) 1 124 := ⟨by decide +kernel, rfl⟩
theorem d_X5_readCourtLine_124 : gD cX5_readCourtLine 124 (.bipush 60) 2 126 := ⟨by decide +kernel, rfl⟩
theorem d_X5_readCourtLine_126 : gD cX5_readCourtLine 126 (.invokevirtual 142) 3 129 := ⟨by decide +kernel, rfl⟩
theorem d_X5_readCourtLine_129 : gD cX5_readCourtLine 129 (.invokevirtual 145) 3 132 := ⟨by decide +kernel, rfl⟩
theorem d_X5_readCourtLine_132 : gD cX5_readCourtLine 132 (.aload_n 0) 1 133 := ⟨by decide +kernel, rfl⟩
theorem d_X5_readCourtLine_133 : gD cX5_readCourtLine 133 (.getfield 18) 3 136 := ⟨by decide +kernel, rfl⟩
theorem d_X5_readCourtLine_136 : gD cX5_readCourtLine 136 (.getfield 150) 3 139 := ⟨by decide +kernel, rfl⟩
theorem d_X5_readCourtLine_139 : gD cX5_readCourtLine 139 (.iconst 3) 1 140 := ⟨by decide +kernel, rfl⟩
theorem d_X5_readCourtLine_140 : gD cX5_readCourtLine 140 (.aload_n 0) 1 141 := ⟨by decide +kernel, rfl⟩
theorem d_X5_readCourtLine_141 : gD cX5_readCourtLine 141 (.iconst 0) 1 142 := ⟨by decide +kernel, rfl⟩
theorem d_X5_readCourtLine_142 : gD cX5_readCourtLine 142 (.bipush 90) 2 144 := ⟨by decide +kernel, rfl⟩
theorem d_X5_readCourtLine_144 : gD cX5_readCourtLine 144 (.invokevirtual 142) 3 147 := ⟨by decide +kernel, rfl⟩
theorem d_X5_readCourtLine_147 : gD cX5_readCourtLine 147 (.invokevirtual 145) 3 150 := ⟨by decide +kernel, rfl⟩
theorem d_X5_readCourtLine_150 : gD cX5_readCourtLine 150 (.aload_n 0) 1 151 := ⟨by decide +kernel, rfl⟩
theorem d_X5_readCourtLine_151 : gD cX5_readCourtLine 151 (.getfield 18) 3 154 := ⟨by decide +kernel, rfl⟩
theorem d_X5_readCourtLine_154 : gD cX5_readCourtLine 154 (.getfield 150) 3 157 := ⟨by decide +kernel, rfl⟩
theorem d_X5_readCourtLine_157 : gD cX5_readCourtLine 157 (.iconst 4) 1 158 := ⟨by decide +kernel, rfl⟩
theorem d_X5_readCourtLine_158 : gD cX5_readCourtLine 158 (.aload_n 0) 1 159 := ⟨by decide +kernel, rfl⟩
theorem d_X5_readCourtLine_159 : gD cX5_readCourtLine 159 (.iconst 0) 1 160 := ⟨by decide +kernel, rfl⟩
theorem d_X5_readCourtLine_160 : gD cX5_readCourtLine 160 (.bipush 40) 2 162 := ⟨by decide +kernel, rfl⟩
theorem d_X5_readCourtLine_162 : gD cX5_readCourtLine 162 (.invokevirtual 142) 3 165 := ⟨by decide +kernel, rfl⟩
theorem d_X5_readCourtLine_165 : gD cX5_readCourtLine 165 (.invokevirtual 145) 3 168 := ⟨by decide +kernel, rfl⟩
theorem d_X5_readCourtLine_168 : decode cX5_readCourtLine 168 = .ok (.goto 23, 3) ∧ ((168 : Nat) : Int) + 23 = ((191 : Nat) : Int) := ⟨by decide +kernel, by decide⟩
theorem d_X5_readCourtLine_171 : gD cX5_readCourtLine 171 (.aload_n 0) 1 172 := ⟨by decide +kernel, rfl⟩
theorem d_X5_readCourtLine_172 : gD cX5_readCourtLine 172 (.ldc 153) 2 174 := ⟨by decide +kernel, rfl⟩
theorem d_X5_readCourtLine_174 : gD cX5_readCourtLine 174 (.invokevirtual 131) 3 177 := ⟨by decide +kernel, rfl⟩
theorem d_X5_readCourtLine_177 : gD cX5_readCourtLine 177 (.ifCond .eq 10) 3 180 ∧ ((177 : Nat) : Int) + 10 = ((187 : Nat) : Int) := ⟨⟨by decide +kernel, rfl⟩, by decide⟩
theorem d_X5_readCourtLine_180 : gD cX5_readCourtLine 180 (.aload_n 0) 1 181 := ⟨by decide +kernel, rfl⟩
theorem d_X5_readCourtLine_181 : gD cX5_readCourtLine 181 (.invokevirtual 155) 3 184 := ⟨by decide +kernel, rfl⟩
theorem d_X5_readCourtLine_184 : decode cX5_readCourtLine 184 = .ok (.goto 7, 3) ∧ ((184 : Nat) : Int) + 7 = ((191 : Nat) : Int) := ⟨by decide +kernel, by decide⟩
theorem d_X5_readCourtLine_187 : gD cX5_readCourtLine 187 (.aload_n 0) 1 188 := ⟨by decide +kernel, rfl⟩
theorem d_X5_readCourtLine_188 : gD cX5_readCourtLine 188 (.invokevirtual 158) 3 191 := ⟨by decide +kernel, rfl⟩
theorem d_X5_readCourtLine_191 : gD cX5_readCourtLine 191 (.return_) 1 192 := ⟨by decide +kernel, rfl⟩
abbrev rm_X5_readCourtLine : Room := { frames := 6, cells := 0, slots := 0, locals := 127 }
set_option maxRecDepth 20000 in
theorem w_X5_readCourtLine {Γ : GC} {E : GE} (hO : gOk Γ E cX5_readCourtLine RX5 1 rm_X5_readCourtLine none "readCourtLine") (o : Nat) (S : GS) : Go Γ E (gBsV Γ E) 1 (0, 0) 0 S [(0, vA (some o))] [] (f_X5_readCourtLine o S) := by
  unfold f_X5_readCourtLine
  refine g_aload_n hO d_X5_readCourtLine_0 (by rfl) 0 rfl ?_
  refine g_ldcS hO 0 (by decide) rfl d_X5_readCourtLine_1 ?_
  refine k_virtIp hO cl_X5 mm_X5_isWord lkV_X5_131 ⟨⟨Nat.le_of_ble_eq_true rfl, Nat.le_of_ble_eq_true rfl⟩, Nat.le_of_ble_eq_true rfl, Nat.le_of_ble_eq_true rfl⟩ (kn' := (0, 0)) rfl (As := [vA (some 100000)]) rfl (Nat.le_of_ble_eq_true rfl) (fun o' _ => t_X5_isWord Γ.2.1 E o' (some 100000) S) d_X5_readCourtLine_3 rfl (fun v1 => ?_)
  refine g_if_eq (tgt := 59) hO d_X5_readCourtLine_6.1 d_X5_readCourtLine_6.2 (fun _ => ?_) (fun _ => ?_)
  · skip
    refine g_aload_n hO d_X5_readCourtLine_59 (by rfl) 0 rfl ?_
    refine g_ldcS hO 1 (by decide) rfl d_X5_readCourtLine_60 ?_
    refine k_virtIp hO cl_X5 mm_X5_isWord lkV_X5_131 ⟨⟨Nat.le_of_ble_eq_true rfl, Nat.le_of_ble_eq_true rfl⟩, Nat.le_of_ble_eq_true rfl, Nat.le_of_ble_eq_true rfl⟩ (kn' := (0, 0)) rfl (As := [vA (some 100001)]) rfl (Nat.le_of_ble_eq_true rfl) (fun o' _ => t_X5_isWord Γ.2.1 E o' (some 100001) S) d_X5_readCourtLine_62 rfl (fun v3 => ?_)
    refine g_if_eq (tgt := 171) hO d_X5_readCourtLine_65.1 d_X5_readCourtLine_65.2 (fun _ => ?_) (fun _ => ?_)
    · skip
      refine g_aload_n hO d_X5_readCourtLine_171 (by rfl) 0 rfl ?_
      refine g_ldcS hO 2 (by decide) rfl d_X5_readCourtLine_172 ?_
      refine k_virtIp hO cl_X5 mm_X5_isWord lkV_X5_131 ⟨⟨Nat.le_of_ble_eq_true rfl, Nat.le_of_ble_eq_true rfl⟩, Nat.le_of_ble_eq_true rfl, Nat.le_of_ble_eq_true rfl⟩ (kn' := (0, 0)) rfl (As := [vA (some 100002)]) rfl (Nat.le_of_ble_eq_true rfl) (fun o' _ => t_X5_isWord Γ.2.1 E o' (some 100002) S) d_X5_readCourtLine_174 rfl (fun v5 => ?_)
      refine g_if_eq (tgt := 187) hO d_X5_readCourtLine_177.1 d_X5_readCourtLine_177.2 (fun _ => ?_) (fun _ => ?_)
      · skip
        refine g_aload_n hO d_X5_readCourtLine_187 (by rfl) 0 rfl ?_
        refine k_virtVs hO cl_X5 mm_X5_readCourtSetting lkV_X5_158 ⟨⟨Nat.le_of_ble_eq_true rfl, Nat.le_of_ble_eq_true rfl⟩, Nat.le_of_ble_eq_true rfl, Nat.le_of_ble_eq_true rfl⟩ (kn' := (0, 0)) rfl (As := []) rfl (Nat.le_of_ble_eq_true rfl) (fun o' _ => t_X5_readCourtSetting Γ.2.1 E o' S) d_X5_readCourtLine_188 rfl (fun S8 => ?_)
        exact g_vret hO rfl ⟨Nat.le_of_ble_eq_true rfl, Nat.le_of_ble_eq_true rfl⟩ rfl rfl d_X5_readCourtLine_191.1
      · skip
        refine g_aload_n hO d_X5_readCourtLine_180 (by rfl) 0 rfl ?_
        refine k_virtVs hO cl_X5 mm_X5_readProper lkV_X5_155 ⟨⟨Nat.le_of_ble_eq_true rfl, Nat.le_of_ble_eq_true rfl⟩, Nat.le_of_ble_eq_true rfl, Nat.le_of_ble_eq_true rfl⟩ (kn' := (0, 0)) rfl (As := []) rfl (Nat.le_of_ble_eq_true rfl) (fun o' _ => t_X5_readProper Γ.2.1 E o' S) d_X5_readCourtLine_181 rfl (fun S10 => ?_)
        refine g_goto (tgt := 191) hO d_X5_readCourtLine_184.1 d_X5_readCourtLine_184.2 ?_
        exact g_vret hO rfl ⟨Nat.le_of_ble_eq_true rfl, Nat.le_of_ble_eq_true rfl⟩ rfl rfl d_X5_readCourtLine_191.1
    · skip
      refine g_aload_n hO d_X5_readCourtLine_68 (by rfl) 0 rfl ?_
      refine g_aload_n hO d_X5_readCourtLine_69 (by rfl) 0 rfl ?_
      refine h_getR hO cl_X5 1 rfl wf_X5_18 d_X5_readCourtLine_70 (fun v11 => ?_)
      refine h_getR hO cl_X0 1 rfl wf_X5_150 d_X5_readCourtLine_73 (fun v12 => ?_)
      refine k_virtVs hO cl_X5 mm_X5_openLine lkV_X5_138 ⟨⟨Nat.le_of_ble_eq_true rfl, Nat.le_of_ble_eq_true rfl⟩, Nat.le_of_ble_eq_true rfl, Nat.le_of_ble_eq_true rfl⟩ (kn' := (0, 0)) rfl (As := [vA v12]) rfl (Nat.le_of_ble_eq_true rfl) (fun o' _ => t_X5_openLine Γ.2.1 E o' v12 S) d_X5_readCourtLine_76 rfl (fun S14 => ?_)
      refine g_aload_n hO d_X5_readCourtLine_79 (by rfl) 0 rfl ?_
      refine h_getR hO cl_X5 1 rfl wf_X5_18 d_X5_readCourtLine_80 (fun v15 => ?_)
      refine h_getR hO cl_X0 1 rfl wf_X5_150 d_X5_readCourtLine_83 (fun v16 => ?_)
      refine g_iconst hO 0 d_X5_readCourtLine_86 (by decide) ?_
      refine g_aload_n hO d_X5_readCourtLine_87 (by rfl) 0 rfl ?_
      refine g_iconst hO 0 d_X5_readCourtLine_88 (by decide) ?_
      refine g_iconst hO 3 d_X5_readCourtLine_89 (by decide) ?_
      refine k_virtIs hO cl_X5 mm_X5_takeNumber lkV_X5_142 ⟨⟨Nat.le_of_ble_eq_true rfl, Nat.le_of_ble_eq_true rfl⟩, Nat.le_of_ble_eq_true rfl, Nat.le_of_ble_eq_true rfl⟩ (kn' := (0, 0)) rfl (As := [vI 0, vI 3]) rfl (Nat.le_of_ble_eq_true rfl) (fun o' _ => t_X5_takeNumber Γ.2.1 E o' 0 3 S14) d_X5_readCourtLine_90 rfl (fun v17 S18 => ?_)
      refine k_virtVs hO cl_X7 mm_X7_setLast lkV_X5_145 ⟨⟨Nat.le_of_ble_eq_true rfl, Nat.le_of_ble_eq_true rfl⟩, Nat.le_of_ble_eq_true rfl, Nat.le_of_ble_eq_true rfl⟩ (kn' := (0, 0)) rfl (As := [vI 0, vI v17]) rfl (Nat.le_of_ble_eq_true rfl) (fun o' _ => t_X7_setLast Γ.2.1 E o' 0 v17 S18) d_X5_readCourtLine_93 rfl (fun S20 => ?_)
      refine g_aload_n hO d_X5_readCourtLine_96 (by rfl) 0 rfl ?_
      refine h_getR hO cl_X5 1 rfl wf_X5_18 d_X5_readCourtLine_97 (fun v21 => ?_)
      refine h_getR hO cl_X0 1 rfl wf_X5_150 d_X5_readCourtLine_100 (fun v22 => ?_)
      refine g_iconst hO 1 d_X5_readCourtLine_103 (by decide) ?_
      refine g_aload_n hO d_X5_readCourtLine_104 (by rfl) 0 rfl ?_
      refine g_iconst hO 0 d_X5_readCourtLine_105 (by decide) ?_
      refine g_bipush hO 30 d_X5_readCourtLine_106 (by decide) ?_
      refine k_virtIs hO cl_X5 mm_X5_takeNumber lkV_X5_142 ⟨⟨Nat.le_of_ble_eq_true rfl, Nat.le_of_ble_eq_true rfl⟩, Nat.le_of_ble_eq_true rfl, Nat.le_of_ble_eq_true rfl⟩ (kn' := (0, 0)) rfl (As := [vI 0, vI 30]) rfl (Nat.le_of_ble_eq_true rfl) (fun o' _ => t_X5_takeNumber Γ.2.1 E o' 0 30 S20) d_X5_readCourtLine_108 rfl (fun v23 S24 => ?_)
      refine k_virtVs hO cl_X7 mm_X7_setLast lkV_X5_145 ⟨⟨Nat.le_of_ble_eq_true rfl, Nat.le_of_ble_eq_true rfl⟩, Nat.le_of_ble_eq_true rfl, Nat.le_of_ble_eq_true rfl⟩ (kn' := (0, 0)) rfl (As := [vI 1, vI v23]) rfl (Nat.le_of_ble_eq_true rfl) (fun o' _ => t_X7_setLast Γ.2.1 E o' 1 v23 S24) d_X5_readCourtLine_111 rfl (fun S26 => ?_)
      refine g_aload_n hO d_X5_readCourtLine_114 (by rfl) 0 rfl ?_
      refine h_getR hO cl_X5 1 rfl wf_X5_18 d_X5_readCourtLine_115 (fun v27 => ?_)
      refine h_getR hO cl_X0 1 rfl wf_X5_150 d_X5_readCourtLine_118 (fun v28 => ?_)
      refine g_iconst hO 2 d_X5_readCourtLine_121 (by decide) ?_
      refine g_aload_n hO d_X5_readCourtLine_122 (by rfl) 0 rfl ?_
      refine g_iconst hO 0 d_X5_readCourtLine_123 (by decide) ?_
      refine g_bipush hO 60 d_X5_readCourtLine_124 (by decide) ?_
      refine k_virtIs hO cl_X5 mm_X5_takeNumber lkV_X5_142 ⟨⟨Nat.le_of_ble_eq_true rfl, Nat.le_of_ble_eq_true rfl⟩, Nat.le_of_ble_eq_true rfl, Nat.le_of_ble_eq_true rfl⟩ (kn' := (0, 0)) rfl (As := [vI 0, vI 60]) rfl (Nat.le_of_ble_eq_true rfl) (fun o' _ => t_X5_takeNumber Γ.2.1 E o' 0 60 S26) d_X5_readCourtLine_126 rfl (fun v29 S30 => ?_)
      refine k_virtVs hO cl_X7 mm_X7_setLast lkV_X5_145 ⟨⟨Nat.le_of_ble_eq_true rfl, Nat.le_of_ble_eq_true rfl⟩, Nat.le_of_ble_eq_true rfl, Nat.le_of_ble_eq_true rfl⟩ (kn' := (0, 0)) rfl (As := [vI 2, vI v29]) rfl (Nat.le_of_ble_eq_true rfl) (fun o' _ => t_X7_setLast Γ.2.1 E o' 2 v29 S30) d_X5_readCourtLine_129 rfl (fun S32 => ?_)
      refine g_aload_n hO d_X5_readCourtLine_132 (by rfl) 0 rfl ?_
      refine h_getR hO cl_X5 1 rfl wf_X5_18 d_X5_readCourtLine_133 (fun v33 => ?_)
      refine h_getR hO cl_X0 1 rfl wf_X5_150 d_X5_readCourtLine_136 (fun v34 => ?_)
      refine g_iconst hO 3 d_X5_readCourtLine_139 (by decide) ?_
      refine g_aload_n hO d_X5_readCourtLine_140 (by rfl) 0 rfl ?_
      refine g_iconst hO 0 d_X5_readCourtLine_141 (by decide) ?_
      refine g_bipush hO 90 d_X5_readCourtLine_142 (by decide) ?_
      refine k_virtIs hO cl_X5 mm_X5_takeNumber lkV_X5_142 ⟨⟨Nat.le_of_ble_eq_true rfl, Nat.le_of_ble_eq_true rfl⟩, Nat.le_of_ble_eq_true rfl, Nat.le_of_ble_eq_true rfl⟩ (kn' := (0, 0)) rfl (As := [vI 0, vI 90]) rfl (Nat.le_of_ble_eq_true rfl) (fun o' _ => t_X5_takeNumber Γ.2.1 E o' 0 90 S32) d_X5_readCourtLine_144 rfl (fun v35 S36 => ?_)
      refine k_virtVs hO cl_X7 mm_X7_setLast lkV_X5_145 ⟨⟨Nat.le_of_ble_eq_true rfl, Nat.le_of_ble_eq_true rfl⟩, Nat.le_of_ble_eq_true rfl, Nat.le_of_ble_eq_true rfl⟩ (kn' := (0, 0)) rfl (As := [vI 3, vI v35]) rfl (Nat.le_of_ble_eq_true rfl) (fun o' _ => t_X7_setLast Γ.2.1 E o' 3 v35 S36) d_X5_readCourtLine_147 rfl (fun S38 => ?_)
      refine g_aload_n hO d_X5_readCourtLine_150 (by rfl) 0 rfl ?_
      refine h_getR hO cl_X5 1 rfl wf_X5_18 d_X5_readCourtLine_151 (fun v39 => ?_)
      refine h_getR hO cl_X0 1 rfl wf_X5_150 d_X5_readCourtLine_154 (fun v40 => ?_)
      refine g_iconst hO 4 d_X5_readCourtLine_157 (by decide) ?_
      refine g_aload_n hO d_X5_readCourtLine_158 (by rfl) 0 rfl ?_
      refine g_iconst hO 0 d_X5_readCourtLine_159 (by decide) ?_
      refine g_bipush hO 40 d_X5_readCourtLine_160 (by decide) ?_
      refine k_virtIs hO cl_X5 mm_X5_takeNumber lkV_X5_142 ⟨⟨Nat.le_of_ble_eq_true rfl, Nat.le_of_ble_eq_true rfl⟩, Nat.le_of_ble_eq_true rfl, Nat.le_of_ble_eq_true rfl⟩ (kn' := (0, 0)) rfl (As := [vI 0, vI 40]) rfl (Nat.le_of_ble_eq_true rfl) (fun o' _ => t_X5_takeNumber Γ.2.1 E o' 0 40 S38) d_X5_readCourtLine_162 rfl (fun v41 S42 => ?_)
      refine k_virtVs hO cl_X7 mm_X7_setLast lkV_X5_145 ⟨⟨Nat.le_of_ble_eq_true rfl, Nat.le_of_ble_eq_true rfl⟩, Nat.le_of_ble_eq_true rfl, Nat.le_of_ble_eq_true rfl⟩ (kn' := (0, 0)) rfl (As := [vI 4, vI v41]) rfl (Nat.le_of_ble_eq_true rfl) (fun o' _ => t_X7_setLast Γ.2.1 E o' 4 v41 S42) d_X5_readCourtLine_165 rfl (fun S44 => ?_)
      refine g_goto (tgt := 191) hO d_X5_readCourtLine_168.1 d_X5_readCourtLine_168.2 ?_
      exact g_vret hO rfl ⟨Nat.le_of_ble_eq_true rfl, Nat.le_of_ble_eq_true rfl⟩ rfl rfl d_X5_readCourtLine_191.1
  · skip
    refine g_aload_n hO d_X5_readCourtLine_9 (by rfl) 0 rfl ?_
    refine g_aload_n hO d_X5_readCourtLine_10 (by rfl) 0 rfl ?_
    refine h_getR hO cl_X5 1 rfl wf_X5_18 d_X5_readCourtLine_11 (fun v45 => ?_)
    refine h_getR hO cl_X0 0 rfl wf_X5_135 d_X5_readCourtLine_14 (fun v46 => ?_)
    refine k_virtVs hO cl_X5 mm_X5_openLine lkV_X5_138 ⟨⟨Nat.le_of_ble_eq_true rfl, Nat.le_of_ble_eq_true rfl⟩, Nat.le_of_ble_eq_true rfl, Nat.le_of_ble_eq_true rfl⟩ (kn' := (0, 0)) rfl (As := [vA v46]) rfl (Nat.le_of_ble_eq_true rfl) (fun o' _ => t_X5_openLine Γ.2.1 E o' v46 S) d_X5_readCourtLine_17 rfl (fun S48 => ?_)
    refine g_aload_n hO d_X5_readCourtLine_20 (by rfl) 0 rfl ?_
    refine h_getR hO cl_X5 1 rfl wf_X5_18 d_X5_readCourtLine_21 (fun v49 => ?_)
    refine h_getR hO cl_X0 0 rfl wf_X5_135 d_X5_readCourtLine_24 (fun v50 => ?_)
    refine g_iconst hO 0 d_X5_readCourtLine_27 (by decide) ?_
    refine g_aload_n hO d_X5_readCourtLine_28 (by rfl) 0 rfl ?_
    refine g_iconst hO 1 d_X5_readCourtLine_29 (by decide) ?_
    refine g_bipush hO 9 d_X5_readCourtLine_30 (by decide) ?_
    refine k_virtIs hO cl_X5 mm_X5_takeNumber lkV_X5_142 ⟨⟨Nat.le_of_ble_eq_true rfl, Nat.le_of_ble_eq_true rfl⟩, Nat.le_of_ble_eq_true rfl, Nat.le_of_ble_eq_true rfl⟩ (kn' := (0, 0)) rfl (As := [vI 1, vI 9]) rfl (Nat.le_of_ble_eq_true rfl) (fun o' _ => t_X5_takeNumber Γ.2.1 E o' 1 9 S48) d_X5_readCourtLine_32 rfl (fun v51 S52 => ?_)
    refine k_virtVs hO cl_X7 mm_X7_setLast lkV_X5_145 ⟨⟨Nat.le_of_ble_eq_true rfl, Nat.le_of_ble_eq_true rfl⟩, Nat.le_of_ble_eq_true rfl, Nat.le_of_ble_eq_true rfl⟩ (kn' := (0, 0)) rfl (As := [vI 0, vI v51]) rfl (Nat.le_of_ble_eq_true rfl) (fun o' _ => t_X7_setLast Γ.2.1 E o' 0 v51 S52) d_X5_readCourtLine_35 rfl (fun S54 => ?_)
    refine g_aload_n hO d_X5_readCourtLine_38 (by rfl) 0 rfl ?_
    refine h_getR hO cl_X5 1 rfl wf_X5_18 d_X5_readCourtLine_39 (fun v55 => ?_)
    refine h_getR hO cl_X0 0 rfl wf_X5_135 d_X5_readCourtLine_42 (fun v56 => ?_)
    refine g_iconst hO 1 d_X5_readCourtLine_45 (by decide) ?_
    refine g_aload_n hO d_X5_readCourtLine_46 (by rfl) 0 rfl ?_
    refine g_iconst hO 0 d_X5_readCourtLine_47 (by decide) ?_
    refine g_bipush hO 9 d_X5_readCourtLine_48 (by decide) ?_
    refine k_virtIs hO cl_X5 mm_X5_takeNumber lkV_X5_142 ⟨⟨Nat.le_of_ble_eq_true rfl, Nat.le_of_ble_eq_true rfl⟩, Nat.le_of_ble_eq_true rfl, Nat.le_of_ble_eq_true rfl⟩ (kn' := (0, 0)) rfl (As := [vI 0, vI 9]) rfl (Nat.le_of_ble_eq_true rfl) (fun o' _ => t_X5_takeNumber Γ.2.1 E o' 0 9 S54) d_X5_readCourtLine_50 rfl (fun v57 S58 => ?_)
    refine k_virtVs hO cl_X7 mm_X7_setLast lkV_X5_145 ⟨⟨Nat.le_of_ble_eq_true rfl, Nat.le_of_ble_eq_true rfl⟩, Nat.le_of_ble_eq_true rfl, Nat.le_of_ble_eq_true rfl⟩ (kn' := (0, 0)) rfl (As := [vI 1, vI v57]) rfl (Nat.le_of_ble_eq_true rfl) (fun o' _ => t_X7_setLast Γ.2.1 E o' 1 v57 S58) d_X5_readCourtLine_53 rfl (fun S60 => ?_)
    refine g_goto (tgt := 191) hO d_X5_readCourtLine_56.1 d_X5_readCourtLine_56.2 ?_
    exact g_vret hO rfl ⟨Nat.le_of_ble_eq_true rfl, Nat.le_of_ble_eq_true rfl⟩ rfl rfl d_X5_readCourtLine_191.1
theorem t_X5_readCourtLine (l : Launch) (E : GE) (o : Nat) (S : GS) : ∀ a, f_X5_readCourtLine o S = some a → Ct l E yX5_readCourtLine cX5_readCourtLine 1 none rm_X5_readCourtLine [vA (some o)] S none a :=
  Ct_of (val := fun _ => none) (nxt := fun b => b) (by decide) (Nat.le_of_ble_eq_true rfl) (fun Γ hl hO => w_X5_readCourtLine hO o S)
theorem d_X5_deedOfWord_0 : gD cX5_deedOfWord 0 (.aload_n 0) 1 1 := ⟨by decide +kernel, rfl⟩
theorem d_X5_deedOfWord_1 : gD cX5_deedOfWord 1 (.ldc 182) 2 3 := ⟨by decide +kernel, rfl⟩
theorem d_X5_deedOfWord_3 : gD cX5_deedOfWord 3 (.invokevirtual 131) 3 6 := ⟨by decide +kernel, rfl⟩
theorem d_X5_deedOfWord_6 : gD cX5_deedOfWord 6 (.ifCond .eq 5) 3 9 ∧ ((6 : Nat) : Int) + 5 = ((11 : Nat) : Int) := ⟨⟨by decide +kernel, rfl⟩, by decide⟩
theorem d_X5_deedOfWord_9 : gD cX5_deedOfWord 9 (.iconst 0) 1 10 := ⟨by decide +kernel, rfl⟩
theorem d_X5_deedOfWord_10 : gD cX5_deedOfWord 10 (.ireturn) 1 11 := ⟨by decide +kernel, rfl⟩
theorem d_X5_deedOfWord_11 : gD cX5_deedOfWord 11 (.aload_n 0) 1 12 := ⟨by decide +kernel, rfl⟩
theorem d_X5_deedOfWord_12 : gD cX5_deedOfWord 12 (.ldc 197) 2 14 := ⟨by decide +kernel, rfl⟩
theorem d_X5_deedOfWord_14 : gD cX5_deedOfWord 14 (.invokevirtual 131) 3 17 := ⟨by decide +kernel, rfl⟩
theorem d_X5_deedOfWord_17 : gD cX5_deedOfWord 17 (.ifCond .eq 5) 3 20 ∧ ((17 : Nat) : Int) + 5 = ((22 : Nat) : Int) := ⟨⟨by decide +kernel, rfl⟩, by decide⟩
theorem d_X5_deedOfWord_20 : gD cX5_deedOfWord 20 (.iconst 1) 1 21 := ⟨by decide +kernel, rfl⟩
theorem d_X5_deedOfWord_21 : gD cX5_deedOfWord 21 (.ireturn) 1 22 := ⟨by decide +kernel, rfl⟩
theorem d_X5_deedOfWord_22 : gD cX5_deedOfWord 22 (.aload_n 0) 1 23 := ⟨by decide +kernel, rfl⟩
theorem d_X5_deedOfWord_23 : gD cX5_deedOfWord 23 (.ldc 199) 2 25 := ⟨by decide +kernel, rfl⟩
theorem d_X5_deedOfWord_25 : gD cX5_deedOfWord 25 (.invokevirtual 131) 3 28 := ⟨by decide +kernel, rfl⟩
theorem d_X5_deedOfWord_28 : gD cX5_deedOfWord 28 (.ifCond .eq 5) 3 31 ∧ ((28 : Nat) : Int) + 5 = ((33 : Nat) : Int) := ⟨⟨by decide +kernel, rfl⟩, by decide⟩
theorem d_X5_deedOfWord_31 : gD cX5_deedOfWord 31 (.iconst 2) 1 32 := ⟨by decide +kernel, rfl⟩
theorem d_X5_deedOfWord_32 : gD cX5_deedOfWord 32 (.ireturn) 1 33 := ⟨by decide +kernel, rfl⟩
theorem d_X5_deedOfWord_33 : gD cX5_deedOfWord 33 (.aload_n 0) 1 34 := ⟨by decide +kernel, rfl⟩
theorem d_X5_deedOfWord_34 : gD cX5_deedOfWord 34 (.ldc 201) 2 36 := ⟨by decide +kernel, rfl⟩
theorem d_X5_deedOfWord_36 : gD cX5_deedOfWord 36 (.invokevirtual 131) 3 39 := ⟨by decide +kernel, rfl⟩
theorem d_X5_deedOfWord_39 : gD cX5_deedOfWord 39 (.ifCond .eq 5) 3 42 ∧ ((39 : Nat) : Int) + 5 = ((44 : Nat) : Int) := ⟨⟨by decide +kernel, rfl⟩, by decide⟩
theorem d_X5_deedOfWord_42 : gD cX5_deedOfWord 42 (.iconst 3) 1 43 := ⟨by decide +kernel, rfl⟩
theorem d_X5_deedOfWord_43 : gD cX5_deedOfWord 43 (.ireturn) 1 44 := ⟨by decide +kernel, rfl⟩
theorem d_X5_deedOfWord_44 : gD cX5_deedOfWord 44 (.aload_n 0) 1 45 := ⟨by decide +kernel, rfl⟩
theorem d_X5_deedOfWord_45 : gD cX5_deedOfWord 45 (.ldc 203) 2 47 := ⟨by decide +kernel, rfl⟩
theorem d_X5_deedOfWord_47 : gD cX5_deedOfWord 47 (.invokevirtual 131) 3 50 := ⟨by decide +kernel, rfl⟩
theorem d_X5_deedOfWord_50 : gD cX5_deedOfWord 50 (.ifCond .eq 5) 3 53 ∧ ((50 : Nat) : Int) + 5 = ((55 : Nat) : Int) := ⟨⟨by decide +kernel, rfl⟩, by decide⟩
theorem d_X5_deedOfWord_53 : gD cX5_deedOfWord 53 (.iconst 4) 1 54 := ⟨by decide +kernel, rfl⟩
theorem d_X5_deedOfWord_54 : gD cX5_deedOfWord 54 (.ireturn) 1 55 := ⟨by decide +kernel, rfl⟩
theorem d_X5_deedOfWord_55 : gD cX5_deedOfWord 55 (.aload_n 0) 1 56 := ⟨by decide +kernel, rfl⟩
theorem d_X5_deedOfWord_56 : gD cX5_deedOfWord 56 (.ldc 205) 2 58 := ⟨by decide +kernel, rfl⟩
theorem d_X5_deedOfWord_58 : gD cX5_deedOfWord 58 (.invokevirtual 131) 3 61 := ⟨by decide +kernel, rfl⟩
theorem d_X5_deedOfWord_61 : gD cX5_deedOfWord 61 (.ifCond .eq 5) 3 64 ∧ ((61 : Nat) : Int) + 5 = ((66 : Nat) : Int) := ⟨⟨by decide +kernel, rfl⟩, by decide⟩
theorem d_X5_deedOfWord_64 : gD cX5_deedOfWord 64 (.iconst 5) 1 65 := ⟨by decide +kernel, rfl⟩
theorem d_X5_deedOfWord_65 : gD cX5_deedOfWord 65 (.ireturn) 1 66 := ⟨by decide +kernel, rfl⟩
theorem d_X5_deedOfWord_66 : gD cX5_deedOfWord 66 (.aload_n 0) 1 67 := ⟨by decide +kernel, rfl⟩
theorem d_X5_deedOfWord_67 : gD cX5_deedOfWord 67 (.ldc 207) 2 69 := ⟨by decide +kernel, rfl⟩
theorem d_X5_deedOfWord_69 : gD cX5_deedOfWord 69 (.invokevirtual 131) 3 72 := ⟨by decide +kernel, rfl⟩
theorem d_X5_deedOfWord_72 : gD cX5_deedOfWord 72 (.ifCond .eq 6) 3 75 ∧ ((72 : Nat) : Int) + 6 = ((78 : Nat) : Int) := ⟨⟨by decide +kernel, rfl⟩, by decide⟩
theorem d_X5_deedOfWord_75 : gD cX5_deedOfWord 75 (.bipush 6) 2 77 := ⟨by decide +kernel, rfl⟩
theorem d_X5_deedOfWord_77 : gD cX5_deedOfWord 77 (.ireturn) 1 78 := ⟨by decide +kernel, rfl⟩
theorem d_X5_deedOfWord_78 : gD cX5_deedOfWord 78 (.aload_n 0) 1 79 := ⟨by decide +kernel, rfl⟩
theorem d_X5_deedOfWord_79 : gD cX5_deedOfWord 79 (.ldc 209) 2 81 := ⟨by decide +kernel, rfl⟩
theorem d_X5_deedOfWord_81 : gD cX5_deedOfWord 81 (.invokevirtual 131) 3 84 := ⟨by decide +kernel, rfl⟩
theorem d_X5_deedOfWord_84 : gD cX5_deedOfWord 84 (.ifCond .eq 6) 3 87 ∧ ((84 : Nat) : Int) + 6 = ((90 : Nat) : Int) := ⟨⟨by decide +kernel, rfl⟩, by decide⟩
theorem d_X5_deedOfWord_87 : gD cX5_deedOfWord 87 (.bipush 7) 2 89 := ⟨by decide +kernel, rfl⟩
theorem d_X5_deedOfWord_89 : gD cX5_deedOfWord 89 (.ireturn) 1 90 := ⟨by decide +kernel, rfl⟩
theorem d_X5_deedOfWord_90 : gD cX5_deedOfWord 90 (.aload_n 0) 1 91 := ⟨by decide +kernel, rfl⟩
theorem d_X5_deedOfWord_91 : gD cX5_deedOfWord 91 (.ldc 211) 2 93 := ⟨by decide +kernel, rfl⟩
theorem d_X5_deedOfWord_93 : gD cX5_deedOfWord 93 (.invokevirtual 131) 3 96 := ⟨by decide +kernel, rfl⟩
theorem d_X5_deedOfWord_96 : gD cX5_deedOfWord 96 (.ifCond .eq 8) 3 99 ∧ ((96 : Nat) : Int) + 8 = ((104 : Nat) : Int) := ⟨⟨by decide +kernel, rfl⟩, by decide⟩
theorem d_X5_deedOfWord_99 : gD cX5_deedOfWord 99 (.bipush 8) 2 101 := ⟨by decide +kernel, rfl⟩
theorem d_X5_deedOfWord_101 : decode cX5_deedOfWord 101 = .ok (.goto 4, 3) ∧ ((101 : Nat) : Int) + 4 = ((105 : Nat) : Int) := ⟨by decide +kernel, by decide⟩
theorem d_X5_deedOfWord_104 : gD cX5_deedOfWord 104 (.iconst (-1)) 1 105 := ⟨by decide +kernel, rfl⟩
theorem d_X5_deedOfWord_105 : gD cX5_deedOfWord 105 (.ireturn) 1 106 := ⟨by decide +kernel, rfl⟩
abbrev rm_X5_deedOfWord : Room := { frames := 5, cells := 0, slots := 0, locals := 107 }
set_option maxRecDepth 20000 in
theorem w_X5_deedOfWord {Γ : GC} {E : GE} (hO : gOk Γ E cX5_deedOfWord RX5 1 rm_X5_deedOfWord (some .int) "deedOfWord") (o : Nat) (S : GS) : Go Γ E (gBpI Γ E S) 1 (0, 0) 0 S [(0, vA (some o))] [] (f_X5_deedOfWord o S) := by
  unfold f_X5_deedOfWord
  refine g_aload_n hO d_X5_deedOfWord_0 (by rfl) 0 rfl ?_
  refine g_ldcS hO 5 (by decide) rfl d_X5_deedOfWord_1 ?_
  refine k_virtIp hO cl_X5 mm_X5_isWord lkV_X5_131 ⟨⟨Nat.le_of_ble_eq_true rfl, Nat.le_of_ble_eq_true rfl⟩, Nat.le_of_ble_eq_true rfl, Nat.le_of_ble_eq_true rfl⟩ (kn' := (0, 0)) rfl (As := [vA (some 100005)]) rfl (Nat.le_of_ble_eq_true rfl) (fun o' _ => t_X5_isWord Γ.2.1 E o' (some 100005) S) d_X5_deedOfWord_3 rfl (fun v1 => ?_)
  refine g_if_eq (tgt := 11) hO d_X5_deedOfWord_6.1 d_X5_deedOfWord_6.2 (fun _ => ?_) (fun _ => ?_)
  · skip
    refine g_aload_n hO d_X5_deedOfWord_11 (by rfl) 0 rfl ?_
    refine g_ldcS hO 7 (by decide) rfl d_X5_deedOfWord_12 ?_
    refine k_virtIp hO cl_X5 mm_X5_isWord lkV_X5_131 ⟨⟨Nat.le_of_ble_eq_true rfl, Nat.le_of_ble_eq_true rfl⟩, Nat.le_of_ble_eq_true rfl, Nat.le_of_ble_eq_true rfl⟩ (kn' := (0, 0)) rfl (As := [vA (some 100007)]) rfl (Nat.le_of_ble_eq_true rfl) (fun o' _ => t_X5_isWord Γ.2.1 E o' (some 100007) S) d_X5_deedOfWord_14 rfl (fun v3 => ?_)
    refine g_if_eq (tgt := 22) hO d_X5_deedOfWord_17.1 d_X5_deedOfWord_17.2 (fun _ => ?_) (fun _ => ?_)
    · skip
      refine g_aload_n hO d_X5_deedOfWord_22 (by rfl) 0 rfl ?_
      refine g_ldcS hO 8 (by decide) rfl d_X5_deedOfWord_23 ?_
      refine k_virtIp hO cl_X5 mm_X5_isWord lkV_X5_131 ⟨⟨Nat.le_of_ble_eq_true rfl, Nat.le_of_ble_eq_true rfl⟩, Nat.le_of_ble_eq_true rfl, Nat.le_of_ble_eq_true rfl⟩ (kn' := (0, 0)) rfl (As := [vA (some 100008)]) rfl (Nat.le_of_ble_eq_true rfl) (fun o' _ => t_X5_isWord Γ.2.1 E o' (some 100008) S) d_X5_deedOfWord_25 rfl (fun v5 => ?_)
      refine g_if_eq (tgt := 33) hO d_X5_deedOfWord_28.1 d_X5_deedOfWord_28.2 (fun _ => ?_) (fun _ => ?_)
      · skip
        refine g_aload_n hO d_X5_deedOfWord_33 (by rfl) 0 rfl ?_
        refine g_ldcS hO 9 (by decide) rfl d_X5_deedOfWord_34 ?_
        refine k_virtIp hO cl_X5 mm_X5_isWord lkV_X5_131 ⟨⟨Nat.le_of_ble_eq_true rfl, Nat.le_of_ble_eq_true rfl⟩, Nat.le_of_ble_eq_true rfl, Nat.le_of_ble_eq_true rfl⟩ (kn' := (0, 0)) rfl (As := [vA (some 100009)]) rfl (Nat.le_of_ble_eq_true rfl) (fun o' _ => t_X5_isWord Γ.2.1 E o' (some 100009) S) d_X5_deedOfWord_36 rfl (fun v7 => ?_)
        refine g_if_eq (tgt := 44) hO d_X5_deedOfWord_39.1 d_X5_deedOfWord_39.2 (fun _ => ?_) (fun _ => ?_)
        · skip
          refine g_aload_n hO d_X5_deedOfWord_44 (by rfl) 0 rfl ?_
          refine g_ldcS hO 10 (by decide) rfl d_X5_deedOfWord_45 ?_
          refine k_virtIp hO cl_X5 mm_X5_isWord lkV_X5_131 ⟨⟨Nat.le_of_ble_eq_true rfl, Nat.le_of_ble_eq_true rfl⟩, Nat.le_of_ble_eq_true rfl, Nat.le_of_ble_eq_true rfl⟩ (kn' := (0, 0)) rfl (As := [vA (some 100010)]) rfl (Nat.le_of_ble_eq_true rfl) (fun o' _ => t_X5_isWord Γ.2.1 E o' (some 100010) S) d_X5_deedOfWord_47 rfl (fun v9 => ?_)
          refine g_if_eq (tgt := 55) hO d_X5_deedOfWord_50.1 d_X5_deedOfWord_50.2 (fun _ => ?_) (fun _ => ?_)
          · skip
            refine g_aload_n hO d_X5_deedOfWord_55 (by rfl) 0 rfl ?_
            refine g_ldcS hO 11 (by decide) rfl d_X5_deedOfWord_56 ?_
            refine k_virtIp hO cl_X5 mm_X5_isWord lkV_X5_131 ⟨⟨Nat.le_of_ble_eq_true rfl, Nat.le_of_ble_eq_true rfl⟩, Nat.le_of_ble_eq_true rfl, Nat.le_of_ble_eq_true rfl⟩ (kn' := (0, 0)) rfl (As := [vA (some 100011)]) rfl (Nat.le_of_ble_eq_true rfl) (fun o' _ => t_X5_isWord Γ.2.1 E o' (some 100011) S) d_X5_deedOfWord_58 rfl (fun v11 => ?_)
            refine g_if_eq (tgt := 66) hO d_X5_deedOfWord_61.1 d_X5_deedOfWord_61.2 (fun _ => ?_) (fun _ => ?_)
            · skip
              refine g_aload_n hO d_X5_deedOfWord_66 (by rfl) 0 rfl ?_
              refine g_ldcS hO 12 (by decide) rfl d_X5_deedOfWord_67 ?_
              refine k_virtIp hO cl_X5 mm_X5_isWord lkV_X5_131 ⟨⟨Nat.le_of_ble_eq_true rfl, Nat.le_of_ble_eq_true rfl⟩, Nat.le_of_ble_eq_true rfl, Nat.le_of_ble_eq_true rfl⟩ (kn' := (0, 0)) rfl (As := [vA (some 100012)]) rfl (Nat.le_of_ble_eq_true rfl) (fun o' _ => t_X5_isWord Γ.2.1 E o' (some 100012) S) d_X5_deedOfWord_69 rfl (fun v13 => ?_)
              refine g_if_eq (tgt := 78) hO d_X5_deedOfWord_72.1 d_X5_deedOfWord_72.2 (fun _ => ?_) (fun _ => ?_)
              · skip
                refine g_aload_n hO d_X5_deedOfWord_78 (by rfl) 0 rfl ?_
                refine g_ldcS hO 13 (by decide) rfl d_X5_deedOfWord_79 ?_
                refine k_virtIp hO cl_X5 mm_X5_isWord lkV_X5_131 ⟨⟨Nat.le_of_ble_eq_true rfl, Nat.le_of_ble_eq_true rfl⟩, Nat.le_of_ble_eq_true rfl, Nat.le_of_ble_eq_true rfl⟩ (kn' := (0, 0)) rfl (As := [vA (some 100013)]) rfl (Nat.le_of_ble_eq_true rfl) (fun o' _ => t_X5_isWord Γ.2.1 E o' (some 100013) S) d_X5_deedOfWord_81 rfl (fun v15 => ?_)
                refine g_if_eq (tgt := 90) hO d_X5_deedOfWord_84.1 d_X5_deedOfWord_84.2 (fun _ => ?_) (fun _ => ?_)
                · skip
                  refine g_aload_n hO d_X5_deedOfWord_90 (by rfl) 0 rfl ?_
                  refine g_ldcS hO 14 (by decide) rfl d_X5_deedOfWord_91 ?_
                  refine k_virtIp hO cl_X5 mm_X5_isWord lkV_X5_131 ⟨⟨Nat.le_of_ble_eq_true rfl, Nat.le_of_ble_eq_true rfl⟩, Nat.le_of_ble_eq_true rfl, Nat.le_of_ble_eq_true rfl⟩ (kn' := (0, 0)) rfl (As := [vA (some 100014)]) rfl (Nat.le_of_ble_eq_true rfl) (fun o' _ => t_X5_isWord Γ.2.1 E o' (some 100014) S) d_X5_deedOfWord_93 rfl (fun v17 => ?_)
                  refine g_if_eq (tgt := 104) hO d_X5_deedOfWord_96.1 d_X5_deedOfWord_96.2 (fun _ => ?_) (fun _ => ?_)
                  · skip
                    refine g_iconst hO (-1) d_X5_deedOfWord_104 (by decide) ?_
                    exact g_ret hO rfl rfl ⟨Nat.le_of_ble_eq_true rfl, Nat.le_of_ble_eq_true rfl⟩ rfl rfl d_X5_deedOfWord_105.1
                  · skip
                    refine g_bipush hO 8 d_X5_deedOfWord_99 (by decide) ?_
                    refine g_goto (tgt := 105) hO d_X5_deedOfWord_101.1 d_X5_deedOfWord_101.2 ?_
                    exact g_ret hO rfl rfl ⟨Nat.le_of_ble_eq_true rfl, Nat.le_of_ble_eq_true rfl⟩ rfl rfl d_X5_deedOfWord_105.1
                · skip
                  refine g_bipush hO 7 d_X5_deedOfWord_87 (by decide) ?_
                  exact g_ret hO rfl rfl ⟨Nat.le_of_ble_eq_true rfl, Nat.le_of_ble_eq_true rfl⟩ rfl rfl d_X5_deedOfWord_89.1
              · skip
                refine g_bipush hO 6 d_X5_deedOfWord_75 (by decide) ?_
                exact g_ret hO rfl rfl ⟨Nat.le_of_ble_eq_true rfl, Nat.le_of_ble_eq_true rfl⟩ rfl rfl d_X5_deedOfWord_77.1
            · skip
              refine g_iconst hO 5 d_X5_deedOfWord_64 (by decide) ?_
              exact g_ret hO rfl rfl ⟨Nat.le_of_ble_eq_true rfl, Nat.le_of_ble_eq_true rfl⟩ rfl rfl d_X5_deedOfWord_65.1
          · skip
            refine g_iconst hO 4 d_X5_deedOfWord_53 (by decide) ?_
            exact g_ret hO rfl rfl ⟨Nat.le_of_ble_eq_true rfl, Nat.le_of_ble_eq_true rfl⟩ rfl rfl d_X5_deedOfWord_54.1
        · skip
          refine g_iconst hO 3 d_X5_deedOfWord_42 (by decide) ?_
          exact g_ret hO rfl rfl ⟨Nat.le_of_ble_eq_true rfl, Nat.le_of_ble_eq_true rfl⟩ rfl rfl d_X5_deedOfWord_43.1
      · skip
        refine g_iconst hO 2 d_X5_deedOfWord_31 (by decide) ?_
        exact g_ret hO rfl rfl ⟨Nat.le_of_ble_eq_true rfl, Nat.le_of_ble_eq_true rfl⟩ rfl rfl d_X5_deedOfWord_32.1
    · skip
      refine g_iconst hO 1 d_X5_deedOfWord_20 (by decide) ?_
      exact g_ret hO rfl rfl ⟨Nat.le_of_ble_eq_true rfl, Nat.le_of_ble_eq_true rfl⟩ rfl rfl d_X5_deedOfWord_21.1
  · skip
    refine g_iconst hO 0 d_X5_deedOfWord_9 (by decide) ?_
    exact g_ret hO rfl rfl ⟨Nat.le_of_ble_eq_true rfl, Nat.le_of_ble_eq_true rfl⟩ rfl rfl d_X5_deedOfWord_10.1
theorem t_X5_deedOfWord (l : Launch) (E : GE) (o : Nat) (S : GS) : ∀ a, f_X5_deedOfWord o S = some a → Ct l E yX5_deedOfWord cX5_deedOfWord 1 (some .int) rm_X5_deedOfWord [vA (some o)] S (some (vI a)) S :=
  Ct_of (val := fun b => some (vI b)) (nxt := fun _ => S) (by decide) (Nat.le_of_ble_eq_true rfl) (fun Γ hl hO => w_X5_deedOfWord hO o S)
theorem d_X5_readBallLine_0 : gD cX5_readBallLine 0 (.aload_n 0) 1 1 := ⟨by decide +kernel, rfl⟩
theorem d_X5_readBallLine_1 : gD cX5_readBallLine 1 (.invokevirtual 194) 3 4 := ⟨by decide +kernel, rfl⟩
theorem d_X5_readBallLine_4 : gD cX5_readBallLine 4 (.istore_n 1) 1 5 := ⟨by decide +kernel, rfl⟩
theorem d_X5_readBallLine_5 : gD cX5_readBallLine 5 (.iload_n 1) 1 6 := ⟨by decide +kernel, rfl⟩
theorem d_X5_readBallLine_6 : gD cX5_readBallLine 6 (.iconst (-1)) 1 7 := ⟨by decide +kernel, rfl⟩
theorem d_X5_readBallLine_7 : gD cX5_readBallLine 7 (.if_icmp .ne 8) 3 10 ∧ ((7 : Nat) : Int) + 8 = ((15 : Nat) : Int) := ⟨⟨by decide +kernel, rfl⟩, by decide⟩
theorem d_X5_readBallLine_10 : gD cX5_readBallLine 10 (.aload_n 0) 1 11 := ⟨by decide +kernel, rfl⟩
theorem d_X5_readBallLine_11 : gD cX5_readBallLine 11 (.invokevirtual 191) 3 14 := ⟨by decide +kernel, rfl⟩
theorem d_X5_readBallLine_14 : gD cX5_readBallLine 14 (.return_) 1 15 := ⟨by decide +kernel, rfl⟩
theorem d_X5_readBallLine_15 : gD cX5_readBallLine 15 (.aload_n 0) 1 16 := ⟨by decide +kernel, rfl⟩
theorem d_X5_readBallLine_16 : gD cX5_readBallLine 16 (.aload_n 0) 1 17 := ⟨by decide +kernel, rfl⟩
theorem d_X5_readBallLine_17 : gD cX5_readBallLine 17 (.getfield 34) 3 20 := ⟨by decide +kernel, rfl⟩
theorem d_X5_readBallLine_20 : gD cX5_readBallLine 20 (.invokevirtual 138) 3 23 := ⟨by decide +kernel, rfl⟩
theorem d_X5_readBallLine_23 : gD cX5_readBallLine 23 (.aload_n 0) 1 24 := ⟨by decide +kernel, rfl⟩
theorem d_X5_readBallLine_24 : gD cX5_readBallLine 24 (.getfield 34) 3 27 := ⟨by decide +kernel, rfl⟩
theorem d_X5_readBallLine_27 : gD cX5_readBallLine 27 (.iconst 0) 1 28 := ⟨by decide +kernel, rfl⟩
theorem d_X5_readBallLine_28 : gD cX5_readBallLine 28 (.iload_n 1) 1 29 := ⟨by decide +kernel, rfl⟩
theorem d_X5_readBallLine_29 : gD cX5_readBallLine 29 (.invokevirtual 145) 3 32 := ⟨by decide +kernel, rfl⟩
theorem d_X5_readBallLine_32 : gD cX5_readBallLine 32 (.iload_n 1) 1 33 := ⟨by decide +kernel, rfl⟩
theorem d_X5_readBallLine_33 : decode cX5_readBallLine 33 = .ok (.tableswitch 161 0 6 #[43, 61, 61, 78, 96, 96, 129], 43) ∧ ((33 : Nat) : Int) + 161 = ((194 : Nat) : Int) := ⟨by decide +kernel, by decide⟩
theorem d_X5_readBallLine_76 : gD cX5_readBallLine 76 (.aload_n 0) 1 77 := ⟨by decide +kernel, rfl⟩
theorem d_X5_readBallLine_77 : gD cX5_readBallLine 77 (.getfield 34) 3 80 := ⟨by decide +kernel, rfl⟩
theorem d_X5_readBallLine_80 : gD cX5_readBallLine 80 (.iconst 1) 1 81 := ⟨by decide +kernel, rfl⟩
theorem d_X5_readBallLine_81 : gD cX5_readBallLine 81 (.aload_n 0) 1 82 := ⟨by decide +kernel, rfl⟩
theorem d_X5_readBallLine_82 : gD cX5_readBallLine 82 (.iconst 0) 1 83 := ⟨by decide +kernel, rfl⟩
theorem d_X5_readBallLine_83 : gD cX5_readBallLine 83 (.bipush 40) 2 85 := ⟨by decide +kernel, rfl⟩
theorem d_X5_readBallLine_85 : gD cX5_readBallLine 85 (.invokevirtual 142) 3 88 := ⟨by decide +kernel, rfl⟩
theorem d_X5_readBallLine_88 : gD cX5_readBallLine 88 (.invokevirtual 145) 3 91 := ⟨by decide +kernel, rfl⟩
theorem d_X5_readBallLine_91 : decode cX5_readBallLine 91 = .ok (.goto 103, 3) ∧ ((91 : Nat) : Int) + 103 = ((194 : Nat) : Int) := ⟨by decide +kernel, by decide⟩
theorem d_X5_readBallLine_94 : gD cX5_readBallLine 94 (.aload_n 0) 1 95 := ⟨by decide +kernel, rfl⟩
theorem d_X5_readBallLine_95 : gD cX5_readBallLine 95 (.getfield 34) 3 98 := ⟨by decide +kernel, rfl⟩
theorem d_X5_readBallLine_98 : gD cX5_readBallLine 98 (.iconst 1) 1 99 := ⟨by decide +kernel, rfl⟩
theorem d_X5_readBallLine_99 : gD cX5_readBallLine 99 (.aload_n 0) 1 100 := ⟨by decide +kernel, rfl⟩
theorem d_X5_readBallLine_100 : gD cX5_readBallLine 100 (.iconst 0) 1 101 := ⟨by decide +kernel, rfl⟩
theorem d_X5_readBallLine_101 : gD cX5_readBallLine 101 (.iconst 3) 1 102 := ⟨by decide +kernel, rfl⟩
theorem d_X5_readBallLine_102 : gD cX5_readBallLine 102 (.invokevirtual 142) 3 105 := ⟨by decide +kernel, rfl⟩
theorem d_X5_readBallLine_105 : gD cX5_readBallLine 105 (.invokevirtual 145) 3 108 := ⟨by decide +kernel, rfl⟩
theorem d_X5_readBallLine_108 : decode cX5_readBallLine 108 = .ok (.goto 86, 3) ∧ ((108 : Nat) : Int) + 86 = ((194 : Nat) : Int) := ⟨by decide +kernel, by decide⟩
theorem d_X5_readBallLine_111 : gD cX5_readBallLine 111 (.aload_n 0) 1 112 := ⟨by decide +kernel, rfl⟩
theorem d_X5_readBallLine_112 : gD cX5_readBallLine 112 (.getfield 34) 3 115 := ⟨by decide +kernel, rfl⟩
theorem d_X5_readBallLine_115 : gD cX5_readBallLine 115 (.iconst 1) 1 116 := ⟨by decide +kernel, rfl⟩
theorem d_X5_readBallLine_116 : gD cX5_readBallLine 116 (.aload_n 0) 1 117 := ⟨by decide +kernel, rfl⟩
theorem d_X5_readBallLine_117 : gD cX5_readBallLine 117 (.iconst 0) 1 118 := ⟨by decide +kernel, rfl⟩
theorem d_X5_readBallLine_118 : gD cX5_readBallLine 118 (.bipush 7) 2 120 := ⟨by decide +kernel, rfl⟩
theorem d_X5_readBallLine_120 : gD cX5_readBallLine 120 (.invokevirtual 142) 3 123 := ⟨by decide +kernel, rfl⟩
theorem d_X5_readBallLine_123 : gD cX5_readBallLine 123 (.invokevirtual 145) 3 126 := ⟨by decide +kernel, rfl⟩
theorem d_X5_readBallLine_126 : decode cX5_readBallLine 126 = .ok (.goto 68, 3) ∧ ((126 : Nat) : Int) + 68 = ((194 : Nat) : Int) := ⟨by decide +kernel, by decide⟩
theorem d_X5_readBallLine_129 : gD cX5_readBallLine 129 (.aload_n 0) 1 130 := ⟨by decide +kernel, rfl⟩
theorem d_X5_readBallLine_130 : gD cX5_readBallLine 130 (.getfield 34) 3 133 := ⟨by decide +kernel, rfl⟩
theorem d_X5_readBallLine_133 : gD cX5_readBallLine 133 (.iconst 1) 1 134 := ⟨by decide +kernel, rfl⟩
theorem d_X5_readBallLine_134 : gD cX5_readBallLine 134 (.aload_n 0) 1 135 := ⟨by decide +kernel, rfl⟩
theorem d_X5_readBallLine_135 : gD cX5_readBallLine 135 (.iconst 0) 1 136 := ⟨by decide +kernel, rfl⟩
theorem d_X5_readBallLine_136 : gD cX5_readBallLine 136 (.bipush 7) 2 138 := ⟨by decide +kernel, rfl⟩
theorem d_X5_readBallLine_138 : gD cX5_readBallLine 138 (.invokevirtual 142) 3 141 := ⟨by decide +kernel, rfl⟩
theorem d_X5_readBallLine_141 : gD cX5_readBallLine 141 (.invokevirtual 145) 3 144 := ⟨by decide +kernel, rfl⟩
theorem d_X5_readBallLine_144 : gD cX5_readBallLine 144 (.aload_n 0) 1 145 := ⟨by decide +kernel, rfl⟩
theorem d_X5_readBallLine_145 : gD cX5_readBallLine 145 (.getfield 34) 3 148 := ⟨by decide +kernel, rfl⟩
theorem d_X5_readBallLine_148 : gD cX5_readBallLine 148 (.iconst 2) 1 149 := ⟨by decide +kernel, rfl⟩
theorem d_X5_readBallLine_149 : gD cX5_readBallLine 149 (.aload_n 0) 1 150 := ⟨by decide +kernel, rfl⟩
theorem d_X5_readBallLine_150 : gD cX5_readBallLine 150 (.iconst 1) 1 151 := ⟨by decide +kernel, rfl⟩
theorem d_X5_readBallLine_151 : gD cX5_readBallLine 151 (.bipush 9) 2 153 := ⟨by decide +kernel, rfl⟩
theorem d_X5_readBallLine_153 : gD cX5_readBallLine 153 (.invokevirtual 142) 3 156 := ⟨by decide +kernel, rfl⟩
theorem d_X5_readBallLine_156 : gD cX5_readBallLine 156 (.invokevirtual 145) 3 159 := ⟨by decide +kernel, rfl⟩
theorem d_X5_readBallLine_159 : decode cX5_readBallLine 159 = .ok (.goto 35, 3) ∧ ((159 : Nat) : Int) + 35 = ((194 : Nat) : Int) := ⟨by decide +kernel, by decide⟩
theorem d_X5_readBallLine_162 : gD cX5_readBallLine 162 (.aload_n 0) 1 163 := ⟨by decide +kernel, rfl⟩
theorem d_X5_readBallLine_163 : gD cX5_readBallLine 163 (.getfield 34) 3 166 := ⟨by decide +kernel, rfl⟩
theorem d_X5_readBallLine_166 : gD cX5_readBallLine 166 (.iconst 1) 1 167 := ⟨by decide +kernel, rfl⟩
theorem d_X5_readBallLine_167 : gD cX5_readBallLine 167 (.aload_n 0) 1 168 := ⟨by decide +kernel, rfl⟩
theorem d_X5_readBallLine_168 : gD cX5_readBallLine 168 (.iconst 0) 1 169 := ⟨by decide +kernel, rfl⟩
theorem d_X5_readBallLine_169 : gD cX5_readBallLine 169 (.bipush 7) 2 171 := ⟨by decide +kernel, rfl⟩
theorem d_X5_readBallLine_171 : gD cX5_readBallLine 171 (.invokevirtual 142) 3 174 := ⟨by decide +kernel, rfl⟩
theorem d_X5_readBallLine_174 : gD cX5_readBallLine 174 (.invokevirtual 145) 3 177 := ⟨by decide +kernel, rfl⟩
theorem d_X5_readBallLine_177 : gD cX5_readBallLine 177 (.aload_n 0) 1 178 := ⟨by decide +kernel, rfl⟩
theorem d_X5_readBallLine_178 : gD cX5_readBallLine 178 (.getfield 34) 3 181 := ⟨by decide +kernel, rfl⟩
theorem d_X5_readBallLine_181 : gD cX5_readBallLine 181 (.iconst 2) 1 182 := ⟨by decide +kernel, rfl⟩
theorem d_X5_readBallLine_182 : gD cX5_readBallLine 182 (.aload_n 0) 1 183 := ⟨by decide +kernel, rfl⟩
theorem d_X5_readBallLine_183 : gD cX5_readBallLine 183 (.iconst 0) 1 184 := ⟨by decide +kernel, rfl⟩
theorem d_X5_readBallLine_184 : gD cX5_readBallLine 184 (.iconst 3) 1 185 := ⟨by decide +kernel, rfl⟩
theorem d_X5_readBallLine_185 : gD cX5_readBallLine 185 (.invokevirtual 142) 3 188 := ⟨by decide +kernel, rfl⟩
theorem d_X5_readBallLine_188 : gD cX5_readBallLine 188 (.invokevirtual 145) 3 191 := ⟨by decide +kernel, rfl⟩
theorem d_X5_readBallLine_191 : decode cX5_readBallLine 191 = .ok (.goto 3, 3) ∧ ((191 : Nat) : Int) + 3 = ((194 : Nat) : Int) := ⟨by decide +kernel, by decide⟩
theorem d_X5_readBallLine_194 : gD cX5_readBallLine 194 (.return_) 1 195 := ⟨by decide +kernel, rfl⟩
abbrev rm_X5_readBallLine : Room := { frames := 6, cells := 0, slots := 0, locals := 127 }
set_option maxRecDepth 20000 in
theorem w_X5_readBallLine_94 {Γ : GC} {E : GE} (hO : gOk Γ E cX5_readBallLine RX5 2 rm_X5_readBallLine none "readBallLine") (o : Nat) (S : GS) : Go Γ E (gBsV Γ E) 2 (0, 0) 94 S [(0, vA (some o))] [] (f_X5_readBallLine_94 o S) := by
  unfold f_X5_readBallLine_94
  refine g_aload_n hO d_X5_readBallLine_94 (by rfl) 0 rfl ?_
  refine h_getR hO cl_X5 3 rfl wf_X5_34 d_X5_readBallLine_95 (fun v1 => ?_)
  refine g_iconst hO 1 d_X5_readBallLine_98 (by decide) ?_
  refine g_aload_n hO d_X5_readBallLine_99 (by rfl) 0 rfl ?_
  refine g_iconst hO 0 d_X5_readBallLine_100 (by decide) ?_
  refine g_iconst hO 3 d_X5_readBallLine_101 (by decide) ?_
  refine k_virtIs hO cl_X5 mm_X5_takeNumber lkV_X5_142 ⟨⟨Nat.le_of_ble_eq_true rfl, Nat.le_of_ble_eq_true rfl⟩, Nat.le_of_ble_eq_true rfl, Nat.le_of_ble_eq_true rfl⟩ (kn' := (0, 0)) rfl (As := [vI 0, vI 3]) rfl (Nat.le_of_ble_eq_true rfl) (fun o' _ => t_X5_takeNumber Γ.2.1 E o' 0 3 S) d_X5_readBallLine_102 rfl (fun v2 S3 => ?_)
  refine k_virtVs hO cl_X7 mm_X7_setLast lkV_X5_145 ⟨⟨Nat.le_of_ble_eq_true rfl, Nat.le_of_ble_eq_true rfl⟩, Nat.le_of_ble_eq_true rfl, Nat.le_of_ble_eq_true rfl⟩ (kn' := (0, 0)) rfl (As := [vI 1, vI v2]) rfl (Nat.le_of_ble_eq_true rfl) (fun o' _ => t_X7_setLast Γ.2.1 E o' 1 v2 S3) d_X5_readBallLine_105 rfl (fun S5 => ?_)
  refine g_goto (tgt := 194) hO d_X5_readBallLine_108.1 d_X5_readBallLine_108.2 ?_
  exact g_vret hO rfl ⟨Nat.le_of_ble_eq_true rfl, Nat.le_of_ble_eq_true rfl⟩ rfl rfl d_X5_readBallLine_194.1
set_option maxRecDepth 20000 in
theorem w_X5_readBallLine_129 {Γ : GC} {E : GE} (hO : gOk Γ E cX5_readBallLine RX5 2 rm_X5_readBallLine none "readBallLine") (o : Nat) (S : GS) : Go Γ E (gBsV Γ E) 2 (0, 0) 129 S [(0, vA (some o))] [] (f_X5_readBallLine_129 o S) := by
  unfold f_X5_readBallLine_129
  refine g_aload_n hO d_X5_readBallLine_129 (by rfl) 0 rfl ?_
  refine h_getR hO cl_X5 3 rfl wf_X5_34 d_X5_readBallLine_130 (fun v1 => ?_)
  refine g_iconst hO 1 d_X5_readBallLine_133 (by decide) ?_
  refine g_aload_n hO d_X5_readBallLine_134 (by rfl) 0 rfl ?_
  refine g_iconst hO 0 d_X5_readBallLine_135 (by decide) ?_
  refine g_bipush hO 7 d_X5_readBallLine_136 (by decide) ?_
  refine k_virtIs hO cl_X5 mm_X5_takeNumber lkV_X5_142 ⟨⟨Nat.le_of_ble_eq_true rfl, Nat.le_of_ble_eq_true rfl⟩, Nat.le_of_ble_eq_true rfl, Nat.le_of_ble_eq_true rfl⟩ (kn' := (0, 0)) rfl (As := [vI 0, vI 7]) rfl (Nat.le_of_ble_eq_true rfl) (fun o' _ => t_X5_takeNumber Γ.2.1 E o' 0 7 S) d_X5_readBallLine_138 rfl (fun v2 S3 => ?_)
  refine k_virtVs hO cl_X7 mm_X7_setLast lkV_X5_145 ⟨⟨Nat.le_of_ble_eq_true rfl, Nat.le_of_ble_eq_true rfl⟩, Nat.le_of_ble_eq_true rfl, Nat.le_of_ble_eq_true rfl⟩ (kn' := (0, 0)) rfl (As := [vI 1, vI v2]) rfl (Nat.le_of_ble_eq_true rfl) (fun o' _ => t_X7_setLast Γ.2.1 E o' 1 v2 S3) d_X5_readBallLine_141 rfl (fun S5 => ?_)
  refine g_aload_n hO d_X5_readBallLine_144 (by rfl) 0 rfl ?_
  refine h_getR hO cl_X5 3 rfl wf_X5_34 d_X5_readBallLine_145 (fun v6 => ?_)
  refine g_iconst hO 2 d_X5_readBallLine_148 (by decide) ?_
  refine g_aload_n hO d_X5_readBallLine_149 (by rfl) 0 rfl ?_
  refine g_iconst hO 1 d_X5_readBallLine_150 (by decide) ?_
  refine g_bipush hO 9 d_X5_readBallLine_151 (by decide) ?_
  refine k_virtIs hO cl_X5 mm_X5_takeNumber lkV_X5_142 ⟨⟨Nat.le_of_ble_eq_true rfl, Nat.le_of_ble_eq_true rfl⟩, Nat.le_of_ble_eq_true rfl, Nat.le_of_ble_eq_true rfl⟩ (kn' := (0, 0)) rfl (As := [vI 1, vI 9]) rfl (Nat.le_of_ble_eq_true rfl) (fun o' _ => t_X5_takeNumber Γ.2.1 E o' 1 9 S5) d_X5_readBallLine_153 rfl (fun v7 S8 => ?_)
  refine k_virtVs hO cl_X7 mm_X7_setLast lkV_X5_145 ⟨⟨Nat.le_of_ble_eq_true rfl, Nat.le_of_ble_eq_true rfl⟩, Nat.le_of_ble_eq_true rfl, Nat.le_of_ble_eq_true rfl⟩ (kn' := (0, 0)) rfl (As := [vI 2, vI v7]) rfl (Nat.le_of_ble_eq_true rfl) (fun o' _ => t_X7_setLast Γ.2.1 E o' 2 v7 S8) d_X5_readBallLine_156 rfl (fun S10 => ?_)
  refine g_goto (tgt := 194) hO d_X5_readBallLine_159.1 d_X5_readBallLine_159.2 ?_
  exact g_vret hO rfl ⟨Nat.le_of_ble_eq_true rfl, Nat.le_of_ble_eq_true rfl⟩ rfl rfl d_X5_readBallLine_194.1
set_option maxRecDepth 20000 in
theorem w_X5_readBallLine {Γ : GC} {E : GE} (hO : gOk Γ E cX5_readBallLine RX5 2 rm_X5_readBallLine none "readBallLine") (o : Nat) (S : GS) : Go Γ E (gBsV Γ E) 2 (0, 0) 0 S [(0, vA (some o))] [] (f_X5_readBallLine o S) := by
  unfold f_X5_readBallLine
  refine g_aload_n hO d_X5_readBallLine_0 (by rfl) 0 rfl ?_
  refine k_virtIp hO cl_X5 mm_X5_deedOfWord lkV_X5_194 ⟨⟨Nat.le_of_ble_eq_true rfl, Nat.le_of_ble_eq_true rfl⟩, Nat.le_of_ble_eq_true rfl, Nat.le_of_ble_eq_true rfl⟩ (kn' := (0, 0)) rfl (As := []) rfl (Nat.le_of_ble_eq_true rfl) (fun o' _ => t_X5_deedOfWord Γ.2.1 E o' S) d_X5_readBallLine_1 rfl (fun v1 => ?_)
  refine g_istore_n (lv' := [(1, vI v1), (0, vA (some o))]) hO d_X5_readBallLine_4 (by rfl) (by decide) rfl ?_
  refine g_iload_n hO d_X5_readBallLine_5 (by rfl) 0 rfl ?_
  refine g_iconst hO (-1) d_X5_readBallLine_6 (by decide) ?_
  refine g_ic_ne (tgt := 15) hO d_X5_readBallLine_7.1 d_X5_readBallLine_7.2 (fun _ => ?_) (fun _ => ?_)
  · skip
    refine g_aload_n hO d_X5_readBallLine_10 (by rfl) 1 rfl ?_
    refine k_virtVs hO cl_X5 mm_X5_breakHere lkV_X5_191 ⟨⟨Nat.le_of_ble_eq_true rfl, Nat.le_of_ble_eq_true rfl⟩, Nat.le_of_ble_eq_true rfl, Nat.le_of_ble_eq_true rfl⟩ (kn' := (0, 0)) rfl (As := []) rfl (Nat.le_of_ble_eq_true rfl) (fun o' _ => t_X5_breakHere Γ.2.1 E o' S) d_X5_readBallLine_11 rfl (fun S4 => ?_)
    exact g_vret hO rfl ⟨Nat.le_of_ble_eq_true rfl, Nat.le_of_ble_eq_true rfl⟩ rfl rfl d_X5_readBallLine_14.1
  · skip
    refine g_aload_n hO d_X5_readBallLine_15 (by rfl) 1 rfl ?_
    refine g_aload_n hO d_X5_readBallLine_16 (by rfl) 1 rfl ?_
    refine h_getR hO cl_X5 3 rfl wf_X5_34 d_X5_readBallLine_17 (fun v5 => ?_)
    refine k_virtVs hO cl_X5 mm_X5_openLine lkV_X5_138 ⟨⟨Nat.le_of_ble_eq_true rfl, Nat.le_of_ble_eq_true rfl⟩, Nat.le_of_ble_eq_true rfl, Nat.le_of_ble_eq_true rfl⟩ (kn' := (0, 0)) rfl (As := [vA v5]) rfl (Nat.le_of_ble_eq_true rfl) (fun o' _ => t_X5_openLine Γ.2.1 E o' v5 S) d_X5_readBallLine_20 rfl (fun S7 => ?_)
    refine g_aload_n hO d_X5_readBallLine_23 (by rfl) 1 rfl ?_
    refine h_getR hO cl_X5 3 rfl wf_X5_34 d_X5_readBallLine_24 (fun v8 => ?_)
    refine g_iconst hO 0 d_X5_readBallLine_27 (by decide) ?_
    refine g_iload_n hO d_X5_readBallLine_28 (by rfl) 0 rfl ?_
    refine k_virtVs hO cl_X7 mm_X7_setLast lkV_X5_145 ⟨⟨Nat.le_of_ble_eq_true rfl, Nat.le_of_ble_eq_true rfl⟩, Nat.le_of_ble_eq_true rfl, Nat.le_of_ble_eq_true rfl⟩ (kn' := (0, 0)) rfl (As := [vI 0, vI v1]) rfl (Nat.le_of_ble_eq_true rfl) (fun o' _ => t_X7_setLast Γ.2.1 E o' 0 v1 S7) d_X5_readBallLine_29 rfl (fun S10 => ?_)
    refine g_iload_n hO d_X5_readBallLine_32 (by rfl) 0 rfl ?_
    refine h_tsw (c := 0) (dt := 194) hO d_X5_readBallLine_33.1 7 (by decide) (by rfl) rfl (by decide) (by decide) d_X5_readBallLine_33.2 ⟨⟨76, by decide, ?_⟩, ⟨94, by decide, ?_⟩, ⟨94, by decide, ?_⟩, ⟨111, by decide, ?_⟩, ⟨129, by decide, ?_⟩, ⟨129, by decide, ?_⟩, ⟨162, by decide, ?_⟩, trivial⟩ ?_
    · skip
      refine g_aload_n hO d_X5_readBallLine_76 (by rfl) 1 rfl ?_
      refine h_getR hO cl_X5 3 rfl wf_X5_34 d_X5_readBallLine_77 (fun v11 => ?_)
      refine g_iconst hO 1 d_X5_readBallLine_80 (by decide) ?_
      refine g_aload_n hO d_X5_readBallLine_81 (by rfl) 1 rfl ?_
      refine g_iconst hO 0 d_X5_readBallLine_82 (by decide) ?_
      refine g_bipush hO 40 d_X5_readBallLine_83 (by decide) ?_
      refine k_virtIs hO cl_X5 mm_X5_takeNumber lkV_X5_142 ⟨⟨Nat.le_of_ble_eq_true rfl, Nat.le_of_ble_eq_true rfl⟩, Nat.le_of_ble_eq_true rfl, Nat.le_of_ble_eq_true rfl⟩ (kn' := (0, 0)) rfl (As := [vI 0, vI 40]) rfl (Nat.le_of_ble_eq_true rfl) (fun o' _ => t_X5_takeNumber Γ.2.1 E o' 0 40 S10) d_X5_readBallLine_85 rfl (fun v12 S13 => ?_)
      refine k_virtVs hO cl_X7 mm_X7_setLast lkV_X5_145 ⟨⟨Nat.le_of_ble_eq_true rfl, Nat.le_of_ble_eq_true rfl⟩, Nat.le_of_ble_eq_true rfl, Nat.le_of_ble_eq_true rfl⟩ (kn' := (0, 0)) rfl (As := [vI 1, vI v12]) rfl (Nat.le_of_ble_eq_true rfl) (fun o' _ => t_X7_setLast Γ.2.1 E o' 1 v12 S13) d_X5_readBallLine_88 rfl (fun S15 => ?_)
      refine g_goto (tgt := 194) hO d_X5_readBallLine_91.1 d_X5_readBallLine_91.2 ?_
      exact g_vret hO rfl ⟨Nat.le_of_ble_eq_true rfl, Nat.le_of_ble_eq_true rfl⟩ rfl rfl d_X5_readBallLine_194.1
    · skip
      exact g_sub [1] rfl (w_X5_readBallLine_94 hO o _)
    · skip
      exact g_sub [1] rfl (w_X5_readBallLine_94 hO o _)
    · skip
      refine g_aload_n hO d_X5_readBallLine_111 (by rfl) 1 rfl ?_
      refine h_getR hO cl_X5 3 rfl wf_X5_34 d_X5_readBallLine_112 (fun v16 => ?_)
      refine g_iconst hO 1 d_X5_readBallLine_115 (by decide) ?_
      refine g_aload_n hO d_X5_readBallLine_116 (by rfl) 1 rfl ?_
      refine g_iconst hO 0 d_X5_readBallLine_117 (by decide) ?_
      refine g_bipush hO 7 d_X5_readBallLine_118 (by decide) ?_
      refine k_virtIs hO cl_X5 mm_X5_takeNumber lkV_X5_142 ⟨⟨Nat.le_of_ble_eq_true rfl, Nat.le_of_ble_eq_true rfl⟩, Nat.le_of_ble_eq_true rfl, Nat.le_of_ble_eq_true rfl⟩ (kn' := (0, 0)) rfl (As := [vI 0, vI 7]) rfl (Nat.le_of_ble_eq_true rfl) (fun o' _ => t_X5_takeNumber Γ.2.1 E o' 0 7 S10) d_X5_readBallLine_120 rfl (fun v17 S18 => ?_)
      refine k_virtVs hO cl_X7 mm_X7_setLast lkV_X5_145 ⟨⟨Nat.le_of_ble_eq_true rfl, Nat.le_of_ble_eq_true rfl⟩, Nat.le_of_ble_eq_true rfl, Nat.le_of_ble_eq_true rfl⟩ (kn' := (0, 0)) rfl (As := [vI 1, vI v17]) rfl (Nat.le_of_ble_eq_true rfl) (fun o' _ => t_X7_setLast Γ.2.1 E o' 1 v17 S18) d_X5_readBallLine_123 rfl (fun S20 => ?_)
      refine g_goto (tgt := 194) hO d_X5_readBallLine_126.1 d_X5_readBallLine_126.2 ?_
      exact g_vret hO rfl ⟨Nat.le_of_ble_eq_true rfl, Nat.le_of_ble_eq_true rfl⟩ rfl rfl d_X5_readBallLine_194.1
    · skip
      exact g_sub [1] rfl (w_X5_readBallLine_129 hO o _)
    · skip
      exact g_sub [1] rfl (w_X5_readBallLine_129 hO o _)
    · skip
      refine g_aload_n hO d_X5_readBallLine_162 (by rfl) 1 rfl ?_
      refine h_getR hO cl_X5 3 rfl wf_X5_34 d_X5_readBallLine_163 (fun v21 => ?_)
      refine g_iconst hO 1 d_X5_readBallLine_166 (by decide) ?_
      refine g_aload_n hO d_X5_readBallLine_167 (by rfl) 1 rfl ?_
      refine g_iconst hO 0 d_X5_readBallLine_168 (by decide) ?_
      refine g_bipush hO 7 d_X5_readBallLine_169 (by decide) ?_
      refine k_virtIs hO cl_X5 mm_X5_takeNumber lkV_X5_142 ⟨⟨Nat.le_of_ble_eq_true rfl, Nat.le_of_ble_eq_true rfl⟩, Nat.le_of_ble_eq_true rfl, Nat.le_of_ble_eq_true rfl⟩ (kn' := (0, 0)) rfl (As := [vI 0, vI 7]) rfl (Nat.le_of_ble_eq_true rfl) (fun o' _ => t_X5_takeNumber Γ.2.1 E o' 0 7 S10) d_X5_readBallLine_171 rfl (fun v22 S23 => ?_)
      refine k_virtVs hO cl_X7 mm_X7_setLast lkV_X5_145 ⟨⟨Nat.le_of_ble_eq_true rfl, Nat.le_of_ble_eq_true rfl⟩, Nat.le_of_ble_eq_true rfl, Nat.le_of_ble_eq_true rfl⟩ (kn' := (0, 0)) rfl (As := [vI 1, vI v22]) rfl (Nat.le_of_ble_eq_true rfl) (fun o' _ => t_X7_setLast Γ.2.1 E o' 1 v22 S23) d_X5_readBallLine_174 rfl (fun S25 => ?_)
      refine g_aload_n hO d_X5_readBallLine_177 (by rfl) 1 rfl ?_
      refine h_getR hO cl_X5 3 rfl wf_X5_34 d_X5_readBallLine_178 (fun v26 => ?_)
      refine g_iconst hO 2 d_X5_readBallLine_181 (by decide) ?_
      refine g_aload_n hO d_X5_readBallLine_182 (by rfl) 1 rfl ?_
      refine g_iconst hO 0 d_X5_readBallLine_183 (by decide) ?_
      refine g_iconst hO 3 d_X5_readBallLine_184 (by decide) ?_
      refine k_virtIs hO cl_X5 mm_X5_takeNumber lkV_X5_142 ⟨⟨Nat.le_of_ble_eq_true rfl, Nat.le_of_ble_eq_true rfl⟩, Nat.le_of_ble_eq_true rfl, Nat.le_of_ble_eq_true rfl⟩ (kn' := (0, 0)) rfl (As := [vI 0, vI 3]) rfl (Nat.le_of_ble_eq_true rfl) (fun o' _ => t_X5_takeNumber Γ.2.1 E o' 0 3 S25) d_X5_readBallLine_185 rfl (fun v27 S28 => ?_)
      refine k_virtVs hO cl_X7 mm_X7_setLast lkV_X5_145 ⟨⟨Nat.le_of_ble_eq_true rfl, Nat.le_of_ble_eq_true rfl⟩, Nat.le_of_ble_eq_true rfl, Nat.le_of_ble_eq_true rfl⟩ (kn' := (0, 0)) rfl (As := [vI 2, vI v27]) rfl (Nat.le_of_ble_eq_true rfl) (fun o' _ => t_X7_setLast Γ.2.1 E o' 2 v27 S28) d_X5_readBallLine_188 rfl (fun S30 => ?_)
      refine g_goto (tgt := 194) hO d_X5_readBallLine_191.1 d_X5_readBallLine_191.2 ?_
      exact g_vret hO rfl ⟨Nat.le_of_ble_eq_true rfl, Nat.le_of_ble_eq_true rfl⟩ rfl rfl d_X5_readBallLine_194.1
    · skip
      exact g_vret hO rfl ⟨Nat.le_of_ble_eq_true rfl, Nat.le_of_ble_eq_true rfl⟩ rfl rfl d_X5_readBallLine_194.1
theorem t_X5_readBallLine (l : Launch) (E : GE) (o : Nat) (S : GS) : ∀ a, f_X5_readBallLine o S = some a → Ct l E yX5_readBallLine cX5_readBallLine 2 none rm_X5_readBallLine [vA (some o)] S none a :=
  Ct_of (val := fun _ => none) (nxt := fun b => b) (by decide) (Nat.le_of_ble_eq_true rfl) (fun Γ hl hO => w_X5_readBallLine hO o S)
theorem d_X5_readMark_0 : gD cX5_readMark 0 (.aload_n 0) 1 1 := ⟨by decide +kernel, rfl⟩
theorem d_X5_readMark_1 : gD cX5_readMark 1 (.getfield 171) 3 4 := ⟨by decide +kernel, rfl⟩
theorem d_X5_readMark_4 : gD cX5_readMark 4 (.istore_n 1) 1 5 := ⟨by decide +kernel, rfl⟩
theorem d_X5_readMark_5 : gD cX5_readMark 5 (.aload_n 0) 1 6 := ⟨by decide +kernel, rfl⟩
theorem d_X5_readMark_6 : gD cX5_readMark 6 (.iconst 0) 1 7 := ⟨by decide +kernel, rfl⟩
theorem d_X5_readMark_7 : gD cX5_readMark 7 (.bipush 40) 2 9 := ⟨by decide +kernel, rfl⟩
theorem d_X5_readMark_9 : gD cX5_readMark 9 (.invokevirtual 142) 3 12 := ⟨by decide +kernel, rfl⟩
theorem d_X5_readMark_12 : gD cX5_readMark 12 (.istore_n 2) 1 13 := ⟨by decide +kernel, rfl⟩
theorem d_X5_readMark_13 : gD cX5_readMark 13 (.aload_n 0) 1 14 := ⟨by decide +kernel, rfl⟩
theorem d_X5_readMark_14 : gD cX5_readMark 14 (.aload_n 0) 1 15 := ⟨by decide +kernel, rfl⟩
theorem d_X5_readMark_15 : gD cX5_readMark 15 (.getfield 38) 3 18 := ⟨by decide +kernel, rfl⟩
theorem d_X5_readMark_18 : gD cX5_readMark 18 (.iload_n 1) 1 19 := ⟨by decide +kernel, rfl⟩
theorem d_X5_readMark_19 : gD cX5_readMark 19 (.invokevirtual 218) 3 22 := ⟨by decide +kernel, rfl⟩
theorem d_X5_readMark_22 : gD cX5_readMark 22 (.aload_n 0) 1 23 := ⟨by decide +kernel, rfl⟩
theorem d_X5_readMark_23 : gD cX5_readMark 23 (.getfield 38) 3 26 := ⟨by decide +kernel, rfl⟩
theorem d_X5_readMark_26 : gD cX5_readMark 26 (.iconst 0) 1 27 := ⟨by decide +kernel, rfl⟩
theorem d_X5_readMark_27 : gD cX5_readMark 27 (.iload_n 2) 1 28 := ⟨by decide +kernel, rfl⟩
theorem d_X5_readMark_28 : gD cX5_readMark 28 (.invokevirtual 145) 3 31 := ⟨by decide +kernel, rfl⟩
theorem d_X5_readMark_31 : gD cX5_readMark 31 (.return_) 1 32 := ⟨by decide +kernel, rfl⟩
abbrev rm_X5_readMark : Room := { frames := 3, cells := 0, slots := 0, locals := 66 }
set_option maxRecDepth 20000 in
theorem w_X5_readMark {Γ : GC} {E : GE} (hO : gOk Γ E cX5_readMark RX5 3 rm_X5_readMark none "readMark") (o : Nat) (S : GS) : Go Γ E (gBsV Γ E) 3 (0, 0) 0 S [(0, vA (some o))] [] (f_X5_readMark o S) := by
  unfold f_X5_readMark
  refine g_aload_n hO d_X5_readMark_0 (by rfl) 0 rfl ?_
  refine h_getI hO cl_X5 9 rfl wf_X5_171 d_X5_readMark_1 (fun v1 => ?_)
  refine g_istore_n (lv' := [(1, vI v1), (0, vA (some o))]) hO d_X5_readMark_4 (by rfl) (by decide) rfl ?_
  refine g_aload_n hO d_X5_readMark_5 (by rfl) 1 rfl ?_
  refine g_iconst hO 0 d_X5_readMark_6 (by decide) ?_
  refine g_bipush hO 40 d_X5_readMark_7 (by decide) ?_
  refine k_virtIs hO cl_X5 mm_X5_takeNumber lkV_X5_142 ⟨⟨Nat.le_of_ble_eq_true rfl, Nat.le_of_ble_eq_true rfl⟩, Nat.le_of_ble_eq_true rfl, Nat.le_of_ble_eq_true rfl⟩ (kn' := (0, 0)) rfl (As := [vI 0, vI 40]) rfl (Nat.le_of_ble_eq_true rfl) (fun o' _ => t_X5_takeNumber Γ.2.1 E o' 0 40 S) d_X5_readMark_9 rfl (fun v2 S3 => ?_)
  refine g_istore_n (lv' := [(2, vI v2), (1, vI v1), (0, vA (some o))]) hO d_X5_readMark_12 (by rfl) (by decide) rfl ?_
  refine g_aload_n hO d_X5_readMark_13 (by rfl) 2 rfl ?_
  refine g_aload_n hO d_X5_readMark_14 (by rfl) 2 rfl ?_
  refine h_getR hO cl_X5 4 rfl wf_X5_38 d_X5_readMark_15 (fun v4 => ?_)
  refine g_iload_n hO d_X5_readMark_18 (by rfl) 1 rfl ?_
  refine k_virtVs hO cl_X5 mm_X5_addRowAt lkV_X5_218 ⟨⟨Nat.le_of_ble_eq_true rfl, Nat.le_of_ble_eq_true rfl⟩, Nat.le_of_ble_eq_true rfl, Nat.le_of_ble_eq_true rfl⟩ (kn' := (0, 0)) rfl (As := [vA v4, vI v1]) rfl (Nat.le_of_ble_eq_true rfl) (fun o' _ => t_X5_addRowAt Γ.2.1 E o' v4 v1 S3) d_X5_readMark_19 rfl (fun S6 => ?_)
  refine g_aload_n hO d_X5_readMark_22 (by rfl) 2 rfl ?_
  refine h_getR hO cl_X5 4 rfl wf_X5_38 d_X5_readMark_23 (fun v7 => ?_)
  refine g_iconst hO 0 d_X5_readMark_26 (by decide) ?_
  refine g_iload_n hO d_X5_readMark_27 (by rfl) 0 rfl ?_
  refine k_virtVs hO cl_X7 mm_X7_setLast lkV_X5_145 ⟨⟨Nat.le_of_ble_eq_true rfl, Nat.le_of_ble_eq_true rfl⟩, Nat.le_of_ble_eq_true rfl, Nat.le_of_ble_eq_true rfl⟩ (kn' := (0, 0)) rfl (As := [vI 0, vI v2]) rfl (Nat.le_of_ble_eq_true rfl) (fun o' _ => t_X7_setLast Γ.2.1 E o' 0 v2 S6) d_X5_readMark_28 rfl (fun S9 => ?_)
  exact g_vret hO rfl ⟨Nat.le_of_ble_eq_true rfl, Nat.le_of_ble_eq_true rfl⟩ rfl rfl d_X5_readMark_31.1
theorem t_X5_readMark (l : Launch) (E : GE) (o : Nat) (S : GS) : ∀ a, f_X5_readMark o S = some a → Ct l E yX5_readMark cX5_readMark 3 none rm_X5_readMark [vA (some o)] S none a :=
  Ct_of (val := fun _ => none) (nxt := fun b => b) (by decide) (Nat.le_of_ble_eq_true rfl) (fun Γ hl hO => w_X5_readMark hO o S)
theorem d_X5_readForecastLine_0 : gD cX5_readForecastLine 0 (.aload_n 0) 1 1 := ⟨by decide +kernel, rfl⟩
theorem d_X5_readForecastLine_1 : gD cX5_readForecastLine 1 (.ldc 213) 2 3 := ⟨by decide +kernel, rfl⟩
theorem d_X5_readForecastLine_3 : gD cX5_readForecastLine 3 (.invokevirtual 131) 3 6 := ⟨by decide +kernel, rfl⟩
theorem d_X5_readForecastLine_6 : gD cX5_readForecastLine 6 (.ifCond .ne 8) 3 9 ∧ ((6 : Nat) : Int) + 8 = ((14 : Nat) : Int) := ⟨⟨by decide +kernel, rfl⟩, by decide⟩
theorem d_X5_readForecastLine_9 : gD cX5_readForecastLine 9 (.aload_n 0) 1 10 := ⟨by decide +kernel, rfl⟩
theorem d_X5_readForecastLine_10 : gD cX5_readForecastLine 10 (.invokevirtual 191) 3 13 := ⟨by decide +kernel, rfl⟩
theorem d_X5_readForecastLine_13 : gD cX5_readForecastLine 13 (.return_) 1 14 := ⟨by decide +kernel, rfl⟩
theorem d_X5_readForecastLine_14 : gD cX5_readForecastLine 14 (.aload_n 0) 1 15 := ⟨by decide +kernel, rfl⟩
theorem d_X5_readForecastLine_15 : gD cX5_readForecastLine 15 (.invokevirtual 126) 3 18 := ⟨by decide +kernel, rfl⟩
theorem d_X5_readForecastLine_18 : gD cX5_readForecastLine 18 (.aload_n 0) 1 19 := ⟨by decide +kernel, rfl⟩
theorem d_X5_readForecastLine_19 : gD cX5_readForecastLine 19 (.invokevirtual 215) 3 22 := ⟨by decide +kernel, rfl⟩
theorem d_X5_readForecastLine_22 : gD cX5_readForecastLine 22 (.iconst 0) 1 23 := ⟨by decide +kernel, rfl⟩
theorem d_X5_readForecastLine_23 : gD cX5_readForecastLine 23 (.istore_n 1) 1 24 := ⟨by decide +kernel, rfl⟩
theorem d_X5_readForecastLine_24 : gD cX5_readForecastLine 24 (.iload_n 1) 1 25 := ⟨by decide +kernel, rfl⟩
theorem d_X5_readForecastLine_25 : gD cX5_readForecastLine 25 (.sipush 600) 3 28 := ⟨by decide +kernel, rfl⟩
theorem d_X5_readForecastLine_28 : gD cX5_readForecastLine 28 (.if_icmp .ge 28) 3 31 ∧ ((28 : Nat) : Int) + 28 = ((56 : Nat) : Int) := ⟨⟨by decide +kernel, rfl⟩, by decide⟩
theorem d_X5_readForecastLine_31 : gD cX5_readForecastLine 31 (.aload_n 0) 1 32 := ⟨by decide +kernel, rfl⟩
theorem d_X5_readForecastLine_32 : gD cX5_readForecastLine 32 (.getfield 51) 3 35 := ⟨by decide +kernel, rfl⟩
theorem d_X5_readForecastLine_35 : gD cX5_readForecastLine 35 (.iconst 2) 1 36 := ⟨by decide +kernel, rfl⟩
theorem d_X5_readForecastLine_36 : gD cX5_readForecastLine 36 (.if_icmp .ne 20) 3 39 ∧ ((36 : Nat) : Int) + 20 = ((56 : Nat) : Int) := ⟨⟨by decide +kernel, rfl⟩, by decide⟩
theorem d_X5_readForecastLine_39 : gD cX5_readForecastLine 39 (.aload_n 0) 1 40 := ⟨by decide +kernel, rfl⟩
theorem d_X5_readForecastLine_40 : gD cX5_readForecastLine 40 (.invokevirtual 55) 3 43 := ⟨by decide +kernel, rfl⟩
theorem d_X5_readForecastLine_43 : gD cX5_readForecastLine 43 (.ifCond .ne 13) 3 46 ∧ ((43 : Nat) : Int) + 13 = ((56 : Nat) : Int) := ⟨⟨by decide +kernel, rfl⟩, by decide⟩
theorem d_X5_readForecastLine_46 : gD cX5_readForecastLine 46 (.aload_n 0) 1 47 := ⟨by decide +kernel, rfl⟩
theorem d_X5_readForecastLine_47 : gD cX5_readForecastLine 47 (.invokevirtual 215) 3 50 := ⟨by decide +kernel, rfl⟩
theorem d_X5_readForecastLine_50 : gD cX5_readForecastLine 50 (.iinc 1 1) 3 53 := ⟨by decide +kernel, rfl⟩
theorem d_X5_readForecastLine_53 : decode cX5_readForecastLine 53 = .ok (.goto (-29), 3) ∧ ((53 : Nat) : Int) + (-29) = ((24 : Nat) : Int) := ⟨by decide +kernel, by decide⟩
theorem d_X5_readForecastLine_56 : gD cX5_readForecastLine 56 (.return_) 1 57 := ⟨by decide +kernel, rfl⟩
abbrev rm_X5_readForecastLine : Room := { frames := 5, cells := 0, slots := 0, locals := 107 }
set_option maxRecDepth 20000 in
theorem w_X5_readForecastLine_24 {Γ : GC} {E : GE} (hO : gOk Γ E cX5_readForecastLine RX5 2 rm_X5_readForecastLine none "readForecastLine") (o : Nat) : ∀ (n : Nat) (x1 : Int32) (S : GS), Go Γ E (gBsV Γ E) 2 (0, 0) 24 S [(0, vA (some o)), (1, vI x1)] [] (f_X5_readForecastLine_24 o n x1 S) := by
  intro n
  induction n with
  | zero =>
    intro x1 S
    exact g_none
  | succ n ih =>
    intro x1 S
    rw [f_X5_readForecastLine_24]
    refine g_iload_n hO d_X5_readForecastLine_24 (by rfl) 1 rfl ?_
    refine g_sipush hO 600 d_X5_readForecastLine_25 (by decide) ?_
    refine g_ic_ge (tgt := 56) hO d_X5_readForecastLine_28.1 d_X5_readForecastLine_28.2 (fun _ => ?_) (fun _ => ?_)
    · skip
      exact g_vret hO rfl ⟨Nat.le_of_ble_eq_true rfl, Nat.le_of_ble_eq_true rfl⟩ rfl rfl d_X5_readForecastLine_56.1
    · skip
      refine g_aload_n hO d_X5_readForecastLine_31 (by rfl) 0 rfl ?_
      refine h_getI hO cl_X5 8 rfl wf_X5_51 d_X5_readForecastLine_32 (fun v1 => ?_)
      refine g_iconst hO 2 d_X5_readForecastLine_35 (by decide) ?_
      refine g_ic_ne (tgt := 56) hO d_X5_readForecastLine_36.1 d_X5_readForecastLine_36.2 (fun _ => ?_) (fun _ => ?_)
      · skip
        refine g_aload_n hO d_X5_readForecastLine_39 (by rfl) 0 rfl ?_
        refine k_virtIp hO cl_X5 mm_X5_isBroken lkV_X5_55 ⟨⟨Nat.le_of_ble_eq_true rfl, Nat.le_of_ble_eq_true rfl⟩, Nat.le_of_ble_eq_true rfl, Nat.le_of_ble_eq_true rfl⟩ (kn' := (0, 0)) rfl (As := []) rfl (Nat.le_of_ble_eq_true rfl) (fun o' _ => t_X5_isBroken Γ.2.1 E o' S) d_X5_readForecastLine_40 rfl (fun v2 => ?_)
        refine g_if_ne (tgt := 56) hO d_X5_readForecastLine_43.1 d_X5_readForecastLine_43.2 (fun _ => ?_) (fun _ => ?_)
        · skip
          refine g_aload_n hO d_X5_readForecastLine_46 (by rfl) 0 rfl ?_
          refine k_virtVs hO cl_X5 mm_X5_readMark lkV_X5_215 ⟨⟨Nat.le_of_ble_eq_true rfl, Nat.le_of_ble_eq_true rfl⟩, Nat.le_of_ble_eq_true rfl, Nat.le_of_ble_eq_true rfl⟩ (kn' := (0, 0)) rfl (As := []) rfl (Nat.le_of_ble_eq_true rfl) (fun o' _ => t_X5_readMark Γ.2.1 E o' S) d_X5_readForecastLine_47 rfl (fun S5 => ?_)
          refine g_iinc (lv' := [(1, vI (x1 + 1)), (0, vA (some o))]) hO 1 d_X5_readForecastLine_50 (by decide) 1 rfl (by decide) rfl ?_
          refine g_goto (tgt := 24) hO d_X5_readForecastLine_53.1 d_X5_readForecastLine_53.2 ?_
          exact g_sub [1, 0] rfl (ih _ _)
        · skip
          exact g_vret hO rfl ⟨Nat.le_of_ble_eq_true rfl, Nat.le_of_ble_eq_true rfl⟩ rfl rfl d_X5_readForecastLine_56.1
      · skip
        exact g_vret hO rfl ⟨Nat.le_of_ble_eq_true rfl, Nat.le_of_ble_eq_true rfl⟩ rfl rfl d_X5_readForecastLine_56.1
set_option maxRecDepth 20000 in
theorem w_X5_readForecastLine {Γ : GC} {E : GE} (hO : gOk Γ E cX5_readForecastLine RX5 2 rm_X5_readForecastLine none "readForecastLine") (o : Nat) (S : GS) : Go Γ E (gBsV Γ E) 2 (0, 0) 0 S [(0, vA (some o))] [] (f_X5_readForecastLine o S) := by
  unfold f_X5_readForecastLine
  refine g_aload_n hO d_X5_readForecastLine_0 (by rfl) 0 rfl ?_
  refine g_ldcS hO 15 (by decide) rfl d_X5_readForecastLine_1 ?_
  refine k_virtIp hO cl_X5 mm_X5_isWord lkV_X5_131 ⟨⟨Nat.le_of_ble_eq_true rfl, Nat.le_of_ble_eq_true rfl⟩, Nat.le_of_ble_eq_true rfl, Nat.le_of_ble_eq_true rfl⟩ (kn' := (0, 0)) rfl (As := [vA (some 100015)]) rfl (Nat.le_of_ble_eq_true rfl) (fun o' _ => t_X5_isWord Γ.2.1 E o' (some 100015) S) d_X5_readForecastLine_3 rfl (fun v1 => ?_)
  refine g_if_ne (tgt := 14) hO d_X5_readForecastLine_6.1 d_X5_readForecastLine_6.2 (fun _ => ?_) (fun _ => ?_)
  · skip
    refine g_aload_n hO d_X5_readForecastLine_9 (by rfl) 0 rfl ?_
    refine k_virtVs hO cl_X5 mm_X5_breakHere lkV_X5_191 ⟨⟨Nat.le_of_ble_eq_true rfl, Nat.le_of_ble_eq_true rfl⟩, Nat.le_of_ble_eq_true rfl, Nat.le_of_ble_eq_true rfl⟩ (kn' := (0, 0)) rfl (As := []) rfl (Nat.le_of_ble_eq_true rfl) (fun o' _ => t_X5_breakHere Γ.2.1 E o' S) d_X5_readForecastLine_10 rfl (fun S4 => ?_)
    exact g_vret hO rfl ⟨Nat.le_of_ble_eq_true rfl, Nat.le_of_ble_eq_true rfl⟩ rfl rfl d_X5_readForecastLine_13.1
  · skip
    refine g_aload_n hO d_X5_readForecastLine_14 (by rfl) 0 rfl ?_
    refine k_virtVs hO cl_X5 mm_X5_nextToken lkV_X5_126 ⟨⟨Nat.le_of_ble_eq_true rfl, Nat.le_of_ble_eq_true rfl⟩, Nat.le_of_ble_eq_true rfl, Nat.le_of_ble_eq_true rfl⟩ (kn' := (0, 0)) rfl (As := []) rfl (Nat.le_of_ble_eq_true rfl) (fun o' _ => t_X5_nextToken Γ.2.1 E o' S) d_X5_readForecastLine_15 rfl (fun S6 => ?_)
    refine g_aload_n hO d_X5_readForecastLine_18 (by rfl) 0 rfl ?_
    refine k_virtVs hO cl_X5 mm_X5_readMark lkV_X5_215 ⟨⟨Nat.le_of_ble_eq_true rfl, Nat.le_of_ble_eq_true rfl⟩, Nat.le_of_ble_eq_true rfl, Nat.le_of_ble_eq_true rfl⟩ (kn' := (0, 0)) rfl (As := []) rfl (Nat.le_of_ble_eq_true rfl) (fun o' _ => t_X5_readMark Γ.2.1 E o' S6) d_X5_readForecastLine_19 rfl (fun S8 => ?_)
    refine g_iconst hO 0 d_X5_readForecastLine_22 (by decide) ?_
    refine g_istore_n (lv' := [(1, vI 0), (0, vA (some o))]) hO d_X5_readForecastLine_23 (by rfl) (by decide) rfl ?_
    exact g_sub [1, 0] rfl (w_X5_readForecastLine_24 hO o _ _ _)
theorem t_X5_readForecastLine (l : Launch) (E : GE) (o : Nat) (S : GS) : ∀ a, f_X5_readForecastLine o S = some a → Ct l E yX5_readForecastLine cX5_readForecastLine 2 none rm_X5_readForecastLine [vA (some o)] S none a :=
  Ct_of (val := fun _ => none) (nxt := fun b => b) (by decide) (Nat.le_of_ble_eq_true rfl) (fun Γ hl hO => w_X5_readForecastLine hO o S)
theorem d_X5_readSightLine_0 : gD cX5_readSightLine 0 (.aload_n 0) 1 1 := ⟨by decide +kernel, rfl⟩
theorem d_X5_readSightLine_1 : gD cX5_readSightLine 1 (.ldc 222) 2 3 := ⟨by decide +kernel, rfl⟩
theorem d_X5_readSightLine_3 : gD cX5_readSightLine 3 (.invokevirtual 131) 3 6 := ⟨by decide +kernel, rfl⟩
theorem d_X5_readSightLine_6 : gD cX5_readSightLine 6 (.istore_n 1) 1 7 := ⟨by decide +kernel, rfl⟩
theorem d_X5_readSightLine_7 : gD cX5_readSightLine 7 (.iload_n 1) 1 8 := ⟨by decide +kernel, rfl⟩
theorem d_X5_readSightLine_8 : gD cX5_readSightLine 8 (.ifCond .ne 12) 3 11 ∧ ((8 : Nat) : Int) + 12 = ((20 : Nat) : Int) := ⟨⟨by decide +kernel, rfl⟩, by decide⟩
theorem d_X5_readSightLine_11 : gD cX5_readSightLine 11 (.aload_n 0) 1 12 := ⟨by decide +kernel, rfl⟩
theorem d_X5_readSightLine_12 : gD cX5_readSightLine 12 (.ldc 224) 2 14 := ⟨by decide +kernel, rfl⟩
theorem d_X5_readSightLine_14 : gD cX5_readSightLine 14 (.invokevirtual 131) 3 17 := ⟨by decide +kernel, rfl⟩
theorem d_X5_readSightLine_17 : gD cX5_readSightLine 17 (.ifCond .eq 73) 3 20 ∧ ((17 : Nat) : Int) + 73 = ((90 : Nat) : Int) := ⟨⟨by decide +kernel, rfl⟩, by decide⟩
theorem d_X5_readSightLine_20 : gD cX5_readSightLine 20 (.aload_n 0) 1 21 := ⟨by decide +kernel, rfl⟩
theorem d_X5_readSightLine_21 : gD cX5_readSightLine 21 (.aload_n 0) 1 22 := ⟨by decide +kernel, rfl⟩
theorem d_X5_readSightLine_22 : gD cX5_readSightLine 22 (.getfield 25) 3 25 := ⟨by decide +kernel, rfl⟩
theorem d_X5_readSightLine_25 : gD cX5_readSightLine 25 (.getfield 226) 3 28 := ⟨by decide +kernel, rfl⟩
theorem d_X5_readSightLine_28 : gD cX5_readSightLine 28 (.invokevirtual 138) 3 31 := ⟨by decide +kernel, rfl⟩
theorem d_X5_readSightLine_31 : gD cX5_readSightLine 31 (.aload_n 0) 1 32 := ⟨by decide +kernel, rfl⟩
theorem d_X5_readSightLine_32 : gD cX5_readSightLine 32 (.getfield 25) 3 35 := ⟨by decide +kernel, rfl⟩
theorem d_X5_readSightLine_35 : gD cX5_readSightLine 35 (.getfield 226) 3 38 := ⟨by decide +kernel, rfl⟩
theorem d_X5_readSightLine_38 : gD cX5_readSightLine 38 (.iconst 0) 1 39 := ⟨by decide +kernel, rfl⟩
theorem d_X5_readSightLine_39 : gD cX5_readSightLine 39 (.aload_n 0) 1 40 := ⟨by decide +kernel, rfl⟩
theorem d_X5_readSightLine_40 : gD cX5_readSightLine 40 (.iconst 0) 1 41 := ⟨by decide +kernel, rfl⟩
theorem d_X5_readSightLine_41 : gD cX5_readSightLine 41 (.bipush 7) 2 43 := ⟨by decide +kernel, rfl⟩
theorem d_X5_readSightLine_43 : gD cX5_readSightLine 43 (.invokevirtual 142) 3 46 := ⟨by decide +kernel, rfl⟩
theorem d_X5_readSightLine_46 : gD cX5_readSightLine 46 (.invokevirtual 145) 3 49 := ⟨by decide +kernel, rfl⟩
theorem d_X5_readSightLine_49 : gD cX5_readSightLine 49 (.aload_n 0) 1 50 := ⟨by decide +kernel, rfl⟩
theorem d_X5_readSightLine_50 : gD cX5_readSightLine 50 (.getfield 25) 3 53 := ⟨by decide +kernel, rfl⟩
theorem d_X5_readSightLine_53 : gD cX5_readSightLine 53 (.getfield 226) 3 56 := ⟨by decide +kernel, rfl⟩
theorem d_X5_readSightLine_56 : gD cX5_readSightLine 56 (.iconst 1) 1 57 := ⟨by decide +kernel, rfl⟩
theorem d_X5_readSightLine_57 : gD cX5_readSightLine 57 (.aload_n 0) 1 58 := ⟨by decide +kernel, rfl⟩
theorem d_X5_readSightLine_58 : gD cX5_readSightLine 58 (.iconst 1) 1 59 := ⟨by decide +kernel, rfl⟩
theorem d_X5_readSightLine_59 : gD cX5_readSightLine 59 (.bipush 16) 2 61 := ⟨by decide +kernel, rfl⟩
theorem d_X5_readSightLine_61 : gD cX5_readSightLine 61 (.invokevirtual 142) 3 64 := ⟨by decide +kernel, rfl⟩
theorem d_X5_readSightLine_64 : gD cX5_readSightLine 64 (.invokevirtual 145) 3 67 := ⟨by decide +kernel, rfl⟩
theorem d_X5_readSightLine_67 : gD cX5_readSightLine 67 (.aload_n 0) 1 68 := ⟨by decide +kernel, rfl⟩
theorem d_X5_readSightLine_68 : gD cX5_readSightLine 68 (.getfield 25) 3 71 := ⟨by decide +kernel, rfl⟩
theorem d_X5_readSightLine_71 : gD cX5_readSightLine 71 (.getfield 226) 3 74 := ⟨by decide +kernel, rfl⟩
theorem d_X5_readSightLine_74 : gD cX5_readSightLine 74 (.iconst 2) 1 75 := ⟨by decide +kernel, rfl⟩
theorem d_X5_readSightLine_75 : gD cX5_readSightLine 75 (.iload_n 1) 1 76 := ⟨by decide +kernel, rfl⟩
theorem d_X5_readSightLine_76 : gD cX5_readSightLine 76 (.ifCond .eq 7) 3 79 ∧ ((76 : Nat) : Int) + 7 = ((83 : Nat) : Int) := ⟨⟨by decide +kernel, rfl⟩, by decide⟩
theorem d_X5_readSightLine_79 : gD cX5_readSightLine 79 (.iconst 1) 1 80 := ⟨by decide +kernel, rfl⟩
theorem d_X5_readSightLine_80 : decode cX5_readSightLine 80 = .ok (.goto 4, 3) ∧ ((80 : Nat) : Int) + 4 = ((84 : Nat) : Int) := ⟨by decide +kernel, by decide⟩
theorem d_X5_readSightLine_83 : gD cX5_readSightLine 83 (.iconst 0) 1 84 := ⟨by decide +kernel, rfl⟩
theorem d_X5_readSightLine_84 : gD cX5_readSightLine 84 (.invokevirtual 145) 3 87 := ⟨by decide +kernel, rfl⟩
theorem d_X5_readSightLine_87 : decode cX5_readSightLine 87 = .ok (.goto 120, 3) ∧ ((87 : Nat) : Int) + 120 = ((207 : Nat) : Int) := ⟨by decide +kernel, by decide⟩
theorem d_X5_readSightLine_90 : gD cX5_readSightLine 90 (.aload_n 0) 1 91 := ⟨by decide +kernel, rfl⟩
theorem d_X5_readSightLine_91 : gD cX5_readSightLine 91 (.ldc 229) 2 93 := ⟨by decide +kernel, rfl⟩
theorem d_X5_readSightLine_93 : gD cX5_readSightLine 93 (.invokevirtual 131) 3 96 := ⟨by decide +kernel, rfl⟩
theorem d_X5_readSightLine_96 : gD cX5_readSightLine 96 (.ifCond .eq 107) 3 99 ∧ ((96 : Nat) : Int) + 107 = ((203 : Nat) : Int) := ⟨⟨by decide +kernel, rfl⟩, by decide⟩
theorem d_X5_readSightLine_99 : gD cX5_readSightLine 99 (.aload_n 0) 1 100 := ⟨by decide +kernel, rfl⟩
theorem d_X5_readSightLine_100 : gD cX5_readSightLine 100 (.aload_n 0) 1 101 := ⟨by decide +kernel, rfl⟩
theorem d_X5_readSightLine_101 : gD cX5_readSightLine 101 (.getfield 25) 3 104 := ⟨by decide +kernel, rfl⟩
theorem d_X5_readSightLine_104 : gD cX5_readSightLine 104 (.getfield 231) 3 107 := ⟨by decide +kernel, rfl⟩
theorem d_X5_readSightLine_107 : gD cX5_readSightLine 107 (.invokevirtual 138) 3 110 := ⟨by decide +kernel, rfl⟩
theorem d_X5_readSightLine_110 : gD cX5_readSightLine 110 (.aload_n 0) 1 111 := ⟨by decide +kernel, rfl⟩
theorem d_X5_readSightLine_111 : gD cX5_readSightLine 111 (.getfield 25) 3 114 := ⟨by decide +kernel, rfl⟩
theorem d_X5_readSightLine_114 : gD cX5_readSightLine 114 (.getfield 231) 3 117 := ⟨by decide +kernel, rfl⟩
theorem d_X5_readSightLine_117 : gD cX5_readSightLine 117 (.iconst 0) 1 118 := ⟨by decide +kernel, rfl⟩
theorem d_X5_readSightLine_118 : gD cX5_readSightLine 118 (.aload_n 0) 1 119 := ⟨by decide +kernel, rfl⟩
theorem d_X5_readSightLine_119 : gD cX5_readSightLine 119 (.iconst 0) 1 120 := ⟨by decide +kernel, rfl⟩
theorem d_X5_readSightLine_120 : gD cX5_readSightLine 120 (.bipush 7) 2 122 := ⟨by decide +kernel, rfl⟩
theorem d_X5_readSightLine_122 : gD cX5_readSightLine 122 (.invokevirtual 142) 3 125 := ⟨by decide +kernel, rfl⟩
theorem d_X5_readSightLine_125 : gD cX5_readSightLine 125 (.invokevirtual 145) 3 128 := ⟨by decide +kernel, rfl⟩
theorem d_X5_readSightLine_128 : gD cX5_readSightLine 128 (.aload_n 0) 1 129 := ⟨by decide +kernel, rfl⟩
theorem d_X5_readSightLine_129 : gD cX5_readSightLine 129 (.getfield 25) 3 132 := ⟨by decide +kernel, rfl⟩
theorem d_X5_readSightLine_132 : gD cX5_readSightLine 132 (.getfield 231) 3 135 := ⟨by decide +kernel, rfl⟩
theorem d_X5_readSightLine_135 : gD cX5_readSightLine 135 (.iconst 1) 1 136 := ⟨by decide +kernel, rfl⟩
theorem d_X5_readSightLine_136 : gD cX5_readSightLine 136 (.aload_n 0) 1 137 := ⟨by decide +kernel, rfl⟩
theorem d_X5_readSightLine_137 : gD cX5_readSightLine 137 (.iconst 0) 1 138 := ⟨by decide +kernel, rfl⟩
theorem d_X5_readSightLine_138 : gD cX5_readSightLine 138 (.bipush 60) 2 140 := ⟨by decide +kernel, rfl⟩
theorem d_X5_readSightLine_140 : gD cX5_readSightLine 140 (.invokevirtual 142) 3 143 := ⟨by decide +kernel, rfl⟩
theorem d_X5_readSightLine_143 : gD cX5_readSightLine 143 (.invokevirtual 145) 3 146 := ⟨by decide +kernel, rfl⟩
theorem d_X5_readSightLine_146 : gD cX5_readSightLine 146 (.aload_n 0) 1 147 := ⟨by decide +kernel, rfl⟩
theorem d_X5_readSightLine_147 : gD cX5_readSightLine 147 (.getfield 25) 3 150 := ⟨by decide +kernel, rfl⟩
theorem d_X5_readSightLine_150 : gD cX5_readSightLine 150 (.getfield 231) 3 153 := ⟨by decide +kernel, rfl⟩
theorem d_X5_readSightLine_153 : gD cX5_readSightLine 153 (.iconst 2) 1 154 := ⟨by decide +kernel, rfl⟩
theorem d_X5_readSightLine_154 : gD cX5_readSightLine 154 (.aload_n 0) 1 155 := ⟨by decide +kernel, rfl⟩
theorem d_X5_readSightLine_155 : gD cX5_readSightLine 155 (.ldc 222) 2 157 := ⟨by decide +kernel, rfl⟩
theorem d_X5_readSightLine_157 : gD cX5_readSightLine 157 (.invokevirtual 131) 3 160 := ⟨by decide +kernel, rfl⟩
theorem d_X5_readSightLine_160 : gD cX5_readSightLine 160 (.ifCond .eq 7) 3 163 ∧ ((160 : Nat) : Int) + 7 = ((167 : Nat) : Int) := ⟨⟨by decide +kernel, rfl⟩, by decide⟩
theorem d_X5_readSightLine_163 : gD cX5_readSightLine 163 (.iconst 1) 1 164 := ⟨by decide +kernel, rfl⟩
theorem d_X5_readSightLine_164 : decode cX5_readSightLine 164 = .ok (.goto 4, 3) ∧ ((164 : Nat) : Int) + 4 = ((168 : Nat) : Int) := ⟨by decide +kernel, by decide⟩
theorem d_X5_readSightLine_167 : gD cX5_readSightLine 167 (.iconst 0) 1 168 := ⟨by decide +kernel, rfl⟩
theorem d_X5_readSightLine_168 : gD cX5_readSightLine 168 (.invokevirtual 145) 3 171 := ⟨by decide +kernel, rfl⟩
theorem d_X5_readSightLine_171 : gD cX5_readSightLine 171 (.aload_n 0) 1 172 := ⟨by decide +kernel, rfl⟩
theorem d_X5_readSightLine_172 : gD cX5_readSightLine 172 (.ldc 222) 2 174 := ⟨by decide +kernel, rfl⟩
theorem d_X5_readSightLine_174 : gD cX5_readSightLine 174 (.invokevirtual 131) 3 177 := ⟨by decide +kernel, rfl⟩
theorem d_X5_readSightLine_177 : gD cX5_readSightLine 177 (.ifCond .ne 12) 3 180 ∧ ((177 : Nat) : Int) + 12 = ((189 : Nat) : Int) := ⟨⟨by decide +kernel, rfl⟩, by decide⟩
theorem d_X5_readSightLine_180 : gD cX5_readSightLine 180 (.aload_n 0) 1 181 := ⟨by decide +kernel, rfl⟩
theorem d_X5_readSightLine_181 : gD cX5_readSightLine 181 (.ldc 224) 2 183 := ⟨by decide +kernel, rfl⟩
theorem d_X5_readSightLine_183 : gD cX5_readSightLine 183 (.invokevirtual 131) 3 186 := ⟨by decide +kernel, rfl⟩
theorem d_X5_readSightLine_186 : gD cX5_readSightLine 186 (.ifCond .eq 10) 3 189 ∧ ((186 : Nat) : Int) + 10 = ((196 : Nat) : Int) := ⟨⟨by decide +kernel, rfl⟩, by decide⟩
theorem d_X5_readSightLine_189 : gD cX5_readSightLine 189 (.aload_n 0) 1 190 := ⟨by decide +kernel, rfl⟩
theorem d_X5_readSightLine_190 : gD cX5_readSightLine 190 (.invokevirtual 126) 3 193 := ⟨by decide +kernel, rfl⟩
theorem d_X5_readSightLine_193 : decode cX5_readSightLine 193 = .ok (.goto 14, 3) ∧ ((193 : Nat) : Int) + 14 = ((207 : Nat) : Int) := ⟨by decide +kernel, by decide⟩
theorem d_X5_readSightLine_196 : gD cX5_readSightLine 196 (.aload_n 0) 1 197 := ⟨by decide +kernel, rfl⟩
theorem d_X5_readSightLine_197 : gD cX5_readSightLine 197 (.invokevirtual 191) 3 200 := ⟨by decide +kernel, rfl⟩
theorem d_X5_readSightLine_200 : decode cX5_readSightLine 200 = .ok (.goto 7, 3) ∧ ((200 : Nat) : Int) + 7 = ((207 : Nat) : Int) := ⟨by decide +kernel, by decide⟩
theorem d_X5_readSightLine_203 : gD cX5_readSightLine 203 (.aload_n 0) 1 204 := ⟨by decide +kernel, rfl⟩
theorem d_X5_readSightLine_204 : gD cX5_readSightLine 204 (.invokevirtual 191) 3 207 := ⟨by decide +kernel, rfl⟩
theorem d_X5_readSightLine_207 : gD cX5_readSightLine 207 (.return_) 1 208 := ⟨by decide +kernel, rfl⟩
abbrev rm_X5_readSightLine : Room := { frames := 5, cells := 0, slots := 0, locals := 107 }
set_option maxRecDepth 20000 in
theorem w_X5_readSightLine_84 {Γ : GC} {E : GE} (hO : gOk Γ E cX5_readSightLine RX5 2 rm_X5_readSightLine none "readSightLine") (o : Nat) (y0 : Option Nat) (y1 : Int32) (y2 : Int32) (S : GS) : Go Γ E (gBsV Γ E) 2 (0, 0) 84 S [(0, vA (some o))] [vI y2, vI y1, vA y0] (f_X5_readSightLine_84 o y0 y1 y2 S) := by
  unfold f_X5_readSightLine_84
  refine k_virtVs hO cl_X7 mm_X7_setLast lkV_X5_145 ⟨⟨Nat.le_of_ble_eq_true rfl, Nat.le_of_ble_eq_true rfl⟩, Nat.le_of_ble_eq_true rfl, Nat.le_of_ble_eq_true rfl⟩ (kn' := (0, 0)) rfl (As := [vI y1, vI y2]) rfl (Nat.le_of_ble_eq_true rfl) (fun o' _ => t_X7_setLast Γ.2.1 E o' y1 y2 S) d_X5_readSightLine_84 rfl (fun S2 => ?_)
  refine g_goto (tgt := 207) hO d_X5_readSightLine_87.1 d_X5_readSightLine_87.2 ?_
  exact g_vret hO rfl ⟨Nat.le_of_ble_eq_true rfl, Nat.le_of_ble_eq_true rfl⟩ rfl rfl d_X5_readSightLine_207.1
set_option maxRecDepth 20000 in
theorem w_X5_readSightLine_20 {Γ : GC} {E : GE} (hO : gOk Γ E cX5_readSightLine RX5 2 rm_X5_readSightLine none "readSightLine") (o : Nat) (x1 : Int32) (S : GS) : Go Γ E (gBsV Γ E) 2 (0, 0) 20 S [(0, vA (some o)), (1, vI x1)] [] (f_X5_readSightLine_20 o x1 S) := by
  unfold f_X5_readSightLine_20
  refine g_aload_n hO d_X5_readSightLine_20 (by rfl) 0 rfl ?_
  refine g_aload_n hO d_X5_readSightLine_21 (by rfl) 0 rfl ?_
  refine h_getR hO cl_X5 2 rfl wf_X5_25 d_X5_readSightLine_22 (fun v1 => ?_)
  refine h_getR hO cl_X8 0 rfl wf_X5_226 d_X5_readSightLine_25 (fun v2 => ?_)
  refine k_virtVs hO cl_X5 mm_X5_openLine lkV_X5_138 ⟨⟨Nat.le_of_ble_eq_true rfl, Nat.le_of_ble_eq_true rfl⟩, Nat.le_of_ble_eq_true rfl, Nat.le_of_ble_eq_true rfl⟩ (kn' := (0, 0)) rfl (As := [vA v2]) rfl (Nat.le_of_ble_eq_true rfl) (fun o' _ => t_X5_openLine Γ.2.1 E o' v2 S) d_X5_readSightLine_28 rfl (fun S4 => ?_)
  refine g_aload_n hO d_X5_readSightLine_31 (by rfl) 0 rfl ?_
  refine h_getR hO cl_X5 2 rfl wf_X5_25 d_X5_readSightLine_32 (fun v5 => ?_)
  refine h_getR hO cl_X8 0 rfl wf_X5_226 d_X5_readSightLine_35 (fun v6 => ?_)
  refine g_iconst hO 0 d_X5_readSightLine_38 (by decide) ?_
  refine g_aload_n hO d_X5_readSightLine_39 (by rfl) 0 rfl ?_
  refine g_iconst hO 0 d_X5_readSightLine_40 (by decide) ?_
  refine g_bipush hO 7 d_X5_readSightLine_41 (by decide) ?_
  refine k_virtIs hO cl_X5 mm_X5_takeNumber lkV_X5_142 ⟨⟨Nat.le_of_ble_eq_true rfl, Nat.le_of_ble_eq_true rfl⟩, Nat.le_of_ble_eq_true rfl, Nat.le_of_ble_eq_true rfl⟩ (kn' := (0, 0)) rfl (As := [vI 0, vI 7]) rfl (Nat.le_of_ble_eq_true rfl) (fun o' _ => t_X5_takeNumber Γ.2.1 E o' 0 7 S4) d_X5_readSightLine_43 rfl (fun v7 S8 => ?_)
  refine k_virtVs hO cl_X7 mm_X7_setLast lkV_X5_145 ⟨⟨Nat.le_of_ble_eq_true rfl, Nat.le_of_ble_eq_true rfl⟩, Nat.le_of_ble_eq_true rfl, Nat.le_of_ble_eq_true rfl⟩ (kn' := (0, 0)) rfl (As := [vI 0, vI v7]) rfl (Nat.le_of_ble_eq_true rfl) (fun o' _ => t_X7_setLast Γ.2.1 E o' 0 v7 S8) d_X5_readSightLine_46 rfl (fun S10 => ?_)
  refine g_aload_n hO d_X5_readSightLine_49 (by rfl) 0 rfl ?_
  refine h_getR hO cl_X5 2 rfl wf_X5_25 d_X5_readSightLine_50 (fun v11 => ?_)
  refine h_getR hO cl_X8 0 rfl wf_X5_226 d_X5_readSightLine_53 (fun v12 => ?_)
  refine g_iconst hO 1 d_X5_readSightLine_56 (by decide) ?_
  refine g_aload_n hO d_X5_readSightLine_57 (by rfl) 0 rfl ?_
  refine g_iconst hO 1 d_X5_readSightLine_58 (by decide) ?_
  refine g_bipush hO 16 d_X5_readSightLine_59 (by decide) ?_
  refine k_virtIs hO cl_X5 mm_X5_takeNumber lkV_X5_142 ⟨⟨Nat.le_of_ble_eq_true rfl, Nat.le_of_ble_eq_true rfl⟩, Nat.le_of_ble_eq_true rfl, Nat.le_of_ble_eq_true rfl⟩ (kn' := (0, 0)) rfl (As := [vI 1, vI 16]) rfl (Nat.le_of_ble_eq_true rfl) (fun o' _ => t_X5_takeNumber Γ.2.1 E o' 1 16 S10) d_X5_readSightLine_61 rfl (fun v13 S14 => ?_)
  refine k_virtVs hO cl_X7 mm_X7_setLast lkV_X5_145 ⟨⟨Nat.le_of_ble_eq_true rfl, Nat.le_of_ble_eq_true rfl⟩, Nat.le_of_ble_eq_true rfl, Nat.le_of_ble_eq_true rfl⟩ (kn' := (0, 0)) rfl (As := [vI 1, vI v13]) rfl (Nat.le_of_ble_eq_true rfl) (fun o' _ => t_X7_setLast Γ.2.1 E o' 1 v13 S14) d_X5_readSightLine_64 rfl (fun S16 => ?_)
  refine g_aload_n hO d_X5_readSightLine_67 (by rfl) 0 rfl ?_
  refine h_getR hO cl_X5 2 rfl wf_X5_25 d_X5_readSightLine_68 (fun v17 => ?_)
  refine h_getR hO cl_X8 0 rfl wf_X5_226 d_X5_readSightLine_71 (fun v18 => ?_)
  refine g_iconst hO 2 d_X5_readSightLine_74 (by decide) ?_
  refine g_iload_n hO d_X5_readSightLine_75 (by rfl) 1 rfl ?_
  refine g_if_eq (tgt := 83) hO d_X5_readSightLine_76.1 d_X5_readSightLine_76.2 (fun _ => ?_) (fun _ => ?_)
  · skip
    refine g_iconst hO 0 d_X5_readSightLine_83 (by decide) ?_
    exact g_sub [0] rfl (w_X5_readSightLine_84 hO o _ _ _ _)
  · skip
    refine g_iconst hO 1 d_X5_readSightLine_79 (by decide) ?_
    refine g_goto (tgt := 84) hO d_X5_readSightLine_80.1 d_X5_readSightLine_80.2 ?_
    exact g_sub [0] rfl (w_X5_readSightLine_84 hO o _ _ _ _)
set_option maxRecDepth 20000 in
theorem w_X5_readSightLine_189 {Γ : GC} {E : GE} (hO : gOk Γ E cX5_readSightLine RX5 2 rm_X5_readSightLine none "readSightLine") (o : Nat) (S : GS) : Go Γ E (gBsV Γ E) 2 (0, 0) 189 S [(0, vA (some o))] [] (f_X5_readSightLine_189 o S) := by
  unfold f_X5_readSightLine_189
  refine g_aload_n hO d_X5_readSightLine_189 (by rfl) 0 rfl ?_
  refine k_virtVs hO cl_X5 mm_X5_nextToken lkV_X5_126 ⟨⟨Nat.le_of_ble_eq_true rfl, Nat.le_of_ble_eq_true rfl⟩, Nat.le_of_ble_eq_true rfl, Nat.le_of_ble_eq_true rfl⟩ (kn' := (0, 0)) rfl (As := []) rfl (Nat.le_of_ble_eq_true rfl) (fun o' _ => t_X5_nextToken Γ.2.1 E o' S) d_X5_readSightLine_190 rfl (fun S2 => ?_)
  refine g_goto (tgt := 207) hO d_X5_readSightLine_193.1 d_X5_readSightLine_193.2 ?_
  exact g_vret hO rfl ⟨Nat.le_of_ble_eq_true rfl, Nat.le_of_ble_eq_true rfl⟩ rfl rfl d_X5_readSightLine_207.1
set_option maxRecDepth 20000 in
theorem w_X5_readSightLine_168 {Γ : GC} {E : GE} (hO : gOk Γ E cX5_readSightLine RX5 2 rm_X5_readSightLine none "readSightLine") (o : Nat) (y0 : Option Nat) (y1 : Int32) (y2 : Int32) (S : GS) : Go Γ E (gBsV Γ E) 2 (0, 0) 168 S [(0, vA (some o))] [vI y2, vI y1, vA y0] (f_X5_readSightLine_168 o y0 y1 y2 S) := by
  unfold f_X5_readSightLine_168
  refine k_virtVs hO cl_X7 mm_X7_setLast lkV_X5_145 ⟨⟨Nat.le_of_ble_eq_true rfl, Nat.le_of_ble_eq_true rfl⟩, Nat.le_of_ble_eq_true rfl, Nat.le_of_ble_eq_true rfl⟩ (kn' := (0, 0)) rfl (As := [vI y1, vI y2]) rfl (Nat.le_of_ble_eq_true rfl) (fun o' _ => t_X7_setLast Γ.2.1 E o' y1 y2 S) d_X5_readSightLine_168 rfl (fun S2 => ?_)
  refine g_aload_n hO d_X5_readSightLine_171 (by rfl) 0 rfl ?_
  refine g_ldcS hO 16 (by decide) rfl d_X5_readSightLine_172 ?_
  refine k_virtIp hO cl_X5 mm_X5_isWord lkV_X5_131 ⟨⟨Nat.le_of_ble_eq_true rfl, Nat.le_of_ble_eq_true rfl⟩, Nat.le_of_ble_eq_true rfl, Nat.le_of_ble_eq_true rfl⟩ (kn' := (0, 0)) rfl (As := [vA (some 100016)]) rfl (Nat.le_of_ble_eq_true rfl) (fun o' _ => t_X5_isWord Γ.2.1 E o' (some 100016) S2) d_X5_readSightLine_174 rfl (fun v3 => ?_)
  refine g_if_ne (tgt := 189) hO d_X5_readSightLine_177.1 d_X5_readSightLine_177.2 (fun _ => ?_) (fun _ => ?_)
  · skip
    refine g_aload_n hO d_X5_readSightLine_180 (by rfl) 0 rfl ?_
    refine g_ldcS hO 17 (by decide) rfl d_X5_readSightLine_181 ?_
    refine k_virtIp hO cl_X5 mm_X5_isWord lkV_X5_131 ⟨⟨Nat.le_of_ble_eq_true rfl, Nat.le_of_ble_eq_true rfl⟩, Nat.le_of_ble_eq_true rfl, Nat.le_of_ble_eq_true rfl⟩ (kn' := (0, 0)) rfl (As := [vA (some 100017)]) rfl (Nat.le_of_ble_eq_true rfl) (fun o' _ => t_X5_isWord Γ.2.1 E o' (some 100017) S2) d_X5_readSightLine_183 rfl (fun v5 => ?_)
    refine g_if_eq (tgt := 196) hO d_X5_readSightLine_186.1 d_X5_readSightLine_186.2 (fun _ => ?_) (fun _ => ?_)
    · skip
      refine g_aload_n hO d_X5_readSightLine_196 (by rfl) 0 rfl ?_
      refine k_virtVs hO cl_X5 mm_X5_breakHere lkV_X5_191 ⟨⟨Nat.le_of_ble_eq_true rfl, Nat.le_of_ble_eq_true rfl⟩, Nat.le_of_ble_eq_true rfl, Nat.le_of_ble_eq_true rfl⟩ (kn' := (0, 0)) rfl (As := []) rfl (Nat.le_of_ble_eq_true rfl) (fun o' _ => t_X5_breakHere Γ.2.1 E o' S2) d_X5_readSightLine_197 rfl (fun S8 => ?_)
      refine g_goto (tgt := 207) hO d_X5_readSightLine_200.1 d_X5_readSightLine_200.2 ?_
      exact g_vret hO rfl ⟨Nat.le_of_ble_eq_true rfl, Nat.le_of_ble_eq_true rfl⟩ rfl rfl d_X5_readSightLine_207.1
    · skip
      exact g_sub [0] rfl (w_X5_readSightLine_189 hO o _)
  · skip
    exact g_sub [0] rfl (w_X5_readSightLine_189 hO o _)
set_option maxRecDepth 20000 in
theorem w_X5_readSightLine {Γ : GC} {E : GE} (hO : gOk Γ E cX5_readSightLine RX5 2 rm_X5_readSightLine none "readSightLine") (o : Nat) (S : GS) : Go Γ E (gBsV Γ E) 2 (0, 0) 0 S [(0, vA (some o))] [] (f_X5_readSightLine o S) := by
  unfold f_X5_readSightLine
  refine g_aload_n hO d_X5_readSightLine_0 (by rfl) 0 rfl ?_
  refine g_ldcS hO 16 (by decide) rfl d_X5_readSightLine_1 ?_
  refine k_virtIp hO cl_X5 mm_X5_isWord lkV_X5_131 ⟨⟨Nat.le_of_ble_eq_true rfl, Nat.le_of_ble_eq_true rfl⟩, Nat.le_of_ble_eq_true rfl, Nat.le_of_ble_eq_true rfl⟩ (kn' := (0, 0)) rfl (As := [vA (some 100016)]) rfl (Nat.le_of_ble_eq_true rfl) (fun o' _ => t_X5_isWord Γ.2.1 E o' (some 100016) S) d_X5_readSightLine_3 rfl (fun v1 => ?_)
  refine g_istore_n (lv' := [(1, vI v1), (0, vA (some o))]) hO d_X5_readSightLine_6 (by rfl) (by decide) rfl ?_
  refine g_iload_n hO d_X5_readSightLine_7 (by rfl) 0 rfl ?_
  refine g_if_ne (tgt := 20) hO d_X5_readSightLine_8.1 d_X5_readSightLine_8.2 (fun _ => ?_) (fun _ => ?_)
  · skip
    refine g_aload_n hO d_X5_readSightLine_11 (by rfl) 1 rfl ?_
    refine g_ldcS hO 17 (by decide) rfl d_X5_readSightLine_12 ?_
    refine k_virtIp hO cl_X5 mm_X5_isWord lkV_X5_131 ⟨⟨Nat.le_of_ble_eq_true rfl, Nat.le_of_ble_eq_true rfl⟩, Nat.le_of_ble_eq_true rfl, Nat.le_of_ble_eq_true rfl⟩ (kn' := (0, 0)) rfl (As := [vA (some 100017)]) rfl (Nat.le_of_ble_eq_true rfl) (fun o' _ => t_X5_isWord Γ.2.1 E o' (some 100017) S) d_X5_readSightLine_14 rfl (fun v3 => ?_)
    refine g_if_eq (tgt := 90) hO d_X5_readSightLine_17.1 d_X5_readSightLine_17.2 (fun _ => ?_) (fun _ => ?_)
    · skip
      refine g_aload_n hO d_X5_readSightLine_90 (by rfl) 1 rfl ?_
      refine g_ldcS hO 18 (by decide) rfl d_X5_readSightLine_91 ?_
      refine k_virtIp hO cl_X5 mm_X5_isWord lkV_X5_131 ⟨⟨Nat.le_of_ble_eq_true rfl, Nat.le_of_ble_eq_true rfl⟩, Nat.le_of_ble_eq_true rfl, Nat.le_of_ble_eq_true rfl⟩ (kn' := (0, 0)) rfl (As := [vA (some 100018)]) rfl (Nat.le_of_ble_eq_true rfl) (fun o' _ => t_X5_isWord Γ.2.1 E o' (some 100018) S) d_X5_readSightLine_93 rfl (fun v5 => ?_)
      refine g_if_eq (tgt := 203) hO d_X5_readSightLine_96.1 d_X5_readSightLine_96.2 (fun _ => ?_) (fun _ => ?_)
      · skip
        refine g_aload_n hO d_X5_readSightLine_203 (by rfl) 1 rfl ?_
        refine k_virtVs hO cl_X5 mm_X5_breakHere lkV_X5_191 ⟨⟨Nat.le_of_ble_eq_true rfl, Nat.le_of_ble_eq_true rfl⟩, Nat.le_of_ble_eq_true rfl, Nat.le_of_ble_eq_true rfl⟩ (kn' := (0, 0)) rfl (As := []) rfl (Nat.le_of_ble_eq_true rfl) (fun o' _ => t_X5_breakHere Γ.2.1 E o' S) d_X5_readSightLine_204 rfl (fun S8 => ?_)
        exact g_vret hO rfl ⟨Nat.le_of_ble_eq_true rfl, Nat.le_of_ble_eq_true rfl⟩ rfl rfl d_X5_readSightLine_207.1
      · skip
        refine g_aload_n hO d_X5_readSightLine_99 (by rfl) 1 rfl ?_
        refine g_aload_n hO d_X5_readSightLine_100 (by rfl) 1 rfl ?_
        refine h_getR hO cl_X5 2 rfl wf_X5_25 d_X5_readSightLine_101 (fun v9 => ?_)
        refine h_getR hO cl_X8 1 rfl wf_X5_231 d_X5_readSightLine_104 (fun v10 => ?_)
        refine k_virtVs hO cl_X5 mm_X5_openLine lkV_X5_138 ⟨⟨Nat.le_of_ble_eq_true rfl, Nat.le_of_ble_eq_true rfl⟩, Nat.le_of_ble_eq_true rfl, Nat.le_of_ble_eq_true rfl⟩ (kn' := (0, 0)) rfl (As := [vA v10]) rfl (Nat.le_of_ble_eq_true rfl) (fun o' _ => t_X5_openLine Γ.2.1 E o' v10 S) d_X5_readSightLine_107 rfl (fun S12 => ?_)
        refine g_aload_n hO d_X5_readSightLine_110 (by rfl) 1 rfl ?_
        refine h_getR hO cl_X5 2 rfl wf_X5_25 d_X5_readSightLine_111 (fun v13 => ?_)
        refine h_getR hO cl_X8 1 rfl wf_X5_231 d_X5_readSightLine_114 (fun v14 => ?_)
        refine g_iconst hO 0 d_X5_readSightLine_117 (by decide) ?_
        refine g_aload_n hO d_X5_readSightLine_118 (by rfl) 1 rfl ?_
        refine g_iconst hO 0 d_X5_readSightLine_119 (by decide) ?_
        refine g_bipush hO 7 d_X5_readSightLine_120 (by decide) ?_
        refine k_virtIs hO cl_X5 mm_X5_takeNumber lkV_X5_142 ⟨⟨Nat.le_of_ble_eq_true rfl, Nat.le_of_ble_eq_true rfl⟩, Nat.le_of_ble_eq_true rfl, Nat.le_of_ble_eq_true rfl⟩ (kn' := (0, 0)) rfl (As := [vI 0, vI 7]) rfl (Nat.le_of_ble_eq_true rfl) (fun o' _ => t_X5_takeNumber Γ.2.1 E o' 0 7 S12) d_X5_readSightLine_122 rfl (fun v15 S16 => ?_)
        refine k_virtVs hO cl_X7 mm_X7_setLast lkV_X5_145 ⟨⟨Nat.le_of_ble_eq_true rfl, Nat.le_of_ble_eq_true rfl⟩, Nat.le_of_ble_eq_true rfl, Nat.le_of_ble_eq_true rfl⟩ (kn' := (0, 0)) rfl (As := [vI 0, vI v15]) rfl (Nat.le_of_ble_eq_true rfl) (fun o' _ => t_X7_setLast Γ.2.1 E o' 0 v15 S16) d_X5_readSightLine_125 rfl (fun S18 => ?_)
        refine g_aload_n hO d_X5_readSightLine_128 (by rfl) 1 rfl ?_
        refine h_getR hO cl_X5 2 rfl wf_X5_25 d_X5_readSightLine_129 (fun v19 => ?_)
        refine h_getR hO cl_X8 1 rfl wf_X5_231 d_X5_readSightLine_132 (fun v20 => ?_)
        refine g_iconst hO 1 d_X5_readSightLine_135 (by decide) ?_
        refine g_aload_n hO d_X5_readSightLine_136 (by rfl) 1 rfl ?_
        refine g_iconst hO 0 d_X5_readSightLine_137 (by decide) ?_
        refine g_bipush hO 60 d_X5_readSightLine_138 (by decide) ?_
        refine k_virtIs hO cl_X5 mm_X5_takeNumber lkV_X5_142 ⟨⟨Nat.le_of_ble_eq_true rfl, Nat.le_of_ble_eq_true rfl⟩, Nat.le_of_ble_eq_true rfl, Nat.le_of_ble_eq_true rfl⟩ (kn' := (0, 0)) rfl (As := [vI 0, vI 60]) rfl (Nat.le_of_ble_eq_true rfl) (fun o' _ => t_X5_takeNumber Γ.2.1 E o' 0 60 S18) d_X5_readSightLine_140 rfl (fun v21 S22 => ?_)
        refine k_virtVs hO cl_X7 mm_X7_setLast lkV_X5_145 ⟨⟨Nat.le_of_ble_eq_true rfl, Nat.le_of_ble_eq_true rfl⟩, Nat.le_of_ble_eq_true rfl, Nat.le_of_ble_eq_true rfl⟩ (kn' := (0, 0)) rfl (As := [vI 1, vI v21]) rfl (Nat.le_of_ble_eq_true rfl) (fun o' _ => t_X7_setLast Γ.2.1 E o' 1 v21 S22) d_X5_readSightLine_143 rfl (fun S24 => ?_)
        refine g_aload_n hO d_X5_readSightLine_146 (by rfl) 1 rfl ?_
        refine h_getR hO cl_X5 2 rfl wf_X5_25 d_X5_readSightLine_147 (fun v25 => ?_)
        refine h_getR hO cl_X8 1 rfl wf_X5_231 d_X5_readSightLine_150 (fun v26 => ?_)
        refine g_iconst hO 2 d_X5_readSightLine_153 (by decide) ?_
        refine g_aload_n hO d_X5_readSightLine_154 (by rfl) 1 rfl ?_
        refine g_ldcS hO 16 (by decide) rfl d_X5_readSightLine_155 ?_
        refine k_virtIp hO cl_X5 mm_X5_isWord lkV_X5_131 ⟨⟨Nat.le_of_ble_eq_true rfl, Nat.le_of_ble_eq_true rfl⟩, Nat.le_of_ble_eq_true rfl, Nat.le_of_ble_eq_true rfl⟩ (kn' := (0, 0)) rfl (As := [vA (some 100016)]) rfl (Nat.le_of_ble_eq_true rfl) (fun o' _ => t_X5_isWord Γ.2.1 E o' (some 100016) S24) d_X5_readSightLine_157 rfl (fun v27 => ?_)
        refine g_if_eq (tgt := 167) hO d_X5_readSightLine_160.1 d_X5_readSightLine_160.2 (fun _ => ?_) (fun _ => ?_)
        · skip
          refine g_iconst hO 0 d_X5_readSightLine_167 (by decide) ?_
          exact g_sub [1] rfl (w_X5_readSightLine_168 hO o _ _ _ _)
        · skip
          refine g_iconst hO 1 d_X5_readSightLine_163 (by decide) ?_
          refine g_goto (tgt := 168) hO d_X5_readSightLine_164.1 d_X5_readSightLine_164.2 ?_
          exact g_sub [1] rfl (w_X5_readSightLine_168 hO o _ _ _ _)
    · skip
      exact g_sub [1, 0] rfl (w_X5_readSightLine_20 hO o _ _)
  · skip
    exact g_sub [1, 0] rfl (w_X5_readSightLine_20 hO o _ _)
theorem t_X5_readSightLine (l : Launch) (E : GE) (o : Nat) (S : GS) : ∀ a, f_X5_readSightLine o S = some a → Ct l E yX5_readSightLine cX5_readSightLine 2 none rm_X5_readSightLine [vA (some o)] S none a :=
  Ct_of (val := fun _ => none) (nxt := fun b => b) (by decide) (Nat.le_of_ble_eq_true rfl) (fun Γ hl hO => w_X5_readSightLine hO o S)
theorem d_X5_readLedgerLine_0 : gD cX5_readLedgerLine 0 (.aload_n 0) 1 1 := ⟨by decide +kernel, rfl⟩
theorem d_X5_readLedgerLine_1 : gD cX5_readLedgerLine 1 (.ldc 234) 2 3 := ⟨by decide +kernel, rfl⟩
theorem d_X5_readLedgerLine_3 : gD cX5_readLedgerLine 3 (.invokevirtual 131) 3 6 := ⟨by decide +kernel, rfl⟩
theorem d_X5_readLedgerLine_6 : gD cX5_readLedgerLine 6 (.ifCond .ne 8) 3 9 ∧ ((6 : Nat) : Int) + 8 = ((14 : Nat) : Int) := ⟨⟨by decide +kernel, rfl⟩, by decide⟩
theorem d_X5_readLedgerLine_9 : gD cX5_readLedgerLine 9 (.aload_n 0) 1 10 := ⟨by decide +kernel, rfl⟩
theorem d_X5_readLedgerLine_10 : gD cX5_readLedgerLine 10 (.invokevirtual 191) 3 13 := ⟨by decide +kernel, rfl⟩
theorem d_X5_readLedgerLine_13 : gD cX5_readLedgerLine 13 (.return_) 1 14 := ⟨by decide +kernel, rfl⟩
theorem d_X5_readLedgerLine_14 : gD cX5_readLedgerLine 14 (.aload_n 0) 1 15 := ⟨by decide +kernel, rfl⟩
theorem d_X5_readLedgerLine_15 : gD cX5_readLedgerLine 15 (.aload_n 0) 1 16 := ⟨by decide +kernel, rfl⟩
theorem d_X5_readLedgerLine_16 : gD cX5_readLedgerLine 16 (.getfield 41) 3 19 := ⟨by decide +kernel, rfl⟩
theorem d_X5_readLedgerLine_19 : gD cX5_readLedgerLine 19 (.invokevirtual 138) 3 22 := ⟨by decide +kernel, rfl⟩
theorem d_X5_readLedgerLine_22 : gD cX5_readLedgerLine 22 (.aload_n 0) 1 23 := ⟨by decide +kernel, rfl⟩
theorem d_X5_readLedgerLine_23 : gD cX5_readLedgerLine 23 (.iconst 0) 1 24 := ⟨by decide +kernel, rfl⟩
theorem d_X5_readLedgerLine_24 : gD cX5_readLedgerLine 24 (.bipush 7) 2 26 := ⟨by decide +kernel, rfl⟩
theorem d_X5_readLedgerLine_26 : gD cX5_readLedgerLine 26 (.invokevirtual 142) 3 29 := ⟨by decide +kernel, rfl⟩
theorem d_X5_readLedgerLine_29 : gD cX5_readLedgerLine 29 (.istore_n 1) 1 30 := ⟨by decide +kernel, rfl⟩
theorem d_X5_readLedgerLine_30 : gD cX5_readLedgerLine 30 (.aload_n 0) 1 31 := ⟨by decide +kernel, rfl⟩
theorem d_X5_readLedgerLine_31 : gD cX5_readLedgerLine 31 (.getfield 171) 3 34 := ⟨by decide +kernel, rfl⟩
theorem d_X5_readLedgerLine_34 : gD cX5_readLedgerLine 34 (.istore_n 2) 1 35 := ⟨by decide +kernel, rfl⟩
theorem d_X5_readLedgerLine_35 : gD cX5_readLedgerLine 35 (.aload_n 0) 1 36 := ⟨by decide +kernel, rfl⟩
theorem d_X5_readLedgerLine_36 : gD cX5_readLedgerLine 36 (.iconst 0) 1 37 := ⟨by decide +kernel, rfl⟩
theorem d_X5_readLedgerLine_37 : gD cX5_readLedgerLine 37 (.bipush 7) 2 39 := ⟨by decide +kernel, rfl⟩
theorem d_X5_readLedgerLine_39 : gD cX5_readLedgerLine 39 (.invokevirtual 142) 3 42 := ⟨by decide +kernel, rfl⟩
theorem d_X5_readLedgerLine_42 : gD cX5_readLedgerLine 42 (.istore_n 3) 1 43 := ⟨by decide +kernel, rfl⟩
theorem d_X5_readLedgerLine_43 : gD cX5_readLedgerLine 43 (.iload_n 3) 1 44 := ⟨by decide +kernel, rfl⟩
theorem d_X5_readLedgerLine_44 : gD cX5_readLedgerLine 44 (.iload_n 1) 1 45 := ⟨by decide +kernel, rfl⟩
theorem d_X5_readLedgerLine_45 : gD cX5_readLedgerLine 45 (.if_icmp .ne 9) 3 48 ∧ ((45 : Nat) : Int) + 9 = ((54 : Nat) : Int) := ⟨⟨by decide +kernel, rfl⟩, by decide⟩
theorem d_X5_readLedgerLine_48 : gD cX5_readLedgerLine 48 (.aload_n 0) 1 49 := ⟨by decide +kernel, rfl⟩
theorem d_X5_readLedgerLine_49 : gD cX5_readLedgerLine 49 (.iconst 2) 1 50 := ⟨by decide +kernel, rfl⟩
theorem d_X5_readLedgerLine_50 : gD cX5_readLedgerLine 50 (.iload_n 2) 1 51 := ⟨by decide +kernel, rfl⟩
theorem d_X5_readLedgerLine_51 : gD cX5_readLedgerLine 51 (.invokevirtual 90) 3 54 := ⟨by decide +kernel, rfl⟩
theorem d_X5_readLedgerLine_54 : gD cX5_readLedgerLine 54 (.aload_n 0) 1 55 := ⟨by decide +kernel, rfl⟩
theorem d_X5_readLedgerLine_55 : gD cX5_readLedgerLine 55 (.getfield 41) 3 58 := ⟨by decide +kernel, rfl⟩
theorem d_X5_readLedgerLine_58 : gD cX5_readLedgerLine 58 (.iconst 0) 1 59 := ⟨by decide +kernel, rfl⟩
theorem d_X5_readLedgerLine_59 : gD cX5_readLedgerLine 59 (.iload_n 1) 1 60 := ⟨by decide +kernel, rfl⟩
theorem d_X5_readLedgerLine_60 : gD cX5_readLedgerLine 60 (.invokevirtual 145) 3 63 := ⟨by decide +kernel, rfl⟩
theorem d_X5_readLedgerLine_63 : gD cX5_readLedgerLine 63 (.aload_n 0) 1 64 := ⟨by decide +kernel, rfl⟩
theorem d_X5_readLedgerLine_64 : gD cX5_readLedgerLine 64 (.getfield 41) 3 67 := ⟨by decide +kernel, rfl⟩
theorem d_X5_readLedgerLine_67 : gD cX5_readLedgerLine 67 (.iconst 1) 1 68 := ⟨by decide +kernel, rfl⟩
theorem d_X5_readLedgerLine_68 : gD cX5_readLedgerLine 68 (.iload_n 3) 1 69 := ⟨by decide +kernel, rfl⟩
theorem d_X5_readLedgerLine_69 : gD cX5_readLedgerLine 69 (.invokevirtual 145) 3 72 := ⟨by decide +kernel, rfl⟩
theorem d_X5_readLedgerLine_72 : gD cX5_readLedgerLine 72 (.aload_n 0) 1 73 := ⟨by decide +kernel, rfl⟩
theorem d_X5_readLedgerLine_73 : gD cX5_readLedgerLine 73 (.getfield 41) 3 76 := ⟨by decide +kernel, rfl⟩
theorem d_X5_readLedgerLine_76 : gD cX5_readLedgerLine 76 (.iconst 2) 1 77 := ⟨by decide +kernel, rfl⟩
theorem d_X5_readLedgerLine_77 : gD cX5_readLedgerLine 77 (.aload_n 0) 1 78 := ⟨by decide +kernel, rfl⟩
theorem d_X5_readLedgerLine_78 : gD cX5_readLedgerLine 78 (.iconst 1) 1 79 := ⟨by decide +kernel, rfl⟩
theorem d_X5_readLedgerLine_79 : gD cX5_readLedgerLine 79 (.bipush 99) 2 81 := ⟨by decide +kernel, rfl⟩
theorem d_X5_readLedgerLine_81 : gD cX5_readLedgerLine 81 (.invokevirtual 142) 3 84 := ⟨by decide +kernel, rfl⟩
theorem d_X5_readLedgerLine_84 : gD cX5_readLedgerLine 84 (.invokevirtual 145) 3 87 := ⟨by decide +kernel, rfl⟩
theorem d_X5_readLedgerLine_87 : gD cX5_readLedgerLine 87 (.return_) 1 88 := ⟨by decide +kernel, rfl⟩
abbrev rm_X5_readLedgerLine : Room := { frames := 5, cells := 0, slots := 0, locals := 107 }
set_option maxRecDepth 20000 in
theorem w_X5_readLedgerLine_54 {Γ : GC} {E : GE} (hO : gOk Γ E cX5_readLedgerLine RX5 4 rm_X5_readLedgerLine none "readLedgerLine") (o : Nat) (x1 : Int32) (x3 : Int32) (S : GS) : Go Γ E (gBsV Γ E) 4 (0, 0) 54 S [(0, vA (some o)), (1, vI x1), (3, vI x3)] [] (f_X5_readLedgerLine_54 o x1 x3 S) := by
  unfold f_X5_readLedgerLine_54
  refine g_aload_n hO d_X5_readLedgerLine_54 (by rfl) 0 rfl ?_
  refine h_getR hO cl_X5 5 rfl wf_X5_41 d_X5_readLedgerLine_55 (fun v1 => ?_)
  refine g_iconst hO 0 d_X5_readLedgerLine_58 (by decide) ?_
  refine g_iload_n hO d_X5_readLedgerLine_59 (by rfl) 1 rfl ?_
  refine k_virtVs hO cl_X7 mm_X7_setLast lkV_X5_145 ⟨⟨Nat.le_of_ble_eq_true rfl, Nat.le_of_ble_eq_true rfl⟩, Nat.le_of_ble_eq_true rfl, Nat.le_of_ble_eq_true rfl⟩ (kn' := (0, 0)) rfl (As := [vI 0, vI x1]) rfl (Nat.le_of_ble_eq_true rfl) (fun o' _ => t_X7_setLast Γ.2.1 E o' 0 x1 S) d_X5_readLedgerLine_60 rfl (fun S3 => ?_)
  refine g_aload_n hO d_X5_readLedgerLine_63 (by rfl) 0 rfl ?_
  refine h_getR hO cl_X5 5 rfl wf_X5_41 d_X5_readLedgerLine_64 (fun v4 => ?_)
  refine g_iconst hO 1 d_X5_readLedgerLine_67 (by decide) ?_
  refine g_iload_n hO d_X5_readLedgerLine_68 (by rfl) 2 rfl ?_
  refine k_virtVs hO cl_X7 mm_X7_setLast lkV_X5_145 ⟨⟨Nat.le_of_ble_eq_true rfl, Nat.le_of_ble_eq_true rfl⟩, Nat.le_of_ble_eq_true rfl, Nat.le_of_ble_eq_true rfl⟩ (kn' := (0, 0)) rfl (As := [vI 1, vI x3]) rfl (Nat.le_of_ble_eq_true rfl) (fun o' _ => t_X7_setLast Γ.2.1 E o' 1 x3 S3) d_X5_readLedgerLine_69 rfl (fun S6 => ?_)
  refine g_aload_n hO d_X5_readLedgerLine_72 (by rfl) 0 rfl ?_
  refine h_getR hO cl_X5 5 rfl wf_X5_41 d_X5_readLedgerLine_73 (fun v7 => ?_)
  refine g_iconst hO 2 d_X5_readLedgerLine_76 (by decide) ?_
  refine g_aload_n hO d_X5_readLedgerLine_77 (by rfl) 0 rfl ?_
  refine g_iconst hO 1 d_X5_readLedgerLine_78 (by decide) ?_
  refine g_bipush hO 99 d_X5_readLedgerLine_79 (by decide) ?_
  refine k_virtIs hO cl_X5 mm_X5_takeNumber lkV_X5_142 ⟨⟨Nat.le_of_ble_eq_true rfl, Nat.le_of_ble_eq_true rfl⟩, Nat.le_of_ble_eq_true rfl, Nat.le_of_ble_eq_true rfl⟩ (kn' := (0, 0)) rfl (As := [vI 1, vI 99]) rfl (Nat.le_of_ble_eq_true rfl) (fun o' _ => t_X5_takeNumber Γ.2.1 E o' 1 99 S6) d_X5_readLedgerLine_81 rfl (fun v8 S9 => ?_)
  refine k_virtVs hO cl_X7 mm_X7_setLast lkV_X5_145 ⟨⟨Nat.le_of_ble_eq_true rfl, Nat.le_of_ble_eq_true rfl⟩, Nat.le_of_ble_eq_true rfl, Nat.le_of_ble_eq_true rfl⟩ (kn' := (0, 0)) rfl (As := [vI 2, vI v8]) rfl (Nat.le_of_ble_eq_true rfl) (fun o' _ => t_X7_setLast Γ.2.1 E o' 2 v8 S9) d_X5_readLedgerLine_84 rfl (fun S11 => ?_)
  exact g_vret hO rfl ⟨Nat.le_of_ble_eq_true rfl, Nat.le_of_ble_eq_true rfl⟩ rfl rfl d_X5_readLedgerLine_87.1
set_option maxRecDepth 20000 in
theorem w_X5_readLedgerLine {Γ : GC} {E : GE} (hO : gOk Γ E cX5_readLedgerLine RX5 4 rm_X5_readLedgerLine none "readLedgerLine") (o : Nat) (S : GS) : Go Γ E (gBsV Γ E) 4 (0, 0) 0 S [(0, vA (some o))] [] (f_X5_readLedgerLine o S) := by
  unfold f_X5_readLedgerLine
  refine g_aload_n hO d_X5_readLedgerLine_0 (by rfl) 0 rfl ?_
  refine g_ldcS hO 19 (by decide) rfl d_X5_readLedgerLine_1 ?_
  refine k_virtIp hO cl_X5 mm_X5_isWord lkV_X5_131 ⟨⟨Nat.le_of_ble_eq_true rfl, Nat.le_of_ble_eq_true rfl⟩, Nat.le_of_ble_eq_true rfl, Nat.le_of_ble_eq_true rfl⟩ (kn' := (0, 0)) rfl (As := [vA (some 100019)]) rfl (Nat.le_of_ble_eq_true rfl) (fun o' _ => t_X5_isWord Γ.2.1 E o' (some 100019) S) d_X5_readLedgerLine_3 rfl (fun v1 => ?_)
  refine g_if_ne (tgt := 14) hO d_X5_readLedgerLine_6.1 d_X5_readLedgerLine_6.2 (fun _ => ?_) (fun _ => ?_)
  · skip
    refine g_aload_n hO d_X5_readLedgerLine_9 (by rfl) 0 rfl ?_
    refine k_virtVs hO cl_X5 mm_X5_breakHere lkV_X5_191 ⟨⟨Nat.le_of_ble_eq_true rfl, Nat.le_of_ble_eq_true rfl⟩, Nat.le_of_ble_eq_true rfl, Nat.le_of_ble_eq_true rfl⟩ (kn' := (0, 0)) rfl (As := []) rfl (Nat.le_of_ble_eq_true rfl) (fun o' _ => t_X5_breakHere Γ.2.1 E o' S) d_X5_readLedgerLine_10 rfl (fun S4 => ?_)
    exact g_vret hO rfl ⟨Nat.le_of_ble_eq_true rfl, Nat.le_of_ble_eq_true rfl⟩ rfl rfl d_X5_readLedgerLine_13.1
  · skip
    refine g_aload_n hO d_X5_readLedgerLine_14 (by rfl) 0 rfl ?_
    refine g_aload_n hO d_X5_readLedgerLine_15 (by rfl) 0 rfl ?_
    refine h_getR hO cl_X5 5 rfl wf_X5_41 d_X5_readLedgerLine_16 (fun v5 => ?_)
    refine k_virtVs hO cl_X5 mm_X5_openLine lkV_X5_138 ⟨⟨Nat.le_of_ble_eq_true rfl, Nat.le_of_ble_eq_true rfl⟩, Nat.le_of_ble_eq_true rfl, Nat.le_of_ble_eq_true rfl⟩ (kn' := (0, 0)) rfl (As := [vA v5]) rfl (Nat.le_of_ble_eq_true rfl) (fun o' _ => t_X5_openLine Γ.2.1 E o' v5 S) d_X5_readLedgerLine_19 rfl (fun S7 => ?_)
    refine g_aload_n hO d_X5_readLedgerLine_22 (by rfl) 0 rfl ?_
    refine g_iconst hO 0 d_X5_readLedgerLine_23 (by decide) ?_
    refine g_bipush hO 7 d_X5_readLedgerLine_24 (by decide) ?_
    refine k_virtIs hO cl_X5 mm_X5_takeNumber lkV_X5_142 ⟨⟨Nat.le_of_ble_eq_true rfl, Nat.le_of_ble_eq_true rfl⟩, Nat.le_of_ble_eq_true rfl, Nat.le_of_ble_eq_true rfl⟩ (kn' := (0, 0)) rfl (As := [vI 0, vI 7]) rfl (Nat.le_of_ble_eq_true rfl) (fun o' _ => t_X5_takeNumber Γ.2.1 E o' 0 7 S7) d_X5_readLedgerLine_26 rfl (fun v8 S9 => ?_)
    refine g_istore_n (lv' := [(1, vI v8), (0, vA (some o))]) hO d_X5_readLedgerLine_29 (by rfl) (by decide) rfl ?_
    refine g_aload_n hO d_X5_readLedgerLine_30 (by rfl) 1 rfl ?_
    refine h_getI hO cl_X5 9 rfl wf_X5_171 d_X5_readLedgerLine_31 (fun v10 => ?_)
    refine g_istore_n (lv' := [(2, vI v10), (1, vI v8), (0, vA (some o))]) hO d_X5_readLedgerLine_34 (by rfl) (by decide) rfl ?_
    refine g_aload_n hO d_X5_readLedgerLine_35 (by rfl) 2 rfl ?_
    refine g_iconst hO 0 d_X5_readLedgerLine_36 (by decide) ?_
    refine g_bipush hO 7 d_X5_readLedgerLine_37 (by decide) ?_
    refine k_virtIs hO cl_X5 mm_X5_takeNumber lkV_X5_142 ⟨⟨Nat.le_of_ble_eq_true rfl, Nat.le_of_ble_eq_true rfl⟩, Nat.le_of_ble_eq_true rfl, Nat.le_of_ble_eq_true rfl⟩ (kn' := (0, 0)) rfl (As := [vI 0, vI 7]) rfl (Nat.le_of_ble_eq_true rfl) (fun o' _ => t_X5_takeNumber Γ.2.1 E o' 0 7 S9) d_X5_readLedgerLine_39 rfl (fun v11 S12 => ?_)
    refine g_istore_n (lv' := [(3, vI v11), (2, vI v10), (1, vI v8), (0, vA (some o))]) hO d_X5_readLedgerLine_42 (by rfl) (by decide) rfl ?_
    refine g_iload_n hO d_X5_readLedgerLine_43 (by rfl) 0 rfl ?_
    refine g_iload_n hO d_X5_readLedgerLine_44 (by rfl) 2 rfl ?_
    refine g_ic_ne (tgt := 54) hO d_X5_readLedgerLine_45.1 d_X5_readLedgerLine_45.2 (fun _ => ?_) (fun _ => ?_)
    · skip
      refine g_aload_n hO d_X5_readLedgerLine_48 (by rfl) 3 rfl ?_
      refine g_iconst hO 2 d_X5_readLedgerLine_49 (by decide) ?_
      refine g_iload_n hO d_X5_readLedgerLine_50 (by rfl) 1 rfl ?_
      refine k_virtVs hO cl_X5 mm_X5_noteFault lkV_X5_90 ⟨⟨Nat.le_of_ble_eq_true rfl, Nat.le_of_ble_eq_true rfl⟩, Nat.le_of_ble_eq_true rfl, Nat.le_of_ble_eq_true rfl⟩ (kn' := (0, 0)) rfl (As := [vI 2, vI v10]) rfl (Nat.le_of_ble_eq_true rfl) (fun o' _ => t_X5_noteFault Γ.2.1 E o' 2 v10 S12) d_X5_readLedgerLine_51 rfl (fun S14 => ?_)
      exact g_sub [3, 2, 0] rfl (w_X5_readLedgerLine_54 hO o _ _ _)
    · skip
      exact g_sub [3, 2, 0] rfl (w_X5_readLedgerLine_54 hO o _ _ _)
theorem t_X5_readLedgerLine (l : Launch) (E : GE) (o : Nat) (S : GS) : ∀ a, f_X5_readLedgerLine o S = some a → Ct l E yX5_readLedgerLine cX5_readLedgerLine 4 none rm_X5_readLedgerLine [vA (some o)] S none a :=
  Ct_of (val := fun _ => none) (nxt := fun b => b) (by decide) (Nat.le_of_ble_eq_true rfl) (fun Γ hl hO => w_X5_readLedgerLine hO o S)
theorem d_X5_readShiftsLine_0 : gD cX5_readShiftsLine 0 (.aload_n 0) 1 1 := ⟨by decide +kernel, rfl⟩
theorem d_X5_readShiftsLine_1 : gD cX5_readShiftsLine 1 (.ldc 236) 2 3 := ⟨by decide +kernel, rfl⟩
theorem d_X5_readShiftsLine_3 : gD cX5_readShiftsLine 3 (.invokevirtual 131) 3 6 := ⟨by decide +kernel, rfl⟩
theorem d_X5_readShiftsLine_6 : gD cX5_readShiftsLine 6 (.ifCond .ne 8) 3 9 ∧ ((6 : Nat) : Int) + 8 = ((14 : Nat) : Int) := ⟨⟨by decide +kernel, rfl⟩, by decide⟩
theorem d_X5_readShiftsLine_9 : gD cX5_readShiftsLine 9 (.aload_n 0) 1 10 := ⟨by decide +kernel, rfl⟩
theorem d_X5_readShiftsLine_10 : gD cX5_readShiftsLine 10 (.invokevirtual 191) 3 13 := ⟨by decide +kernel, rfl⟩
theorem d_X5_readShiftsLine_13 : gD cX5_readShiftsLine 13 (.return_) 1 14 := ⟨by decide +kernel, rfl⟩
theorem d_X5_readShiftsLine_14 : gD cX5_readShiftsLine 14 (.aload_n 0) 1 15 := ⟨by decide +kernel, rfl⟩
theorem d_X5_readShiftsLine_15 : gD cX5_readShiftsLine 15 (.aload_n 0) 1 16 := ⟨by decide +kernel, rfl⟩
theorem d_X5_readShiftsLine_16 : gD cX5_readShiftsLine 16 (.getfield 44) 3 19 := ⟨by decide +kernel, rfl⟩
theorem d_X5_readShiftsLine_19 : gD cX5_readShiftsLine 19 (.invokevirtual 138) 3 22 := ⟨by decide +kernel, rfl⟩
theorem d_X5_readShiftsLine_22 : gD cX5_readShiftsLine 22 (.aload_n 0) 1 23 := ⟨by decide +kernel, rfl⟩
theorem d_X5_readShiftsLine_23 : gD cX5_readShiftsLine 23 (.iconst 0) 1 24 := ⟨by decide +kernel, rfl⟩
theorem d_X5_readShiftsLine_24 : gD cX5_readShiftsLine 24 (.bipush 30) 2 26 := ⟨by decide +kernel, rfl⟩
theorem d_X5_readShiftsLine_26 : gD cX5_readShiftsLine 26 (.invokevirtual 142) 3 29 := ⟨by decide +kernel, rfl⟩
theorem d_X5_readShiftsLine_29 : gD cX5_readShiftsLine 29 (.istore_n 1) 1 30 := ⟨by decide +kernel, rfl⟩
theorem d_X5_readShiftsLine_30 : gD cX5_readShiftsLine 30 (.aload_n 0) 1 31 := ⟨by decide +kernel, rfl⟩
theorem d_X5_readShiftsLine_31 : gD cX5_readShiftsLine 31 (.getfield 171) 3 34 := ⟨by decide +kernel, rfl⟩
theorem d_X5_readShiftsLine_34 : gD cX5_readShiftsLine 34 (.istore_n 2) 1 35 := ⟨by decide +kernel, rfl⟩
theorem d_X5_readShiftsLine_35 : gD cX5_readShiftsLine 35 (.aload_n 0) 1 36 := ⟨by decide +kernel, rfl⟩
theorem d_X5_readShiftsLine_36 : gD cX5_readShiftsLine 36 (.iconst 0) 1 37 := ⟨by decide +kernel, rfl⟩
theorem d_X5_readShiftsLine_37 : gD cX5_readShiftsLine 37 (.bipush 30) 2 39 := ⟨by decide +kernel, rfl⟩
theorem d_X5_readShiftsLine_39 : gD cX5_readShiftsLine 39 (.invokevirtual 142) 3 42 := ⟨by decide +kernel, rfl⟩
theorem d_X5_readShiftsLine_42 : gD cX5_readShiftsLine 42 (.istore_n 3) 1 43 := ⟨by decide +kernel, rfl⟩
theorem d_X5_readShiftsLine_43 : gD cX5_readShiftsLine 43 (.aload_n 0) 1 44 := ⟨by decide +kernel, rfl⟩
theorem d_X5_readShiftsLine_44 : gD cX5_readShiftsLine 44 (.getfield 44) 3 47 := ⟨by decide +kernel, rfl⟩
theorem d_X5_readShiftsLine_47 : gD cX5_readShiftsLine 47 (.iconst 0) 1 48 := ⟨by decide +kernel, rfl⟩
theorem d_X5_readShiftsLine_48 : gD cX5_readShiftsLine 48 (.iload_n 1) 1 49 := ⟨by decide +kernel, rfl⟩
theorem d_X5_readShiftsLine_49 : gD cX5_readShiftsLine 49 (.invokevirtual 145) 3 52 := ⟨by decide +kernel, rfl⟩
theorem d_X5_readShiftsLine_52 : gD cX5_readShiftsLine 52 (.aload_n 0) 1 53 := ⟨by decide +kernel, rfl⟩
theorem d_X5_readShiftsLine_53 : gD cX5_readShiftsLine 53 (.getfield 44) 3 56 := ⟨by decide +kernel, rfl⟩
theorem d_X5_readShiftsLine_56 : gD cX5_readShiftsLine 56 (.iconst 1) 1 57 := ⟨by decide +kernel, rfl⟩
theorem d_X5_readShiftsLine_57 : gD cX5_readShiftsLine 57 (.iload_n 3) 1 58 := ⟨by decide +kernel, rfl⟩
theorem d_X5_readShiftsLine_58 : gD cX5_readShiftsLine 58 (.invokevirtual 145) 3 61 := ⟨by decide +kernel, rfl⟩
theorem d_X5_readShiftsLine_61 : gD cX5_readShiftsLine 61 (.iload_n 3) 1 62 := ⟨by decide +kernel, rfl⟩
theorem d_X5_readShiftsLine_62 : gD cX5_readShiftsLine 62 (.iload_n 1) 1 63 := ⟨by decide +kernel, rfl⟩
theorem d_X5_readShiftsLine_63 : gD cX5_readShiftsLine 63 (.if_icmp .ge 9) 3 66 ∧ ((63 : Nat) : Int) + 9 = ((72 : Nat) : Int) := ⟨⟨by decide +kernel, rfl⟩, by decide⟩
theorem d_X5_readShiftsLine_66 : gD cX5_readShiftsLine 66 (.aload_n 0) 1 67 := ⟨by decide +kernel, rfl⟩
theorem d_X5_readShiftsLine_67 : gD cX5_readShiftsLine 67 (.iconst 2) 1 68 := ⟨by decide +kernel, rfl⟩
theorem d_X5_readShiftsLine_68 : gD cX5_readShiftsLine 68 (.iload_n 2) 1 69 := ⟨by decide +kernel, rfl⟩
theorem d_X5_readShiftsLine_69 : gD cX5_readShiftsLine 69 (.invokevirtual 90) 3 72 := ⟨by decide +kernel, rfl⟩
theorem d_X5_readShiftsLine_72 : gD cX5_readShiftsLine 72 (.return_) 1 73 := ⟨by decide +kernel, rfl⟩
abbrev rm_X5_readShiftsLine : Room := { frames := 5, cells := 0, slots := 0, locals := 107 }
set_option maxRecDepth 20000 in
theorem w_X5_readShiftsLine {Γ : GC} {E : GE} (hO : gOk Γ E cX5_readShiftsLine RX5 4 rm_X5_readShiftsLine none "readShiftsLine") (o : Nat) (S : GS) : Go Γ E (gBsV Γ E) 4 (0, 0) 0 S [(0, vA (some o))] [] (f_X5_readShiftsLine o S) := by
  unfold f_X5_readShiftsLine
  refine g_aload_n hO d_X5_readShiftsLine_0 (by rfl) 0 rfl ?_
  refine g_ldcS hO 20 (by decide) rfl d_X5_readShiftsLine_1 ?_
  refine k_virtIp hO cl_X5 mm_X5_isWord lkV_X5_131 ⟨⟨Nat.le_of_ble_eq_true rfl, Nat.le_of_ble_eq_true rfl⟩, Nat.le_of_ble_eq_true rfl, Nat.le_of_ble_eq_true rfl⟩ (kn' := (0, 0)) rfl (As := [vA (some 100020)]) rfl (Nat.le_of_ble_eq_true rfl) (fun o' _ => t_X5_isWord Γ.2.1 E o' (some 100020) S) d_X5_readShiftsLine_3 rfl (fun v1 => ?_)
  refine g_if_ne (tgt := 14) hO d_X5_readShiftsLine_6.1 d_X5_readShiftsLine_6.2 (fun _ => ?_) (fun _ => ?_)
  · skip
    refine g_aload_n hO d_X5_readShiftsLine_9 (by rfl) 0 rfl ?_
    refine k_virtVs hO cl_X5 mm_X5_breakHere lkV_X5_191 ⟨⟨Nat.le_of_ble_eq_true rfl, Nat.le_of_ble_eq_true rfl⟩, Nat.le_of_ble_eq_true rfl, Nat.le_of_ble_eq_true rfl⟩ (kn' := (0, 0)) rfl (As := []) rfl (Nat.le_of_ble_eq_true rfl) (fun o' _ => t_X5_breakHere Γ.2.1 E o' S) d_X5_readShiftsLine_10 rfl (fun S4 => ?_)
    exact g_vret hO rfl ⟨Nat.le_of_ble_eq_true rfl, Nat.le_of_ble_eq_true rfl⟩ rfl rfl d_X5_readShiftsLine_13.1
  · skip
    refine g_aload_n hO d_X5_readShiftsLine_14 (by rfl) 0 rfl ?_
    refine g_aload_n hO d_X5_readShiftsLine_15 (by rfl) 0 rfl ?_
    refine h_getR hO cl_X5 6 rfl wf_X5_44 d_X5_readShiftsLine_16 (fun v5 => ?_)
    refine k_virtVs hO cl_X5 mm_X5_openLine lkV_X5_138 ⟨⟨Nat.le_of_ble_eq_true rfl, Nat.le_of_ble_eq_true rfl⟩, Nat.le_of_ble_eq_true rfl, Nat.le_of_ble_eq_true rfl⟩ (kn' := (0, 0)) rfl (As := [vA v5]) rfl (Nat.le_of_ble_eq_true rfl) (fun o' _ => t_X5_openLine Γ.2.1 E o' v5 S) d_X5_readShiftsLine_19 rfl (fun S7 => ?_)
    refine g_aload_n hO d_X5_readShiftsLine_22 (by rfl) 0 rfl ?_
    refine g_iconst hO 0 d_X5_readShiftsLine_23 (by decide) ?_
    refine g_bipush hO 30 d_X5_readShiftsLine_24 (by decide) ?_
    refine k_virtIs hO cl_X5 mm_X5_takeNumber lkV_X5_142 ⟨⟨Nat.le_of_ble_eq_true rfl, Nat.le_of_ble_eq_true rfl⟩, Nat.le_of_ble_eq_true rfl, Nat.le_of_ble_eq_true rfl⟩ (kn' := (0, 0)) rfl (As := [vI 0, vI 30]) rfl (Nat.le_of_ble_eq_true rfl) (fun o' _ => t_X5_takeNumber Γ.2.1 E o' 0 30 S7) d_X5_readShiftsLine_26 rfl (fun v8 S9 => ?_)
    refine g_istore_n (lv' := [(1, vI v8), (0, vA (some o))]) hO d_X5_readShiftsLine_29 (by rfl) (by decide) rfl ?_
    refine g_aload_n hO d_X5_readShiftsLine_30 (by rfl) 1 rfl ?_
    refine h_getI hO cl_X5 9 rfl wf_X5_171 d_X5_readShiftsLine_31 (fun v10 => ?_)
    refine g_istore_n (lv' := [(2, vI v10), (1, vI v8), (0, vA (some o))]) hO d_X5_readShiftsLine_34 (by rfl) (by decide) rfl ?_
    refine g_aload_n hO d_X5_readShiftsLine_35 (by rfl) 2 rfl ?_
    refine g_iconst hO 0 d_X5_readShiftsLine_36 (by decide) ?_
    refine g_bipush hO 30 d_X5_readShiftsLine_37 (by decide) ?_
    refine k_virtIs hO cl_X5 mm_X5_takeNumber lkV_X5_142 ⟨⟨Nat.le_of_ble_eq_true rfl, Nat.le_of_ble_eq_true rfl⟩, Nat.le_of_ble_eq_true rfl, Nat.le_of_ble_eq_true rfl⟩ (kn' := (0, 0)) rfl (As := [vI 0, vI 30]) rfl (Nat.le_of_ble_eq_true rfl) (fun o' _ => t_X5_takeNumber Γ.2.1 E o' 0 30 S9) d_X5_readShiftsLine_39 rfl (fun v11 S12 => ?_)
    refine g_istore_n (lv' := [(3, vI v11), (2, vI v10), (1, vI v8), (0, vA (some o))]) hO d_X5_readShiftsLine_42 (by rfl) (by decide) rfl ?_
    refine g_aload_n hO d_X5_readShiftsLine_43 (by rfl) 3 rfl ?_
    refine h_getR hO cl_X5 6 rfl wf_X5_44 d_X5_readShiftsLine_44 (fun v13 => ?_)
    refine g_iconst hO 0 d_X5_readShiftsLine_47 (by decide) ?_
    refine g_iload_n hO d_X5_readShiftsLine_48 (by rfl) 2 rfl ?_
    refine k_virtVs hO cl_X7 mm_X7_setLast lkV_X5_145 ⟨⟨Nat.le_of_ble_eq_true rfl, Nat.le_of_ble_eq_true rfl⟩, Nat.le_of_ble_eq_true rfl, Nat.le_of_ble_eq_true rfl⟩ (kn' := (0, 0)) rfl (As := [vI 0, vI v8]) rfl (Nat.le_of_ble_eq_true rfl) (fun o' _ => t_X7_setLast Γ.2.1 E o' 0 v8 S12) d_X5_readShiftsLine_49 rfl (fun S15 => ?_)
    refine g_aload_n hO d_X5_readShiftsLine_52 (by rfl) 3 rfl ?_
    refine h_getR hO cl_X5 6 rfl wf_X5_44 d_X5_readShiftsLine_53 (fun v16 => ?_)
    refine g_iconst hO 1 d_X5_readShiftsLine_56 (by decide) ?_
    refine g_iload_n hO d_X5_readShiftsLine_57 (by rfl) 0 rfl ?_
    refine k_virtVs hO cl_X7 mm_X7_setLast lkV_X5_145 ⟨⟨Nat.le_of_ble_eq_true rfl, Nat.le_of_ble_eq_true rfl⟩, Nat.le_of_ble_eq_true rfl, Nat.le_of_ble_eq_true rfl⟩ (kn' := (0, 0)) rfl (As := [vI 1, vI v11]) rfl (Nat.le_of_ble_eq_true rfl) (fun o' _ => t_X7_setLast Γ.2.1 E o' 1 v11 S15) d_X5_readShiftsLine_58 rfl (fun S18 => ?_)
    refine g_iload_n hO d_X5_readShiftsLine_61 (by rfl) 0 rfl ?_
    refine g_iload_n hO d_X5_readShiftsLine_62 (by rfl) 2 rfl ?_
    refine g_ic_ge (tgt := 72) hO d_X5_readShiftsLine_63.1 d_X5_readShiftsLine_63.2 (fun _ => ?_) (fun _ => ?_)
    · skip
      exact g_vret hO rfl ⟨Nat.le_of_ble_eq_true rfl, Nat.le_of_ble_eq_true rfl⟩ rfl rfl d_X5_readShiftsLine_72.1
    · skip
      refine g_aload_n hO d_X5_readShiftsLine_66 (by rfl) 3 rfl ?_
      refine g_iconst hO 2 d_X5_readShiftsLine_67 (by decide) ?_
      refine g_iload_n hO d_X5_readShiftsLine_68 (by rfl) 1 rfl ?_
      refine k_virtVs hO cl_X5 mm_X5_noteFault lkV_X5_90 ⟨⟨Nat.le_of_ble_eq_true rfl, Nat.le_of_ble_eq_true rfl⟩, Nat.le_of_ble_eq_true rfl, Nat.le_of_ble_eq_true rfl⟩ (kn' := (0, 0)) rfl (As := [vI 2, vI v10]) rfl (Nat.le_of_ble_eq_true rfl) (fun o' _ => t_X5_noteFault Γ.2.1 E o' 2 v10 S18) d_X5_readShiftsLine_69 rfl (fun S20 => ?_)
      exact g_vret hO rfl ⟨Nat.le_of_ble_eq_true rfl, Nat.le_of_ble_eq_true rfl⟩ rfl rfl d_X5_readShiftsLine_72.1
theorem t_X5_readShiftsLine (l : Launch) (E : GE) (o : Nat) (S : GS) : ∀ a, f_X5_readShiftsLine o S = some a → Ct l E yX5_readShiftsLine cX5_readShiftsLine 4 none rm_X5_readShiftsLine [vA (some o)] S none a :=
  Ct_of (val := fun _ => none) (nxt := fun b => b) (by decide) (Nat.le_of_ble_eq_true rfl) (fun Γ hl hO => w_X5_readShiftsLine hO o S)
