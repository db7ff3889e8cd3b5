abbrev tM_J0_coder_7d493 : mz_M := (cJ0_coder_7d493, 1, (some .byte), RJ0, "coder", 1, 22)
noncomputable def ck_J0_coder_7d493_0 : List (Nat × mz_O) := [(0, .inl (mz_push (.inl 1) 3)), (3, .inl (mz_j1 mz_eq0 13 6)), (6, .inl (mz_ld mz_isR 0 7)), (7, .inl (mz_xf false 10)), (10, .inl (mz_go 14)), (14, .inr (mz_rt mz_is01))]
theorem tk_J0_coder_7d493_0 (E : List mz_V) : mz_all E tM_J0_coder_7d493 (ck_J0_coder_7d493_0) :=
  mz_cons (mz_gsCom mw_430 (show decode cJ0_coder_7d493 0 = .ok (.getstatic 38, 3) by decide +kernel)) (
  mz_cons (mz_if_eq 13 (by decide) (show decode cJ0_coder_7d493 3 = .ok (.ifCond .eq 10, 3) by decide +kernel)) (
  mz_cons (mz_aload_n (k := 0) (show decode cJ0_coder_7d493 6 = .ok (.aload_n 0, 1) by decide +kernel)) (
  mz_cons (mz_gfCod mw_1308 (show decode cJ0_coder_7d493 7 = .ok (.getfield 15, 3) by decide +kernel)) (
  mz_cons (mz_goto 14 (by decide) (show decode cJ0_coder_7d493 10 = .ok (.goto 4, 3) by decide +kernel)) (
  mz_consR (mz_breturn rfl (show decode cJ0_coder_7d493 14 = .ok (.ireturn, 1) by decide +kernel)) (
  mz_nil))))))
noncomputable def tb_J0_coder_7d493 : List (Nat × List (Nat × mz_O)) := [(14, ck_J0_coder_7d493_0)]
theorem tok_J0_coder_7d493 (E : List mz_V) : mz_tok E tM_J0_coder_7d493 (tb_J0_coder_7d493) := mz_tcons (tk_J0_coder_7d493_0 E) (mz_tnil)
noncomputable def rn_J0_coder_7d493 : List mz_V → List mz_C → Option (Option mz_V × List mz_C) := mz_rn tb_J0_coder_7d493 16 1
theorem ctr_J0_coder_7d493 (E : List mz_V) : mz_ctr E yJ0_coder_7d493 tM_J0_coder_7d493 rn_J0_coder_7d493 := mz_ctr_of 16 (tok_J0_coder_7d493 E) (by decide) rfl rfl
abbrev tM_J0_length_8abf5 : mz_M := (cJ0_length_8abf5, 1, (some .int), RJ0, "length", 2, 42)
noncomputable def ck_J0_length_8abf5_0 : List (Nat × mz_O) := [(0, .inl (mz_ld mz_isR 0 1)), (1, .inl (mz_xf true 4)), (4, .inl (mz_bn 5)), (5, .inl (mz_ld mz_isR 0 6)), (6, .inl (mz_call rn_J0_coder_7d493 1 mz_ckX 9)), (9, .inl (mz_o2 mz_f_ishr 10)), (10, .inr (mz_rt mz_isI))]
theorem tk_J0_length_8abf5_0 (E : List mz_V) : mz_all E tM_J0_length_8abf5 (ck_J0_length_8abf5_0) :=
  mz_cons (mz_aload_n (k := 0) (show decode cJ0_length_8abf5 0 = .ok (.aload_n 0, 1) by decide +kernel)) (
  mz_cons (mz_gfVal mw_1307 (show decode cJ0_length_8abf5 1 = .ok (.getfield 9, 3) by decide +kernel)) (
  mz_cons (mz_blen (show decode cJ0_length_8abf5 4 = .ok (.arraylength, 1) by decide +kernel)) (
  mz_cons (mz_aload_n (k := 0) (show decode cJ0_length_8abf5 5 = .ok (.aload_n 0, 1) by decide +kernel)) (
  mz_cons (mz_invX (n := 0) (ctr_J0_coder_7d493 E) rfl ⟨by decide, by decide, by decide +kernel⟩ ⟨by decide, by decide⟩ mw_429 mw_426 mw_427 mw_428 mw_75 (show decode cJ0_length_8abf5 6 = .ok (.invokevirtual 335, 3) by decide +kernel)) (
  mz_cons (mz_ishr (show decode cJ0_length_8abf5 9 = .ok (.ishr, 1) by decide +kernel)) (
  mz_consR (mz_ireturn rfl (show decode cJ0_length_8abf5 10 = .ok (.ireturn, 1) by decide +kernel)) (
  mz_nil)))))))
noncomputable def tb_J0_length_8abf5 : List (Nat × List (Nat × mz_O)) := [(10, ck_J0_length_8abf5_0)]
theorem tok_J0_length_8abf5 (E : List mz_V) : mz_tok E tM_J0_length_8abf5 (tb_J0_length_8abf5) := mz_tcons (tk_J0_length_8abf5_0 E) (mz_tnil)
noncomputable def rn_J0_length_8abf5 : List mz_V → List mz_C → Option (Option mz_V × List mz_C) := mz_rn tb_J0_length_8abf5 17 1
theorem ctr_J0_length_8abf5 (E : List mz_V) : mz_ctr E yJ0_length_8abf5 tM_J0_length_8abf5 rn_J0_length_8abf5 := mz_ctr_of 17 (tok_J0_length_8abf5 E) (by decide) rfl rfl
abbrev tM_J6_bitCount_0f7a4 : mz_M := (cJ6_bitCount_0f7a4, 1, (some .int), RJ6, "bitCount", 1, 22)
noncomputable def ck_J6_bitCount_0f7a4_0 : List (Nat × mz_O) := [(0, .inl (mz_ld mz_isI 0 1)), (1, .inl (mz_ld mz_isI 0 2)), (2, .inl (mz_push (.inl 1) 3)), (3, .inl (mz_o2 mz_f_iushr 4)), (4, .inl (mz_push (.inl 1431655765) 7)), (7, .inl (mz_o2 mz_f_iand 8)), (8, .inl (mz_o2 mz_f_isub 9)), (9, .inl (mz_sto mz_isI mz_p1 0 10)), (10, .inl (mz_ld mz_isI 0 11)), (11, .inl (mz_push (.inl 858993459) 14)), (14, .inl (mz_o2 mz_f_iand 15)), (15, .inl (mz_ld mz_isI 0 16)), (16, .inl (mz_push (.inl 2) 17)), (17, .inl (mz_o2 mz_f_iushr 18)), (18, .inl (mz_push (.inl 858993459) 21)), (21, .inl (mz_o2 mz_f_iand 22))]
theorem tk_J6_bitCount_0f7a4_0 (E : List mz_V) : mz_all E tM_J6_bitCount_0f7a4 (ck_J6_bitCount_0f7a4_0) :=
  mz_cons (mz_iload_n (k := 0) (show decode cJ6_bitCount_0f7a4 0 = .ok (.iload_n 0, 1) by decide +kernel)) (
  mz_cons (mz_iload_n (k := 0) (show decode cJ6_bitCount_0f7a4 1 = .ok (.iload_n 0, 1) by decide +kernel)) (
  mz_cons (mz_iconst 1 (by decide) (show decode cJ6_bitCount_0f7a4 2 = .ok (.iconst 1, 1) by decide +kernel)) (
  mz_cons (mz_iushr (show decode cJ6_bitCount_0f7a4 3 = .ok (.iushr, 1) by decide +kernel)) (
  mz_cons (mz_ldcw mw_110 (show decode cJ6_bitCount_0f7a4 4 = .ok (.ldc_w 265, 3) by decide +kernel)) (
  mz_cons (mz_iand (show decode cJ6_bitCount_0f7a4 7 = .ok (.iand, 1) by decide +kernel)) (
  mz_cons (mz_isub (show decode cJ6_bitCount_0f7a4 8 = .ok (.isub, 1) by decide +kernel)) (
  mz_cons (mz_istore_n (k := 0) (by decide) (show decode cJ6_bitCount_0f7a4 9 = .ok (.istore_n 0, 1) by decide +kernel)) (
  mz_cons (mz_iload_n (k := 0) (show decode cJ6_bitCount_0f7a4 10 = .ok (.iload_n 0, 1) by decide +kernel)) (
  mz_cons (mz_ldcw mw_111 (show decode cJ6_bitCount_0f7a4 11 = .ok (.ldc_w 266, 3) by decide +kernel)) (
  mz_cons (mz_iand (show decode cJ6_bitCount_0f7a4 14 = .ok (.iand, 1) by decide +kernel)) (
  mz_cons (mz_iload_n (k := 0) (show decode cJ6_bitCount_0f7a4 15 = .ok (.iload_n 0, 1) by decide +kernel)) (
  mz_cons (mz_iconst 2 (by decide) (show decode cJ6_bitCount_0f7a4 16 = .ok (.iconst 2, 1) by decide +kernel)) (
  mz_cons (mz_iushr (show decode cJ6_bitCount_0f7a4 17 = .ok (.iushr, 1) by decide +kernel)) (
  mz_cons (mz_ldcw mw_111 (show decode cJ6_bitCount_0f7a4 18 = .ok (.ldc_w 266, 3) by decide +kernel)) (
  mz_cons (mz_iand (show decode cJ6_bitCount_0f7a4 21 = .ok (.iand, 1) by decide +kernel)) (
  mz_nil))))))))))))))))
noncomputable def ck_J6_bitCount_0f7a4_1 : List (Nat × mz_O) := [(22, .inl (mz_o2 mz_f_iadd 23)), (23, .inl (mz_sto mz_isI mz_p1 0 24)), (24, .inl (mz_ld mz_isI 0 25)), (25, .inl (mz_ld mz_isI 0 26)), (26, .inl (mz_push (.inl 4) 27)), (27, .inl (mz_o2 mz_f_iushr 28)), (28, .inl (mz_o2 mz_f_iadd 29)), (29, .inl (mz_push (.inl 252645135) 32)), (32, .inl (mz_o2 mz_f_iand 33)), (33, .inl (mz_sto mz_isI mz_p1 0 34)), (34, .inl (mz_ld mz_isI 0 35)), (35, .inl (mz_ld mz_isI 0 36)), (36, .inl (mz_push (.inl 8) 38)), (38, .inl (mz_o2 mz_f_iushr 39)), (39, .inl (mz_o2 mz_f_iadd 40)), (40, .inl (mz_sto mz_isI mz_p1 0 41))]
theorem tk_J6_bitCount_0f7a4_1 (E : List mz_V) : mz_all E tM_J6_bitCount_0f7a4 (ck_J6_bitCount_0f7a4_1) :=
  mz_cons (mz_iadd (show decode cJ6_bitCount_0f7a4 22 = .ok (.iadd, 1) by decide +kernel)) (
  mz_cons (mz_istore_n (k := 0) (by decide) (show decode cJ6_bitCount_0f7a4 23 = .ok (.istore_n 0, 1) by decide +kernel)) (
  mz_cons (mz_iload_n (k := 0) (show decode cJ6_bitCount_0f7a4 24 = .ok (.iload_n 0, 1) by decide +kernel)) (
  mz_cons (mz_iload_n (k := 0) (show decode cJ6_bitCount_0f7a4 25 = .ok (.iload_n 0, 1) by decide +kernel)) (
  mz_cons (mz_iconst 4 (by decide) (show decode cJ6_bitCount_0f7a4 26 = .ok (.iconst 4, 1) by decide +kernel)) (
  mz_cons (mz_iushr (show decode cJ6_bitCount_0f7a4 27 = .ok (.iushr, 1) by decide +kernel)) (
  mz_cons (mz_iadd (show decode cJ6_bitCount_0f7a4 28 = .ok (.iadd, 1) by decide +kernel)) (
  mz_cons (mz_ldcw mw_112 (show decode cJ6_bitCount_0f7a4 29 = .ok (.ldc_w 267, 3) by decide +kernel)) (
  mz_cons (mz_iand (show decode cJ6_bitCount_0f7a4 32 = .ok (.iand, 1) by decide +kernel)) (
  mz_cons (mz_istore_n (k := 0) (by decide) (show decode cJ6_bitCount_0f7a4 33 = .ok (.istore_n 0, 1) by decide +kernel)) (
  mz_cons (mz_iload_n (k := 0) (show decode cJ6_bitCount_0f7a4 34 = .ok (.iload_n 0, 1) by decide +kernel)) (
  mz_cons (mz_iload_n (k := 0) (show decode cJ6_bitCount_0f7a4 35 = .ok (.iload_n 0, 1) by decide +kernel)) (
  mz_cons (mz_bipush 8 (by decide) (show decode cJ6_bitCount_0f7a4 36 = .ok (.bipush 8, 2) by decide +kernel)) (
  mz_cons (mz_iushr (show decode cJ6_bitCount_0f7a4 38 = .ok (.iushr, 1) by decide +kernel)) (
  mz_cons (mz_iadd (show decode cJ6_bitCount_0f7a4 39 = .ok (.iadd, 1) by decide +kernel)) (
  mz_cons (mz_istore_n (k := 0) (by decide) (show decode cJ6_bitCount_0f7a4 40 = .ok (.istore_n 0, 1) by decide +kernel)) (
  mz_nil))))))))))))))))
noncomputable def ck_J6_bitCount_0f7a4_2 : List (Nat × mz_O) := [(41, .inl (mz_ld mz_isI 0 42)), (42, .inl (mz_ld mz_isI 0 43)), (43, .inl (mz_push (.inl 16) 45)), (45, .inl (mz_o2 mz_f_iushr 46)), (46, .inl (mz_o2 mz_f_iadd 47)), (47, .inl (mz_sto mz_isI mz_p1 0 48)), (48, .inl (mz_ld mz_isI 0 49)), (49, .inl (mz_push (.inl 63) 51)), (51, .inl (mz_o2 mz_f_iand 52)), (52, .inr (mz_rt mz_isI))]
theorem tk_J6_bitCount_0f7a4_2 (E : List mz_V) : mz_all E tM_J6_bitCount_0f7a4 (ck_J6_bitCount_0f7a4_2) :=
  mz_cons (mz_iload_n (k := 0) (show decode cJ6_bitCount_0f7a4 41 = .ok (.iload_n 0, 1) by decide +kernel)) (
  mz_cons (mz_iload_n (k := 0) (show decode cJ6_bitCount_0f7a4 42 = .ok (.iload_n 0, 1) by decide +kernel)) (
  mz_cons (mz_bipush 16 (by decide) (show decode cJ6_bitCount_0f7a4 43 = .ok (.bipush 16, 2) by decide +kernel)) (
  mz_cons (mz_iushr (show decode cJ6_bitCount_0f7a4 45 = .ok (.iushr, 1) by decide +kernel)) (
  mz_cons (mz_iadd (show decode cJ6_bitCount_0f7a4 46 = .ok (.iadd, 1) by decide +kernel)) (
  mz_cons (mz_istore_n (k := 0) (by decide) (show decode cJ6_bitCount_0f7a4 47 = .ok (.istore_n 0, 1) by decide +kernel)) (
  mz_cons (mz_iload_n (k := 0) (show decode cJ6_bitCount_0f7a4 48 = .ok (.iload_n 0, 1) by decide +kernel)) (
  mz_cons (mz_bipush 63 (by decide) (show decode cJ6_bitCount_0f7a4 49 = .ok (.bipush 63, 2) by decide +kernel)) (
  mz_cons (mz_iand (show decode cJ6_bitCount_0f7a4 51 = .ok (.iand, 1) by decide +kernel)) (
  mz_consR (mz_ireturn rfl (show decode cJ6_bitCount_0f7a4 52 = .ok (.ireturn, 1) by decide +kernel)) (
  mz_nil))))))))))
noncomputable def tb_J6_bitCount_0f7a4 : List (Nat × List (Nat × mz_O)) := [(21, ck_J6_bitCount_0f7a4_0), (40, ck_J6_bitCount_0f7a4_1), (52, ck_J6_bitCount_0f7a4_2)]
theorem tok_J6_bitCount_0f7a4 (E : List mz_V) : mz_tok E tM_J6_bitCount_0f7a4 (tb_J6_bitCount_0f7a4) := mz_tcons (tk_J6_bitCount_0f7a4_0 E) (mz_tcons (tk_J6_bitCount_0f7a4_1 E) (mz_tcons (tk_J6_bitCount_0f7a4_2 E) (mz_tnil)))
noncomputable def rn_J6_bitCount_0f7a4 : List mz_V → List mz_C → Option (Option mz_V × List mz_C) := mz_rn tb_J6_bitCount_0f7a4 52 1
theorem ctr_J6_bitCount_0f7a4 (E : List mz_V) : mz_ctr E yJ6_bitCount_0f7a4 tM_J6_bitCount_0f7a4 rn_J6_bitCount_0f7a4 := mz_ctr_of 52 (tok_J6_bitCount_0f7a4 E) (by decide) rfl rfl
abbrev tM_J6_numberOfTrailingZeros_0f7a4 : mz_M := (cJ6_numberOfTrailingZeros_0f7a4, 2, (some .int), RJ6, "numberOfTrailingZeros", 1, 22)
noncomputable def ck_J6_numberOfTrailingZeros_0f7a4_0 : List (Nat × mz_O) := [(0, .inl (mz_ld mz_isI 0 1)), (1, .inl (mz_push (.inl (-1)) 2)), (2, .inl (mz_o2 mz_f_ixor 3)), (3, .inl (mz_ld mz_isI 0 4)), (4, .inl (mz_push (.inl 1) 5)), (5, .inl (mz_o2 mz_f_isub 6)), (6, .inl (mz_o2 mz_f_iand 7)), (7, .inl (mz_sto mz_isI mz_p1 0 8)), (8, .inl (mz_ld mz_isI 0 9)), (9, .inl (mz_j1 mz_gt0 17 12)), (12, .inl (mz_ld mz_isI 0 13)), (13, .inl (mz_push (.inl 32) 15)), (15, .inl (mz_o2 mz_f_iand 16)), (16, .inr (mz_rt mz_isI))]
theorem tk_J6_numberOfTrailingZeros_0f7a4_0 (E : List mz_V) : mz_all E tM_J6_numberOfTrailingZeros_0f7a4 (ck_J6_numberOfTrailingZeros_0f7a4_0) :=
  mz_cons (mz_iload_n (k := 0) (show decode cJ6_numberOfTrailingZeros_0f7a4 0 = .ok (.iload_n 0, 1) by decide +kernel)) (
  mz_cons (mz_iconst (-1) (by decide) (show decode cJ6_numberOfTrailingZeros_0f7a4 1 = .ok (.iconst (-1), 1) by decide +kernel)) (
  mz_cons (mz_ixor (show decode cJ6_numberOfTrailingZeros_0f7a4 2 = .ok (.ixor, 1) by decide +kernel)) (
  mz_cons (mz_iload_n (k := 0) (show decode cJ6_numberOfTrailingZeros_0f7a4 3 = .ok (.iload_n 0, 1) by decide +kernel)) (
  mz_cons (mz_iconst 1 (by decide) (show decode cJ6_numberOfTrailingZeros_0f7a4 4 = .ok (.iconst 1, 1) by decide +kernel)) (
  mz_cons (mz_isub (show decode cJ6_numberOfTrailingZeros_0f7a4 5 = .ok (.isub, 1) by decide +kernel)) (
  mz_cons (mz_iand (show decode cJ6_numberOfTrailingZeros_0f7a4 6 = .ok (.iand, 1) by decide +kernel)) (
  mz_cons (mz_istore_n (k := 0) (by decide) (show decode cJ6_numberOfTrailingZeros_0f7a4 7 = .ok (.istore_n 0, 1) by decide +kernel)) (
  mz_cons (mz_iload_n (k := 0) (show decode cJ6_numberOfTrailingZeros_0f7a4 8 = .ok (.iload_n 0, 1) by decide +kernel)) (
  mz_cons (mz_if_gt 17 (by decide) (show decode cJ6_numberOfTrailingZeros_0f7a4 9 = .ok (.ifCond .gt 8, 3) by decide +kernel)) (
  mz_cons (mz_iload_n (k := 0) (show decode cJ6_numberOfTrailingZeros_0f7a4 12 = .ok (.iload_n 0, 1) by decide +kernel)) (
  mz_cons (mz_bipush 32 (by decide) (show decode cJ6_numberOfTrailingZeros_0f7a4 13 = .ok (.bipush 32, 2) by decide +kernel)) (
  mz_cons (mz_iand (show decode cJ6_numberOfTrailingZeros_0f7a4 15 = .ok (.iand, 1) by decide +kernel)) (
  mz_consR (mz_ireturn rfl (show decode cJ6_numberOfTrailingZeros_0f7a4 16 = .ok (.ireturn, 1) by decide +kernel)) (
  mz_nil))))))))))))))
noncomputable def tb_J6_numberOfTrailingZeros_0f7a4 : List (Nat × List (Nat × mz_O)) := [(16, ck_J6_numberOfTrailingZeros_0f7a4_0)]
theorem tok_J6_numberOfTrailingZeros_0f7a4 (E : List mz_V) : mz_tok E tM_J6_numberOfTrailingZeros_0f7a4 (tb_J6_numberOfTrailingZeros_0f7a4) := mz_tcons (tk_J6_numberOfTrailingZeros_0f7a4_0 E) (mz_tnil)
noncomputable def rn_J6_numberOfTrailingZeros_0f7a4 : List mz_V → List mz_C → Option (Option mz_V × List mz_C) := mz_rn tb_J6_numberOfTrailingZeros_0f7a4 24 2
theorem ctr_J6_numberOfTrailingZeros_0f7a4 (E : List mz_V) : mz_ctr E yJ6_numberOfTrailingZeros_0f7a4 tM_J6_numberOfTrailingZeros_0f7a4 rn_J6_numberOfTrailingZeros_0f7a4 := mz_ctr_of 24 (tok_J6_numberOfTrailingZeros_0f7a4 E) (by decide) rfl rfl
abbrev tM_X11_has : mz_M := (cX11_has, 2, (some .boolean), RX11, "has", 1, 22)
noncomputable def ck_X11_has_0 : List (Nat × mz_O) := [(0, .inl (mz_ld mz_isI 0 1)), (1, .inl (mz_ld mz_isI 1 2)), (2, .inl (mz_o2 mz_f_ishr 3)), (3, .inl (mz_push (.inl 1) 4)), (4, .inl (mz_o2 mz_f_iand 5)), (5, .inl (mz_j1 mz_eq0 12 8)), (8, .inl (mz_push (.inl 1) 9)), (9, .inl (mz_go 13)), (12, .inl (mz_push (.inl 0) 13)), (13, .inr (mz_rt mz_is01))]
theorem tk_X11_has_0 (E : List mz_V) : mz_all E tM_X11_has (ck_X11_has_0) :=
  mz_cons (mz_iload_n (k := 0) (show decode cX11_has 0 = .ok (.iload_n 0, 1) by decide +kernel)) (
  mz_cons (mz_iload_n (k := 1) (show decode cX11_has 1 = .ok (.iload_n 1, 1) by decide +kernel)) (
  mz_cons (mz_ishr (show decode cX11_has 2 = .ok (.ishr, 1) by decide +kernel)) (
  mz_cons (mz_iconst 1 (by decide) (show decode cX11_has 3 = .ok (.iconst 1, 1) by decide +kernel)) (
  mz_cons (mz_iand (show decode cX11_has 4 = .ok (.iand, 1) by decide +kernel)) (
  mz_cons (mz_if_eq 12 (by decide) (show decode cX11_has 5 = .ok (.ifCond .eq 7, 3) by decide +kernel)) (
  mz_cons (mz_iconst 1 (by decide) (show decode cX11_has 8 = .ok (.iconst 1, 1) by decide +kernel)) (
  mz_cons (mz_goto 13 (by decide) (show decode cX11_has 9 = .ok (.goto 4, 3) by decide +kernel)) (
  mz_cons (mz_iconst 0 (by decide) (show decode cX11_has 12 = .ok (.iconst 0, 1) by decide +kernel)) (
  mz_consR (mz_zreturn rfl (show decode cX11_has 13 = .ok (.ireturn, 1) by decide +kernel)) (
  mz_nil))))))))))
noncomputable def tb_X11_has : List (Nat × List (Nat × mz_O)) := [(13, ck_X11_has_0)]
theorem tok_X11_has (E : List mz_V) : mz_tok E tM_X11_has (tb_X11_has) := mz_tcons (tk_X11_has_0 E) (mz_tnil)
noncomputable def rn_X11_has : List mz_V → List mz_C → Option (Option mz_V × List mz_C) := mz_rn tb_X11_has 19 2
theorem ctr_X11_has (E : List mz_V) : mz_ctr E yX11_has tM_X11_has rn_X11_has := mz_ctr_of 19 (tok_X11_has E) (by decide) rfl rfl
abbrev tM_X6_at : mz_M := (cX6_at, 2, (some .int), RX6, "at", 1, 22)
noncomputable def ck_X6_at_0 : List (Nat × mz_O) := [(0, .inl (mz_ld mz_isI 1 1)), (1, .inl (mz_j1 mz_lt0 21 4)), (4, .inl (mz_ld mz_isI 1 5)), (5, .inl (mz_ld mz_isR 0 6)), (6, .inl (mz_gf 6 4 9)), (9, .inl (mz_j2 mz_lt 12 21)), (12, .inl (mz_ld mz_isR 0 13)), (13, .inl (mz_gf 6 1 16)), (16, .inl (mz_ld mz_isI 1 17)), (17, .inl (mz_al false 18)), (18, .inl (mz_go 22)), (22, .inr (mz_rt mz_isI))]
theorem tk_X6_at_0 (E : List mz_V) : mz_all E tM_X6_at (ck_X6_at_0) :=
  mz_cons (mz_iload_n (k := 1) (show decode cX6_at 0 = .ok (.iload_n 1, 1) by decide +kernel)) (
  mz_cons (mz_if_lt 21 (by decide) (show decode cX6_at 1 = .ok (.ifCond .lt 20, 3) by decide +kernel)) (
  mz_cons (mz_iload_n (k := 1) (show decode cX6_at 4 = .ok (.iload_n 1, 1) by decide +kernel)) (
  mz_cons (mz_aload_n (k := 0) (show decode cX6_at 5 = .ok (.aload_n 0, 1) by decide +kernel)) (
  mz_cons (mz_getfield (C := RX6) (T := TX6) (N := 7) rfl mz_inX6 (by decide) mw_145 (show decode cX6_at 6 = .ok (.getfield 35, 3) by decide +kernel)) (
  mz_cons (mz_icmp_ge 21 (by decide) (show decode cX6_at 9 = .ok (.if_icmp .ge 12, 3) by decide +kernel)) (
  mz_cons (mz_aload_n (k := 0) (show decode cX6_at 12 = .ok (.aload_n 0, 1) by decide +kernel)) (
  mz_cons (mz_getfield (C := RX6) (T := TX6) (N := 7) rfl mz_inX6 (by decide) mw_142 (show decode cX6_at 13 = .ok (.getfield 15, 3) by decide +kernel)) (
  mz_cons (mz_iload_n (k := 1) (show decode cX6_at 16 = .ok (.iload_n 1, 1) by decide +kernel)) (
  mz_cons (mz_iaload (show decode cX6_at 17 = .ok (.iaload, 1) by decide +kernel)) (
  mz_cons (mz_goto 22 (by decide) (show decode cX6_at 18 = .ok (.goto 4, 3) by decide +kernel)) (
  mz_consR (mz_ireturn rfl (show decode cX6_at 22 = .ok (.ireturn, 1) by decide +kernel)) (
  mz_nil))))))))))))
noncomputable def tb_X6_at : List (Nat × List (Nat × mz_O)) := [(22, ck_X6_at_0)]
theorem tok_X6_at (E : List mz_V) : mz_tok E tM_X6_at (tb_X6_at) := mz_tcons (tk_X6_at_0 E) (mz_tnil)
noncomputable def rn_X6_at : List mz_V → List mz_C → Option (Option mz_V × List mz_C) := mz_rn tb_X6_at 22 2
theorem ctr_X6_at (E : List mz_V) : mz_ctr E yX6_at tM_X6_at rn_X6_at := mz_ctr_of 22 (tok_X6_at E) (by decide) rfl rfl
abbrev tM_X6_howMany : mz_M := (cX6_howMany, 1, (some .int), RX6, "howMany", 1, 22)
noncomputable def ck_X6_howMany_0 : List (Nat × mz_O) := [(0, .inl (mz_ld mz_isR 0 1)), (1, .inl (mz_gf 6 4 4)), (4, .inr (mz_rt mz_isI))]
theorem tk_X6_howMany_0 (E : List mz_V) : mz_all E tM_X6_howMany (ck_X6_howMany_0) :=
  mz_cons (mz_aload_n (k := 0) (show decode cX6_howMany 0 = .ok (.aload_n 0, 1) by decide +kernel)) (
  mz_cons (mz_getfield (C := RX6) (T := TX6) (N := 7) rfl mz_inX6 (by decide) mw_145 (show decode cX6_howMany 1 = .ok (.getfield 35, 3) by decide +kernel)) (
  mz_consR (mz_ireturn rfl (show decode cX6_howMany 4 = .ok (.ireturn, 1) by decide +kernel)) (
  mz_nil)))
noncomputable def tb_X6_howMany : List (Nat × List (Nat × mz_O)) := [(4, ck_X6_howMany_0)]
theorem tok_X6_howMany (E : List mz_V) : mz_tok E tM_X6_howMany (tb_X6_howMany) := mz_tcons (tk_X6_howMany_0 E) (mz_tnil)
noncomputable def rn_X6_howMany : List mz_V → List mz_C → Option (Option mz_V × List mz_C) := mz_rn tb_X6_howMany 13 1
theorem ctr_X6_howMany (E : List mz_V) : mz_ctr E yX6_howMany tM_X6_howMany rn_X6_howMany := mz_ctr_of 13 (tok_X6_howMany E) (by decide) rfl rfl
abbrev tM_X6_thick : mz_M := (cX6_thick, 2, (some .int), RX6, "thick", 1, 22)
noncomputable def ck_X6_thick_0 : List (Nat × mz_O) := [(0, .inl (mz_ld mz_isI 1 1)), (1, .inl (mz_j1 mz_lt0 21 4)), (4, .inl (mz_ld mz_isI 1 5)), (5, .inl (mz_ld mz_isR 0 6)), (6, .inl (mz_gf 6 4 9)), (9, .inl (mz_j2 mz_lt 12 21)), (12, .inl (mz_ld mz_isR 0 13)), (13, .inl (mz_gf 6 3 16)), (16, .inl (mz_ld mz_isI 1 17)), (17, .inl (mz_al false 18)), (18, .inl (mz_go 22)), (22, .inr (mz_rt mz_isI))]
theorem tk_X6_thick_0 (E : List mz_V) : mz_all E tM_X6_thick (ck_X6_thick_0) :=
  mz_cons (mz_iload_n (k := 1) (show decode cX6_thick 0 = .ok (.iload_n 1, 1) by decide +kernel)) (
  mz_cons (mz_if_lt 21 (by decide) (show decode cX6_thick 1 = .ok (.ifCond .lt 20, 3) by decide +kernel)) (
  mz_cons (mz_iload_n (k := 1) (show decode cX6_thick 4 = .ok (.iload_n 1, 1) by decide +kernel)) (
  mz_cons (mz_aload_n (k := 0) (show decode cX6_thick 5 = .ok (.aload_n 0, 1) by decide +kernel)) (
  mz_cons (mz_getfield (C := RX6) (T := TX6) (N := 7) rfl mz_inX6 (by decide) mw_145 (show decode cX6_thick 6 = .ok (.getfield 35, 3) by decide +kernel)) (
  mz_cons (mz_icmp_ge 21 (by decide) (show decode cX6_thick 9 = .ok (.if_icmp .ge 12, 3) by decide +kernel)) (
  mz_cons (mz_aload_n (k := 0) (show decode cX6_thick 12 = .ok (.aload_n 0, 1) by decide +kernel)) (
  mz_cons (mz_getfield (C := RX6) (T := TX6) (N := 7) rfl mz_inX6 (by decide) mw_144 (show decode cX6_thick 13 = .ok (.getfield 21, 3) by decide +kernel)) (
  mz_cons (mz_iload_n (k := 1) (show decode cX6_thick 16 = .ok (.iload_n 1, 1) by decide +kernel)) (
  mz_cons (mz_iaload (show decode cX6_thick 17 = .ok (.iaload, 1) by decide +kernel)) (
  mz_cons (mz_goto 22 (by decide) (show decode cX6_thick 18 = .ok (.goto 4, 3) by decide +kernel)) (
  mz_consR (mz_ireturn rfl (show decode cX6_thick 22 = .ok (.ireturn, 1) by decide +kernel)) (
  mz_nil))))))))))))
noncomputable def tb_X6_thick : List (Nat × List (Nat × mz_O)) := [(22, ck_X6_thick_0)]
theorem tok_X6_thick (E : List mz_V) : mz_tok E tM_X6_thick (tb_X6_thick) := mz_tcons (tk_X6_thick_0 E) (mz_tnil)
noncomputable def rn_X6_thick : List mz_V → List mz_C → Option (Option mz_V × List mz_C) := mz_rn tb_X6_thick 22 2
theorem ctr_X6_thick (E : List mz_V) : mz_ctr E yX6_thick tM_X6_thick rn_X6_thick := mz_ctr_of 22 (tok_X6_thick E) (by decide) rfl rfl
abbrev tM_X0_catchOnce : mz_M := (cX0_catchOnce, 6, (some .int), RX0, "catchOnce", 2, 43)
noncomputable def ck_X0_catchOnce_0 : List (Nat × mz_O) := [(0, .inl (mz_ld mz_isI 1 1)), (1, .inl (mz_sto mz_isI mz_p1 4 3)), (3, .inl (mz_push (.inl 0) 4)), (4, .inl (mz_sto mz_isI mz_p1 5 6)), (6, .inl (mz_ld mz_isI 5 8)), (8, .inl (mz_ld mz_isR 0 9)), (9, .inl (mz_gf 0 0 12)), (12, .inl (mz_call rn_X6_howMany 1 (mz_ckV 6) 15)), (15, .inl (mz_j2 mz_lt 18 78)), (18, .inl (mz_ld mz_isI 1 19)), (19, .inl (mz_ld mz_isI 2 20)), (20, .inl (mz_o2 mz_f_ior 21)), (21, .inl (mz_ld mz_isI 5 23)), (23, .inl (mz_call rn_X11_has 2 mz_ckT 26)), (26, .inl (mz_j1 mz_eq0 29 72)), (29, .inl (mz_ld mz_isR 0 30))]
theorem tk_X0_catchOnce_0 (E : List mz_V) : mz_all E tM_X0_catchOnce (ck_X0_catchOnce_0) :=
  mz_cons (mz_iload_n (k := 1) (show decode cX0_catchOnce 0 = .ok (.iload_n 1, 1) by decide +kernel)) (
  mz_cons (mz_istore (by decide) (show decode cX0_catchOnce 1 = .ok (.istore 4, 2) by decide +kernel)) (
  mz_cons (mz_iconst 0 (by decide) (show decode cX0_catchOnce 3 = .ok (.iconst 0, 1) by decide +kernel)) (
  mz_cons (mz_istore (by decide) (show decode cX0_catchOnce 4 = .ok (.istore 5, 2) by decide +kernel)) (
  mz_cons (mz_iload (show decode cX0_catchOnce 6 = .ok (.iload 5, 2) by decide +kernel)) (
  mz_cons (mz_aload_n (k := 0) (show decode cX0_catchOnce 8 = .ok (.aload_n 0, 1) by decide +kernel)) (
  mz_cons (mz_getfield (C := RX0) (T := TX0) (N := 3) rfl mz_inX0 (by decide) mw_266 (show decode cX0_catchOnce 9 = .ok (.getfield 15, 3) by decide +kernel)) (
  mz_cons (mz_invV (n := 0) (ctr_X6_howMany E) rfl ⟨by decide, by decide, by decide +kernel⟩ ⟨by decide, by decide⟩ mw_386 mw_751 mw_384 mw_385 mw_65 (show decode cX0_catchOnce 12 = .ok (.invokevirtual 70, 3) by decide +kernel)) (
  mz_cons (mz_icmp_ge 78 (by decide) (show decode cX0_catchOnce 15 = .ok (.if_icmp .ge 63, 3) by decide +kernel)) (
  mz_cons (mz_iload_n (k := 1) (show decode cX0_catchOnce 18 = .ok (.iload_n 1, 1) by decide +kernel)) (
  mz_cons (mz_iload_n (k := 2) (show decode cX0_catchOnce 19 = .ok (.iload_n 2, 1) by decide +kernel)) (
  mz_cons (mz_ior (show decode cX0_catchOnce 20 = .ok (.ior, 1) by decide +kernel)) (
  mz_cons (mz_iload (show decode cX0_catchOnce 21 = .ok (.iload 5, 2) by decide +kernel)) (
  mz_cons (mz_invSN (n := 2) (host := "WettedNet") (ctr_X11_has E) ⟨by decide, by decide, by decide +kernel⟩ ⟨by decide, by decide⟩ mw_604 (by decide +kernel) mw_603 mw_61 (show decode cX0_catchOnce 23 = .ok (.invokestatic 23, 3) by decide +kernel)) (
  mz_cons (mz_if_ne 72 (by decide) (show decode cX0_catchOnce 26 = .ok (.ifCond .ne 46, 3) by decide +kernel)) (
  mz_cons (mz_aload_n (k := 0) (show decode cX0_catchOnce 29 = .ok (.aload_n 0, 1) by decide +kernel)) (
  mz_nil))))))))))))))))
noncomputable def ck_X0_catchOnce_1 : List (Nat × mz_O) := [(30, .inl (mz_gf 0 0 33)), (33, .inl (mz_ld mz_isI 5 35)), (35, .inl (mz_call rn_X6_at 2 (mz_ckV 6) 38)), (38, .inl (mz_ld mz_isI 1 39)), (39, .inl (mz_o2 mz_f_iand 40)), (40, .inl (mz_call rn_J6_bitCount_0f7a4 1 mz_ckT 43)), (43, .inl (mz_ld mz_isR 0 44)), (44, .inl (mz_gf 0 0 47)), (47, .inl (mz_ld mz_isI 5 49)), (49, .inl (mz_call rn_X6_thick 2 (mz_ckV 6) 52)), (52, .inl (mz_j2 mz_lt 72 55)), (72, .inl (mz_inc 5 1 75)), (75, .inl (mz_go 6)), (78, .inl (mz_ld mz_isI 4 80)), (80, .inr (mz_rt mz_isI))]
theorem tk_X0_catchOnce_1 (E : List mz_V) : mz_all E tM_X0_catchOnce (ck_X0_catchOnce_1) :=
  mz_cons (mz_getfield (C := RX0) (T := TX0) (N := 3) rfl mz_inX0 (by decide) mw_266 (show decode cX0_catchOnce 30 = .ok (.getfield 15, 3) by decide +kernel)) (
  mz_cons (mz_iload (show decode cX0_catchOnce 33 = .ok (.iload 5, 2) by decide +kernel)) (
  mz_cons (mz_invV (n := 1) (ctr_X6_at E) rfl ⟨by decide, by decide, by decide +kernel⟩ ⟨by decide, by decide⟩ mw_547 mw_752 mw_545 mw_546 mw_65 (show decode cX0_catchOnce 35 = .ok (.invokevirtual 73, 3) by decide +kernel)) (
  mz_cons (mz_iload_n (k := 1) (show decode cX0_catchOnce 38 = .ok (.iload_n 1, 1) by decide +kernel)) (
  mz_cons (mz_iand (show decode cX0_catchOnce 39 = .ok (.iand, 1) by decide +kernel)) (
  mz_cons (mz_invS (n := 1) (ctr_J6_bitCount_0f7a4 E) ⟨by decide, by decide, by decide +kernel⟩ ⟨by decide, by decide⟩ mw_109 mw_753 mw_108 mw_64 (show decode cX0_catchOnce 40 = .ok (.invokestatic 53, 3) by decide +kernel)) (
  mz_cons (mz_aload_n (k := 0) (show decode cX0_catchOnce 43 = .ok (.aload_n 0, 1) by decide +kernel)) (
  mz_cons (mz_getfield (C := RX0) (T := TX0) (N := 3) rfl mz_inX0 (by decide) mw_266 (show decode cX0_catchOnce 44 = .ok (.getfield 15, 3) by decide +kernel)) (
  mz_cons (mz_iload (show decode cX0_catchOnce 47 = .ok (.iload 5, 2) by decide +kernel)) (
  mz_cons (mz_invV (n := 1) (ctr_X6_thick E) rfl ⟨by decide, by decide, by decide +kernel⟩ ⟨by decide, by decide⟩ mw_555 mw_754 mw_553 mw_554 mw_65 (show decode cX0_catchOnce 49 = .ok (.invokevirtual 76, 3) by decide +kernel)) (
  mz_cons (mz_icmp_lt 72 (by decide) (show decode cX0_catchOnce 52 = .ok (.if_icmp .lt 20, 3) by decide +kernel)) (
  mz_cons (mz_iinc 1 (by decide) (by decide) (show decode cX0_catchOnce 72 = .ok (.iinc 5 1, 3) by decide +kernel)) (
  mz_cons (mz_goto 6 (by decide) (show decode cX0_catchOnce 75 = .ok (.goto (-69), 3) by decide +kernel)) (
  mz_cons (mz_iload (show decode cX0_catchOnce 78 = .ok (.iload 4, 2) by decide +kernel)) (
  mz_consR (mz_ireturn rfl (show decode cX0_catchOnce 80 = .ok (.ireturn, 1) by decide +kernel)) (
  mz_nil)))))))))))))))
noncomputable def tb_X0_catchOnce : List (Nat × List (Nat × mz_O)) := [(29, ck_X0_catchOnce_0), (80, ck_X0_catchOnce_1)]
theorem tok_X0_catchOnce (E : List mz_V) : mz_tok E tM_X0_catchOnce (tb_X0_catchOnce) := mz_tcons (tk_X0_catchOnce_0 E) (mz_tcons (tk_X0_catchOnce_1 E) (mz_tnil))
noncomputable def rn_X0_catchOnce : List mz_V → List mz_C → Option (Option mz_V × List mz_C) := mz_rn tb_X0_catchOnce 46 6
theorem ctr_X0_catchOnce (E : List mz_V) : mz_ctr E yX0_catchOnce tM_X0_catchOnce rn_X0_catchOnce := mz_ctr_of 46 (tok_X0_catchOnce E) (by decide) rfl rfl
abbrev tM_X0_burnFrom : mz_M := (cX0_burnFrom, 7, (some .int), RX0, "burnFrom", 3, 68)
noncomputable def ck_X0_burnFrom_0 : List (Nat × mz_O) := [(0, .inl (mz_push (.inl 0) 1)), (1, .inl (mz_sto mz_isI mz_p1 4 3)), (3, .inl (mz_ld mz_isI 4 5)), (5, .inl (mz_push (.inl 9) 7)), (7, .inl (mz_j2 mz_lt 10 37)), (10, .inl (mz_ld mz_isR 0 11)), (11, .inl (mz_gf 0 2 14)), (14, .inl (mz_ld mz_isI 4 16)), (16, .inl (mz_ld mz_isI 1 17)), (17, .inl (mz_ld mz_isI 4 19)), (19, .inl (mz_call rn_X11_has 2 mz_ckT 22)), (22, .inl (mz_j1 mz_eq0 29 25)), (25, .inl (mz_push (.inl 0) 26)), (26, .inl (mz_go 30)), (29, .inl (mz_push (.inl (-1)) 30)), (30, .inl (mz_ast false mz_isI 31))]
theorem tk_X0_burnFrom_0 (E : List mz_V) : mz_all E tM_X0_burnFrom (ck_X0_burnFrom_0) :=
  mz_cons (mz_iconst 0 (by decide) (show decode cX0_burnFrom 0 = .ok (.iconst 0, 1) by decide +kernel)) (
  mz_cons (mz_istore (by decide) (show decode cX0_burnFrom 1 = .ok (.istore 4, 2) by decide +kernel)) (
  mz_cons (mz_iload (show decode cX0_burnFrom 3 = .ok (.iload 4, 2) by decide +kernel)) (
  mz_cons (mz_bipush 9 (by decide) (show decode cX0_burnFrom 5 = .ok (.bipush 9, 2) by decide +kernel)) (
  mz_cons (mz_icmp_ge 37 (by decide) (show decode cX0_burnFrom 7 = .ok (.if_icmp .ge 30, 3) by decide +kernel)) (
  mz_cons (mz_aload_n (k := 0) (show decode cX0_burnFrom 10 = .ok (.aload_n 0, 1) by decide +kernel)) (
  mz_cons (mz_getfield (C := RX0) (T := TX0) (N := 3) rfl mz_inX0 (by decide) mw_268 (show decode cX0_burnFrom 11 = .ok (.getfield 9, 3) by decide +kernel)) (
  mz_cons (mz_iload (show decode cX0_burnFrom 14 = .ok (.iload 4, 2) by decide +kernel)) (
  mz_cons (mz_iload_n (k := 1) (show decode cX0_burnFrom 16 = .ok (.iload_n 1, 1) by decide +kernel)) (
  mz_cons (mz_iload (show decode cX0_burnFrom 17 = .ok (.iload 4, 2) by decide +kernel)) (
  mz_cons (mz_invSN (n := 2) (host := "WettedNet") (ctr_X11_has E) ⟨by decide, by decide, by decide +kernel⟩ ⟨by decide, by decide⟩ mw_604 (by decide +kernel) mw_603 mw_61 (show decode cX0_burnFrom 19 = .ok (.invokestatic 23, 3) by decide +kernel)) (
  mz_cons (mz_if_eq 29 (by decide) (show decode cX0_burnFrom 22 = .ok (.ifCond .eq 7, 3) by decide +kernel)) (
  mz_cons (mz_iconst 0 (by decide) (show decode cX0_burnFrom 25 = .ok (.iconst 0, 1) by decide +kernel)) (
  mz_cons (mz_goto 30 (by decide) (show decode cX0_burnFrom 26 = .ok (.goto 4, 3) by decide +kernel)) (
  mz_cons (mz_iconst (-1) (by decide) (show decode cX0_burnFrom 29 = .ok (.iconst (-1), 1) by decide +kernel)) (
  mz_cons (mz_iastore (show decode cX0_burnFrom 30 = .ok (.iastore, 1) by decide +kernel)) (
  mz_nil))))))))))))))))
noncomputable def ck_X0_burnFrom_1 : List (Nat × mz_O) := [(31, .inl (mz_inc 4 1 34)), (34, .inl (mz_go 3)), (37, .inl (mz_ld mz_isI 1 38)), (38, .inl (mz_sto mz_isI mz_p1 4 40)), (40, .inl (mz_push (.inl 1) 41)), (41, .inl (mz_sto mz_isI mz_p1 5 43)), (43, .inl (mz_ld mz_isI 5 45)), (45, .inl (mz_ld mz_isI 3 46)), (46, .inl (mz_j2 mz_gt 80 49)), (49, .inl (mz_ld mz_isR 0 50)), (50, .inl (mz_ld mz_isI 4 52)), (52, .inl (mz_ld mz_isI 2 53)), (53, .inl (mz_ld mz_isI 5 55)), (55, .inl (mz_call rn_X0_catchOnce 4 (mz_ckV 0) 58)), (58, .inl (mz_sto mz_isI mz_p1 6 60)), (60, .inl (mz_ld mz_isI 6 62))]
theorem tk_X0_burnFrom_1 (E : List mz_V) : mz_all E tM_X0_burnFrom (ck_X0_burnFrom_1) :=
  mz_cons (mz_iinc 1 (by decide) (by decide) (show decode cX0_burnFrom 31 = .ok (.iinc 4 1, 3) by decide +kernel)) (
  mz_cons (mz_goto 3 (by decide) (show decode cX0_burnFrom 34 = .ok (.goto (-31), 3) by decide +kernel)) (
  mz_cons (mz_iload_n (k := 1) (show decode cX0_burnFrom 37 = .ok (.iload_n 1, 1) by decide +kernel)) (
  mz_cons (mz_istore (by decide) (show decode cX0_burnFrom 38 = .ok (.istore 4, 2) by decide +kernel)) (
  mz_cons (mz_iconst 1 (by decide) (show decode cX0_burnFrom 40 = .ok (.iconst 1, 1) by decide +kernel)) (
  mz_cons (mz_istore (by decide) (show decode cX0_burnFrom 41 = .ok (.istore 5, 2) by decide +kernel)) (
  mz_cons (mz_iload (show decode cX0_burnFrom 43 = .ok (.iload 5, 2) by decide +kernel)) (
  mz_cons (mz_iload_n (k := 3) (show decode cX0_burnFrom 45 = .ok (.iload_n 3, 1) by decide +kernel)) (
  mz_cons (mz_icmp_gt 80 (by decide) (show decode cX0_burnFrom 46 = .ok (.if_icmp .gt 34, 3) by decide +kernel)) (
  mz_cons (mz_aload_n (k := 0) (show decode cX0_burnFrom 49 = .ok (.aload_n 0, 1) by decide +kernel)) (
  mz_cons (mz_iload (show decode cX0_burnFrom 50 = .ok (.iload 4, 2) by decide +kernel)) (
  mz_cons (mz_iload_n (k := 2) (show decode cX0_burnFrom 52 = .ok (.iload_n 2, 1) by decide +kernel)) (
  mz_cons (mz_iload (show decode cX0_burnFrom 53 = .ok (.iload 5, 2) by decide +kernel)) (
  mz_cons (mz_invV (n := 3) (ctr_X0_catchOnce E) rfl ⟨by decide, by decide, by decide +kernel⟩ ⟨by decide, by decide⟩ mw_750 mw_747 mw_749 mw_20 mw_70 (show decode cX0_burnFrom 55 = .ok (.invokevirtual 27, 3) by decide +kernel)) (
  mz_cons (mz_istore (by decide) (show decode cX0_burnFrom 58 = .ok (.istore 6, 2) by decide +kernel)) (
  mz_cons (mz_iload (show decode cX0_burnFrom 60 = .ok (.iload 6, 2) by decide +kernel)) (
  mz_nil))))))))))))))))
noncomputable def ck_X0_burnFrom_2 : List (Nat × mz_O) := [(62, .inl (mz_ld mz_isI 4 64)), (64, .inl (mz_j2 mz_eq 67 70)), (67, .inl (mz_ld mz_isI 4 69)), (69, .inr (mz_rt mz_isI))]
theorem tk_X0_burnFrom_2 (E : List mz_V) : mz_all E tM_X0_burnFrom (ck_X0_burnFrom_2) :=
  mz_cons (mz_iload (show decode cX0_burnFrom 62 = .ok (.iload 4, 2) by decide +kernel)) (
  mz_cons (mz_icmp_ne 70 (by decide) (show decode cX0_burnFrom 64 = .ok (.if_icmp .ne 6, 3) by decide +kernel)) (
  mz_cons (mz_iload (show decode cX0_burnFrom 67 = .ok (.iload 4, 2) by decide +kernel)) (
  mz_consR (mz_ireturn rfl (show decode cX0_burnFrom 69 = .ok (.ireturn, 1) by decide +kernel)) (
  mz_nil))))
noncomputable def tb_X0_burnFrom : List (Nat × List (Nat × mz_O)) := [(30, ck_X0_burnFrom_0), (60, ck_X0_burnFrom_1), (69, ck_X0_burnFrom_2)]
theorem tok_X0_burnFrom (E : List mz_V) : mz_tok E tM_X0_burnFrom (tb_X0_burnFrom) := mz_tcons (tk_X0_burnFrom_0 E) (mz_tcons (tk_X0_burnFrom_1 E) (mz_tcons (tk_X0_burnFrom_2 E) (mz_tnil)))
noncomputable def rn_X0_burnFrom : List mz_V → List mz_C → Option (Option mz_V × List mz_C) := mz_rn tb_X0_burnFrom 160 7
theorem ctr_X0_burnFrom (E : List mz_V) : mz_ctr E yX0_burnFrom tM_X0_burnFrom rn_X0_burnFrom := mz_ctr_of 160 (tok_X0_burnFrom E) (by decide) rfl rfl
abbrev tM_X6_all : mz_M := (cX6_all, 1, (some .int), RX6, "all", 1, 22)
noncomputable def ck_X6_all_0 : List (Nat × mz_O) := [(0, .inl (mz_push (.inl 1) 1)), (1, .inl (mz_ld mz_isR 0 2)), (2, .inl (mz_gf 6 4 5)), (5, .inl (mz_o2 mz_f_ishl 6)), (6, .inl (mz_push (.inl 1) 7)), (7, .inl (mz_o2 mz_f_isub 8)), (8, .inr (mz_rt mz_isI))]
theorem tk_X6_all_0 (E : List mz_V) : mz_all E tM_X6_all (ck_X6_all_0) :=
  mz_cons (mz_iconst 1 (by decide) (show decode cX6_all 0 = .ok (.iconst 1, 1) by decide +kernel)) (
  mz_cons (mz_aload_n (k := 0) (show decode cX6_all 1 = .ok (.aload_n 0, 1) by decide +kernel)) (
  mz_cons (mz_getfield (C := RX6) (T := TX6) (N := 7) rfl mz_inX6 (by decide) mw_145 (show decode cX6_all 2 = .ok (.getfield 35, 3) by decide +kernel)) (
  mz_cons (mz_ishl (show decode cX6_all 5 = .ok (.ishl, 1) by decide +kernel)) (
  mz_cons (mz_iconst 1 (by decide) (show decode cX6_all 6 = .ok (.iconst 1, 1) by decide +kernel)) (
  mz_cons (mz_isub (show decode cX6_all 7 = .ok (.isub, 1) by decide +kernel)) (
  mz_consR (mz_ireturn rfl (show decode cX6_all 8 = .ok (.ireturn, 1) by decide +kernel)) (
  mz_nil)))))))
noncomputable def tb_X6_all : List (Nat × List (Nat × mz_O)) := [(8, ck_X6_all_0)]
theorem tok_X6_all (E : List mz_V) : mz_tok E tM_X6_all (tb_X6_all) := mz_tcons (tk_X6_all_0 E) (mz_tnil)
noncomputable def rn_X6_all : List mz_V → List mz_C → Option (Option mz_V × List mz_C) := mz_rn tb_X6_all 17 1
theorem ctr_X6_all (E : List mz_V) : mz_ctr E yX6_all tM_X6_all rn_X6_all := mz_ctr_of 17 (tok_X6_all E) (by decide) rfl rfl
abbrev tM_X6_folkOf : mz_M := (cX6_folkOf, 4, (some .int), RX6, "folkOf", 2, 43)
noncomputable def ck_X6_folkOf_0 : List (Nat × mz_O) := [(0, .inl (mz_push (.inl 0) 1)), (1, .inl (mz_sto mz_isI mz_p1 2 2)), (2, .inl (mz_push (.inl 0) 3)), (3, .inl (mz_sto mz_isI mz_p1 3 4)), (4, .inl (mz_ld mz_isI 3 5)), (5, .inl (mz_ld mz_isR 0 6)), (6, .inl (mz_gf 6 4 9)), (9, .inl (mz_j2 mz_lt 12 35)), (12, .inl (mz_ld mz_isI 1 13)), (13, .inl (mz_ld mz_isI 3 14)), (14, .inl (mz_call rn_X11_has 2 mz_ckT 17)), (17, .inl (mz_j1 mz_eq0 29 20)), (20, .inl (mz_ld mz_isI 2 21)), (21, .inl (mz_ld mz_isR 0 22)), (22, .inl (mz_gf 6 2 25)), (25, .inl (mz_ld mz_isI 3 26))]
theorem tk_X6_folkOf_0 (E : List mz_V) : mz_all E tM_X6_folkOf (ck_X6_folkOf_0) :=
  mz_cons (mz_iconst 0 (by decide) (show decode cX6_folkOf 0 = .ok (.iconst 0, 1) by decide +kernel)) (
  mz_cons (mz_istore_n (k := 2) (by decide) (show decode cX6_folkOf 1 = .ok (.istore_n 2, 1) by decide +kernel)) (
  mz_cons (mz_iconst 0 (by decide) (show decode cX6_folkOf 2 = .ok (.iconst 0, 1) by decide +kernel)) (
  mz_cons (mz_istore_n (k := 3) (by decide) (show decode cX6_folkOf 3 = .ok (.istore_n 3, 1) by decide +kernel)) (
  mz_cons (mz_iload_n (k := 3) (show decode cX6_folkOf 4 = .ok (.iload_n 3, 1) by decide +kernel)) (
  mz_cons (mz_aload_n (k := 0) (show decode cX6_folkOf 5 = .ok (.aload_n 0, 1) by decide +kernel)) (
  mz_cons (mz_getfield (C := RX6) (T := TX6) (N := 7) rfl mz_inX6 (by decide) mw_145 (show decode cX6_folkOf 6 = .ok (.getfield 35, 3) by decide +kernel)) (
  mz_cons (mz_icmp_ge 35 (by decide) (show decode cX6_folkOf 9 = .ok (.if_icmp .ge 26, 3) by decide +kernel)) (
  mz_cons (mz_iload_n (k := 1) (show decode cX6_folkOf 12 = .ok (.iload_n 1, 1) by decide +kernel)) (
  mz_cons (mz_iload_n (k := 3) (show decode cX6_folkOf 13 = .ok (.iload_n 3, 1) by decide +kernel)) (
  mz_cons (mz_invSN (n := 2) (host := "WettedNet") (ctr_X11_has E) ⟨by decide, by decide, by decide +kernel⟩ ⟨by decide, by decide⟩ mw_604 (by decide +kernel) mw_603 mw_61 (show decode cX6_folkOf 14 = .ok (.invokestatic 46, 3) by decide +kernel)) (
  mz_cons (mz_if_eq 29 (by decide) (show decode cX6_folkOf 17 = .ok (.ifCond .eq 12, 3) by decide +kernel)) (
  mz_cons (mz_iload_n (k := 2) (show decode cX6_folkOf 20 = .ok (.iload_n 2, 1) by decide +kernel)) (
  mz_cons (mz_aload_n (k := 0) (show decode cX6_folkOf 21 = .ok (.aload_n 0, 1) by decide +kernel)) (
  mz_cons (mz_getfield (C := RX6) (T := TX6) (N := 7) rfl mz_inX6 (by decide) mw_143 (show decode cX6_folkOf 22 = .ok (.getfield 18, 3) by decide +kernel)) (
  mz_cons (mz_iload_n (k := 3) (show decode cX6_folkOf 25 = .ok (.iload_n 3, 1) by decide +kernel)) (
  mz_nil))))))))))))))))
noncomputable def ck_X6_folkOf_1 : List (Nat × mz_O) := [(26, .inl (mz_al false 27)), (27, .inl (mz_o2 mz_f_iadd 28)), (28, .inl (mz_sto mz_isI mz_p1 2 29)), (29, .inl (mz_inc 3 1 32)), (32, .inl (mz_go 4)), (35, .inl (mz_ld mz_isI 2 36)), (36, .inr (mz_rt mz_isI))]
theorem tk_X6_folkOf_1 (E : List mz_V) : mz_all E tM_X6_folkOf (ck_X6_folkOf_1) :=
  mz_cons (mz_iaload (show decode cX6_folkOf 26 = .ok (.iaload, 1) by decide +kernel)) (
  mz_cons (mz_iadd (show decode cX6_folkOf 27 = .ok (.iadd, 1) by decide +kernel)) (
  mz_cons (mz_istore_n (k := 2) (by decide) (show decode cX6_folkOf 28 = .ok (.istore_n 2, 1) by decide +kernel)) (
  mz_cons (mz_iinc 1 (by decide) (by decide) (show decode cX6_folkOf 29 = .ok (.iinc 3 1, 3) by decide +kernel)) (
  mz_cons (mz_goto 4 (by decide) (show decode cX6_folkOf 32 = .ok (.goto (-28), 3) by decide +kernel)) (
  mz_cons (mz_iload_n (k := 2) (show decode cX6_folkOf 35 = .ok (.iload_n 2, 1) by decide +kernel)) (
  mz_consR (mz_ireturn rfl (show decode cX6_folkOf 36 = .ok (.ireturn, 1) by decide +kernel)) (
  mz_nil)))))))
noncomputable def tb_X6_folkOf : List (Nat × List (Nat × mz_O)) := [(25, ck_X6_folkOf_0), (36, ck_X6_folkOf_1)]
theorem tok_X6_folkOf (E : List mz_V) : mz_tok E tM_X6_folkOf (tb_X6_folkOf) := mz_tcons (tk_X6_folkOf_0 E) (mz_tcons (tk_X6_folkOf_1 E) (mz_tnil))
noncomputable def rn_X6_folkOf : List mz_V → List mz_C → Option (Option mz_V × List mz_C) := mz_rn tb_X6_folkOf 37 4
theorem ctr_X6_folkOf (E : List mz_V) : mz_ctr E yX6_folkOf tM_X6_folkOf rn_X6_folkOf := mz_ctr_of 37 (tok_X6_folkOf E) (by decide) rfl rfl
abbrev tM_X8_get : mz_M := (cX8_get, 2, (some .int), RX8, "get", 1, 22)
noncomputable def ck_X8_get_0 : List (Nat × mz_O) := [(0, .inl (mz_ld mz_isI 1 1)), (1, .inl (mz_j1 mz_lt0 20 4)), (4, .inl (mz_ld mz_isI 1 5)), (5, .inl (mz_push (.inl 512) 8)), (8, .inl (mz_j2 mz_lt 11 20)), (11, .inl (mz_ld mz_isR 0 12)), (12, .inl (mz_gf 8 0 15)), (15, .inl (mz_ld mz_isI 1 16)), (16, .inl (mz_al false 17)), (17, .inl (mz_go 21)), (21, .inr (mz_rt mz_isI))]
theorem tk_X8_get_0 (E : List mz_V) : mz_all E tM_X8_get (ck_X8_get_0) :=
  mz_cons (mz_iload_n (k := 1) (show decode cX8_get 0 = .ok (.iload_n 1, 1) by decide +kernel)) (
  mz_cons (mz_if_lt 20 (by decide) (show decode cX8_get 1 = .ok (.ifCond .lt 19, 3) by decide +kernel)) (
  mz_cons (mz_iload_n (k := 1) (show decode cX8_get 4 = .ok (.iload_n 1, 1) by decide +kernel)) (
  mz_cons (mz_sipush 512 (by decide) (show decode cX8_get 5 = .ok (.sipush 512, 3) by decide +kernel)) (
  mz_cons (mz_icmp_ge 20 (by decide) (show decode cX8_get 8 = .ok (.if_icmp .ge 12, 3) by decide +kernel)) (
  mz_cons (mz_aload_n (k := 0) (show decode cX8_get 11 = .ok (.aload_n 0, 1) by decide +kernel)) (
  mz_cons (mz_getfield (C := RX8) (T := TX8) (N := 2) rfl mz_inX8 (by decide) mw_120 (show decode cX8_get 12 = .ok (.getfield 9, 3) by decide +kernel)) (
  mz_cons (mz_iload_n (k := 1) (show decode cX8_get 15 = .ok (.iload_n 1, 1) by decide +kernel)) (
  mz_cons (mz_iaload (show decode cX8_get 16 = .ok (.iaload, 1) by decide +kernel)) (
  mz_cons (mz_goto 21 (by decide) (show decode cX8_get 17 = .ok (.goto 4, 3) by decide +kernel)) (
  mz_consR (mz_ireturn rfl (show decode cX8_get 21 = .ok (.ireturn, 1) by decide +kernel)) (
  mz_nil)))))))))))
noncomputable def tb_X8_get : List (Nat × List (Nat × mz_O)) := [(21, ck_X8_get_0)]
theorem tok_X8_get (E : List mz_V) : mz_tok E tM_X8_get (tb_X8_get) := mz_tcons (tk_X8_get_0 E) (mz_tnil)
noncomputable def rn_X8_get : List mz_V → List mz_C → Option (Option mz_V × List mz_C) := mz_rn tb_X8_get 21 2
theorem ctr_X8_get (E : List mz_V) : mz_ctr E yX8_get tM_X8_get rn_X8_get := mz_ctr_of 21 (tok_X8_get E) (by decide) rfl rfl
abbrev tM_X0_leastWetAhead : mz_M := (cX0_leastWetAhead, 6, (some .int), RX0, "leastWetAhead", 4, 94)
noncomputable def ck_X0_leastWetAhead_0 : List (Nat × mz_O) := [(0, .inl (mz_ld mz_isR 0 1)), (1, .inl (mz_gf 0 0 4)), (4, .inl (mz_call rn_X6_all 1 (mz_ckV 6) 7)), (7, .inl (mz_ld mz_isI 1 8)), (8, .inl (mz_push (.inl (-1)) 9)), (9, .inl (mz_o2 mz_f_ixor 10)), (10, .inl (mz_o2 mz_f_iand 11)), (11, .inl (mz_sto mz_isI mz_p1 3 12)), (12, .inl (mz_push (.inl 0) 13)), (13, .inl (mz_sto mz_isI mz_p1 4 15)), (15, .inl (mz_ld mz_isI 4 17)), (17, .inl (mz_push (.inl 512) 20)), (20, .inl (mz_j2 mz_lt 23 72)), (23, .inl (mz_ld mz_isR 0 24)), (24, .inl (mz_gf 0 1 27)), (27, .inl (mz_ld mz_isI 4 29))]
theorem tk_X0_leastWetAhead_0 (E : List mz_V) : mz_all E tM_X0_leastWetAhead (ck_X0_leastWetAhead_0) :=
  mz_cons (mz_aload_n (k := 0) (show decode cX0_leastWetAhead 0 = .ok (.aload_n 0, 1) by decide +kernel)) (
  mz_cons (mz_getfield (C := RX0) (T := TX0) (N := 3) rfl mz_inX0 (by decide) mw_266 (show decode cX0_leastWetAhead 1 = .ok (.getfield 15, 3) by decide +kernel)) (
  mz_cons (mz_invV (n := 0) (ctr_X6_all E) rfl ⟨by decide, by decide, by decide +kernel⟩ ⟨by decide, by decide⟩ mw_567 mw_779 mw_565 mw_566 mw_65 (show decode cX0_leastWetAhead 4 = .ok (.invokevirtual 46, 3) by decide +kernel)) (
  mz_cons (mz_iload_n (k := 1) (show decode cX0_leastWetAhead 7 = .ok (.iload_n 1, 1) by decide +kernel)) (
  mz_cons (mz_iconst (-1) (by decide) (show decode cX0_leastWetAhead 8 = .ok (.iconst (-1), 1) by decide +kernel)) (
  mz_cons (mz_ixor (show decode cX0_leastWetAhead 9 = .ok (.ixor, 1) by decide +kernel)) (
  mz_cons (mz_iand (show decode cX0_leastWetAhead 10 = .ok (.iand, 1) by decide +kernel)) (
  mz_cons (mz_istore_n (k := 3) (by decide) (show decode cX0_leastWetAhead 11 = .ok (.istore_n 3, 1) by decide +kernel)) (
  mz_cons (mz_iconst 0 (by decide) (show decode cX0_leastWetAhead 12 = .ok (.iconst 0, 1) by decide +kernel)) (
  mz_cons (mz_istore (by decide) (show decode cX0_leastWetAhead 13 = .ok (.istore 4, 2) by decide +kernel)) (
  mz_cons (mz_iload (show decode cX0_leastWetAhead 15 = .ok (.iload 4, 2) by decide +kernel)) (
  mz_cons (mz_sipush 512 (by decide) (show decode cX0_leastWetAhead 17 = .ok (.sipush 512, 3) by decide +kernel)) (
  mz_cons (mz_icmp_ge 72 (by decide) (show decode cX0_leastWetAhead 20 = .ok (.if_icmp .ge 52, 3) by decide +kernel)) (
  mz_cons (mz_aload_n (k := 0) (show decode cX0_leastWetAhead 23 = .ok (.aload_n 0, 1) by decide +kernel)) (
  mz_cons (mz_getfield (C := RX0) (T := TX0) (N := 3) rfl mz_inX0 (by decide) mw_267 (show decode cX0_leastWetAhead 24 = .ok (.getfield 19, 3) by decide +kernel)) (
  mz_cons (mz_iload (show decode cX0_leastWetAhead 27 = .ok (.iload 4, 2) by decide +kernel)) (
  mz_nil))))))))))))))))
noncomputable def ck_X0_leastWetAhead_1 : List (Nat × mz_O) := [(29, .inl (mz_call rn_X8_get 2 (mz_ckV 8) 32)), (32, .inl (mz_sto mz_isI mz_p1 5 34)), (34, .inl (mz_ld mz_isI 5 36)), (36, .inl (mz_ld mz_isI 3 37)), (37, .inl (mz_push (.inl (-1)) 38)), (38, .inl (mz_o2 mz_f_ixor 39)), (39, .inl (mz_o2 mz_f_iand 40)), (40, .inl (mz_j1 mz_eq0 43 66)), (43, .inl (mz_ld mz_isR 0 44)), (44, .inl (mz_gf 0 0 47)), (47, .inl (mz_ld mz_isR 0 48)), (48, .inl (mz_ld mz_isI 1 49)), (49, .inl (mz_ld mz_isI 5 51)), (51, .inl (mz_push (.inl 9) 53)), (53, .inl (mz_call rn_X0_burnFrom 4 (mz_ckV 0) 56)), (56, .inl (mz_call rn_X6_folkOf 2 (mz_ckV 6) 59))]
theorem tk_X0_leastWetAhead_1 (E : List mz_V) : mz_all E tM_X0_leastWetAhead (ck_X0_leastWetAhead_1) :=
  mz_cons (mz_invV (n := 1) (ctr_X8_get E) rfl ⟨by decide, by decide, by decide +kernel⟩ ⟨by decide, by decide⟩ mw_631 mw_772 mw_629 mw_630 mw_63 (show decode cX0_leastWetAhead 29 = .ok (.invokevirtual 37, 3) by decide +kernel)) (
  mz_cons (mz_istore (by decide) (show decode cX0_leastWetAhead 32 = .ok (.istore 5, 2) by decide +kernel)) (
  mz_cons (mz_iload (show decode cX0_leastWetAhead 34 = .ok (.iload 5, 2) by decide +kernel)) (
  mz_cons (mz_iload_n (k := 3) (show decode cX0_leastWetAhead 36 = .ok (.iload_n 3, 1) by decide +kernel)) (
  mz_cons (mz_iconst (-1) (by decide) (show decode cX0_leastWetAhead 37 = .ok (.iconst (-1), 1) by decide +kernel)) (
  mz_cons (mz_ixor (show decode cX0_leastWetAhead 38 = .ok (.ixor, 1) by decide +kernel)) (
  mz_cons (mz_iand (show decode cX0_leastWetAhead 39 = .ok (.iand, 1) by decide +kernel)) (
  mz_cons (mz_if_ne 66 (by decide) (show decode cX0_leastWetAhead 40 = .ok (.ifCond .ne 26, 3) by decide +kernel)) (
  mz_cons (mz_aload_n (k := 0) (show decode cX0_leastWetAhead 43 = .ok (.aload_n 0, 1) by decide +kernel)) (
  mz_cons (mz_getfield (C := RX0) (T := TX0) (N := 3) rfl mz_inX0 (by decide) mw_266 (show decode cX0_leastWetAhead 44 = .ok (.getfield 15, 3) by decide +kernel)) (
  mz_cons (mz_aload_n (k := 0) (show decode cX0_leastWetAhead 47 = .ok (.aload_n 0, 1) by decide +kernel)) (
  mz_cons (mz_iload_n (k := 1) (show decode cX0_leastWetAhead 48 = .ok (.iload_n 1, 1) by decide +kernel)) (
  mz_cons (mz_iload (show decode cX0_leastWetAhead 49 = .ok (.iload 5, 2) by decide +kernel)) (
  mz_cons (mz_bipush 9 (by decide) (show decode cX0_leastWetAhead 51 = .ok (.bipush 9, 2) by decide +kernel)) (
  mz_cons (mz_invV (n := 3) (ctr_X0_burnFrom E) rfl ⟨by decide, by decide, by decide +kernel⟩ ⟨by decide, by decide⟩ mw_745 mw_778 mw_743 mw_744 mw_70 (show decode cX0_leastWetAhead 53 = .ok (.invokevirtual 61, 3) by decide +kernel)) (
  mz_cons (mz_invV (n := 1) (ctr_X6_folkOf E) rfl ⟨by decide, by decide, by decide +kernel⟩ ⟨by decide, by decide⟩ mw_608 mw_791 mw_606 mw_607 mw_65 (show decode cX0_leastWetAhead 56 = .ok (.invokevirtual 64, 3) by decide +kernel)) (
  mz_nil))))))))))))))))
noncomputable def ck_X0_leastWetAhead_2 : List (Nat × mz_O) := [(59, .inl (mz_ld mz_isI 2 60)), (60, .inl (mz_j2 mz_gt 66 63)), (63, .inl (mz_ld mz_isI 5 65)), (65, .inr (mz_rt mz_isI)), (66, .inl (mz_inc 4 1 69)), (69, .inl (mz_go 15)), (72, .inl (mz_push (.inl (-1)) 73)), (73, .inr (mz_rt mz_isI))]
theorem tk_X0_leastWetAhead_2 (E : List mz_V) : mz_all E tM_X0_leastWetAhead (ck_X0_leastWetAhead_2) :=
  mz_cons (mz_iload_n (k := 2) (show decode cX0_leastWetAhead 59 = .ok (.iload_n 2, 1) by decide +kernel)) (
  mz_cons (mz_icmp_gt 66 (by decide) (show decode cX0_leastWetAhead 60 = .ok (.if_icmp .gt 6, 3) by decide +kernel)) (
  mz_cons (mz_iload (show decode cX0_leastWetAhead 63 = .ok (.iload 5, 2) by decide +kernel)) (
  mz_consR (mz_ireturn rfl (show decode cX0_leastWetAhead 65 = .ok (.ireturn, 1) by decide +kernel)) (
  mz_cons (mz_iinc 1 (by decide) (by decide) (show decode cX0_leastWetAhead 66 = .ok (.iinc 4 1, 3) by decide +kernel)) (
  mz_cons (mz_goto 15 (by decide) (show decode cX0_leastWetAhead 69 = .ok (.goto (-54), 3) by decide +kernel)) (
  mz_cons (mz_iconst (-1) (by decide) (show decode cX0_leastWetAhead 72 = .ok (.iconst (-1), 1) by decide +kernel)) (
  mz_consR (mz_ireturn rfl (show decode cX0_leastWetAhead 73 = .ok (.ireturn, 1) by decide +kernel)) (
  mz_nil))))))))
noncomputable def tb_X0_leastWetAhead : List (Nat × List (Nat × mz_O)) := [(27, ck_X0_leastWetAhead_0), (56, ck_X0_leastWetAhead_1), (73, ck_X0_leastWetAhead_2)]
theorem tok_X0_leastWetAhead (E : List mz_V) : mz_tok E tM_X0_leastWetAhead (tb_X0_leastWetAhead) := mz_tcons (tk_X0_leastWetAhead_0 E) (mz_tcons (tk_X0_leastWetAhead_1 E) (mz_tcons (tk_X0_leastWetAhead_2 E) (mz_tnil)))
noncomputable def rn_X0_leastWetAhead : List mz_V → List mz_C → Option (Option mz_V × List mz_C) := mz_rn tb_X0_leastWetAhead 8227 6
theorem ctr_X0_leastWetAhead (E : List mz_V) : mz_ctr E yX0_leastWetAhead tM_X0_leastWetAhead rn_X0_leastWetAhead := mz_ctr_of 8227 (tok_X0_leastWetAhead E) (by decide) rfl rfl
abbrev tM_X11_within : mz_M := (cX11_within, 3, (some .boolean), RX11, "within", 1, 22)
noncomputable def ck_X11_within_0 : List (Nat × mz_O) := [(0, .inl (mz_ld mz_isI 0 1)), (1, .inl (mz_ld mz_isI 1 2)), (2, .inl (mz_j2 mz_lt 14 5)), (5, .inl (mz_ld mz_isI 0 6)), (6, .inl (mz_ld mz_isI 2 7)), (7, .inl (mz_j2 mz_gt 14 10)), (10, .inl (mz_push (.inl 1) 11)), (11, .inl (mz_go 15)), (14, .inl (mz_push (.inl 0) 15)), (15, .inr (mz_rt mz_is01))]
theorem tk_X11_within_0 (E : List mz_V) : mz_all E tM_X11_within (ck_X11_within_0) :=
  mz_cons (mz_iload_n (k := 0) (show decode cX11_within 0 = .ok (.iload_n 0, 1) by decide +kernel)) (
  mz_cons (mz_iload_n (k := 1) (show decode cX11_within 1 = .ok (.iload_n 1, 1) by decide +kernel)) (
  mz_cons (mz_icmp_lt 14 (by decide) (show decode cX11_within 2 = .ok (.if_icmp .lt 12, 3) by decide +kernel)) (
  mz_cons (mz_iload_n (k := 0) (show decode cX11_within 5 = .ok (.iload_n 0, 1) by decide +kernel)) (
  mz_cons (mz_iload_n (k := 2) (show decode cX11_within 6 = .ok (.iload_n 2, 1) by decide +kernel)) (
  mz_cons (mz_icmp_gt 14 (by decide) (show decode cX11_within 7 = .ok (.if_icmp .gt 7, 3) by decide +kernel)) (
  mz_cons (mz_iconst 1 (by decide) (show decode cX11_within 10 = .ok (.iconst 1, 1) by decide +kernel)) (
  mz_cons (mz_goto 15 (by decide) (show decode cX11_within 11 = .ok (.goto 4, 3) by decide +kernel)) (
  mz_cons (mz_iconst 0 (by decide) (show decode cX11_within 14 = .ok (.iconst 0, 1) by decide +kernel)) (
  mz_consR (mz_zreturn rfl (show decode cX11_within 15 = .ok (.ireturn, 1) by decide +kernel)) (
  mz_nil))))))))))
noncomputable def tb_X11_within : List (Nat × List (Nat × mz_O)) := [(15, ck_X11_within_0)]
theorem tok_X11_within (E : List mz_V) : mz_tok E tM_X11_within (tb_X11_within) := mz_tcons (tk_X11_within_0 E) (mz_tnil)
noncomputable def rn_X11_within : List mz_V → List mz_C → Option (Option mz_V × List mz_C) := mz_rn tb_X11_within 19 3
theorem ctr_X11_within (E : List mz_V) : mz_ctr E yX11_within tM_X11_within rn_X11_within := mz_ctr_of 19 (tok_X11_within E) (by decide) rfl rfl
abbrev tM_X6_isSet : mz_M := (cX6_isSet, 2, (some .boolean), RX6, "isSet", 2, 44)
noncomputable def ck_X6_isSet_0 : List (Nat × mz_O) := [(0, .inl (mz_ld mz_isI 1 1)), (1, .inl (mz_push (.inl 0) 2)), (2, .inl (mz_ld mz_isR 0 3)), (3, .inl (mz_call rn_X6_all 1 (mz_ckV 6) 6)), (6, .inl (mz_call rn_X11_within 3 mz_ckT 9)), (9, .inr (mz_rt mz_is01))]
theorem tk_X6_isSet_0 (E : List mz_V) : mz_all E tM_X6_isSet (ck_X6_isSet_0) :=
  mz_cons (mz_iload_n (k := 1) (show decode cX6_isSet 0 = .ok (.iload_n 1, 1) by decide +kernel)) (
  mz_cons (mz_iconst 0 (by decide) (show decode cX6_isSet 1 = .ok (.iconst 0, 1) by decide +kernel)) (
  mz_cons (mz_aload_n (k := 0) (show decode cX6_isSet 2 = .ok (.aload_n 0, 1) by decide +kernel)) (
  mz_cons (mz_invV (n := 0) (ctr_X6_all E) rfl ⟨by decide, by decide, by decide +kernel⟩ ⟨by decide, by decide⟩ mw_567 mw_564 mw_565 mw_566 mw_65 (show decode cX6_isSet 3 = .ok (.invokevirtual 38, 3) by decide +kernel)) (
  mz_cons (mz_invSN (n := 3) (host := "WettedNet") (ctr_X11_within E) ⟨by decide, by decide, by decide +kernel⟩ ⟨by decide, by decide⟩ mw_140 (by decide +kernel) mw_139 mw_61 (show decode cX6_isSet 6 = .ok (.invokestatic 42, 3) by decide +kernel)) (
  mz_consR (mz_zreturn rfl (show decode cX6_isSet 9 = .ok (.ireturn, 1) by decide +kernel)) (
  mz_nil))))))
noncomputable def tb_X6_isSet : List (Nat × List (Nat × mz_O)) := [(9, ck_X6_isSet_0)]
theorem tok_X6_isSet (E : List mz_V) : mz_tok E tM_X6_isSet (tb_X6_isSet) := mz_tcons (tk_X6_isSet_0 E) (mz_tnil)
noncomputable def rn_X6_isSet : List mz_V → List mz_C → Option (Option mz_V × List mz_C) := mz_rn tb_X6_isSet 16 2
theorem ctr_X6_isSet (E : List mz_V) : mz_ctr E yX6_isSet tM_X6_isSet rn_X6_isSet := mz_ctr_of 16 (tok_X6_isSet E) (by decide) rfl rfl
abbrev tM_X11_ahead : mz_M := (cX11_ahead, 3, (some .int), RX11, "ahead", 5, 119)
noncomputable def ck_X11_ahead_0 : List (Nat × mz_O) := [(0, .inl (mz_ld mz_isR 0 1)), (1, .inl (mz_gf 11 0 4)), (4, .inl (mz_ld mz_isI 1 5)), (5, .inl (mz_call rn_X6_isSet 2 (mz_ckV 6) 8)), (8, .inl (mz_j1 mz_eq0 22 11)), (11, .inl (mz_ld mz_isI 2 12)), (12, .inl (mz_push (.inl 0) 13)), (13, .inl (mz_push (.inl 999) 16)), (16, .inl (mz_call rn_X11_within 3 mz_ckT 19)), (19, .inl (mz_j1 mz_eq0 22 25)), (22, .inl (mz_push (.inl (-3)) 24)), (24, .inr (mz_rt mz_isI)), (25, .inl (mz_ld mz_isR 0 26)), (26, .inl (mz_gf 11 5 29)), (29, .inl (mz_ld mz_isI 1 30)), (30, .inl (mz_ld mz_isI 2 31))]
theorem tk_X11_ahead_0 (E : List mz_V) : mz_all E tM_X11_ahead (ck_X11_ahead_0) :=
  mz_cons (mz_aload_n (k := 0) (show decode cX11_ahead 0 = .ok (.aload_n 0, 1) by decide +kernel)) (
  mz_cons (mz_getfield (C := RX11) (T := TX11) (N := 9) rfl mz_inX11 (by decide) mw_330 (show decode cX11_ahead 1 = .ok (.getfield 18, 3) by decide +kernel)) (
  mz_cons (mz_iload_n (k := 1) (show decode cX11_ahead 4 = .ok (.iload_n 1, 1) by decide +kernel)) (
  mz_cons (mz_invV (n := 1) (ctr_X6_isSet E) rfl ⟨by decide, by decide, by decide +kernel⟩ ⟨by decide, by decide⟩ mw_563 mw_560 mw_561 mw_562 mw_65 (show decode cX11_ahead 5 = .ok (.invokevirtual 145, 3) by decide +kernel)) (
  mz_cons (mz_if_eq 22 (by decide) (show decode cX11_ahead 8 = .ok (.ifCond .eq 14, 3) by decide +kernel)) (
  mz_cons (mz_iload_n (k := 2) (show decode cX11_ahead 11 = .ok (.iload_n 2, 1) by decide +kernel)) (
  mz_cons (mz_iconst 0 (by decide) (show decode cX11_ahead 12 = .ok (.iconst 0, 1) by decide +kernel)) (
  mz_cons (mz_sipush 999 (by decide) (show decode cX11_ahead 13 = .ok (.sipush 999, 3) by decide +kernel)) (
  mz_cons (mz_invS (n := 3) (ctr_X11_within E) ⟨by decide, by decide, by decide +kernel⟩ ⟨by decide, by decide⟩ mw_140 mw_362 mw_139 mw_61 (show decode cX11_ahead 16 = .ok (.invokestatic 88, 3) by decide +kernel)) (
  mz_cons (mz_if_ne 25 (by decide) (show decode cX11_ahead 19 = .ok (.ifCond .ne 6, 3) by decide +kernel)) (
  mz_cons (mz_bipush (-3) (by decide) (show decode cX11_ahead 22 = .ok (.bipush (-3), 2) by decide +kernel)) (
  mz_consR (mz_ireturn rfl (show decode cX11_ahead 24 = .ok (.ireturn, 1) by decide +kernel)) (
  mz_cons (mz_aload_n (k := 0) (show decode cX11_ahead 25 = .ok (.aload_n 0, 1) by decide +kernel)) (
  mz_cons (mz_getfield (C := RX11) (T := TX11) (N := 9) rfl mz_inX11 (by decide) mw_335 (show decode cX11_ahead 26 = .ok (.getfield 61, 3) by decide +kernel)) (
  mz_cons (mz_iload_n (k := 1) (show decode cX11_ahead 29 = .ok (.iload_n 1, 1) by decide +kernel)) (
  mz_cons (mz_iload_n (k := 2) (show decode cX11_ahead 30 = .ok (.iload_n 2, 1) by decide +kernel)) (
  mz_nil))))))))))))))))
noncomputable def ck_X11_ahead_1 : List (Nat × mz_O) := [(31, .inl (mz_call rn_X0_leastWetAhead 3 (mz_ckV 0) 34)), (34, .inr (mz_rt mz_isI))]
theorem tk_X11_ahead_1 (E : List mz_V) : mz_all E tM_X11_ahead (ck_X11_ahead_1) :=
  mz_cons (mz_invV (n := 2) (ctr_X0_leastWetAhead E) rfl ⟨by decide, by decide, by decide +kernel⟩ ⟨by decide, by decide⟩ mw_790 mw_787 mw_788 mw_789 mw_70 (show decode cX11_ahead 31 = .ok (.invokevirtual 206, 3) by decide +kernel)) (
  mz_consR (mz_ireturn rfl (show decode cX11_ahead 34 = .ok (.ireturn, 1) by decide +kernel)) (
  mz_nil))
noncomputable def tb_X11_ahead : List (Nat × List (Nat × mz_O)) := [(30, ck_X11_ahead_0), (34, ck_X11_ahead_1)]
theorem tok_X11_ahead (E : List mz_V) : mz_tok E tM_X11_ahead (tb_X11_ahead) := mz_tcons (tk_X11_ahead_0 E) (mz_tcons (tk_X11_ahead_1 E) (mz_tnil))
noncomputable def rn_X11_ahead : List mz_V → List mz_C → Option (Option mz_V × List mz_C) := mz_rn tb_X11_ahead 26 3
theorem ctr_X11_ahead (E : List mz_V) : mz_ctr E yX11_ahead tM_X11_ahead rn_X11_ahead := mz_ctr_of 26 (tok_X11_ahead E) (by decide) rfl rfl
abbrev tM_X6_besideAny : mz_M := (cX6_besideAny, 4, (some .int), RX6, "besideAny", 2, 43)
noncomputable def ck_X6_besideAny_0 : List (Nat × mz_O) := [(0, .inl (mz_push (.inl 0) 1)), (1, .inl (mz_sto mz_isI mz_p1 2 2)), (2, .inl (mz_push (.inl 0) 3)), (3, .inl (mz_sto mz_isI mz_p1 3 4)), (4, .inl (mz_ld mz_isI 3 5)), (5, .inl (mz_ld mz_isR 0 6)), (6, .inl (mz_gf 6 4 9)), (9, .inl (mz_j2 mz_lt 12 35)), (12, .inl (mz_ld mz_isI 1 13)), (13, .inl (mz_ld mz_isI 3 14)), (14, .inl (mz_call rn_X11_has 2 mz_ckT 17)), (17, .inl (mz_j1 mz_eq0 29 20)), (20, .inl (mz_ld mz_isI 2 21)), (21, .inl (mz_ld mz_isR 0 22)), (22, .inl (mz_gf 6 0 25)), (25, .inl (mz_ld mz_isI 3 26))]
theorem tk_X6_besideAny_0 (E : List mz_V) : mz_all E tM_X6_besideAny (ck_X6_besideAny_0) :=
  mz_cons (mz_iconst 0 (by decide) (show decode cX6_besideAny 0 = .ok (.iconst 0, 1) by decide +kernel)) (
  mz_cons (mz_istore_n (k := 2) (by decide) (show decode cX6_besideAny 1 = .ok (.istore_n 2, 1) by decide +kernel)) (
  mz_cons (mz_iconst 0 (by decide) (show decode cX6_besideAny 2 = .ok (.iconst 0, 1) by decide +kernel)) (
  mz_cons (mz_istore_n (k := 3) (by decide) (show decode cX6_besideAny 3 = .ok (.istore_n 3, 1) by decide +kernel)) (
  mz_cons (mz_iload_n (k := 3) (show decode cX6_besideAny 4 = .ok (.iload_n 3, 1) by decide +kernel)) (
  mz_cons (mz_aload_n (k := 0) (show decode cX6_besideAny 5 = .ok (.aload_n 0, 1) by decide +kernel)) (
  mz_cons (mz_getfield (C := RX6) (T := TX6) (N := 7) rfl mz_inX6 (by decide) mw_145 (show decode cX6_besideAny 6 = .ok (.getfield 35, 3) by decide +kernel)) (
  mz_cons (mz_icmp_ge 35 (by decide) (show decode cX6_besideAny 9 = .ok (.if_icmp .ge 26, 3) by decide +kernel)) (
  mz_cons (mz_iload_n (k := 1) (show decode cX6_besideAny 12 = .ok (.iload_n 1, 1) by decide +kernel)) (
  mz_cons (mz_iload_n (k := 3) (show decode cX6_besideAny 13 = .ok (.iload_n 3, 1) by decide +kernel)) (
  mz_cons (mz_invSN (n := 2) (host := "WettedNet") (ctr_X11_has E) ⟨by decide, by decide, by decide +kernel⟩ ⟨by decide, by decide⟩ mw_604 (by decide +kernel) mw_603 mw_61 (show decode cX6_besideAny 14 = .ok (.invokestatic 46, 3) by decide +kernel)) (
  mz_cons (mz_if_eq 29 (by decide) (show decode cX6_besideAny 17 = .ok (.ifCond .eq 12, 3) by decide +kernel)) (
  mz_cons (mz_iload_n (k := 2) (show decode cX6_besideAny 20 = .ok (.iload_n 2, 1) by decide +kernel)) (
  mz_cons (mz_aload_n (k := 0) (show decode cX6_besideAny 21 = .ok (.aload_n 0, 1) by decide +kernel)) (
  mz_cons (mz_getfield (C := RX6) (T := TX6) (N := 7) rfl mz_inX6 (by decide) mw_141 (show decode cX6_besideAny 22 = .ok (.getfield 9, 3) by decide +kernel)) (
  mz_cons (mz_iload_n (k := 3) (show decode cX6_besideAny 25 = .ok (.iload_n 3, 1) by decide +kernel)) (
  mz_nil))))))))))))))))
noncomputable def ck_X6_besideAny_1 : List (Nat × mz_O) := [(26, .inl (mz_al false 27)), (27, .inl (mz_o2 mz_f_ior 28)), (28, .inl (mz_sto mz_isI mz_p1 2 29)), (29, .inl (mz_inc 3 1 32)), (32, .inl (mz_go 4)), (35, .inl (mz_ld mz_isI 2 36)), (36, .inr (mz_rt mz_isI))]
theorem tk_X6_besideAny_1 (E : List mz_V) : mz_all E tM_X6_besideAny (ck_X6_besideAny_1) :=
  mz_cons (mz_iaload (show decode cX6_besideAny 26 = .ok (.iaload, 1) by decide +kernel)) (
  mz_cons (mz_ior (show decode cX6_besideAny 27 = .ok (.ior, 1) by decide +kernel)) (
  mz_cons (mz_istore_n (k := 2) (by decide) (show decode cX6_besideAny 28 = .ok (.istore_n 2, 1) by decide +kernel)) (
  mz_cons (mz_iinc 1 (by decide) (by decide) (show decode cX6_besideAny 29 = .ok (.iinc 3 1, 3) by decide +kernel)) (
  mz_cons (mz_goto 4 (by decide) (show decode cX6_besideAny 32 = .ok (.goto (-28), 3) by decide +kernel)) (
  mz_cons (mz_iload_n (k := 2) (show decode cX6_besideAny 35 = .ok (.iload_n 2, 1) by decide +kernel)) (
  mz_consR (mz_ireturn rfl (show decode cX6_besideAny 36 = .ok (.ireturn, 1) by decide +kernel)) (
  mz_nil)))))))
noncomputable def tb_X6_besideAny : List (Nat × List (Nat × mz_O)) := [(25, ck_X6_besideAny_0), (36, ck_X6_besideAny_1)]
theorem tok_X6_besideAny (E : List mz_V) : mz_tok E tM_X6_besideAny (tb_X6_besideAny) := mz_tcons (tk_X6_besideAny_0 E) (mz_tcons (tk_X6_besideAny_1 E) (mz_tnil))
noncomputable def rn_X6_besideAny : List mz_V → List mz_C → Option (Option mz_V × List mz_C) := mz_rn tb_X6_besideAny 37 4
theorem ctr_X6_besideAny (E : List mz_V) : mz_ctr E yX6_besideAny tM_X6_besideAny rn_X6_besideAny := mz_ctr_of 37 (tok_X6_besideAny E) (by decide) rfl rfl
abbrev tM_X2_burnOn : mz_M := (cX2_burnOn, 3, (some .int), RX2, "burnOn", 3, 66)
noncomputable def ck_X2_burnOn_0 : List (Nat × mz_O) := [(0, .inl (mz_ld mz_isI 1 1)), (1, .inl (mz_ld mz_isR 0 2)), (2, .inl (mz_gf 2 0 5)), (5, .inl (mz_ld mz_isI 1 6)), (6, .inl (mz_call rn_X6_besideAny 2 (mz_ckV 6) 9)), (9, .inl (mz_ld mz_isI 2 10)), (10, .inl (mz_push (.inl (-1)) 11)), (11, .inl (mz_o2 mz_f_ixor 12)), (12, .inl (mz_o2 mz_f_iand 13)), (13, .inl (mz_o2 mz_f_ior 14)), (14, .inr (mz_rt mz_isI))]
theorem tk_X2_burnOn_0 (E : List mz_V) : mz_all E tM_X2_burnOn (ck_X2_burnOn_0) :=
  mz_cons (mz_iload_n (k := 1) (show decode cX2_burnOn 0 = .ok (.iload_n 1, 1) by decide +kernel)) (
  mz_cons (mz_aload_n (k := 0) (show decode cX2_burnOn 1 = .ok (.aload_n 0, 1) by decide +kernel)) (
  mz_cons (mz_getfield (C := RX2) (T := TX2) (N := 4) rfl mz_inX2 (by decide) mw_200 (show decode cX2_burnOn 2 = .ok (.getfield 9, 3) by decide +kernel)) (
  mz_cons (mz_iload_n (k := 1) (show decode cX2_burnOn 5 = .ok (.iload_n 1, 1) by decide +kernel)) (
  mz_cons (mz_invV (n := 1) (ctr_X6_besideAny E) rfl ⟨by decide, by decide, by decide +kernel⟩ ⟨by decide, by decide⟩ mw_601 mw_598 mw_599 mw_600 mw_65 (show decode cX2_burnOn 6 = .ok (.invokevirtual 64, 3) by decide +kernel)) (
  mz_cons (mz_iload_n (k := 2) (show decode cX2_burnOn 9 = .ok (.iload_n 2, 1) by decide +kernel)) (
  mz_cons (mz_iconst (-1) (by decide) (show decode cX2_burnOn 10 = .ok (.iconst (-1), 1) by decide +kernel)) (
  mz_cons (mz_ixor (show decode cX2_burnOn 11 = .ok (.ixor, 1) by decide +kernel)) (
  mz_cons (mz_iand (show decode cX2_burnOn 12 = .ok (.iand, 1) by decide +kernel)) (
  mz_cons (mz_ior (show decode cX2_burnOn 13 = .ok (.ior, 1) by decide +kernel)) (
  mz_consR (mz_ireturn rfl (show decode cX2_burnOn 14 = .ok (.ireturn, 1) by decide +kernel)) (
  mz_nil)))))))))))
noncomputable def tb_X2_burnOn : List (Nat × List (Nat × mz_O)) := [(14, ck_X2_burnOn_0)]
theorem tok_X2_burnOn (E : List mz_V) : mz_tok E tM_X2_burnOn (tb_X2_burnOn) := mz_tcons (tk_X2_burnOn_0 E) (mz_tnil)
noncomputable def rn_X2_burnOn : List mz_V → List mz_C → Option (Option mz_V × List mz_C) := mz_rn tb_X2_burnOn 21 3
theorem ctr_X2_burnOn (E : List mz_V) : mz_ctr E yX2_burnOn tM_X2_burnOn rn_X2_burnOn := mz_ctr_of 21 (tok_X2_burnOn E) (by decide) rfl rfl
abbrev tM_X2_threes : mz_M := (cX2_threes, 1, (some .int), RX2, "threes", 1, 22)
noncomputable def ck_X2_threes_0 : List (Nat × mz_O) := [(0, .inl (mz_push (.inr (.inr (.inr (.inr (.inr (.inr 1)))))) 3)), (3, .inl (mz_ld mz_isI 0 4)), (4, .inl (mz_push (.inl 7) 6)), (6, .inl (mz_o2 mz_f_iand 7)), (7, .inl (mz_xl 1 mz_thrV 8)), (8, .inl (mz_push (.inl 27) 10)), (10, .inl (mz_push (.inr (.inr (.inr (.inr (.inr (.inr 1)))))) 13)), (13, .inl (mz_ld mz_isI 0 14)), (14, .inl (mz_push (.inl 3) 15)), (15, .inl (mz_o2 mz_f_ishr 16)), (16, .inl (mz_push (.inl 7) 18)), (18, .inl (mz_o2 mz_f_iand 19)), (19, .inl (mz_xl 1 mz_thrV 20)), (20, .inl (mz_o2 mz_f_imul 21)), (21, .inl (mz_o2 mz_f_iadd 22)), (22, .inl (mz_push (.inl 729) 25))]
theorem tk_X2_threes_0 (E : List mz_V) : mz_all E tM_X2_threes (ck_X2_threes_0) :=
  mz_cons (mz_gsThr mw_587 (show decode cX2_threes 0 = .ok (.getstatic 99, 3) by decide +kernel)) (
  mz_cons (mz_iload_n (k := 0) (show decode cX2_threes 3 = .ok (.iload_n 0, 1) by decide +kernel)) (
  mz_cons (mz_bipush 7 (by decide) (show decode cX2_threes 4 = .ok (.bipush 7, 2) by decide +kernel)) (
  mz_cons (mz_iand (show decode cX2_threes 6 = .ok (.iand, 1) by decide +kernel)) (
  mz_cons (mz_xlThr (show decode cX2_threes 7 = .ok (.iaload, 1) by decide +kernel)) (
  mz_cons (mz_bipush 27 (by decide) (show decode cX2_threes 8 = .ok (.bipush 27, 2) by decide +kernel)) (
  mz_cons (mz_gsThr mw_587 (show decode cX2_threes 10 = .ok (.getstatic 99, 3) by decide +kernel)) (
  mz_cons (mz_iload_n (k := 0) (show decode cX2_threes 13 = .ok (.iload_n 0, 1) by decide +kernel)) (
  mz_cons (mz_iconst 3 (by decide) (show decode cX2_threes 14 = .ok (.iconst 3, 1) by decide +kernel)) (
  mz_cons (mz_ishr (show decode cX2_threes 15 = .ok (.ishr, 1) by decide +kernel)) (
  mz_cons (mz_bipush 7 (by decide) (show decode cX2_threes 16 = .ok (.bipush 7, 2) by decide +kernel)) (
  mz_cons (mz_iand (show decode cX2_threes 18 = .ok (.iand, 1) by decide +kernel)) (
  mz_cons (mz_xlThr (show decode cX2_threes 19 = .ok (.iaload, 1) by decide +kernel)) (
  mz_cons (mz_imul (show decode cX2_threes 20 = .ok (.imul, 1) by decide +kernel)) (
  mz_cons (mz_iadd (show decode cX2_threes 21 = .ok (.iadd, 1) by decide +kernel)) (
  mz_cons (mz_sipush 729 (by decide) (show decode cX2_threes 22 = .ok (.sipush 729, 3) by decide +kernel)) (
  mz_nil))))))))))))))))
noncomputable def ck_X2_threes_1 : List (Nat × mz_O) := [(25, .inl (mz_push (.inr (.inr (.inr (.inr (.inr (.inr 1)))))) 28)), (28, .inl (mz_ld mz_isI 0 29)), (29, .inl (mz_push (.inl 6) 31)), (31, .inl (mz_o2 mz_f_ishr 32)), (32, .inl (mz_push (.inl 7) 34)), (34, .inl (mz_o2 mz_f_iand 35)), (35, .inl (mz_xl 1 mz_thrV 36)), (36, .inl (mz_o2 mz_f_imul 37)), (37, .inl (mz_o2 mz_f_iadd 38)), (38, .inr (mz_rt mz_isI))]
theorem tk_X2_threes_1 (E : List mz_V) : mz_all E tM_X2_threes (ck_X2_threes_1) :=
  mz_cons (mz_gsThr mw_587 (show decode cX2_threes 25 = .ok (.getstatic 99, 3) by decide +kernel)) (
  mz_cons (mz_iload_n (k := 0) (show decode cX2_threes 28 = .ok (.iload_n 0, 1) by decide +kernel)) (
  mz_cons (mz_bipush 6 (by decide) (show decode cX2_threes 29 = .ok (.bipush 6, 2) by decide +kernel)) (
  mz_cons (mz_ishr (show decode cX2_threes 31 = .ok (.ishr, 1) by decide +kernel)) (
  mz_cons (mz_bipush 7 (by decide) (show decode cX2_threes 32 = .ok (.bipush 7, 2) by decide +kernel)) (
  mz_cons (mz_iand (show decode cX2_threes 34 = .ok (.iand, 1) by decide +kernel)) (
  mz_cons (mz_xlThr (show decode cX2_threes 35 = .ok (.iaload, 1) by decide +kernel)) (
  mz_cons (mz_imul (show decode cX2_threes 36 = .ok (.imul, 1) by decide +kernel)) (
  mz_cons (mz_iadd (show decode cX2_threes 37 = .ok (.iadd, 1) by decide +kernel)) (
  mz_consR (mz_ireturn rfl (show decode cX2_threes 38 = .ok (.ireturn, 1) by decide +kernel)) (
  mz_nil))))))))))
noncomputable def tb_X2_threes : List (Nat × List (Nat × mz_O)) := [(22, ck_X2_threes_0), (38, ck_X2_threes_1)]
theorem tok_X2_threes (E : List mz_V) : mz_tok E tM_X2_threes (tb_X2_threes) := mz_tcons (tk_X2_threes_0 E) (mz_tcons (tk_X2_threes_1 E) (mz_tnil))
noncomputable def rn_X2_threes : List mz_V → List mz_C → Option (Option mz_V × List mz_C) := mz_rn tb_X2_threes 36 1
theorem ctr_X2_threes (E : List mz_V) : mz_ctr E yX2_threes tM_X2_threes rn_X2_threes := mz_ctr_of 36 (tok_X2_threes E) (by decide) rfl rfl
abbrev tM_X5_keep : mz_M := (cX5_keep, 3, none, RX5, "keep", 2, 44)
noncomputable def ck_X5_keep_0 : List (Nat × mz_O) := [(0, .inl (mz_ld mz_isR 0 1)), (1, .inl (mz_gf 5 0 4)), (4, .inl (mz_j1 mz_nul 33 7)), (7, .inl (mz_ld mz_isI 1 8)), (8, .inl (mz_push (.inl 0) 9)), (9, .inl (mz_push (.inl 19682) 12)), (12, .inl (mz_call rn_X11_within 3 mz_ckT 15)), (15, .inl (mz_j1 mz_eq0 33 18)), (18, .inl (mz_ld mz_isR 0 19)), (19, .inl (mz_gf 5 0 22)), (22, .inl (mz_ld mz_isI 1 23)), (23, .inl (mz_ld mz_isR 0 24)), (24, .inl (mz_gf 5 1 27)), (27, .inl (mz_push (.inl 10) 29)), (29, .inl (mz_o2 mz_f_ishl 30)), (30, .inl (mz_ld mz_isI 2 31))]
theorem tk_X5_keep_0 (E : List mz_V) : mz_all E tM_X5_keep (ck_X5_keep_0) :=
  mz_cons (mz_aload_n (k := 0) (show decode cX5_keep 0 = .ok (.aload_n 0, 1) by decide +kernel)) (
  mz_cons (mz_getfield (C := RX5) (T := TX5) (N := 2) rfl mz_inX5 (by decide) mw_94 (show decode cX5_keep 1 = .ok (.getfield 9, 3) by decide +kernel)) (
  mz_cons (mz_ifnull 33 (by decide) (show decode cX5_keep 4 = .ok (.ifnull 29, 3) by decide +kernel)) (
  mz_cons (mz_iload_n (k := 1) (show decode cX5_keep 7 = .ok (.iload_n 1, 1) by decide +kernel)) (
  mz_cons (mz_iconst 0 (by decide) (show decode cX5_keep 8 = .ok (.iconst 0, 1) by decide +kernel)) (
  mz_cons (mz_sipush 19682 (by decide) (show decode cX5_keep 9 = .ok (.sipush 19682, 3) by decide +kernel)) (
  mz_cons (mz_invSN (n := 3) (host := "WettedNet") (ctr_X11_within E) ⟨by decide, by decide, by decide +kernel⟩ ⟨by decide, by decide⟩ mw_140 (by decide +kernel) mw_139 mw_61 (show decode cX5_keep 12 = .ok (.invokestatic 19, 3) by decide +kernel)) (
  mz_cons (mz_if_eq 33 (by decide) (show decode cX5_keep 15 = .ok (.ifCond .eq 18, 3) by decide +kernel)) (
  mz_cons (mz_aload_n (k := 0) (show decode cX5_keep 18 = .ok (.aload_n 0, 1) by decide +kernel)) (
  mz_cons (mz_getfield (C := RX5) (T := TX5) (N := 2) rfl mz_inX5 (by decide) mw_94 (show decode cX5_keep 19 = .ok (.getfield 9, 3) by decide +kernel)) (
  mz_cons (mz_iload_n (k := 1) (show decode cX5_keep 22 = .ok (.iload_n 1, 1) by decide +kernel)) (
  mz_cons (mz_aload_n (k := 0) (show decode cX5_keep 23 = .ok (.aload_n 0, 1) by decide +kernel)) (
  mz_cons (mz_getfield (C := RX5) (T := TX5) (N := 2) rfl mz_inX5 (by decide) mw_95 (show decode cX5_keep 24 = .ok (.getfield 15, 3) by decide +kernel)) (
  mz_cons (mz_bipush 10 (by decide) (show decode cX5_keep 27 = .ok (.bipush 10, 2) by decide +kernel)) (
  mz_cons (mz_ishl (show decode cX5_keep 29 = .ok (.ishl, 1) by decide +kernel)) (
  mz_cons (mz_iload_n (k := 2) (show decode cX5_keep 30 = .ok (.iload_n 2, 1) by decide +kernel)) (
  mz_nil))))))))))))))))
noncomputable def ck_X5_keep_1 : List (Nat × mz_O) := [(31, .inl (mz_o2 mz_f_ior 32)), (32, .inl (mz_ast false mz_isI 33)), (33, .inr (mz_rv))]
theorem tk_X5_keep_1 (E : List mz_V) : mz_all E tM_X5_keep (ck_X5_keep_1) :=
  mz_cons (mz_ior (show decode cX5_keep 31 = .ok (.ior, 1) by decide +kernel)) (
  mz_cons (mz_iastore (show decode cX5_keep 32 = .ok (.iastore, 1) by decide +kernel)) (
  mz_consR (mz_return rfl (show decode cX5_keep 33 = .ok (.return_, 1) by decide +kernel)) (
  mz_nil)))
noncomputable def tb_X5_keep : List (Nat × List (Nat × mz_O)) := [(30, ck_X5_keep_0), (33, ck_X5_keep_1)]
theorem tok_X5_keep (E : List mz_V) : mz_tok E tM_X5_keep (tb_X5_keep) := mz_tcons (tk_X5_keep_0 E) (mz_tcons (tk_X5_keep_1 E) (mz_tnil))
noncomputable def rn_X5_keep : List mz_V → List mz_C → Option (Option mz_V × List mz_C) := mz_rn tb_X5_keep 29 3
theorem ctr_X5_keep (E : List mz_V) : mz_ctr E yX5_keep tM_X5_keep rn_X5_keep := mz_ctr_of 29 (tok_X5_keep E) (by decide) rfl rfl
abbrev tM_X5_recall : mz_M := (cX5_recall, 2, (some .int), RX5, "recall", 2, 44)
noncomputable def ck_X5_recall_0 : List (Nat × mz_O) := [(0, .inl (mz_ld mz_isR 0 1)), (1, .inl (mz_gf 5 0 4)), (4, .inl (mz_j1 mz_nul 34 7)), (7, .inl (mz_ld mz_isI 1 8)), (8, .inl (mz_push (.inl 0) 9)), (9, .inl (mz_push (.inl 19682) 12)), (12, .inl (mz_call rn_X11_within 3 mz_ckT 15)), (15, .inl (mz_j1 mz_eq0 34 18)), (18, .inl (mz_ld mz_isR 0 19)), (19, .inl (mz_gf 5 0 22)), (22, .inl (mz_ld mz_isI 1 23)), (23, .inl (mz_al false 24)), (24, .inl (mz_push (.inl 10) 26)), (26, .inl (mz_o2 mz_f_ishr 27)), (27, .inl (mz_ld mz_isR 0 28)), (28, .inl (mz_gf 5 1 31))]
theorem tk_X5_recall_0 (E : List mz_V) : mz_all E tM_X5_recall (ck_X5_recall_0) :=
  mz_cons (mz_aload_n (k := 0) (show decode cX5_recall 0 = .ok (.aload_n 0, 1) by decide +kernel)) (
  mz_cons (mz_getfield (C := RX5) (T := TX5) (N := 2) rfl mz_inX5 (by decide) mw_94 (show decode cX5_recall 1 = .ok (.getfield 9, 3) by decide +kernel)) (
  mz_cons (mz_ifnull 34 (by decide) (show decode cX5_recall 4 = .ok (.ifnull 30, 3) by decide +kernel)) (
  mz_cons (mz_iload_n (k := 1) (show decode cX5_recall 7 = .ok (.iload_n 1, 1) by decide +kernel)) (
  mz_cons (mz_iconst 0 (by decide) (show decode cX5_recall 8 = .ok (.iconst 0, 1) by decide +kernel)) (
  mz_cons (mz_sipush 19682 (by decide) (show decode cX5_recall 9 = .ok (.sipush 19682, 3) by decide +kernel)) (
  mz_cons (mz_invSN (n := 3) (host := "WettedNet") (ctr_X11_within E) ⟨by decide, by decide, by decide +kernel⟩ ⟨by decide, by decide⟩ mw_140 (by decide +kernel) mw_139 mw_61 (show decode cX5_recall 12 = .ok (.invokestatic 19, 3) by decide +kernel)) (
  mz_cons (mz_if_eq 34 (by decide) (show decode cX5_recall 15 = .ok (.ifCond .eq 19, 3) by decide +kernel)) (
  mz_cons (mz_aload_n (k := 0) (show decode cX5_recall 18 = .ok (.aload_n 0, 1) by decide +kernel)) (
  mz_cons (mz_getfield (C := RX5) (T := TX5) (N := 2) rfl mz_inX5 (by decide) mw_94 (show decode cX5_recall 19 = .ok (.getfield 9, 3) by decide +kernel)) (
  mz_cons (mz_iload_n (k := 1) (show decode cX5_recall 22 = .ok (.iload_n 1, 1) by decide +kernel)) (
  mz_cons (mz_iaload (show decode cX5_recall 23 = .ok (.iaload, 1) by decide +kernel)) (
  mz_cons (mz_bipush 10 (by decide) (show decode cX5_recall 24 = .ok (.bipush 10, 2) by decide +kernel)) (
  mz_cons (mz_ishr (show decode cX5_recall 26 = .ok (.ishr, 1) by decide +kernel)) (
  mz_cons (mz_aload_n (k := 0) (show decode cX5_recall 27 = .ok (.aload_n 0, 1) by decide +kernel)) (
  mz_cons (mz_getfield (C := RX5) (T := TX5) (N := 2) rfl mz_inX5 (by decide) mw_95 (show decode cX5_recall 28 = .ok (.getfield 15, 3) by decide +kernel)) (
  mz_nil))))))))))))))))
noncomputable def ck_X5_recall_1 : List (Nat × mz_O) := [(31, .inl (mz_j2 mz_eq 36 34)), (34, .inl (mz_push (.inl (-1)) 35)), (35, .inr (mz_rt mz_isI)), (36, .inl (mz_ld mz_isR 0 37)), (37, .inl (mz_gf 5 0 40)), (40, .inl (mz_ld mz_isI 1 41)), (41, .inl (mz_al false 42)), (42, .inl (mz_push (.inl 1023) 45)), (45, .inl (mz_o2 mz_f_iand 46)), (46, .inr (mz_rt mz_isI))]
theorem tk_X5_recall_1 (E : List mz_V) : mz_all E tM_X5_recall (ck_X5_recall_1) :=
  mz_cons (mz_icmp_eq 36 (by decide) (show decode cX5_recall 31 = .ok (.if_icmp .eq 5, 3) by decide +kernel)) (
  mz_cons (mz_iconst (-1) (by decide) (show decode cX5_recall 34 = .ok (.iconst (-1), 1) by decide +kernel)) (
  mz_consR (mz_ireturn rfl (show decode cX5_recall 35 = .ok (.ireturn, 1) by decide +kernel)) (
  mz_cons (mz_aload_n (k := 0) (show decode cX5_recall 36 = .ok (.aload_n 0, 1) by decide +kernel)) (
  mz_cons (mz_getfield (C := RX5) (T := TX5) (N := 2) rfl mz_inX5 (by decide) mw_94 (show decode cX5_recall 37 = .ok (.getfield 9, 3) by decide +kernel)) (
  mz_cons (mz_iload_n (k := 1) (show decode cX5_recall 40 = .ok (.iload_n 1, 1) by decide +kernel)) (
  mz_cons (mz_iaload (show decode cX5_recall 41 = .ok (.iaload, 1) by decide +kernel)) (
  mz_cons (mz_sipush 1023 (by decide) (show decode cX5_recall 42 = .ok (.sipush 1023, 3) by decide +kernel)) (
  mz_cons (mz_iand (show decode cX5_recall 45 = .ok (.iand, 1) by decide +kernel)) (
  mz_consR (mz_ireturn rfl (show decode cX5_recall 46 = .ok (.ireturn, 1) by decide +kernel)) (
  mz_nil))))))))))
noncomputable def tb_X5_recall : List (Nat × List (Nat × mz_O)) := [(28, ck_X5_recall_0), (46, ck_X5_recall_1)]
theorem tok_X5_recall (E : List mz_V) : mz_tok E tM_X5_recall (tb_X5_recall) := mz_tcons (tk_X5_recall_0 E) (mz_tcons (tk_X5_recall_1 E) (mz_tnil))
noncomputable def rn_X5_recall : List mz_V → List mz_C → Option (Option mz_V × List mz_C) := mz_rn tb_X5_recall 34 2
theorem ctr_X5_recall (E : List mz_V) : mz_ctr E yX5_recall tM_X5_recall rn_X5_recall := mz_ctr_of 34 (tok_X5_recall E) (by decide) rfl rfl
