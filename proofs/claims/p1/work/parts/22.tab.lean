abbrev tM_X12_token_ : mz_M := (cX12_token_, 6, (some .int), RX12, "token", 3, 71)
noncomputable def ck_X12_token__0 : List (Nat × mz_O) := [(0, .inl (mz_ld mz_isR 0 1)), (1, .inl (mz_ld mz_isI 1 2)), (2, .inl (mz_call rn_X12_isRoom 2 (mz_ckV 12) 5)), (5, .inl (mz_j1 mz_eq0 8 11)), (8, .inl (mz_push (.inl (-2)) 10)), (10, .inr (mz_rt mz_isI)), (11, .inl (mz_ld mz_isR 0 12)), (12, .inl (mz_ld mz_isI 2 13)), (13, .inl (mz_call rn_X12_isSetOf 2 (mz_ckV 12) 16)), (16, .inl (mz_j1 mz_eq0 31 19)), (19, .inl (mz_ld mz_isI 3 20)), (20, .inl (mz_o1 mz_f_i2l 21)), (21, .inl (mz_push (.inr (.inl 0)) 22)), (22, .inl (mz_push (.inr (.inl 3)) 25)), (25, .inl (mz_call rn_X12_in 3 mz_ckT 28)), (28, .inl (mz_j1 mz_eq0 31 34))]
theorem tk_X12_token__0 (E : List mz_V) : mz_all E tM_X12_token_ (ck_X12_token__0) :=
  mz_cons (mz_aload_n (k := 0) (show decode cX12_token_ 0 = .ok (.aload_n 0, 1) by decide +kernel)) (
  mz_cons (mz_iload_n (k := 1) (show decode cX12_token_ 1 = .ok (.iload_n 1, 1) by decide +kernel)) (
  mz_cons (mz_invV (n := 1) (ctr_X12_isRoom E) rfl ⟨by decide, by decide, by decide +kernel⟩ ⟨by decide, by decide⟩ mw_1124 mw_1121 mw_1123 mw_37 mw_74 (show decode cX12_token_ 2 = .ok (.invokevirtual 137, 3) by decide +kernel)) (
  mz_cons (mz_if_ne 11 (by decide) (show decode cX12_token_ 5 = .ok (.ifCond .ne 6, 3) by decide +kernel)) (
  mz_cons (mz_bipush (-2) (by decide) (show decode cX12_token_ 8 = .ok (.bipush (-2), 2) by decide +kernel)) (
  mz_consR (mz_ireturn rfl (show decode cX12_token_ 10 = .ok (.ireturn, 1) by decide +kernel)) (
  mz_cons (mz_aload_n (k := 0) (show decode cX12_token_ 11 = .ok (.aload_n 0, 1) by decide +kernel)) (
  mz_cons (mz_iload_n (k := 2) (show decode cX12_token_ 12 = .ok (.iload_n 2, 1) by decide +kernel)) (
  mz_cons (mz_invV (n := 1) (ctr_X12_isSetOf E) rfl ⟨by decide, by decide, by decide +kernel⟩ ⟨by decide, by decide⟩ mw_1139 mw_1136 mw_1138 mw_39 mw_74 (show decode cX12_token_ 13 = .ok (.invokevirtual 167, 3) by decide +kernel)) (
  mz_cons (mz_if_eq 31 (by decide) (show decode cX12_token_ 16 = .ok (.ifCond .eq 15, 3) by decide +kernel)) (
  mz_cons (mz_iload_n (k := 3) (show decode cX12_token_ 19 = .ok (.iload_n 3, 1) by decide +kernel)) (
  mz_cons (mz_i2l (show decode cX12_token_ 20 = .ok (.i2l, 1) by decide +kernel)) (
  mz_cons (mz_lconst 0 (by decide) (show decode cX12_token_ 21 = .ok (.lconst 0, 1) by decide +kernel)) (
  mz_cons (mz_ldc2 mw_1289 (show decode cX12_token_ 22 = .ok (.ldc2_w 247, 3) by decide +kernel)) (
  mz_cons (mz_invS (n := 3) (ctr_X12_in E) ⟨by decide, by decide, by decide +kernel⟩ ⟨by decide, by decide⟩ mw_1068 mw_1066 mw_1067 mw_74 (show decode cX12_token_ 25 = .ok (.invokestatic 65, 3) by decide +kernel)) (
  mz_cons (mz_if_ne 34 (by decide) (show decode cX12_token_ 28 = .ok (.ifCond .ne 6, 3) by decide +kernel)) (
  mz_nil))))))))))))))))
noncomputable def ck_X12_token__1 : List (Nat × mz_O) := [(31, .inl (mz_push (.inl (-3)) 33)), (33, .inr (mz_rt mz_isI)), (34, .inl (mz_ld mz_isR 0 35)), (35, .inl (mz_call rn_X12_all 1 (mz_ckV 12) 38)), (38, .inl (mz_sto mz_isI mz_p1 4 40)), (40, .inl (mz_ld mz_isI 4 42)), (42, .inl (mz_j1 mz_lt0 87 45)), (45, .inl (mz_push (.inl 0) 46)), (46, .inl (mz_sto mz_isI mz_p1 5 48)), (48, .inl (mz_ld mz_isI 5 50)), (50, .inl (mz_ld mz_isR 0 51)), (51, .inl (mz_gf 12 4 54)), (54, .inl (mz_j2 mz_lt 57 81)), (57, .inl (mz_ld mz_isI 4 59)), (59, .inl (mz_ld mz_isI 5 61)), (61, .inl (mz_call rn_X12_has 2 mz_ckT 64))]
theorem tk_X12_token__1 (E : List mz_V) : mz_all E tM_X12_token_ (ck_X12_token__1) :=
  mz_cons (mz_bipush (-3) (by decide) (show decode cX12_token_ 31 = .ok (.bipush (-3), 2) by decide +kernel)) (
  mz_consR (mz_ireturn rfl (show decode cX12_token_ 33 = .ok (.ireturn, 1) by decide +kernel)) (
  mz_cons (mz_aload_n (k := 0) (show decode cX12_token_ 34 = .ok (.aload_n 0, 1) by decide +kernel)) (
  mz_cons (mz_invV (n := 0) (ctr_X12_all E) rfl ⟨by decide, by decide, by decide +kernel⟩ ⟨by decide, by decide⟩ mw_1143 mw_1140 mw_1142 mw_40 mw_74 (show decode cX12_token_ 35 = .ok (.invokevirtual 131, 3) by decide +kernel)) (
  mz_cons (mz_istore (by decide) (show decode cX12_token_ 38 = .ok (.istore 4, 2) by decide +kernel)) (
  mz_cons (mz_iload (show decode cX12_token_ 40 = .ok (.iload 4, 2) by decide +kernel)) (
  mz_cons (mz_if_lt 87 (by decide) (show decode cX12_token_ 42 = .ok (.ifCond .lt 45, 3) by decide +kernel)) (
  mz_cons (mz_iconst 0 (by decide) (show decode cX12_token_ 45 = .ok (.iconst 0, 1) by decide +kernel)) (
  mz_cons (mz_istore (by decide) (show decode cX12_token_ 46 = .ok (.istore 5, 2) by decide +kernel)) (
  mz_cons (mz_iload (show decode cX12_token_ 48 = .ok (.iload 5, 2) by decide +kernel)) (
  mz_cons (mz_aload_n (k := 0) (show decode cX12_token_ 50 = .ok (.aload_n 0, 1) by decide +kernel)) (
  mz_cons (mz_getfield (C := RX12) (T := TX12) (N := 29) rfl mz_inX12 (by decide) mw_976 (show decode cX12_token_ 51 = .ok (.getfield 16, 3) by decide +kernel)) (
  mz_cons (mz_icmp_ge 81 (by decide) (show decode cX12_token_ 54 = .ok (.if_icmp .ge 27, 3) by decide +kernel)) (
  mz_cons (mz_iload (show decode cX12_token_ 57 = .ok (.iload 4, 2) by decide +kernel)) (
  mz_cons (mz_iload (show decode cX12_token_ 59 = .ok (.iload 5, 2) by decide +kernel)) (
  mz_cons (mz_invS (n := 2) (ctr_X12_has E) ⟨by decide, by decide, by decide +kernel⟩ ⟨by decide, by decide⟩ mw_1131 mw_1129 mw_1130 mw_74 (show decode cX12_token_ 61 = .ok (.invokestatic 134, 3) by decide +kernel)) (
  mz_nil))))))))))))))))
noncomputable def ck_X12_token__2 : List (Nat × mz_O) := [(64, .inl (mz_j1 mz_eq0 75 67)), (67, .inl (mz_ld mz_isR 0 68)), (68, .inl (mz_ld mz_isI 5 70)), (70, .inl (mz_ld mz_isI 4 72)), (72, .inl (mz_call rn_X12_layToken 3 (mz_ckV 12) 75)), (75, .inl (mz_inc 5 1 78)), (78, .inl (mz_go 48)), (81, .inl (mz_inc 4 (-1) 84)), (84, .inl (mz_go 40)), (87, .inl (mz_push (.inl 512) 90)), (90, .inl (mz_ld mz_isI 1 91)), (91, .inl (mz_o2 mz_f_imul 92)), (92, .inl (mz_ld mz_isI 2 93)), (93, .inl (mz_push (.inl 1) 94)), (94, .inl (mz_ld mz_isI 1 95)), (95, .inl (mz_o2 mz_f_ishl 96))]
theorem tk_X12_token__2 (E : List mz_V) : mz_all E tM_X12_token_ (ck_X12_token__2) :=
  mz_cons (mz_if_eq 75 (by decide) (show decode cX12_token_ 64 = .ok (.ifCond .eq 11, 3) by decide +kernel)) (
  mz_cons (mz_aload_n (k := 0) (show decode cX12_token_ 67 = .ok (.aload_n 0, 1) by decide +kernel)) (
  mz_cons (mz_iload (show decode cX12_token_ 68 = .ok (.iload 5, 2) by decide +kernel)) (
  mz_cons (mz_iload (show decode cX12_token_ 70 = .ok (.iload 4, 2) by decide +kernel)) (
  mz_cons (mz_invV (n := 2) (ctr_X12_layToken E) rfl ⟨by decide, by decide, by decide +kernel⟩ ⟨by decide, by decide⟩ mw_1293 mw_1290 mw_1292 mw_58 mw_74 (show decode cX12_token_ 72 = .ok (.invokevirtual 249, 3) by decide +kernel)) (
  mz_cons (mz_iinc 1 (by decide) (by decide) (show decode cX12_token_ 75 = .ok (.iinc 5 1, 3) by decide +kernel)) (
  mz_cons (mz_goto 48 (by decide) (show decode cX12_token_ 78 = .ok (.goto (-30), 3) by decide +kernel)) (
  mz_cons (mz_iinc (-1) (by decide) (by decide) (show decode cX12_token_ 81 = .ok (.iinc 4 (-1), 3) by decide +kernel)) (
  mz_cons (mz_goto 40 (by decide) (show decode cX12_token_ 84 = .ok (.goto (-44), 3) by decide +kernel)) (
  mz_cons (mz_sipush 512 (by decide) (show decode cX12_token_ 87 = .ok (.sipush 512, 3) by decide +kernel)) (
  mz_cons (mz_iload_n (k := 1) (show decode cX12_token_ 90 = .ok (.iload_n 1, 1) by decide +kernel)) (
  mz_cons (mz_imul (show decode cX12_token_ 91 = .ok (.imul, 1) by decide +kernel)) (
  mz_cons (mz_iload_n (k := 2) (show decode cX12_token_ 92 = .ok (.iload_n 2, 1) by decide +kernel)) (
  mz_cons (mz_iconst 1 (by decide) (show decode cX12_token_ 93 = .ok (.iconst 1, 1) by decide +kernel)) (
  mz_cons (mz_iload_n (k := 1) (show decode cX12_token_ 94 = .ok (.iload_n 1, 1) by decide +kernel)) (
  mz_cons (mz_ishl (show decode cX12_token_ 95 = .ok (.ishl, 1) by decide +kernel)) (
  mz_nil))))))))))))))))
noncomputable def ck_X12_token__3 : List (Nat × mz_O) := [(96, .inl (mz_o2 mz_f_ior 97)), (97, .inl (mz_o2 mz_f_iadd 98)), (98, .inl (mz_sto mz_isI mz_p1 4 100)), (100, .inl (mz_ld mz_isI 3 101)), (101, .inl (mz_j1 mz_eq0 104 122)), (104, .inl (mz_ld mz_isR 0 105)), (105, .inl (mz_gf 12 24 108)), (108, .inl (mz_ld mz_isI 4 110)), (110, .inl (mz_al true 111)), (111, .inl (mz_j1 mz_eq0 118 114)), (118, .inl (mz_push (.inl 0) 119)), (119, .inl (mz_go 159)), (122, .inl (mz_ld mz_isI 3 123)), (123, .inl (mz_push (.inl 1) 124)), (124, .inl (mz_j2 mz_eq 127 137)), (127, .inl (mz_ld mz_isR 0 128))]
theorem tk_X12_token__3 (E : List mz_V) : mz_all E tM_X12_token_ (ck_X12_token__3) :=
  mz_cons (mz_ior (show decode cX12_token_ 96 = .ok (.ior, 1) by decide +kernel)) (
  mz_cons (mz_iadd (show decode cX12_token_ 97 = .ok (.iadd, 1) by decide +kernel)) (
  mz_cons (mz_istore (by decide) (show decode cX12_token_ 98 = .ok (.istore 4, 2) by decide +kernel)) (
  mz_cons (mz_iload_n (k := 3) (show decode cX12_token_ 100 = .ok (.iload_n 3, 1) by decide +kernel)) (
  mz_cons (mz_if_ne 122 (by decide) (show decode cX12_token_ 101 = .ok (.ifCond .ne 21, 3) by decide +kernel)) (
  mz_cons (mz_aload_n (k := 0) (show decode cX12_token_ 104 = .ok (.aload_n 0, 1) by decide +kernel)) (
  mz_cons (mz_getfield (C := RX12) (T := TX12) (N := 29) rfl mz_inX12 (by decide) mw_996 (show decode cX12_token_ 105 = .ok (.getfield 47, 3) by decide +kernel)) (
  mz_cons (mz_iload (show decode cX12_token_ 108 = .ok (.iload 4, 2) by decide +kernel)) (
  mz_cons (mz_zaload (show decode cX12_token_ 110 = .ok (.baload, 1) by decide +kernel)) (
  mz_cons (mz_if_eq 118 (by decide) (show decode cX12_token_ 111 = .ok (.ifCond .eq 7, 3) by decide +kernel)) (
  mz_cons (mz_iconst 0 (by decide) (show decode cX12_token_ 118 = .ok (.iconst 0, 1) by decide +kernel)) (
  mz_cons (mz_goto 159 (by decide) (show decode cX12_token_ 119 = .ok (.goto 40, 3) by decide +kernel)) (
  mz_cons (mz_iload_n (k := 3) (show decode cX12_token_ 122 = .ok (.iload_n 3, 1) by decide +kernel)) (
  mz_cons (mz_iconst 1 (by decide) (show decode cX12_token_ 123 = .ok (.iconst 1, 1) by decide +kernel)) (
  mz_cons (mz_icmp_ne 137 (by decide) (show decode cX12_token_ 124 = .ok (.if_icmp .ne 13, 3) by decide +kernel)) (
  mz_cons (mz_aload_n (k := 0) (show decode cX12_token_ 127 = .ok (.aload_n 0, 1) by decide +kernel)) (
  mz_nil))))))))))))))))
noncomputable def ck_X12_token__4 : List (Nat × mz_O) := [(128, .inl (mz_gf 12 25 131)), (131, .inl (mz_ld mz_isI 4 133)), (133, .inl (mz_al false 134)), (134, .inl (mz_go 159)), (137, .inl (mz_ld mz_isI 3 138)), (138, .inl (mz_push (.inl 2) 139)), (139, .inl (mz_j2 mz_eq 142 152)), (142, .inl (mz_ld mz_isR 0 143)), (143, .inl (mz_gf 12 27 146)), (146, .inl (mz_ld mz_isI 4 148)), (148, .inl (mz_al false 149)), (149, .inl (mz_go 159)), (152, .inl (mz_ld mz_isR 0 153)), (153, .inl (mz_gf 12 26 156)), (156, .inl (mz_ld mz_isI 4 158)), (158, .inl (mz_al false 159))]
theorem tk_X12_token__4 (E : List mz_V) : mz_all E tM_X12_token_ (ck_X12_token__4) :=
  mz_cons (mz_getfield (C := RX12) (T := TX12) (N := 29) rfl mz_inX12 (by decide) mw_997 (show decode cX12_token_ 128 = .ok (.getfield 51, 3) by decide +kernel)) (
  mz_cons (mz_iload (show decode cX12_token_ 131 = .ok (.iload 4, 2) by decide +kernel)) (
  mz_cons (mz_iaload (show decode cX12_token_ 133 = .ok (.iaload, 1) by decide +kernel)) (
  mz_cons (mz_goto 159 (by decide) (show decode cX12_token_ 134 = .ok (.goto 25, 3) by decide +kernel)) (
  mz_cons (mz_iload_n (k := 3) (show decode cX12_token_ 137 = .ok (.iload_n 3, 1) by decide +kernel)) (
  mz_cons (mz_iconst 2 (by decide) (show decode cX12_token_ 138 = .ok (.iconst 2, 1) by decide +kernel)) (
  mz_cons (mz_icmp_ne 152 (by decide) (show decode cX12_token_ 139 = .ok (.if_icmp .ne 13, 3) by decide +kernel)) (
  mz_cons (mz_aload_n (k := 0) (show decode cX12_token_ 142 = .ok (.aload_n 0, 1) by decide +kernel)) (
  mz_cons (mz_getfield (C := RX12) (T := TX12) (N := 29) rfl mz_inX12 (by decide) mw_999 (show decode cX12_token_ 143 = .ok (.getfield 57, 3) by decide +kernel)) (
  mz_cons (mz_iload (show decode cX12_token_ 146 = .ok (.iload 4, 2) by decide +kernel)) (
  mz_cons (mz_iaload (show decode cX12_token_ 148 = .ok (.iaload, 1) by decide +kernel)) (
  mz_cons (mz_goto 159 (by decide) (show decode cX12_token_ 149 = .ok (.goto 10, 3) by decide +kernel)) (
  mz_cons (mz_aload_n (k := 0) (show decode cX12_token_ 152 = .ok (.aload_n 0, 1) by decide +kernel)) (
  mz_cons (mz_getfield (C := RX12) (T := TX12) (N := 29) rfl mz_inX12 (by decide) mw_998 (show decode cX12_token_ 153 = .ok (.getfield 54, 3) by decide +kernel)) (
  mz_cons (mz_iload (show decode cX12_token_ 156 = .ok (.iload 4, 2) by decide +kernel)) (
  mz_cons (mz_iaload (show decode cX12_token_ 158 = .ok (.iaload, 1) by decide +kernel)) (
  mz_nil))))))))))))))))
noncomputable def ck_X12_token__5 : List (Nat × mz_O) := [(159, .inr (mz_rt mz_isI))]
theorem tk_X12_token__5 (E : List mz_V) : mz_all E tM_X12_token_ (ck_X12_token__5) :=
  mz_consR (mz_ireturn rfl (show decode cX12_token_ 159 = .ok (.ireturn, 1) by decide +kernel)) (
  mz_nil)
noncomputable def tb_X12_token_ : List (Nat × List (Nat × mz_O)) := [(28, ck_X12_token__0), (61, ck_X12_token__1), (95, ck_X12_token__2), (127, ck_X12_token__3), (158, ck_X12_token__4), (159, ck_X12_token__5)]
theorem tok_X12_token_ (E : List mz_V) : mz_tok E tM_X12_token_ (tb_X12_token_) := mz_tcons (tk_X12_token__0 E) (mz_tcons (tk_X12_token__1 E) (mz_tcons (tk_X12_token__2 E) (mz_tcons (tk_X12_token__3 E) (mz_tcons (tk_X12_token__4 E) (mz_tcons (tk_X12_token__5 E) (mz_tnil))))))
noncomputable def rn_X12_token_ : List mz_V → List mz_C → Option (Option mz_V × List mz_C) := mz_rn tb_X12_token_ 97 6
theorem ctr_X12_token_ (E : List mz_V) : mz_ctr E yX12_token_ tM_X12_token_ rn_X12_token_ := mz_ctr_of 97 (tok_X12_token_ E) (by decide) rfl rfl
abbrev tM_X12_wets : mz_M := (cX12_wets, 5, (some .int), RX12, "wets", 3, 68)
noncomputable def ck_X12_wets_0 : List (Nat × mz_O) := [(0, .inl (mz_ld mz_isR 0 1)), (1, .inl (mz_ld mz_isI 1 2)), (2, .inl (mz_call rn_X12_isSetOf 2 (mz_ckV 12) 5)), (5, .inl (mz_j1 mz_eq0 8 11)), (8, .inl (mz_push (.inl (-3)) 10)), (10, .inr (mz_rt mz_isI)), (11, .inl (mz_ld mz_isR 0 12)), (12, .inl (mz_gf 12 15 15)), (15, .inl (mz_j1 mz_eq0 45 18)), (45, .inl (mz_push (.inl (-4)) 47)), (47, .inr (mz_rt mz_isI))]
theorem tk_X12_wets_0 (E : List mz_V) : mz_all E tM_X12_wets (ck_X12_wets_0) :=
  mz_cons (mz_aload_n (k := 0) (show decode cX12_wets 0 = .ok (.aload_n 0, 1) by decide +kernel)) (
  mz_cons (mz_iload_n (k := 1) (show decode cX12_wets 1 = .ok (.iload_n 1, 1) by decide +kernel)) (
  mz_cons (mz_invV (n := 1) (ctr_X12_isSetOf E) rfl ⟨by decide, by decide, by decide +kernel⟩ ⟨by decide, by decide⟩ mw_1139 mw_1136 mw_1138 mw_39 mw_74 (show decode cX12_wets 2 = .ok (.invokevirtual 167, 3) by decide +kernel)) (
  mz_cons (mz_if_ne 11 (by decide) (show decode cX12_wets 5 = .ok (.ifCond .ne 6, 3) by decide +kernel)) (
  mz_cons (mz_bipush (-3) (by decide) (show decode cX12_wets 8 = .ok (.bipush (-3), 2) by decide +kernel)) (
  mz_consR (mz_ireturn rfl (show decode cX12_wets 10 = .ok (.ireturn, 1) by decide +kernel)) (
  mz_cons (mz_aload_n (k := 0) (show decode cX12_wets 11 = .ok (.aload_n 0, 1) by decide +kernel)) (
  mz_cons (mz_getfield (C := RX12) (T := TX12) (N := 29) rfl mz_inX12 (by decide) mw_987 (show decode cX12_wets 12 = .ok (.getfield 127, 3) by decide +kernel)) (
  mz_cons (mz_if_eq 45 (by decide) (show decode cX12_wets 15 = .ok (.ifCond .eq 30, 3) by decide +kernel)) (
  mz_cons (mz_bipush (-4) (by decide) (show decode cX12_wets 45 = .ok (.bipush (-4), 2) by decide +kernel)) (
  mz_consR (mz_ireturn rfl (show decode cX12_wets 47 = .ok (.ireturn, 1) by decide +kernel)) (
  mz_nil)))))))))))
noncomputable def tb_X12_wets : List (Nat × List (Nat × mz_O)) := [(47, ck_X12_wets_0)]
theorem tok_X12_wets (E : List mz_V) : mz_tok E tM_X12_wets (tb_X12_wets) := mz_tcons (tk_X12_wets_0 E) (mz_tnil)
noncomputable def rn_X12_wets : List mz_V → List mz_C → Option (Option mz_V × List mz_C) := mz_rn tb_X12_wets 19 5
theorem ctr_X12_wets (E : List mz_V) : mz_ctr E yX12_wets tM_X12_wets rn_X12_wets := mz_ctr_of 19 (tok_X12_wets E) (by decide) rfl rfl
abbrev tM_X12_when : mz_M := (cX12_when, 6, (some .int), RX12, "when", 3, 68)
noncomputable def ck_X12_when_0 : List (Nat × mz_O) := [(0, .inl (mz_ld mz_isR 0 1)), (1, .inl (mz_ld mz_isI 3 2)), (2, .inl (mz_call rn_X12_isRoom 2 (mz_ckV 12) 5)), (5, .inl (mz_j1 mz_eq0 8 11)), (8, .inl (mz_push (.inl (-2)) 10)), (10, .inr (mz_rt mz_isI)), (11, .inl (mz_ld mz_isI 2 12)), (12, .inl (mz_o1 mz_f_i2l 13)), (13, .inl (mz_push (.inr (.inl 1)) 14)), (14, .inl (mz_push (.inr (.inl 8)) 17)), (17, .inl (mz_call rn_X12_in 3 mz_ckT 20)), (20, .inl (mz_j1 mz_eq0 23 26)), (23, .inl (mz_push (.inl (-3)) 25)), (25, .inr (mz_rt mz_isI)), (26, .inl (mz_push (.inl 0) 27)), (27, .inl (mz_sto mz_isI mz_p1 4 29))]
theorem tk_X12_when_0 (E : List mz_V) : mz_all E tM_X12_when (ck_X12_when_0) :=
  mz_cons (mz_aload_n (k := 0) (show decode cX12_when 0 = .ok (.aload_n 0, 1) by decide +kernel)) (
  mz_cons (mz_iload_n (k := 3) (show decode cX12_when 1 = .ok (.iload_n 3, 1) by decide +kernel)) (
  mz_cons (mz_invV (n := 1) (ctr_X12_isRoom E) rfl ⟨by decide, by decide, by decide +kernel⟩ ⟨by decide, by decide⟩ mw_1124 mw_1121 mw_1123 mw_37 mw_74 (show decode cX12_when 2 = .ok (.invokevirtual 137, 3) by decide +kernel)) (
  mz_cons (mz_if_ne 11 (by decide) (show decode cX12_when 5 = .ok (.ifCond .ne 6, 3) by decide +kernel)) (
  mz_cons (mz_bipush (-2) (by decide) (show decode cX12_when 8 = .ok (.bipush (-2), 2) by decide +kernel)) (
  mz_consR (mz_ireturn rfl (show decode cX12_when 10 = .ok (.ireturn, 1) by decide +kernel)) (
  mz_cons (mz_iload_n (k := 2) (show decode cX12_when 11 = .ok (.iload_n 2, 1) by decide +kernel)) (
  mz_cons (mz_i2l (show decode cX12_when 12 = .ok (.i2l, 1) by decide +kernel)) (
  mz_cons (mz_lconst 1 (by decide) (show decode cX12_when 13 = .ok (.lconst 1, 1) by decide +kernel)) (
  mz_cons (mz_ldc2 mw_1065 (show decode cX12_when 14 = .ok (.ldc2_w 63, 3) by decide +kernel)) (
  mz_cons (mz_invS (n := 3) (ctr_X12_in E) ⟨by decide, by decide, by decide +kernel⟩ ⟨by decide, by decide⟩ mw_1068 mw_1066 mw_1067 mw_74 (show decode cX12_when 17 = .ok (.invokestatic 65, 3) by decide +kernel)) (
  mz_cons (mz_if_ne 26 (by decide) (show decode cX12_when 20 = .ok (.ifCond .ne 6, 3) by decide +kernel)) (
  mz_cons (mz_bipush (-3) (by decide) (show decode cX12_when 23 = .ok (.bipush (-3), 2) by decide +kernel)) (
  mz_consR (mz_ireturn rfl (show decode cX12_when 25 = .ok (.ireturn, 1) by decide +kernel)) (
  mz_cons (mz_iconst 0 (by decide) (show decode cX12_when 26 = .ok (.iconst 0, 1) by decide +kernel)) (
  mz_cons (mz_istore (by decide) (show decode cX12_when 27 = .ok (.istore 4, 2) by decide +kernel)) (
  mz_nil))))))))))))))))
noncomputable def ck_X12_when_1 : List (Nat × mz_O) := [(29, .inl (mz_ld mz_isI 4 31)), (31, .inl (mz_ld mz_isI 2 32)), (32, .inl (mz_j2 mz_lt 35 60)), (35, .inl (mz_ld mz_isR 0 36)), (36, .inl (mz_ld mz_isI 1 37)), (37, .inl (mz_push (.inl 4) 38)), (38, .inl (mz_ld mz_isI 4 40)), (40, .inl (mz_o2 mz_f_imul 41)), (41, .inl (mz_o2 mz_f_ishr 42)), (42, .inl (mz_push (.inl 15) 44)), (44, .inl (mz_o2 mz_f_iand 45)), (45, .inl (mz_call rn_X12_isRoom 2 (mz_ckV 12) 48)), (48, .inl (mz_j1 mz_eq0 51 54)), (51, .inl (mz_push (.inl (-2)) 53)), (53, .inr (mz_rt mz_isI)), (54, .inl (mz_inc 4 1 57))]
theorem tk_X12_when_1 (E : List mz_V) : mz_all E tM_X12_when (ck_X12_when_1) :=
  mz_cons (mz_iload (show decode cX12_when 29 = .ok (.iload 4, 2) by decide +kernel)) (
  mz_cons (mz_iload_n (k := 2) (show decode cX12_when 31 = .ok (.iload_n 2, 1) by decide +kernel)) (
  mz_cons (mz_icmp_ge 60 (by decide) (show decode cX12_when 32 = .ok (.if_icmp .ge 28, 3) by decide +kernel)) (
  mz_cons (mz_aload_n (k := 0) (show decode cX12_when 35 = .ok (.aload_n 0, 1) by decide +kernel)) (
  mz_cons (mz_iload_n (k := 1) (show decode cX12_when 36 = .ok (.iload_n 1, 1) by decide +kernel)) (
  mz_cons (mz_iconst 4 (by decide) (show decode cX12_when 37 = .ok (.iconst 4, 1) by decide +kernel)) (
  mz_cons (mz_iload (show decode cX12_when 38 = .ok (.iload 4, 2) by decide +kernel)) (
  mz_cons (mz_imul (show decode cX12_when 40 = .ok (.imul, 1) by decide +kernel)) (
  mz_cons (mz_ishr (show decode cX12_when 41 = .ok (.ishr, 1) by decide +kernel)) (
  mz_cons (mz_bipush 15 (by decide) (show decode cX12_when 42 = .ok (.bipush 15, 2) by decide +kernel)) (
  mz_cons (mz_iand (show decode cX12_when 44 = .ok (.iand, 1) by decide +kernel)) (
  mz_cons (mz_invV (n := 1) (ctr_X12_isRoom E) rfl ⟨by decide, by decide, by decide +kernel⟩ ⟨by decide, by decide⟩ mw_1124 mw_1121 mw_1123 mw_37 mw_74 (show decode cX12_when 45 = .ok (.invokevirtual 137, 3) by decide +kernel)) (
  mz_cons (mz_if_ne 54 (by decide) (show decode cX12_when 48 = .ok (.ifCond .ne 6, 3) by decide +kernel)) (
  mz_cons (mz_bipush (-2) (by decide) (show decode cX12_when 51 = .ok (.bipush (-2), 2) by decide +kernel)) (
  mz_consR (mz_ireturn rfl (show decode cX12_when 53 = .ok (.ireturn, 1) by decide +kernel)) (
  mz_cons (mz_iinc 1 (by decide) (by decide) (show decode cX12_when 54 = .ok (.iinc 4 1, 3) by decide +kernel)) (
  mz_nil))))))))))))))))
noncomputable def ck_X12_when_2 : List (Nat × mz_O) := [(57, .inl (mz_go 29)), (60, .inl (mz_push (.inl 0) 61)), (61, .inl (mz_sto mz_isI mz_p1 4 63)), (63, .inl (mz_push (.inl 1) 64)), (64, .inl (mz_sto mz_isI mz_p1 5 66)), (66, .inl (mz_ld mz_isI 5 68)), (68, .inl (mz_push (.inl 20) 70)), (70, .inl (mz_j2 mz_lt 73 130)), (73, .inl (mz_ld mz_isI 4 75)), (75, .inl (mz_ld mz_isR 0 76)), (76, .inl (mz_ld mz_isI 4 78)), (78, .inl (mz_call rn_X12_besideAll 2 (mz_ckV 12) 81)), (81, .inl (mz_o2 mz_f_ior 82)), (82, .inl (mz_sto mz_isI mz_p1 4 84)), (84, .inl (mz_ld mz_isI 4 86)), (86, .inl (mz_ld mz_isI 5 88))]
theorem tk_X12_when_2 (E : List mz_V) : mz_all E tM_X12_when (ck_X12_when_2) :=
  mz_cons (mz_goto 29 (by decide) (show decode cX12_when 57 = .ok (.goto (-28), 3) by decide +kernel)) (
  mz_cons (mz_iconst 0 (by decide) (show decode cX12_when 60 = .ok (.iconst 0, 1) by decide +kernel)) (
  mz_cons (mz_istore (by decide) (show decode cX12_when 61 = .ok (.istore 4, 2) by decide +kernel)) (
  mz_cons (mz_iconst 1 (by decide) (show decode cX12_when 63 = .ok (.iconst 1, 1) by decide +kernel)) (
  mz_cons (mz_istore (by decide) (show decode cX12_when 64 = .ok (.istore 5, 2) by decide +kernel)) (
  mz_cons (mz_iload (show decode cX12_when 66 = .ok (.iload 5, 2) by decide +kernel)) (
  mz_cons (mz_bipush 20 (by decide) (show decode cX12_when 68 = .ok (.bipush 20, 2) by decide +kernel)) (
  mz_cons (mz_icmp_ge 130 (by decide) (show decode cX12_when 70 = .ok (.if_icmp .ge 60, 3) by decide +kernel)) (
  mz_cons (mz_iload (show decode cX12_when 73 = .ok (.iload 4, 2) by decide +kernel)) (
  mz_cons (mz_aload_n (k := 0) (show decode cX12_when 75 = .ok (.aload_n 0, 1) by decide +kernel)) (
  mz_cons (mz_iload (show decode cX12_when 76 = .ok (.iload 4, 2) by decide +kernel)) (
  mz_cons (mz_invV (n := 1) (ctr_X12_besideAll E) rfl ⟨by decide, by decide, by decide +kernel⟩ ⟨by decide, by decide⟩ mw_1168 mw_1165 mw_1167 mw_45 mw_74 (show decode cX12_when 78 = .ok (.invokevirtual 146, 3) by decide +kernel)) (
  mz_cons (mz_ior (show decode cX12_when 81 = .ok (.ior, 1) by decide +kernel)) (
  mz_cons (mz_istore (by decide) (show decode cX12_when 82 = .ok (.istore 4, 2) by decide +kernel)) (
  mz_cons (mz_iload (show decode cX12_when 84 = .ok (.iload 4, 2) by decide +kernel)) (
  mz_cons (mz_iload (show decode cX12_when 86 = .ok (.iload 5, 2) by decide +kernel)) (
  mz_nil))))))))))))))))
noncomputable def ck_X12_when_3 : List (Nat × mz_O) := [(88, .inl (mz_ld mz_isI 2 89)), (89, .inl (mz_j2 mz_gt 108 92)), (92, .inl (mz_push (.inl 1) 93)), (93, .inl (mz_ld mz_isI 1 94)), (94, .inl (mz_push (.inl 4) 95)), (95, .inl (mz_ld mz_isI 5 97)), (97, .inl (mz_o2 mz_f_imul 98)), (98, .inl (mz_push (.inl 4) 99)), (99, .inl (mz_o2 mz_f_isub 100)), (100, .inl (mz_o2 mz_f_ishr 101)), (101, .inl (mz_push (.inl 15) 103)), (103, .inl (mz_o2 mz_f_iand 104)), (104, .inl (mz_o2 mz_f_ishl 105)), (105, .inl (mz_go 109)), (109, .inl (mz_o2 mz_f_ior 110)), (110, .inl (mz_sto mz_isI mz_p1 4 112))]
theorem tk_X12_when_3 (E : List mz_V) : mz_all E tM_X12_when (ck_X12_when_3) :=
  mz_cons (mz_iload_n (k := 2) (show decode cX12_when 88 = .ok (.iload_n 2, 1) by decide +kernel)) (
  mz_cons (mz_icmp_gt 108 (by decide) (show decode cX12_when 89 = .ok (.if_icmp .gt 19, 3) by decide +kernel)) (
  mz_cons (mz_iconst 1 (by decide) (show decode cX12_when 92 = .ok (.iconst 1, 1) by decide +kernel)) (
  mz_cons (mz_iload_n (k := 1) (show decode cX12_when 93 = .ok (.iload_n 1, 1) by decide +kernel)) (
  mz_cons (mz_iconst 4 (by decide) (show decode cX12_when 94 = .ok (.iconst 4, 1) by decide +kernel)) (
  mz_cons (mz_iload (show decode cX12_when 95 = .ok (.iload 5, 2) by decide +kernel)) (
  mz_cons (mz_imul (show decode cX12_when 97 = .ok (.imul, 1) by decide +kernel)) (
  mz_cons (mz_iconst 4 (by decide) (show decode cX12_when 98 = .ok (.iconst 4, 1) by decide +kernel)) (
  mz_cons (mz_isub (show decode cX12_when 99 = .ok (.isub, 1) by decide +kernel)) (
  mz_cons (mz_ishr (show decode cX12_when 100 = .ok (.ishr, 1) by decide +kernel)) (
  mz_cons (mz_bipush 15 (by decide) (show decode cX12_when 101 = .ok (.bipush 15, 2) by decide +kernel)) (
  mz_cons (mz_iand (show decode cX12_when 103 = .ok (.iand, 1) by decide +kernel)) (
  mz_cons (mz_ishl (show decode cX12_when 104 = .ok (.ishl, 1) by decide +kernel)) (
  mz_cons (mz_goto 109 (by decide) (show decode cX12_when 105 = .ok (.goto 4, 3) by decide +kernel)) (
  mz_cons (mz_ior (show decode cX12_when 109 = .ok (.ior, 1) by decide +kernel)) (
  mz_cons (mz_istore (by decide) (show decode cX12_when 110 = .ok (.istore 4, 2) by decide +kernel)) (
  mz_nil))))))))))))))))
noncomputable def ck_X12_when_4 : List (Nat × mz_O) := [(112, .inl (mz_ld mz_isI 4 114)), (114, .inl (mz_ld mz_isI 3 115)), (115, .inl (mz_call rn_X12_has 2 mz_ckT 118)), (118, .inl (mz_j1 mz_eq0 124 121)), (121, .inl (mz_ld mz_isI 5 123)), (123, .inr (mz_rt mz_isI))]
theorem tk_X12_when_4 (E : List mz_V) : mz_all E tM_X12_when (ck_X12_when_4) :=
  mz_cons (mz_iload (show decode cX12_when 112 = .ok (.iload 4, 2) by decide +kernel)) (
  mz_cons (mz_iload_n (k := 3) (show decode cX12_when 114 = .ok (.iload_n 3, 1) by decide +kernel)) (
  mz_cons (mz_invS (n := 2) (ctr_X12_has E) ⟨by decide, by decide, by decide +kernel⟩ ⟨by decide, by decide⟩ mw_1131 mw_1129 mw_1130 mw_74 (show decode cX12_when 115 = .ok (.invokestatic 134, 3) by decide +kernel)) (
  mz_cons (mz_if_eq 124 (by decide) (show decode cX12_when 118 = .ok (.ifCond .eq 6, 3) by decide +kernel)) (
  mz_cons (mz_iload (show decode cX12_when 121 = .ok (.iload 5, 2) by decide +kernel)) (
  mz_consR (mz_ireturn rfl (show decode cX12_when 123 = .ok (.ireturn, 1) by decide +kernel)) (
  mz_nil))))))
noncomputable def tb_X12_when : List (Nat × List (Nat × mz_O)) := [(27, ck_X12_when_0), (54, ck_X12_when_1), (86, ck_X12_when_2), (110, ck_X12_when_3), (123, ck_X12_when_4)]
theorem tok_X12_when (E : List mz_V) : mz_tok E tM_X12_when (tb_X12_when) := mz_tcons (tk_X12_when_0 E) (mz_tcons (tk_X12_when_1 E) (mz_tcons (tk_X12_when_2 E) (mz_tcons (tk_X12_when_3 E) (mz_tcons (tk_X12_when_4 E) (mz_tnil)))))
noncomputable def rn_X12_when : List mz_V → List mz_C → Option (Option mz_V × List mz_C) := mz_rn tb_X12_when 182 6
theorem ctr_X12_when (E : List mz_V) : mz_ctr E yX12_when tM_X12_when rn_X12_when := mz_ctr_of 182 (tok_X12_when E) (by decide) rfl rfl
abbrev tM_X12_write : mz_M := (cX12_write, 5, (some .int), RX12, "write", 2, 47)
noncomputable def ck_X12_write_0 : List (Nat × mz_O) := [(0, .inl (mz_ld mz_isI 3 1)), (1, .inl (mz_o1 mz_f_i2l 2)), (2, .inl (mz_push (.inr (.inl 1)) 3)), (3, .inl (mz_push (.inr (.inl 8)) 6)), (6, .inl (mz_call rn_X12_in 3 mz_ckT 9)), (9, .inl (mz_j1 mz_eq0 12 15)), (12, .inl (mz_push (.inl (-3)) 14)), (14, .inr (mz_rt mz_isI)), (15, .inl (mz_ld mz_isR 0 16)), (16, .inl (mz_gf 12 1 19)), (19, .inl (mz_ld mz_isI 3 20)), (20, .inl (mz_o2 mz_f_iadd 21)), (21, .inl (mz_push (.inl 200) 24)), (24, .inl (mz_j2 mz_gt 27 30)), (30, .inl (mz_push (.inl 0) 31)), (31, .inl (mz_sto mz_isI mz_p1 4 33))]
theorem tk_X12_write_0 (E : List mz_V) : mz_all E tM_X12_write (ck_X12_write_0) :=
  mz_cons (mz_iload_n (k := 3) (show decode cX12_write 0 = .ok (.iload_n 3, 1) by decide +kernel)) (
  mz_cons (mz_i2l (show decode cX12_write 1 = .ok (.i2l, 1) by decide +kernel)) (
  mz_cons (mz_lconst 1 (by decide) (show decode cX12_write 2 = .ok (.lconst 1, 1) by decide +kernel)) (
  mz_cons (mz_ldc2 mw_1065 (show decode cX12_write 3 = .ok (.ldc2_w 63, 3) by decide +kernel)) (
  mz_cons (mz_invS (n := 3) (ctr_X12_in E) ⟨by decide, by decide, by decide +kernel⟩ ⟨by decide, by decide⟩ mw_1068 mw_1066 mw_1067 mw_74 (show decode cX12_write 6 = .ok (.invokestatic 65, 3) by decide +kernel)) (
  mz_cons (mz_if_ne 15 (by decide) (show decode cX12_write 9 = .ok (.ifCond .ne 6, 3) by decide +kernel)) (
  mz_cons (mz_bipush (-3) (by decide) (show decode cX12_write 12 = .ok (.bipush (-3), 2) by decide +kernel)) (
  mz_consR (mz_ireturn rfl (show decode cX12_write 14 = .ok (.ireturn, 1) by decide +kernel)) (
  mz_cons (mz_aload_n (k := 0) (show decode cX12_write 15 = .ok (.aload_n 0, 1) by decide +kernel)) (
  mz_cons (mz_getfield (C := RX12) (T := TX12) (N := 29) rfl mz_inX12 (by decide) mw_973 (show decode cX12_write 16 = .ok (.getfield 69, 3) by decide +kernel)) (
  mz_cons (mz_iload_n (k := 3) (show decode cX12_write 19 = .ok (.iload_n 3, 1) by decide +kernel)) (
  mz_cons (mz_iadd (show decode cX12_write 20 = .ok (.iadd, 1) by decide +kernel)) (
  mz_cons (mz_sipush 200 (by decide) (show decode cX12_write 21 = .ok (.sipush 200, 3) by decide +kernel)) (
  mz_cons (mz_icmp_le 30 (by decide) (show decode cX12_write 24 = .ok (.if_icmp .le 6, 3) by decide +kernel)) (
  mz_cons (mz_iconst 0 (by decide) (show decode cX12_write 30 = .ok (.iconst 0, 1) by decide +kernel)) (
  mz_cons (mz_istore (by decide) (show decode cX12_write 31 = .ok (.istore 4, 2) by decide +kernel)) (
  mz_nil))))))))))))))))
noncomputable def ck_X12_write_1 : List (Nat × mz_O) := [(33, .inl (mz_ld mz_isI 4 35)), (35, .inl (mz_ld mz_isI 3 36)), (36, .inl (mz_j2 mz_lt 39 76)), (39, .inl (mz_ld mz_isR 0 40)), (40, .inl (mz_gf 12 0 43)), (43, .inl (mz_ld mz_isR 0 44)), (44, .inl (mz_gf 12 1 47)), (47, .inl (mz_ld mz_isL 1 48)), (48, .inl (mz_push (.inl 8) 50)), (50, .inl (mz_ld mz_isI 4 52)), (52, .inl (mz_o2 mz_f_imul 53)), (53, .inl (mz_o2 mz_f_lshr 54)), (54, .inl (mz_push (.inr (.inl 255)) 57)), (57, .inl (mz_o2 mz_f_land 58)), (58, .inl (mz_o1 mz_f_l2i 59)), (59, .inl (mz_ast false mz_isI 60))]
theorem tk_X12_write_1 (E : List mz_V) : mz_all E tM_X12_write (ck_X12_write_1) :=
  mz_cons (mz_iload (show decode cX12_write 33 = .ok (.iload 4, 2) by decide +kernel)) (
  mz_cons (mz_iload_n (k := 3) (show decode cX12_write 35 = .ok (.iload_n 3, 1) by decide +kernel)) (
  mz_cons (mz_icmp_ge 76 (by decide) (show decode cX12_write 36 = .ok (.if_icmp .ge 40, 3) by decide +kernel)) (
  mz_cons (mz_aload_n (k := 0) (show decode cX12_write 39 = .ok (.aload_n 0, 1) by decide +kernel)) (
  mz_cons (mz_getfield (C := RX12) (T := TX12) (N := 29) rfl mz_inX12 (by decide) mw_972 (show decode cX12_write 40 = .ok (.getfield 7, 3) by decide +kernel)) (
  mz_cons (mz_aload_n (k := 0) (show decode cX12_write 43 = .ok (.aload_n 0, 1) by decide +kernel)) (
  mz_cons (mz_getfield (C := RX12) (T := TX12) (N := 29) rfl mz_inX12 (by decide) mw_973 (show decode cX12_write 44 = .ok (.getfield 69, 3) by decide +kernel)) (
  mz_cons (mz_lload_n (k := 1) (show decode cX12_write 47 = .ok (.lload_n 1, 1) by decide +kernel)) (
  mz_cons (mz_bipush 8 (by decide) (show decode cX12_write 48 = .ok (.bipush 8, 2) by decide +kernel)) (
  mz_cons (mz_iload (show decode cX12_write 50 = .ok (.iload 4, 2) by decide +kernel)) (
  mz_cons (mz_imul (show decode cX12_write 52 = .ok (.imul, 1) by decide +kernel)) (
  mz_cons (mz_lshr (show decode cX12_write 53 = .ok (.lshr, 1) by decide +kernel)) (
  mz_cons (mz_ldc2 mw_1069 (show decode cX12_write 54 = .ok (.ldc2_w 72, 3) by decide +kernel)) (
  mz_cons (mz_land (show decode cX12_write 57 = .ok (.land, 1) by decide +kernel)) (
  mz_cons (mz_l2i (show decode cX12_write 58 = .ok (.l2i, 1) by decide +kernel)) (
  mz_cons (mz_iastore (show decode cX12_write 59 = .ok (.iastore, 1) by decide +kernel)) (
  mz_nil))))))))))))))))
noncomputable def ck_X12_write_2 : List (Nat × mz_O) := [(60, .inl (mz_ld mz_isR 0 61)), (61, .inl (mz_dp 62)), (62, .inl (mz_gf 12 1 65)), (65, .inl (mz_push (.inl 1) 66)), (66, .inl (mz_o2 mz_f_iadd 67)), (67, .inl (mz_pf 12 1 mz_isI 70)), (70, .inl (mz_inc 4 1 73)), (73, .inl (mz_go 33)), (76, .inl (mz_ld mz_isR 0 77)), (77, .inl (mz_gf 12 1 80)), (80, .inr (mz_rt mz_isI))]
theorem tk_X12_write_2 (E : List mz_V) : mz_all E tM_X12_write (ck_X12_write_2) :=
  mz_cons (mz_aload_n (k := 0) (show decode cX12_write 60 = .ok (.aload_n 0, 1) by decide +kernel)) (
  mz_cons (mz_dup (show decode cX12_write 61 = .ok (.dup, 1) by decide +kernel)) (
  mz_cons (mz_getfield (C := RX12) (T := TX12) (N := 29) rfl mz_inX12 (by decide) mw_973 (show decode cX12_write 62 = .ok (.getfield 69, 3) by decide +kernel)) (
  mz_cons (mz_iconst 1 (by decide) (show decode cX12_write 65 = .ok (.iconst 1, 1) by decide +kernel)) (
  mz_cons (mz_iadd (show decode cX12_write 66 = .ok (.iadd, 1) by decide +kernel)) (
  mz_cons (mz_putfield (C := RX12) (T := TX12) (N := 29) rfl mz_inX12 tyX12_ok nmX12 (by decide) mz_fit_int rfl mw_973 (show decode cX12_write 67 = .ok (.putfield 69, 3) by decide +kernel)) (
  mz_cons (mz_iinc 1 (by decide) (by decide) (show decode cX12_write 70 = .ok (.iinc 4 1, 3) by decide +kernel)) (
  mz_cons (mz_goto 33 (by decide) (show decode cX12_write 73 = .ok (.goto (-40), 3) by decide +kernel)) (
  mz_cons (mz_aload_n (k := 0) (show decode cX12_write 76 = .ok (.aload_n 0, 1) by decide +kernel)) (
  mz_cons (mz_getfield (C := RX12) (T := TX12) (N := 29) rfl mz_inX12 (by decide) mw_973 (show decode cX12_write 77 = .ok (.getfield 69, 3) by decide +kernel)) (
  mz_consR (mz_ireturn rfl (show decode cX12_write 80 = .ok (.ireturn, 1) by decide +kernel)) (
  mz_nil)))))))))))
noncomputable def tb_X12_write : List (Nat × List (Nat × mz_O)) := [(31, ck_X12_write_0), (59, ck_X12_write_1), (80, ck_X12_write_2)]
theorem tok_X12_write (E : List mz_V) : mz_tok E tM_X12_write (tb_X12_write) := mz_tcons (tk_X12_write_0 E) (mz_tcons (tk_X12_write_1 E) (mz_tcons (tk_X12_write_2 E) (mz_tnil)))
noncomputable def rn_X12_write : List mz_V → List mz_C → Option (Option mz_V × List mz_C) := mz_rn tb_X12_write 222 5
theorem ctr_X12_write (E : List mz_V) : mz_ctr E yX12_write tM_X12_write rn_X12_write := mz_ctr_of 222 (tok_X12_write E) (by decide) rfl rfl
