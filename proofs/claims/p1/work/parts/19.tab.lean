abbrev tM_X12_carried : mz_M := (cX12_carried, 4, (some .long), RX12, "carried", 4, 95)
noncomputable def ck_X12_carried_0 : List (Nat × mz_O) := [(0, .inl (mz_ld mz_isR 0 1)), (1, .inl (mz_ld mz_isI 1 2)), (2, .inl (mz_call rn_X12_isRoom 2 (mz_ckV 12) 5)), (5, .inl (mz_j1 mz_eq0 16 8)), (8, .inl (mz_ld mz_isR 0 9)), (9, .inl (mz_ld mz_isI 2 10)), (10, .inl (mz_call rn_X12_isRoom 2 (mz_ckV 12) 13)), (13, .inl (mz_j1 mz_eq0 16 20)), (16, .inl (mz_push (.inr (.inl (-2))) 19)), (19, .inr (mz_rt mz_isL)), (20, .inl (mz_ld mz_isI 3 21)), (21, .inl (mz_o1 mz_f_i2l 22)), (22, .inl (mz_push (.inr (.inl 0)) 23)), (23, .inl (mz_push (.inr (.inl 1)) 24)), (24, .inl (mz_call rn_X12_in 3 mz_ckT 27)), (27, .inl (mz_j1 mz_eq0 30 34))]
theorem tk_X12_carried_0 (E : List mz_V) : mz_all E tM_X12_carried (ck_X12_carried_0) :=
  mz_cons (mz_aload_n (k := 0) (show decode cX12_carried 0 = .ok (.aload_n 0, 1) by decide +kernel)) (
  mz_cons (mz_iload_n (k := 1) (show decode cX12_carried 1 = .ok (.iload_n 1, 1) by decide +kernel)) (
  mz_cons (mz_invV (n := 1) (ctr_X12_isRoom E) rfl ⟨by decide, by decide, by decide +kernel⟩ ⟨by decide, by decide⟩ mw_1124 mw_1121 mw_1123 mw_37 mw_74 (show decode cX12_carried 2 = .ok (.invokevirtual 137, 3) by decide +kernel)) (
  mz_cons (mz_if_eq 16 (by decide) (show decode cX12_carried 5 = .ok (.ifCond .eq 11, 3) by decide +kernel)) (
  mz_cons (mz_aload_n (k := 0) (show decode cX12_carried 8 = .ok (.aload_n 0, 1) by decide +kernel)) (
  mz_cons (mz_iload_n (k := 2) (show decode cX12_carried 9 = .ok (.iload_n 2, 1) by decide +kernel)) (
  mz_cons (mz_invV (n := 1) (ctr_X12_isRoom E) rfl ⟨by decide, by decide, by decide +kernel⟩ ⟨by decide, by decide⟩ mw_1124 mw_1121 mw_1123 mw_37 mw_74 (show decode cX12_carried 10 = .ok (.invokevirtual 137, 3) by decide +kernel)) (
  mz_cons (mz_if_ne 20 (by decide) (show decode cX12_carried 13 = .ok (.ifCond .ne 7, 3) by decide +kernel)) (
  mz_cons (mz_ldc2 mw_1251 (show decode cX12_carried 16 = .ok (.ldc2_w 233, 3) by decide +kernel)) (
  mz_consR (mz_lreturn rfl (show decode cX12_carried 19 = .ok (.lreturn, 1) by decide +kernel)) (
  mz_cons (mz_iload_n (k := 3) (show decode cX12_carried 20 = .ok (.iload_n 3, 1) by decide +kernel)) (
  mz_cons (mz_i2l (show decode cX12_carried 21 = .ok (.i2l, 1) by decide +kernel)) (
  mz_cons (mz_lconst 0 (by decide) (show decode cX12_carried 22 = .ok (.lconst 0, 1) by decide +kernel)) (
  mz_cons (mz_lconst 1 (by decide) (show decode cX12_carried 23 = .ok (.lconst 1, 1) by decide +kernel)) (
  mz_cons (mz_invS (n := 3) (ctr_X12_in E) ⟨by decide, by decide, by decide +kernel⟩ ⟨by decide, by decide⟩ mw_1068 mw_1066 mw_1067 mw_74 (show decode cX12_carried 24 = .ok (.invokestatic 65, 3) by decide +kernel)) (
  mz_cons (mz_if_ne 34 (by decide) (show decode cX12_carried 27 = .ok (.ifCond .ne 7, 3) by decide +kernel)) (
  mz_nil))))))))))))))))
noncomputable def ck_X12_carried_1 : List (Nat × mz_O) := [(30, .inl (mz_push (.inr (.inl (-3))) 33)), (33, .inr (mz_rt mz_isL)), (34, .inl (mz_ld mz_isR 0 35)), (35, .inl (mz_call rn_X12_wayMany 1 (mz_ckV 12) 38)), (38, .inl (mz_push (.inl 10) 40)), (40, .inl (mz_j2 mz_gt 43 49)), (49, .inl (mz_ld mz_isR 0 50)), (50, .inl (mz_ld mz_isR 0 51)), (51, .inl (mz_ld mz_isI 1 52)), (52, .inl (mz_ld mz_isI 2 53)), (53, .inl (mz_call rn_X12_carriedBy 3 (mz_ckV 12) 56)), (56, .inl (mz_ld mz_isI 3 57)), (57, .inl (mz_call rn_X12_part 3 (mz_ckV 12) 60)), (60, .inr (mz_rt mz_isL))]
theorem tk_X12_carried_1 (E : List mz_V) : mz_all E tM_X12_carried (ck_X12_carried_1) :=
  mz_cons (mz_ldc2 mw_1252 (show decode cX12_carried 30 = .ok (.ldc2_w 235, 3) by decide +kernel)) (
  mz_consR (mz_lreturn rfl (show decode cX12_carried 33 = .ok (.lreturn, 1) by decide +kernel)) (
  mz_cons (mz_aload_n (k := 0) (show decode cX12_carried 34 = .ok (.aload_n 0, 1) by decide +kernel)) (
  mz_cons (mz_invV (n := 0) (ctr_X12_wayMany E) rfl ⟨by decide, by decide, by decide +kernel⟩ ⟨by decide, by decide⟩ mw_1256 mw_1253 mw_1255 mw_53 mw_74 (show decode cX12_carried 35 = .ok (.invokevirtual 214, 3) by decide +kernel)) (
  mz_cons (mz_bipush 10 (by decide) (show decode cX12_carried 38 = .ok (.bipush 10, 2) by decide +kernel)) (
  mz_cons (mz_icmp_le 49 (by decide) (show decode cX12_carried 40 = .ok (.if_icmp .le 9, 3) by decide +kernel)) (
  mz_cons (mz_aload_n (k := 0) (show decode cX12_carried 49 = .ok (.aload_n 0, 1) by decide +kernel)) (
  mz_cons (mz_aload_n (k := 0) (show decode cX12_carried 50 = .ok (.aload_n 0, 1) by decide +kernel)) (
  mz_cons (mz_iload_n (k := 1) (show decode cX12_carried 51 = .ok (.iload_n 1, 1) by decide +kernel)) (
  mz_cons (mz_iload_n (k := 2) (show decode cX12_carried 52 = .ok (.iload_n 2, 1) by decide +kernel)) (
  mz_cons (mz_invV (n := 2) (ctr_X12_carriedBy E) rfl ⟨by decide, by decide, by decide +kernel⟩ ⟨by decide, by decide⟩ mw_1261 mw_1258 mw_1260 mw_54 mw_74 (show decode cX12_carried 53 = .ok (.invokevirtual 239, 3) by decide +kernel)) (
  mz_cons (mz_iload_n (k := 3) (show decode cX12_carried 56 = .ok (.iload_n 3, 1) by decide +kernel)) (
  mz_cons (mz_invV (n := 2) (ctr_X12_part E) rfl ⟨by decide, by decide, by decide +kernel⟩ ⟨by decide, by decide⟩ mw_1273 mw_1270 mw_1272 mw_57 mw_74 (show decode cX12_carried 57 = .ok (.invokevirtual 243, 3) by decide +kernel)) (
  mz_consR (mz_lreturn rfl (show decode cX12_carried 60 = .ok (.lreturn, 1) by decide +kernel)) (
  mz_nil))))))))))))))
noncomputable def tb_X12_carried : List (Nat × List (Nat × mz_O)) := [(27, ck_X12_carried_0), (60, ck_X12_carried_1)]
theorem tok_X12_carried (E : List mz_V) : mz_tok E tM_X12_carried (tb_X12_carried) := mz_tcons (tk_X12_carried_0 E) (mz_tcons (tk_X12_carried_1 E) (mz_tnil))
noncomputable def rn_X12_carried : List mz_V → List mz_C → Option (Option mz_V × List mz_C) := mz_rn tb_X12_carried 36 4
theorem ctr_X12_carried (E : List mz_V) : mz_ctr E yX12_carried tM_X12_carried rn_X12_carried := mz_ctr_of 36 (tok_X12_carried E) (by decide) rfl rfl
abbrev tM_X12_caught : mz_M := (cX12_caught, 5, (some .int), RX12, "caught", 5, 114)
noncomputable def ck_X12_caught_0 : List (Nat × mz_O) := [(0, .inl (mz_ld mz_isI 2 1)), (1, .inl (mz_push (.inl (-1)) 2)), (2, .inl (mz_j2 mz_eq 16 5)), (5, .inl (mz_ld mz_isR 0 6)), (6, .inl (mz_ld mz_isI 2 7)), (7, .inl (mz_call rn_X12_isRoom 2 (mz_ckV 12) 10)), (10, .inl (mz_j1 mz_eq0 13 16)), (13, .inl (mz_push (.inl (-2)) 15)), (15, .inr (mz_rt mz_isI)), (16, .inl (mz_ld mz_isR 0 17)), (17, .inl (mz_ld mz_isI 1 18)), (18, .inl (mz_call rn_X12_isSetOf 2 (mz_ckV 12) 21)), (21, .inl (mz_j1 mz_eq0 24 27)), (24, .inl (mz_push (.inl (-3)) 26)), (26, .inr (mz_rt mz_isI)), (27, .inl (mz_ld mz_isI 2 28))]
theorem tk_X12_caught_0 (E : List mz_V) : mz_all E tM_X12_caught (ck_X12_caught_0) :=
  mz_cons (mz_iload_n (k := 2) (show decode cX12_caught 0 = .ok (.iload_n 2, 1) by decide +kernel)) (
  mz_cons (mz_iconst (-1) (by decide) (show decode cX12_caught 1 = .ok (.iconst (-1), 1) by decide +kernel)) (
  mz_cons (mz_icmp_eq 16 (by decide) (show decode cX12_caught 2 = .ok (.if_icmp .eq 14, 3) by decide +kernel)) (
  mz_cons (mz_aload_n (k := 0) (show decode cX12_caught 5 = .ok (.aload_n 0, 1) by decide +kernel)) (
  mz_cons (mz_iload_n (k := 2) (show decode cX12_caught 6 = .ok (.iload_n 2, 1) by decide +kernel)) (
  mz_cons (mz_invV (n := 1) (ctr_X12_isRoom E) rfl ⟨by decide, by decide, by decide +kernel⟩ ⟨by decide, by decide⟩ mw_1124 mw_1121 mw_1123 mw_37 mw_74 (show decode cX12_caught 7 = .ok (.invokevirtual 137, 3) by decide +kernel)) (
  mz_cons (mz_if_ne 16 (by decide) (show decode cX12_caught 10 = .ok (.ifCond .ne 6, 3) by decide +kernel)) (
  mz_cons (mz_bipush (-2) (by decide) (show decode cX12_caught 13 = .ok (.bipush (-2), 2) by decide +kernel)) (
  mz_consR (mz_ireturn rfl (show decode cX12_caught 15 = .ok (.ireturn, 1) by decide +kernel)) (
  mz_cons (mz_aload_n (k := 0) (show decode cX12_caught 16 = .ok (.aload_n 0, 1) by decide +kernel)) (
  mz_cons (mz_iload_n (k := 1) (show decode cX12_caught 17 = .ok (.iload_n 1, 1) by decide +kernel)) (
  mz_cons (mz_invV (n := 1) (ctr_X12_isSetOf E) rfl ⟨by decide, by decide, by decide +kernel⟩ ⟨by decide, by decide⟩ mw_1139 mw_1136 mw_1138 mw_39 mw_74 (show decode cX12_caught 18 = .ok (.invokevirtual 167, 3) by decide +kernel)) (
  mz_cons (mz_if_ne 27 (by decide) (show decode cX12_caught 21 = .ok (.ifCond .ne 6, 3) by decide +kernel)) (
  mz_cons (mz_bipush (-3) (by decide) (show decode cX12_caught 24 = .ok (.bipush (-3), 2) by decide +kernel)) (
  mz_consR (mz_ireturn rfl (show decode cX12_caught 26 = .ok (.ireturn, 1) by decide +kernel)) (
  mz_cons (mz_iload_n (k := 2) (show decode cX12_caught 27 = .ok (.iload_n 2, 1) by decide +kernel)) (
  mz_nil))))))))))))))))
noncomputable def ck_X12_caught_1 : List (Nat × mz_O) := [(28, .inl (mz_push (.inl (-1)) 29)), (29, .inl (mz_j2 mz_eq 32 39)), (32, .inl (mz_ld mz_isR 0 33)), (33, .inl (mz_ld mz_isI 1 34)), (34, .inl (mz_push (.inl 0) 35)), (35, .inl (mz_call rn_X12_caughtEnd 3 (mz_ckV 12) 38)), (38, .inr (mz_rt mz_isI)), (39, .inl (mz_ld mz_isI 1 40)), (40, .inl (mz_sto mz_isI mz_p1 3 41)), (41, .inl (mz_push (.inl 0) 42)), (42, .inl (mz_sto mz_isI mz_p1 4 44)), (44, .inl (mz_ld mz_isI 4 46)), (46, .inl (mz_push (.inl 11) 48)), (48, .inl (mz_j2 mz_lt 51 75)), (51, .inl (mz_ld mz_isI 3 52)), (52, .inl (mz_ld mz_isI 2 53))]
theorem tk_X12_caught_1 (E : List mz_V) : mz_all E tM_X12_caught (ck_X12_caught_1) :=
  mz_cons (mz_iconst (-1) (by decide) (show decode cX12_caught 28 = .ok (.iconst (-1), 1) by decide +kernel)) (
  mz_cons (mz_icmp_ne 39 (by decide) (show decode cX12_caught 29 = .ok (.if_icmp .ne 10, 3) by decide +kernel)) (
  mz_cons (mz_aload_n (k := 0) (show decode cX12_caught 32 = .ok (.aload_n 0, 1) by decide +kernel)) (
  mz_cons (mz_iload_n (k := 1) (show decode cX12_caught 33 = .ok (.iload_n 1, 1) by decide +kernel)) (
  mz_cons (mz_iconst 0 (by decide) (show decode cX12_caught 34 = .ok (.iconst 0, 1) by decide +kernel)) (
  mz_cons (mz_invV (n := 2) (ctr_X12_caughtEnd E) rfl ⟨by decide, by decide, by decide +kernel⟩ ⟨by decide, by decide⟩ mw_1213 mw_1210 mw_1212 mw_48 mw_74 (show decode cX12_caught 35 = .ok (.invokevirtual 200, 3) by decide +kernel)) (
  mz_consR (mz_ireturn rfl (show decode cX12_caught 38 = .ok (.ireturn, 1) by decide +kernel)) (
  mz_cons (mz_iload_n (k := 1) (show decode cX12_caught 39 = .ok (.iload_n 1, 1) by decide +kernel)) (
  mz_cons (mz_istore_n (k := 3) (by decide) (show decode cX12_caught 40 = .ok (.istore_n 3, 1) by decide +kernel)) (
  mz_cons (mz_iconst 0 (by decide) (show decode cX12_caught 41 = .ok (.iconst 0, 1) by decide +kernel)) (
  mz_cons (mz_istore (by decide) (show decode cX12_caught 42 = .ok (.istore 4, 2) by decide +kernel)) (
  mz_cons (mz_iload (show decode cX12_caught 44 = .ok (.iload 4, 2) by decide +kernel)) (
  mz_cons (mz_bipush 11 (by decide) (show decode cX12_caught 46 = .ok (.bipush 11, 2) by decide +kernel)) (
  mz_cons (mz_icmp_ge 75 (by decide) (show decode cX12_caught 48 = .ok (.if_icmp .ge 27, 3) by decide +kernel)) (
  mz_cons (mz_iload_n (k := 3) (show decode cX12_caught 51 = .ok (.iload_n 3, 1) by decide +kernel)) (
  mz_cons (mz_iload_n (k := 2) (show decode cX12_caught 52 = .ok (.iload_n 2, 1) by decide +kernel)) (
  mz_nil))))))))))))))))
noncomputable def ck_X12_caught_2 : List (Nat × mz_O) := [(53, .inl (mz_call rn_X12_has 2 mz_ckT 56)), (56, .inl (mz_j1 mz_eq0 62 59)), (59, .inl (mz_ld mz_isI 4 61)), (61, .inr (mz_rt mz_isI)), (62, .inl (mz_ld mz_isR 0 63)), (63, .inl (mz_ld mz_isI 3 64)), (64, .inl (mz_push (.inl 0) 65)), (65, .inl (mz_call rn_X12_caughtBy 3 (mz_ckV 12) 68)), (68, .inl (mz_sto mz_isI mz_p1 3 69)), (69, .inl (mz_inc 4 1 72)), (72, .inl (mz_go 44)), (75, .inl (mz_push (.inl (-1)) 76)), (76, .inr (mz_rt mz_isI))]
theorem tk_X12_caught_2 (E : List mz_V) : mz_all E tM_X12_caught (ck_X12_caught_2) :=
  mz_cons (mz_invS (n := 2) (ctr_X12_has E) ⟨by decide, by decide, by decide +kernel⟩ ⟨by decide, by decide⟩ mw_1131 mw_1129 mw_1130 mw_74 (show decode cX12_caught 53 = .ok (.invokestatic 134, 3) by decide +kernel)) (
  mz_cons (mz_if_eq 62 (by decide) (show decode cX12_caught 56 = .ok (.ifCond .eq 6, 3) by decide +kernel)) (
  mz_cons (mz_iload (show decode cX12_caught 59 = .ok (.iload 4, 2) by decide +kernel)) (
  mz_consR (mz_ireturn rfl (show decode cX12_caught 61 = .ok (.ireturn, 1) by decide +kernel)) (
  mz_cons (mz_aload_n (k := 0) (show decode cX12_caught 62 = .ok (.aload_n 0, 1) by decide +kernel)) (
  mz_cons (mz_iload_n (k := 3) (show decode cX12_caught 63 = .ok (.iload_n 3, 1) by decide +kernel)) (
  mz_cons (mz_iconst 0 (by decide) (show decode cX12_caught 64 = .ok (.iconst 0, 1) by decide +kernel)) (
  mz_cons (mz_invV (n := 2) (ctr_X12_caughtBy E) rfl ⟨by decide, by decide, by decide +kernel⟩ ⟨by decide, by decide⟩ mw_1217 mw_1214 mw_1216 mw_49 mw_74 (show decode cX12_caught 65 = .ok (.invokevirtual 197, 3) by decide +kernel)) (
  mz_cons (mz_istore_n (k := 3) (by decide) (show decode cX12_caught 68 = .ok (.istore_n 3, 1) by decide +kernel)) (
  mz_cons (mz_iinc 1 (by decide) (by decide) (show decode cX12_caught 69 = .ok (.iinc 4 1, 3) by decide +kernel)) (
  mz_cons (mz_goto 44 (by decide) (show decode cX12_caught 72 = .ok (.goto (-28), 3) by decide +kernel)) (
  mz_cons (mz_iconst (-1) (by decide) (show decode cX12_caught 75 = .ok (.iconst (-1), 1) by decide +kernel)) (
  mz_consR (mz_ireturn rfl (show decode cX12_caught 76 = .ok (.ireturn, 1) by decide +kernel)) (
  mz_nil)))))))))))))
noncomputable def tb_X12_caught : List (Nat × List (Nat × mz_O)) := [(27, ck_X12_caught_0), (52, ck_X12_caught_1), (76, ck_X12_caught_2)]
theorem tok_X12_caught (E : List mz_V) : mz_tok E tM_X12_caught (tb_X12_caught) := mz_tcons (tk_X12_caught_0 E) (mz_tcons (tk_X12_caught_1 E) (mz_tcons (tk_X12_caught_2 E) (mz_tnil)))
noncomputable def rn_X12_caught : List mz_V → List mz_C → Option (Option mz_V × List mz_C) := mz_rn tb_X12_caught 187 5
theorem ctr_X12_caught (E : List mz_V) : mz_ctr E yX12_caught tM_X12_caught rn_X12_caught := mz_ctr_of 187 (tok_X12_caught E) (by decide) rfl rfl
abbrev tM_X12_isEven : mz_M := (cX12_isEven, 3, (some .boolean), RX12, "isEven", 3, 66)
noncomputable def ck_X12_isEven_0 : List (Nat × mz_O) := [(0, .inl (mz_push (.inl 1) 1)), (1, .inl (mz_sto mz_isI mz_p1 1 2)), (2, .inl (mz_push (.inl 0) 3)), (3, .inl (mz_sto mz_isI mz_p1 2 4)), (4, .inl (mz_ld mz_isI 2 5)), (5, .inl (mz_ld mz_isR 0 6)), (6, .inl (mz_gf 12 4 9)), (9, .inl (mz_j2 mz_lt 12 42)), (12, .inl (mz_ld mz_isI 1 13)), (13, .inl (mz_j1 mz_eq0 34 16)), (16, .inl (mz_ld mz_isR 0 17)), (17, .inl (mz_gf 12 5 20)), (20, .inl (mz_ld mz_isI 2 21)), (21, .inl (mz_al false 22)), (22, .inl (mz_ld mz_isR 0 23)), (23, .inl (mz_ld mz_isI 2 24))]
theorem tk_X12_isEven_0 (E : List mz_V) : mz_all E tM_X12_isEven (ck_X12_isEven_0) :=
  mz_cons (mz_iconst 1 (by decide) (show decode cX12_isEven 0 = .ok (.iconst 1, 1) by decide +kernel)) (
  mz_cons (mz_istore_n (k := 1) (by decide) (show decode cX12_isEven 1 = .ok (.istore_n 1, 1) by decide +kernel)) (
  mz_cons (mz_iconst 0 (by decide) (show decode cX12_isEven 2 = .ok (.iconst 0, 1) by decide +kernel)) (
  mz_cons (mz_istore_n (k := 2) (by decide) (show decode cX12_isEven 3 = .ok (.istore_n 2, 1) by decide +kernel)) (
  mz_cons (mz_iload_n (k := 2) (show decode cX12_isEven 4 = .ok (.iload_n 2, 1) by decide +kernel)) (
  mz_cons (mz_aload_n (k := 0) (show decode cX12_isEven 5 = .ok (.aload_n 0, 1) by decide +kernel)) (
  mz_cons (mz_getfield (C := RX12) (T := TX12) (N := 29) rfl mz_inX12 (by decide) mw_976 (show decode cX12_isEven 6 = .ok (.getfield 16, 3) by decide +kernel)) (
  mz_cons (mz_icmp_ge 42 (by decide) (show decode cX12_isEven 9 = .ok (.if_icmp .ge 33, 3) by decide +kernel)) (
  mz_cons (mz_iload_n (k := 1) (show decode cX12_isEven 12 = .ok (.iload_n 1, 1) by decide +kernel)) (
  mz_cons (mz_if_eq 34 (by decide) (show decode cX12_isEven 13 = .ok (.ifCond .eq 21, 3) by decide +kernel)) (
  mz_cons (mz_aload_n (k := 0) (show decode cX12_isEven 16 = .ok (.aload_n 0, 1) by decide +kernel)) (
  mz_cons (mz_getfield (C := RX12) (T := TX12) (N := 29) rfl mz_inX12 (by decide) mw_977 (show decode cX12_isEven 17 = .ok (.getfield 20, 3) by decide +kernel)) (
  mz_cons (mz_iload_n (k := 2) (show decode cX12_isEven 20 = .ok (.iload_n 2, 1) by decide +kernel)) (
  mz_cons (mz_iaload (show decode cX12_isEven 21 = .ok (.iaload, 1) by decide +kernel)) (
  mz_cons (mz_aload_n (k := 0) (show decode cX12_isEven 22 = .ok (.aload_n 0, 1) by decide +kernel)) (
  mz_cons (mz_iload_n (k := 2) (show decode cX12_isEven 23 = .ok (.iload_n 2, 1) by decide +kernel)) (
  mz_nil))))))))))))))))
noncomputable def ck_X12_isEven_1 : List (Nat × mz_O) := [(24, .inl (mz_call rn_X12_atOf 2 (mz_ckV 12) 27)), (27, .inl (mz_j2 mz_eq 30 34)), (30, .inl (mz_push (.inl 1) 31)), (31, .inl (mz_go 35)), (35, .inl (mz_sto mz_isI mz_p1 1 36)), (36, .inl (mz_inc 2 1 39)), (39, .inl (mz_go 4)), (42, .inl (mz_ld mz_isI 1 43)), (43, .inr (mz_rt mz_is01))]
theorem tk_X12_isEven_1 (E : List mz_V) : mz_all E tM_X12_isEven (ck_X12_isEven_1) :=
  mz_cons (mz_invV (n := 1) (ctr_X12_atOf E) rfl ⟨by decide, by decide, by decide +kernel⟩ ⟨by decide, by decide⟩ mw_1128 mw_1125 mw_1127 mw_38 mw_74 (show decode cX12_isEven 24 = .ok (.invokevirtual 140, 3) by decide +kernel)) (
  mz_cons (mz_icmp_ne 34 (by decide) (show decode cX12_isEven 27 = .ok (.if_icmp .ne 7, 3) by decide +kernel)) (
  mz_cons (mz_iconst 1 (by decide) (show decode cX12_isEven 30 = .ok (.iconst 1, 1) by decide +kernel)) (
  mz_cons (mz_goto 35 (by decide) (show decode cX12_isEven 31 = .ok (.goto 4, 3) by decide +kernel)) (
  mz_cons (mz_istore_n (k := 1) (by decide) (show decode cX12_isEven 35 = .ok (.istore_n 1, 1) by decide +kernel)) (
  mz_cons (mz_iinc 1 (by decide) (by decide) (show decode cX12_isEven 36 = .ok (.iinc 2 1, 3) by decide +kernel)) (
  mz_cons (mz_goto 4 (by decide) (show decode cX12_isEven 39 = .ok (.goto (-35), 3) by decide +kernel)) (
  mz_cons (mz_iload_n (k := 1) (show decode cX12_isEven 42 = .ok (.iload_n 1, 1) by decide +kernel)) (
  mz_consR (mz_zreturn rfl (show decode cX12_isEven 43 = .ok (.ireturn, 1) by decide +kernel)) (
  mz_nil)))))))))
noncomputable def tb_X12_isEven : List (Nat × List (Nat × mz_O)) := [(23, ck_X12_isEven_0), (43, ck_X12_isEven_1)]
theorem tok_X12_isEven (E : List mz_V) : mz_tok E tM_X12_isEven (tb_X12_isEven) := mz_tcons (tk_X12_isEven_0 E) (mz_tcons (tk_X12_isEven_1 E) (mz_tnil))
noncomputable def rn_X12_isEven : List mz_V → List mz_C → Option (Option mz_V × List mz_C) := mz_rn tb_X12_isEven 39 3
theorem ctr_X12_isEven (E : List mz_V) : mz_ctr E yX12_isEven tM_X12_isEven rn_X12_isEven := mz_ctr_of 39 (tok_X12_isEven E) (by decide) rfl rfl
abbrev tM_X12_count : mz_M := (cX12_count, 2, (some .int), RX12, "count", 4, 88)
noncomputable def ck_X12_count_0 : List (Nat × mz_O) := [(0, .inl (mz_ld mz_isI 1 1)), (1, .inl (mz_ts 0 6 [44, 49, 54, 59, 64, 69, 78] 91)), (44, .inl (mz_ld mz_isR 0 45)), (45, .inl (mz_gf 12 4 48)), (48, .inr (mz_rt mz_isI)), (49, .inl (mz_ld mz_isR 0 50)), (50, .inl (mz_call rn_X12_wayMany 1 (mz_ckV 12) 53)), (53, .inr (mz_rt mz_isI)), (54, .inl (mz_ld mz_isR 0 55)), (55, .inl (mz_gf 12 1 58)), (58, .inr (mz_rt mz_isI)), (59, .inl (mz_ld mz_isR 0 60)), (60, .inl (mz_gf 12 8 63)), (63, .inr (mz_rt mz_isI)), (64, .inl (mz_ld mz_isR 0 65)), (65, .inl (mz_gf 12 9 68))]
theorem tk_X12_count_0 (E : List mz_V) : mz_all E tM_X12_count (ck_X12_count_0) :=
  mz_cons (mz_iload_n (k := 1) (show decode cX12_count 0 = .ok (.iload_n 1, 1) by decide +kernel)) (
  mz_cons (mz_tableswitch [44, 49, 54, 59, 64, 69, 78] 91 (by decide) (by decide) (fun z h1 h2 => show (z - 0).toNat < 7 by omega) (show decode cX12_count 1 = .ok (.tableswitch 90 0 6 #[43, 48, 53, 58, 63, 68, 77], 43) by decide +kernel)) (
  mz_cons (mz_aload_n (k := 0) (show decode cX12_count 44 = .ok (.aload_n 0, 1) by decide +kernel)) (
  mz_cons (mz_getfield (C := RX12) (T := TX12) (N := 29) rfl mz_inX12 (by decide) mw_976 (show decode cX12_count 45 = .ok (.getfield 16, 3) by decide +kernel)) (
  mz_consR (mz_ireturn rfl (show decode cX12_count 48 = .ok (.ireturn, 1) by decide +kernel)) (
  mz_cons (mz_aload_n (k := 0) (show decode cX12_count 49 = .ok (.aload_n 0, 1) by decide +kernel)) (
  mz_cons (mz_invV (n := 0) (ctr_X12_wayMany E) rfl ⟨by decide, by decide, by decide +kernel⟩ ⟨by decide, by decide⟩ mw_1256 mw_1253 mw_1255 mw_53 mw_74 (show decode cX12_count 50 = .ok (.invokevirtual 214, 3) by decide +kernel)) (
  mz_consR (mz_ireturn rfl (show decode cX12_count 53 = .ok (.ireturn, 1) by decide +kernel)) (
  mz_cons (mz_aload_n (k := 0) (show decode cX12_count 54 = .ok (.aload_n 0, 1) by decide +kernel)) (
  mz_cons (mz_getfield (C := RX12) (T := TX12) (N := 29) rfl mz_inX12 (by decide) mw_973 (show decode cX12_count 55 = .ok (.getfield 69, 3) by decide +kernel)) (
  mz_consR (mz_ireturn rfl (show decode cX12_count 58 = .ok (.ireturn, 1) by decide +kernel)) (
  mz_cons (mz_aload_n (k := 0) (show decode cX12_count 59 = .ok (.aload_n 0, 1) by decide +kernel)) (
  mz_cons (mz_getfield (C := RX12) (T := TX12) (N := 29) rfl mz_inX12 (by decide) mw_980 (show decode cX12_count 60 = .ok (.getfield 29, 3) by decide +kernel)) (
  mz_consR (mz_ireturn rfl (show decode cX12_count 63 = .ok (.ireturn, 1) by decide +kernel)) (
  mz_cons (mz_aload_n (k := 0) (show decode cX12_count 64 = .ok (.aload_n 0, 1) by decide +kernel)) (
  mz_cons (mz_getfield (C := RX12) (T := TX12) (N := 29) rfl mz_inX12 (by decide) mw_981 (show decode cX12_count 65 = .ok (.getfield 32, 3) by decide +kernel)) (
  mz_nil))))))))))))))))
noncomputable def ck_X12_count_1 : List (Nat × mz_O) := [(68, .inr (mz_rt mz_isI)), (69, .inl (mz_ld mz_isR 0 70)), (70, .inl (mz_ld mz_isR 0 71)), (71, .inl (mz_call rn_X12_all 1 (mz_ckV 12) 74)), (74, .inl (mz_call rn_X12_folkOf 2 (mz_ckV 12) 77)), (77, .inr (mz_rt mz_isI)), (78, .inl (mz_ld mz_isR 0 79)), (79, .inl (mz_call rn_X12_isEven 1 (mz_ckV 12) 82)), (82, .inl (mz_j1 mz_eq0 89 85)), (85, .inl (mz_push (.inl 1) 86)), (86, .inl (mz_go 90)), (90, .inr (mz_rt mz_isI)), (91, .inl (mz_push (.inl (-3)) 93)), (93, .inr (mz_rt mz_isI))]
theorem tk_X12_count_1 (E : List mz_V) : mz_all E tM_X12_count (ck_X12_count_1) :=
  mz_consR (mz_ireturn rfl (show decode cX12_count 68 = .ok (.ireturn, 1) by decide +kernel)) (
  mz_cons (mz_aload_n (k := 0) (show decode cX12_count 69 = .ok (.aload_n 0, 1) by decide +kernel)) (
  mz_cons (mz_aload_n (k := 0) (show decode cX12_count 70 = .ok (.aload_n 0, 1) by decide +kernel)) (
  mz_cons (mz_invV (n := 0) (ctr_X12_all E) rfl ⟨by decide, by decide, by decide +kernel⟩ ⟨by decide, by decide⟩ mw_1143 mw_1140 mw_1142 mw_40 mw_74 (show decode cX12_count 71 = .ok (.invokevirtual 131, 3) by decide +kernel)) (
  mz_cons (mz_invV (n := 1) (ctr_X12_folkOf E) rfl ⟨by decide, by decide, by decide +kernel⟩ ⟨by decide, by decide⟩ mw_1172 mw_1169 mw_1171 mw_46 mw_74 (show decode cX12_count 74 = .ok (.invokevirtual 153, 3) by decide +kernel)) (
  mz_consR (mz_ireturn rfl (show decode cX12_count 77 = .ok (.ireturn, 1) by decide +kernel)) (
  mz_cons (mz_aload_n (k := 0) (show decode cX12_count 78 = .ok (.aload_n 0, 1) by decide +kernel)) (
  mz_cons (mz_invV (n := 0) (ctr_X12_isEven E) rfl ⟨by decide, by decide, by decide +kernel⟩ ⟨by decide, by decide⟩ mw_1301 mw_1298 mw_1300 mw_59 mw_74 (show decode cX12_count 79 = .ok (.invokevirtual 253, 3) by decide +kernel)) (
  mz_cons (mz_if_eq 89 (by decide) (show decode cX12_count 82 = .ok (.ifCond .eq 7, 3) by decide +kernel)) (
  mz_cons (mz_iconst 1 (by decide) (show decode cX12_count 85 = .ok (.iconst 1, 1) by decide +kernel)) (
  mz_cons (mz_goto 90 (by decide) (show decode cX12_count 86 = .ok (.goto 4, 3) by decide +kernel)) (
  mz_consR (mz_ireturn rfl (show decode cX12_count 90 = .ok (.ireturn, 1) by decide +kernel)) (
  mz_cons (mz_bipush (-3) (by decide) (show decode cX12_count 91 = .ok (.bipush (-3), 2) by decide +kernel)) (
  mz_consR (mz_ireturn rfl (show decode cX12_count 93 = .ok (.ireturn, 1) by decide +kernel)) (
  mz_nil))))))))))))))
noncomputable def tb_X12_count : List (Nat × List (Nat × mz_O)) := [(65, ck_X12_count_0), (93, ck_X12_count_1)]
theorem tok_X12_count (E : List mz_V) : mz_tok E tM_X12_count (tb_X12_count) := mz_tcons (tk_X12_count_0 E) (mz_tcons (tk_X12_count_1 E) (mz_tnil))
noncomputable def rn_X12_count : List mz_V → List mz_C → Option (Option mz_V × List mz_C) := mz_rn tb_X12_count 18 2
theorem ctr_X12_count (E : List mz_V) : mz_ctr E yX12_count tM_X12_count rn_X12_count := mz_ctr_of 18 (tok_X12_count E) (by decide) rfl rfl
abbrev tM_X12_erase : mz_M := (cX12_erase, 2, (some .int), RX12, "erase", 1, 22)
noncomputable def ck_X12_erase_0 : List (Nat × mz_O) := [(0, .inl (mz_ld mz_isR 0 1)), (1, .inl (mz_gf 12 1 4)), (4, .inl (mz_sto mz_isI mz_p1 1 5)), (5, .inl (mz_ld mz_isR 0 6)), (6, .inl (mz_push (.inl 0) 7)), (7, .inl (mz_pf 12 1 mz_isI 10)), (10, .inl (mz_ld mz_isI 1 11)), (11, .inr (mz_rt mz_isI))]
theorem tk_X12_erase_0 (E : List mz_V) : mz_all E tM_X12_erase (ck_X12_erase_0) :=
  mz_cons (mz_aload_n (k := 0) (show decode cX12_erase 0 = .ok (.aload_n 0, 1) by decide +kernel)) (
  mz_cons (mz_getfield (C := RX12) (T := TX12) (N := 29) rfl mz_inX12 (by decide) mw_973 (show decode cX12_erase 1 = .ok (.getfield 69, 3) by decide +kernel)) (
  mz_cons (mz_istore_n (k := 1) (by decide) (show decode cX12_erase 4 = .ok (.istore_n 1, 1) by decide +kernel)) (
  mz_cons (mz_aload_n (k := 0) (show decode cX12_erase 5 = .ok (.aload_n 0, 1) by decide +kernel)) (
  mz_cons (mz_iconst 0 (by decide) (show decode cX12_erase 6 = .ok (.iconst 0, 1) by decide +kernel)) (
  mz_cons (mz_putfield (C := RX12) (T := TX12) (N := 29) rfl mz_inX12 tyX12_ok nmX12 (by decide) mz_fit_int rfl mw_973 (show decode cX12_erase 7 = .ok (.putfield 69, 3) by decide +kernel)) (
  mz_cons (mz_iload_n (k := 1) (show decode cX12_erase 10 = .ok (.iload_n 1, 1) by decide +kernel)) (
  mz_consR (mz_ireturn rfl (show decode cX12_erase 11 = .ok (.ireturn, 1) by decide +kernel)) (
  mz_nil))))))))
noncomputable def tb_X12_erase : List (Nat × List (Nat × mz_O)) := [(11, ck_X12_erase_0)]
theorem tok_X12_erase (E : List mz_V) : mz_tok E tM_X12_erase (tb_X12_erase) := mz_tcons (tk_X12_erase_0 E) (mz_tnil)
noncomputable def rn_X12_erase : List mz_V → List mz_C → Option (Option mz_V × List mz_C) := mz_rn tb_X12_erase 18 2
theorem ctr_X12_erase (E : List mz_V) : mz_ctr E yX12_erase tM_X12_erase rn_X12_erase := mz_ctr_of 18 (tok_X12_erase E) (by decide) rfl rfl
abbrev tM_X12_isWord : mz_M := (cX12_isWord, 5, (some .boolean), RX12, "isWord", 1, 22)
noncomputable def ck_X12_isWord_0 : List (Nat × mz_O) := [(0, .inl (mz_ld mz_isR 0 1)), (1, .inl (mz_gf 12 12 4)), (4, .inl (mz_ld mz_isR 0 5)), (5, .inl (mz_gf 12 11 8)), (8, .inl (mz_o2 mz_f_isub 9)), (9, .inl (mz_ld mz_isI 2 10)), (10, .inl (mz_j2 mz_eq 13 17)), (17, .inl (mz_push (.inl 0) 18)), (18, .inl (mz_sto mz_isI mz_p1 3 19)), (19, .inl (mz_push (.inl 0) 20)), (20, .inl (mz_sto mz_isI mz_p1 4 22)), (22, .inl (mz_ld mz_isI 3 23)), (23, .inl (mz_j1 mz_eq0 71 26)), (71, .inl (mz_ld mz_isI 3 72)), (72, .inr (mz_rt mz_is01))]
theorem tk_X12_isWord_0 (E : List mz_V) : mz_all E tM_X12_isWord (ck_X12_isWord_0) :=
  mz_cons (mz_aload_n (k := 0) (show decode cX12_isWord 0 = .ok (.aload_n 0, 1) by decide +kernel)) (
  mz_cons (mz_getfield (C := RX12) (T := TX12) (N := 29) rfl mz_inX12 (by decide) mw_984 (show decode cX12_isWord 1 = .ok (.getfield 84, 3) by decide +kernel)) (
  mz_cons (mz_aload_n (k := 0) (show decode cX12_isWord 4 = .ok (.aload_n 0, 1) by decide +kernel)) (
  mz_cons (mz_getfield (C := RX12) (T := TX12) (N := 29) rfl mz_inX12 (by decide) mw_983 (show decode cX12_isWord 5 = .ok (.getfield 77, 3) by decide +kernel)) (
  mz_cons (mz_isub (show decode cX12_isWord 8 = .ok (.isub, 1) by decide +kernel)) (
  mz_cons (mz_iload_n (k := 2) (show decode cX12_isWord 9 = .ok (.iload_n 2, 1) by decide +kernel)) (
  mz_cons (mz_icmp_ne 17 (by decide) (show decode cX12_isWord 10 = .ok (.if_icmp .ne 7, 3) by decide +kernel)) (
  mz_cons (mz_iconst 0 (by decide) (show decode cX12_isWord 17 = .ok (.iconst 0, 1) by decide +kernel)) (
  mz_cons (mz_istore_n (k := 3) (by decide) (show decode cX12_isWord 18 = .ok (.istore_n 3, 1) by decide +kernel)) (
  mz_cons (mz_iconst 0 (by decide) (show decode cX12_isWord 19 = .ok (.iconst 0, 1) by decide +kernel)) (
  mz_cons (mz_istore (by decide) (show decode cX12_isWord 20 = .ok (.istore 4, 2) by decide +kernel)) (
  mz_cons (mz_iload_n (k := 3) (show decode cX12_isWord 22 = .ok (.iload_n 3, 1) by decide +kernel)) (
  mz_cons (mz_if_eq 71 (by decide) (show decode cX12_isWord 23 = .ok (.ifCond .eq 48, 3) by decide +kernel)) (
  mz_cons (mz_iload_n (k := 3) (show decode cX12_isWord 71 = .ok (.iload_n 3, 1) by decide +kernel)) (
  mz_consR (mz_zreturn rfl (show decode cX12_isWord 72 = .ok (.ireturn, 1) by decide +kernel)) (
  mz_nil)))))))))))))))
noncomputable def tb_X12_isWord : List (Nat × List (Nat × mz_O)) := [(72, ck_X12_isWord_0)]
theorem tok_X12_isWord (E : List mz_V) : mz_tok E tM_X12_isWord (tb_X12_isWord) := mz_tcons (tk_X12_isWord_0 E) (mz_tnil)
noncomputable def rn_X12_isWord : List mz_V → List mz_C → Option (Option mz_V × List mz_C) := mz_rn tb_X12_isWord 25 5
theorem ctr_X12_isWord (E : List mz_V) : mz_ctr E yX12_isWord tM_X12_isWord rn_X12_isWord := mz_ctr_of 25 (tok_X12_isWord E) (by decide) rfl rfl
abbrev tM_X12_readsLine : mz_M := (cX12_readsLine, 2, (some .boolean), RX12, "readsLine", 2, 46)
noncomputable def ck_X12_readsLine_0 : List (Nat × mz_O) := [(0, .inl (mz_ld mz_isR 0 1)), (1, .inl (mz_push (.inl 20364786) 3)), (3, .inl (mz_push (.inl 5) 4)), (4, .inl (mz_call rn_X12_isWord 3 (mz_ckV 12) 7)), (7, .inl (mz_j1 mz_eq0 14 10)), (14, .inl (mz_ld mz_isR 0 15)), (15, .inl (mz_push (.inl 605668) 17)), (17, .inl (mz_push (.inl 4) 18)), (18, .inl (mz_call rn_X12_isWord 3 (mz_ckV 12) 21)), (21, .inl (mz_j1 mz_eq0 28 24)), (28, .inl (mz_ld mz_isR 0 29)), (29, .inl (mz_push (.inl 25655) 32)), (32, .inl (mz_push (.inl 3) 33)), (33, .inl (mz_call rn_X12_isWord 3 (mz_ckV 12) 36)), (36, .inl (mz_j1 mz_eq0 43 39)), (43, .inl (mz_ld mz_isR 0 44))]
theorem tk_X12_readsLine_0 (E : List mz_V) : mz_all E tM_X12_readsLine (ck_X12_readsLine_0) :=
  mz_cons (mz_aload_n (k := 0) (show decode cX12_readsLine 0 = .ok (.aload_n 0, 1) by decide +kernel)) (
  mz_cons (mz_ldc mw_1089 (show decode cX12_readsLine 1 = .ok (.ldc 100, 2) by decide +kernel)) (
  mz_cons (mz_iconst 5 (by decide) (show decode cX12_readsLine 3 = .ok (.iconst 5, 1) by decide +kernel)) (
  mz_cons (mz_invV (n := 2) (ctr_X12_isWord E) rfl ⟨by decide, by decide, by decide +kernel⟩ ⟨by decide, by decide⟩ mw_1093 mw_1090 mw_1092 mw_33 mw_74 (show decode cX12_readsLine 4 = .ok (.invokevirtual 101, 3) by decide +kernel)) (
  mz_cons (mz_if_eq 14 (by decide) (show decode cX12_readsLine 7 = .ok (.ifCond .eq 7, 3) by decide +kernel)) (
  mz_cons (mz_aload_n (k := 0) (show decode cX12_readsLine 14 = .ok (.aload_n 0, 1) by decide +kernel)) (
  mz_cons (mz_ldc mw_1094 (show decode cX12_readsLine 15 = .ok (.ldc 105, 2) by decide +kernel)) (
  mz_cons (mz_iconst 4 (by decide) (show decode cX12_readsLine 17 = .ok (.iconst 4, 1) by decide +kernel)) (
  mz_cons (mz_invV (n := 2) (ctr_X12_isWord E) rfl ⟨by decide, by decide, by decide +kernel⟩ ⟨by decide, by decide⟩ mw_1093 mw_1090 mw_1092 mw_33 mw_74 (show decode cX12_readsLine 18 = .ok (.invokevirtual 101, 3) by decide +kernel)) (
  mz_cons (mz_if_eq 28 (by decide) (show decode cX12_readsLine 21 = .ok (.ifCond .eq 7, 3) by decide +kernel)) (
  mz_cons (mz_aload_n (k := 0) (show decode cX12_readsLine 28 = .ok (.aload_n 0, 1) by decide +kernel)) (
  mz_cons (mz_sipush 25655 (by decide) (show decode cX12_readsLine 29 = .ok (.sipush 25655, 3) by decide +kernel)) (
  mz_cons (mz_iconst 3 (by decide) (show decode cX12_readsLine 32 = .ok (.iconst 3, 1) by decide +kernel)) (
  mz_cons (mz_invV (n := 2) (ctr_X12_isWord E) rfl ⟨by decide, by decide, by decide +kernel⟩ ⟨by decide, by decide⟩ mw_1093 mw_1090 mw_1092 mw_33 mw_74 (show decode cX12_readsLine 33 = .ok (.invokevirtual 101, 3) by decide +kernel)) (
  mz_cons (mz_if_eq 43 (by decide) (show decode cX12_readsLine 36 = .ok (.ifCond .eq 7, 3) by decide +kernel)) (
  mz_cons (mz_aload_n (k := 0) (show decode cX12_readsLine 43 = .ok (.aload_n 0, 1) by decide +kernel)) (
  mz_nil))))))))))))))))
noncomputable def ck_X12_readsLine_1 : List (Nat × mz_O) := [(44, .inl (mz_push (.inl 677139) 46)), (46, .inl (mz_push (.inl 4) 47)), (47, .inl (mz_call rn_X12_isWord 3 (mz_ckV 12) 50)), (50, .inl (mz_j1 mz_eq0 57 53)), (57, .inl (mz_ld mz_isR 0 58)), (58, .inl (mz_push (.inl 373222) 60)), (60, .inl (mz_push (.inl 4) 61)), (61, .inl (mz_call rn_X12_isWord 3 (mz_ckV 12) 64)), (64, .inl (mz_j1 mz_eq0 71 67)), (71, .inl (mz_ld mz_isR 0 72)), (72, .inl (mz_push (.inl 11642132) 74)), (74, .inl (mz_push (.inl 5) 75)), (75, .inl (mz_call rn_X12_isWord 3 (mz_ckV 12) 78)), (78, .inl (mz_j1 mz_eq0 85 81)), (85, .inl (mz_ld mz_isR 0 86)), (86, .inl (mz_push (.inl 20068392) 88))]
theorem tk_X12_readsLine_1 (E : List mz_V) : mz_all E tM_X12_readsLine (ck_X12_readsLine_1) :=
  mz_cons (mz_ldc mw_1095 (show decode cX12_readsLine 44 = .ok (.ldc 106, 2) by decide +kernel)) (
  mz_cons (mz_iconst 4 (by decide) (show decode cX12_readsLine 46 = .ok (.iconst 4, 1) by decide +kernel)) (
  mz_cons (mz_invV (n := 2) (ctr_X12_isWord E) rfl ⟨by decide, by decide, by decide +kernel⟩ ⟨by decide, by decide⟩ mw_1093 mw_1090 mw_1092 mw_33 mw_74 (show decode cX12_readsLine 47 = .ok (.invokevirtual 101, 3) by decide +kernel)) (
  mz_cons (mz_if_eq 57 (by decide) (show decode cX12_readsLine 50 = .ok (.ifCond .eq 7, 3) by decide +kernel)) (
  mz_cons (mz_aload_n (k := 0) (show decode cX12_readsLine 57 = .ok (.aload_n 0, 1) by decide +kernel)) (
  mz_cons (mz_ldc mw_1096 (show decode cX12_readsLine 58 = .ok (.ldc 107, 2) by decide +kernel)) (
  mz_cons (mz_iconst 4 (by decide) (show decode cX12_readsLine 60 = .ok (.iconst 4, 1) by decide +kernel)) (
  mz_cons (mz_invV (n := 2) (ctr_X12_isWord E) rfl ⟨by decide, by decide, by decide +kernel⟩ ⟨by decide, by decide⟩ mw_1093 mw_1090 mw_1092 mw_33 mw_74 (show decode cX12_readsLine 61 = .ok (.invokevirtual 101, 3) by decide +kernel)) (
  mz_cons (mz_if_eq 71 (by decide) (show decode cX12_readsLine 64 = .ok (.ifCond .eq 7, 3) by decide +kernel)) (
  mz_cons (mz_aload_n (k := 0) (show decode cX12_readsLine 71 = .ok (.aload_n 0, 1) by decide +kernel)) (
  mz_cons (mz_ldc mw_1097 (show decode cX12_readsLine 72 = .ok (.ldc 108, 2) by decide +kernel)) (
  mz_cons (mz_iconst 5 (by decide) (show decode cX12_readsLine 74 = .ok (.iconst 5, 1) by decide +kernel)) (
  mz_cons (mz_invV (n := 2) (ctr_X12_isWord E) rfl ⟨by decide, by decide, by decide +kernel⟩ ⟨by decide, by decide⟩ mw_1093 mw_1090 mw_1092 mw_33 mw_74 (show decode cX12_readsLine 75 = .ok (.invokevirtual 101, 3) by decide +kernel)) (
  mz_cons (mz_if_eq 85 (by decide) (show decode cX12_readsLine 78 = .ok (.ifCond .eq 7, 3) by decide +kernel)) (
  mz_cons (mz_aload_n (k := 0) (show decode cX12_readsLine 85 = .ok (.aload_n 0, 1) by decide +kernel)) (
  mz_cons (mz_ldc mw_1098 (show decode cX12_readsLine 86 = .ok (.ldc 109, 2) by decide +kernel)) (
  mz_nil))))))))))))))))
noncomputable def ck_X12_readsLine_2 : List (Nat × mz_O) := [(88, .inl (mz_push (.inl 5) 89)), (89, .inl (mz_call rn_X12_isWord 3 (mz_ckV 12) 92)), (92, .inl (mz_j1 mz_eq0 100 95)), (100, .inl (mz_ld mz_isR 0 101)), (101, .inl (mz_push (.inl 171377923) 103)), (103, .inl (mz_push (.inl 6) 105)), (105, .inl (mz_call rn_X12_isWord 3 (mz_ckV 12) 108)), (108, .inl (mz_j1 mz_eq0 116 111)), (116, .inl (mz_push (.inl (-1)) 117)), (117, .inl (mz_sto mz_isI mz_p1 1 118)), (118, .inl (mz_ld mz_isI 1 119)), (119, .inl (mz_push (.inl (-1)) 120)), (120, .inl (mz_j2 mz_eq 123 125)), (123, .inl (mz_push (.inl 0) 124)), (124, .inr (mz_rt mz_is01))]
theorem tk_X12_readsLine_2 (E : List mz_V) : mz_all E tM_X12_readsLine (ck_X12_readsLine_2) :=
  mz_cons (mz_iconst 5 (by decide) (show decode cX12_readsLine 88 = .ok (.iconst 5, 1) by decide +kernel)) (
  mz_cons (mz_invV (n := 2) (ctr_X12_isWord E) rfl ⟨by decide, by decide, by decide +kernel⟩ ⟨by decide, by decide⟩ mw_1093 mw_1090 mw_1092 mw_33 mw_74 (show decode cX12_readsLine 89 = .ok (.invokevirtual 101, 3) by decide +kernel)) (
  mz_cons (mz_if_eq 100 (by decide) (show decode cX12_readsLine 92 = .ok (.ifCond .eq 8, 3) by decide +kernel)) (
  mz_cons (mz_aload_n (k := 0) (show decode cX12_readsLine 100 = .ok (.aload_n 0, 1) by decide +kernel)) (
  mz_cons (mz_ldc mw_1099 (show decode cX12_readsLine 101 = .ok (.ldc 110, 2) by decide +kernel)) (
  mz_cons (mz_bipush 6 (by decide) (show decode cX12_readsLine 103 = .ok (.bipush 6, 2) by decide +kernel)) (
  mz_cons (mz_invV (n := 2) (ctr_X12_isWord E) rfl ⟨by decide, by decide, by decide +kernel⟩ ⟨by decide, by decide⟩ mw_1093 mw_1090 mw_1092 mw_33 mw_74 (show decode cX12_readsLine 105 = .ok (.invokevirtual 101, 3) by decide +kernel)) (
  mz_cons (mz_if_eq 116 (by decide) (show decode cX12_readsLine 108 = .ok (.ifCond .eq 8, 3) by decide +kernel)) (
  mz_cons (mz_iconst (-1) (by decide) (show decode cX12_readsLine 116 = .ok (.iconst (-1), 1) by decide +kernel)) (
  mz_cons (mz_istore_n (k := 1) (by decide) (show decode cX12_readsLine 117 = .ok (.istore_n 1, 1) by decide +kernel)) (
  mz_cons (mz_iload_n (k := 1) (show decode cX12_readsLine 118 = .ok (.iload_n 1, 1) by decide +kernel)) (
  mz_cons (mz_iconst (-1) (by decide) (show decode cX12_readsLine 119 = .ok (.iconst (-1), 1) by decide +kernel)) (
  mz_cons (mz_icmp_ne 125 (by decide) (show decode cX12_readsLine 120 = .ok (.if_icmp .ne 5, 3) by decide +kernel)) (
  mz_cons (mz_iconst 0 (by decide) (show decode cX12_readsLine 123 = .ok (.iconst 0, 1) by decide +kernel)) (
  mz_consR (mz_zreturn rfl (show decode cX12_readsLine 124 = .ok (.ireturn, 1) by decide +kernel)) (
  mz_nil)))))))))))))))
noncomputable def tb_X12_readsLine : List (Nat × List (Nat × mz_O)) := [(43, ck_X12_readsLine_0), (86, ck_X12_readsLine_1), (124, ck_X12_readsLine_2)]
theorem tok_X12_readsLine (E : List mz_V) : mz_tok E tM_X12_readsLine (tb_X12_readsLine) := mz_tcons (tk_X12_readsLine_0 E) (mz_tcons (tk_X12_readsLine_1 E) (mz_tcons (tk_X12_readsLine_2 E) (mz_tnil)))
noncomputable def rn_X12_readsLine : List mz_V → List mz_C → Option (Option mz_V × List mz_C) := mz_rn tb_X12_readsLine 57 2
theorem ctr_X12_readsLine (E : List mz_V) : mz_ctr E yX12_readsLine tM_X12_readsLine rn_X12_readsLine := mz_ctr_of 57 (tok_X12_readsLine E) (by decide) rfl rfl
abbrev tM_X12_token : mz_M := (cX12_token, 1, none, RX12, "token", 1, 22)
noncomputable def ck_X12_token_0 : List (Nat × mz_O) := [(0, .inl (mz_ld mz_isR 0 1)), (1, .inl (mz_gf 12 10 4)), (4, .inl (mz_ld mz_isR 0 5)), (5, .inl (mz_gf 12 1 8)), (8, .inl (mz_j2 mz_lt 11 38)), (38, .inl (mz_ld mz_isR 0 39)), (39, .inl (mz_ld mz_isR 0 40)), (40, .inl (mz_gf 12 10 43)), (43, .inl (mz_pf 12 11 mz_isI 46)), (46, .inl (mz_ld mz_isR 0 47)), (47, .inl (mz_dp 48)), (48, .inl (mz_gf 12 10 51)), (51, .inl (mz_ld mz_isR 0 52)), (52, .inl (mz_gf 12 10 55)), (55, .inl (mz_ld mz_isR 0 56)), (56, .inl (mz_gf 12 1 59))]
theorem tk_X12_token_0 (E : List mz_V) : mz_all E tM_X12_token (ck_X12_token_0) :=
  mz_cons (mz_aload_n (k := 0) (show decode cX12_token 0 = .ok (.aload_n 0, 1) by decide +kernel)) (
  mz_cons (mz_getfield (C := RX12) (T := TX12) (N := 29) rfl mz_inX12 (by decide) mw_982 (show decode cX12_token 1 = .ok (.getfield 74, 3) by decide +kernel)) (
  mz_cons (mz_aload_n (k := 0) (show decode cX12_token 4 = .ok (.aload_n 0, 1) by decide +kernel)) (
  mz_cons (mz_getfield (C := RX12) (T := TX12) (N := 29) rfl mz_inX12 (by decide) mw_973 (show decode cX12_token 5 = .ok (.getfield 69, 3) by decide +kernel)) (
  mz_cons (mz_icmp_ge 38 (by decide) (show decode cX12_token 8 = .ok (.if_icmp .ge 30, 3) by decide +kernel)) (
  mz_cons (mz_aload_n (k := 0) (show decode cX12_token 38 = .ok (.aload_n 0, 1) by decide +kernel)) (
  mz_cons (mz_aload_n (k := 0) (show decode cX12_token 39 = .ok (.aload_n 0, 1) by decide +kernel)) (
  mz_cons (mz_getfield (C := RX12) (T := TX12) (N := 29) rfl mz_inX12 (by decide) mw_982 (show decode cX12_token 40 = .ok (.getfield 74, 3) by decide +kernel)) (
  mz_cons (mz_putfield (C := RX12) (T := TX12) (N := 29) rfl mz_inX12 tyX12_ok nmX12 (by decide) mz_fit_int rfl mw_983 (show decode cX12_token 43 = .ok (.putfield 77, 3) by decide +kernel)) (
  mz_cons (mz_aload_n (k := 0) (show decode cX12_token 46 = .ok (.aload_n 0, 1) by decide +kernel)) (
  mz_cons (mz_dup (show decode cX12_token 47 = .ok (.dup, 1) by decide +kernel)) (
  mz_cons (mz_getfield (C := RX12) (T := TX12) (N := 29) rfl mz_inX12 (by decide) mw_982 (show decode cX12_token 48 = .ok (.getfield 74, 3) by decide +kernel)) (
  mz_cons (mz_aload_n (k := 0) (show decode cX12_token 51 = .ok (.aload_n 0, 1) by decide +kernel)) (
  mz_cons (mz_getfield (C := RX12) (T := TX12) (N := 29) rfl mz_inX12 (by decide) mw_982 (show decode cX12_token 52 = .ok (.getfield 74, 3) by decide +kernel)) (
  mz_cons (mz_aload_n (k := 0) (show decode cX12_token 55 = .ok (.aload_n 0, 1) by decide +kernel)) (
  mz_cons (mz_getfield (C := RX12) (T := TX12) (N := 29) rfl mz_inX12 (by decide) mw_973 (show decode cX12_token 56 = .ok (.getfield 69, 3) by decide +kernel)) (
  mz_nil))))))))))))))))
noncomputable def ck_X12_token_1 : List (Nat × mz_O) := [(59, .inl (mz_j2 mz_lt 62 66)), (66, .inl (mz_push (.inl 0) 67)), (67, .inl (mz_o2 mz_f_iadd 68)), (68, .inl (mz_pf 12 10 mz_isI 71)), (71, .inl (mz_ld mz_isR 0 72)), (72, .inl (mz_gf 12 10 75)), (75, .inl (mz_ld mz_isR 0 76)), (76, .inl (mz_gf 12 1 79)), (79, .inl (mz_j2 mz_lt 82 137)), (137, .inl (mz_ld mz_isR 0 138)), (138, .inl (mz_ld mz_isR 0 139)), (139, .inl (mz_gf 12 10 142)), (142, .inl (mz_pf 12 12 mz_isI 145)), (145, .inr (mz_rv))]
theorem tk_X12_token_1 (E : List mz_V) : mz_all E tM_X12_token (ck_X12_token_1) :=
  mz_cons (mz_icmp_ge 66 (by decide) (show decode cX12_token 59 = .ok (.if_icmp .ge 7, 3) by decide +kernel)) (
  mz_cons (mz_iconst 0 (by decide) (show decode cX12_token 66 = .ok (.iconst 0, 1) by decide +kernel)) (
  mz_cons (mz_iadd (show decode cX12_token 67 = .ok (.iadd, 1) by decide +kernel)) (
  mz_cons (mz_putfield (C := RX12) (T := TX12) (N := 29) rfl mz_inX12 tyX12_ok nmX12 (by decide) mz_fit_int rfl mw_982 (show decode cX12_token 68 = .ok (.putfield 74, 3) by decide +kernel)) (
  mz_cons (mz_aload_n (k := 0) (show decode cX12_token 71 = .ok (.aload_n 0, 1) by decide +kernel)) (
  mz_cons (mz_getfield (C := RX12) (T := TX12) (N := 29) rfl mz_inX12 (by decide) mw_982 (show decode cX12_token 72 = .ok (.getfield 74, 3) by decide +kernel)) (
  mz_cons (mz_aload_n (k := 0) (show decode cX12_token 75 = .ok (.aload_n 0, 1) by decide +kernel)) (
  mz_cons (mz_getfield (C := RX12) (T := TX12) (N := 29) rfl mz_inX12 (by decide) mw_973 (show decode cX12_token 76 = .ok (.getfield 69, 3) by decide +kernel)) (
  mz_cons (mz_icmp_ge 137 (by decide) (show decode cX12_token 79 = .ok (.if_icmp .ge 58, 3) by decide +kernel)) (
  mz_cons (mz_aload_n (k := 0) (show decode cX12_token 137 = .ok (.aload_n 0, 1) by decide +kernel)) (
  mz_cons (mz_aload_n (k := 0) (show decode cX12_token 138 = .ok (.aload_n 0, 1) by decide +kernel)) (
  mz_cons (mz_getfield (C := RX12) (T := TX12) (N := 29) rfl mz_inX12 (by decide) mw_982 (show decode cX12_token 139 = .ok (.getfield 74, 3) by decide +kernel)) (
  mz_cons (mz_putfield (C := RX12) (T := TX12) (N := 29) rfl mz_inX12 tyX12_ok nmX12 (by decide) mz_fit_int rfl mw_984 (show decode cX12_token 142 = .ok (.putfield 84, 3) by decide +kernel)) (
  mz_consR (mz_return rfl (show decode cX12_token 145 = .ok (.return_, 1) by decide +kernel)) (
  mz_nil))))))))))))))
noncomputable def tb_X12_token : List (Nat × List (Nat × mz_O)) := [(56, ck_X12_token_0), (145, ck_X12_token_1)]
theorem tok_X12_token (E : List mz_V) : mz_tok E tM_X12_token (tb_X12_token) := mz_tcons (tk_X12_token_0 E) (mz_tcons (tk_X12_token_1 E) (mz_tnil))
noncomputable def rn_X12_token : List mz_V → List mz_C → Option (Option mz_V × List mz_C) := mz_rn tb_X12_token 40 1
theorem ctr_X12_token (E : List mz_V) : mz_ctr E yX12_token tM_X12_token rn_X12_token := mz_ctr_of 40 (tok_X12_token E) (by decide) rfl rfl
abbrev tM_X12_fault : mz_M := (cX12_fault, 2, (some .int), RX12, "fault", 3, 67)
noncomputable def ck_X12_fault_0 : List (Nat × mz_O) := [(0, .inl (mz_ld mz_isR 0 1)), (1, .inl (mz_push (.inl 0) 2)), (2, .inl (mz_pf 12 10 mz_isI 5)), (5, .inl (mz_ld mz_isR 0 6)), (6, .inl (mz_push (.inl 0) 7)), (7, .inl (mz_pf 12 3 mz_isI 10)), (10, .inl (mz_ld mz_isR 0 11)), (11, .inl (mz_ld mz_isR 0 12)), (12, .inl (mz_gf 12 4 15)), (15, .inl (mz_pf 12 13 mz_isI 18)), (18, .inl (mz_ld mz_isR 0 19)), (19, .inl (mz_call rn_X12_token 1 (mz_ckV 12) 22)), (22, .inl (mz_ld mz_isR 0 23)), (23, .inl (mz_call rn_X12_readsLine 1 (mz_ckV 12) 26)), (26, .inl (mz_j1 mz_eq0 29 34)), (29, .inl (mz_ld mz_isR 0 30))]
theorem tk_X12_fault_0 (E : List mz_V) : mz_all E tM_X12_fault (ck_X12_fault_0) :=
  mz_cons (mz_aload_n (k := 0) (show decode cX12_fault 0 = .ok (.aload_n 0, 1) by decide +kernel)) (
  mz_cons (mz_iconst 0 (by decide) (show decode cX12_fault 1 = .ok (.iconst 0, 1) by decide +kernel)) (
  mz_cons (mz_putfield (C := RX12) (T := TX12) (N := 29) rfl mz_inX12 tyX12_ok nmX12 (by decide) mz_fit_int rfl mw_982 (show decode cX12_fault 2 = .ok (.putfield 74, 3) by decide +kernel)) (
  mz_cons (mz_aload_n (k := 0) (show decode cX12_fault 5 = .ok (.aload_n 0, 1) by decide +kernel)) (
  mz_cons (mz_iconst 0 (by decide) (show decode cX12_fault 6 = .ok (.iconst 0, 1) by decide +kernel)) (
  mz_cons (mz_putfield (C := RX12) (T := TX12) (N := 29) rfl mz_inX12 tyX12_ok nmX12 (by decide) mz_fit_int rfl mw_975 (show decode cX12_fault 7 = .ok (.putfield 87, 3) by decide +kernel)) (
  mz_cons (mz_aload_n (k := 0) (show decode cX12_fault 10 = .ok (.aload_n 0, 1) by decide +kernel)) (
  mz_cons (mz_aload_n (k := 0) (show decode cX12_fault 11 = .ok (.aload_n 0, 1) by decide +kernel)) (
  mz_cons (mz_getfield (C := RX12) (T := TX12) (N := 29) rfl mz_inX12 (by decide) mw_976 (show decode cX12_fault 12 = .ok (.getfield 16, 3) by decide +kernel)) (
  mz_cons (mz_putfield (C := RX12) (T := TX12) (N := 29) rfl mz_inX12 tyX12_ok nmX12 (by decide) mz_fit_int rfl mw_985 (show decode cX12_fault 15 = .ok (.putfield 93, 3) by decide +kernel)) (
  mz_cons (mz_aload_n (k := 0) (show decode cX12_fault 18 = .ok (.aload_n 0, 1) by decide +kernel)) (
  mz_cons (mz_invV (n := 0) (ctr_X12_token E) rfl ⟨by decide, by decide, by decide +kernel⟩ ⟨by decide, by decide⟩ mw_1081 mw_1078 mw_1080 mw_31 mw_74 (show decode cX12_fault 19 = .ok (.invokevirtual 90, 3) by decide +kernel)) (
  mz_cons (mz_aload_n (k := 0) (show decode cX12_fault 22 = .ok (.aload_n 0, 1) by decide +kernel)) (
  mz_cons (mz_invV (n := 0) (ctr_X12_readsLine E) rfl ⟨by decide, by decide, by decide +kernel⟩ ⟨by decide, by decide⟩ mw_1088 mw_1085 mw_1087 mw_32 mw_74 (show decode cX12_fault 23 = .ok (.invokevirtual 115, 3) by decide +kernel)) (
  mz_cons (mz_if_ne 34 (by decide) (show decode cX12_fault 26 = .ok (.ifCond .ne 8, 3) by decide +kernel)) (
  mz_cons (mz_aload_n (k := 0) (show decode cX12_fault 29 = .ok (.aload_n 0, 1) by decide +kernel)) (
  mz_nil))))))))))))))))
noncomputable def ck_X12_fault_1 : List (Nat × mz_O) := [(30, .inl (mz_gf 12 11 33)), (33, .inr (mz_rt mz_isI))]
theorem tk_X12_fault_1 (E : List mz_V) : mz_all E tM_X12_fault (ck_X12_fault_1) :=
  mz_cons (mz_getfield (C := RX12) (T := TX12) (N := 29) rfl mz_inX12 (by decide) mw_983 (show decode cX12_fault 30 = .ok (.getfield 77, 3) by decide +kernel)) (
  mz_consR (mz_ireturn rfl (show decode cX12_fault 33 = .ok (.ireturn, 1) by decide +kernel)) (
  mz_nil))
noncomputable def tb_X12_fault : List (Nat × List (Nat × mz_O)) := [(29, ck_X12_fault_0), (33, ck_X12_fault_1)]
theorem tok_X12_fault (E : List mz_V) : mz_tok E tM_X12_fault (tb_X12_fault) := mz_tcons (tk_X12_fault_0 E) (mz_tcons (tk_X12_fault_1 E) (mz_tnil))
noncomputable def rn_X12_fault : List mz_V → List mz_C → Option (Option mz_V × List mz_C) := mz_rn tb_X12_fault 28 2
theorem ctr_X12_fault (E : List mz_V) : mz_ctr E yX12_fault tM_X12_fault rn_X12_fault := mz_ctr_of 28 (tok_X12_fault E) (by decide) rfl rfl
abbrev tM_X12_forces : mz_M := (cX12_forces, 5, (some .int), RX12, "forces", 2, 44)
noncomputable def ck_X12_forces_0 : List (Nat × mz_O) := [(0, .inl (mz_ld mz_isR 0 1)), (1, .inl (mz_gf 12 5 4)), (4, .inl (mz_ld mz_isI 1 5)), (5, .inl (mz_al false 6)), (6, .inl (mz_ld mz_isI 2 7)), (7, .inl (mz_push (.inl (-1)) 8)), (8, .inl (mz_o2 mz_f_ixor 9)), (9, .inl (mz_o2 mz_f_iand 10)), (10, .inl (mz_sto mz_isI mz_p1 3 11)), (11, .inl (mz_ld mz_isI 2 12)), (12, .inl (mz_ld mz_isI 1 13)), (13, .inl (mz_call rn_X12_has 2 mz_ckT 16)), (16, .inl (mz_j1 mz_eq0 27 19)), (19, .inl (mz_ld mz_isI 3 20)), (20, .inl (mz_call rn_X12_many 1 mz_ckT 23)), (23, .inl (mz_push (.inl 1) 24))]
theorem tk_X12_forces_0 (E : List mz_V) : mz_all E tM_X12_forces (ck_X12_forces_0) :=
  mz_cons (mz_aload_n (k := 0) (show decode cX12_forces 0 = .ok (.aload_n 0, 1) by decide +kernel)) (
  mz_cons (mz_getfield (C := RX12) (T := TX12) (N := 29) rfl mz_inX12 (by decide) mw_977 (show decode cX12_forces 1 = .ok (.getfield 20, 3) by decide +kernel)) (
  mz_cons (mz_iload_n (k := 1) (show decode cX12_forces 4 = .ok (.iload_n 1, 1) by decide +kernel)) (
  mz_cons (mz_iaload (show decode cX12_forces 5 = .ok (.iaload, 1) by decide +kernel)) (
  mz_cons (mz_iload_n (k := 2) (show decode cX12_forces 6 = .ok (.iload_n 2, 1) by decide +kernel)) (
  mz_cons (mz_iconst (-1) (by decide) (show decode cX12_forces 7 = .ok (.iconst (-1), 1) by decide +kernel)) (
  mz_cons (mz_ixor (show decode cX12_forces 8 = .ok (.ixor, 1) by decide +kernel)) (
  mz_cons (mz_iand (show decode cX12_forces 9 = .ok (.iand, 1) by decide +kernel)) (
  mz_cons (mz_istore_n (k := 3) (by decide) (show decode cX12_forces 10 = .ok (.istore_n 3, 1) by decide +kernel)) (
  mz_cons (mz_iload_n (k := 2) (show decode cX12_forces 11 = .ok (.iload_n 2, 1) by decide +kernel)) (
  mz_cons (mz_iload_n (k := 1) (show decode cX12_forces 12 = .ok (.iload_n 1, 1) by decide +kernel)) (
  mz_cons (mz_invS (n := 2) (ctr_X12_has E) ⟨by decide, by decide, by decide +kernel⟩ ⟨by decide, by decide⟩ mw_1131 mw_1129 mw_1130 mw_74 (show decode cX12_forces 13 = .ok (.invokestatic 134, 3) by decide +kernel)) (
  mz_cons (mz_if_eq 27 (by decide) (show decode cX12_forces 16 = .ok (.ifCond .eq 11, 3) by decide +kernel)) (
  mz_cons (mz_iload_n (k := 3) (show decode cX12_forces 19 = .ok (.iload_n 3, 1) by decide +kernel)) (
  mz_cons (mz_invS (n := 1) (ctr_X12_many E) ⟨by decide, by decide, by decide +kernel⟩ ⟨by decide, by decide⟩ mw_1151 mw_1149 mw_1150 mw_74 (show decode cX12_forces 20 = .ok (.invokestatic 143, 3) by decide +kernel)) (
  mz_cons (mz_iconst 1 (by decide) (show decode cX12_forces 23 = .ok (.iconst 1, 1) by decide +kernel)) (
  mz_nil))))))))))))))))
noncomputable def ck_X12_forces_1 : List (Nat × mz_O) := [(24, .inl (mz_j2 mz_eq 29 27)), (27, .inl (mz_push (.inl (-1)) 28)), (28, .inr (mz_rt mz_isI))]
theorem tk_X12_forces_1 (E : List mz_V) : mz_all E tM_X12_forces (ck_X12_forces_1) :=
  mz_cons (mz_icmp_eq 29 (by decide) (show decode cX12_forces 24 = .ok (.if_icmp .eq 5, 3) by decide +kernel)) (
  mz_cons (mz_iconst (-1) (by decide) (show decode cX12_forces 27 = .ok (.iconst (-1), 1) by decide +kernel)) (
  mz_consR (mz_ireturn rfl (show decode cX12_forces 28 = .ok (.ireturn, 1) by decide +kernel)) (
  mz_nil)))
noncomputable def tb_X12_forces : List (Nat × List (Nat × mz_O)) := [(23, ck_X12_forces_0), (28, ck_X12_forces_1)]
theorem tok_X12_forces (E : List mz_V) : mz_tok E tM_X12_forces (tb_X12_forces) := mz_tcons (tk_X12_forces_0 E) (mz_tcons (tk_X12_forces_1 E) (mz_tnil))
noncomputable def rn_X12_forces : List mz_V → List mz_C → Option (Option mz_V × List mz_C) := mz_rn tb_X12_forces 29 5
theorem ctr_X12_forces (E : List mz_V) : mz_ctr E yX12_forces tM_X12_forces rn_X12_forces := mz_ctr_of 29 (tok_X12_forces E) (by decide) rfl rfl
abbrev tM_X12_forcedBy : mz_M := (cX12_forcedBy, 4, (some .int), RX12, "forcedBy", 3, 68)
noncomputable def ck_X12_forcedBy_0 : List (Nat × mz_O) := [(0, .inl (mz_ld mz_isI 1 1)), (1, .inl (mz_sto mz_isI mz_p1 2 2)), (2, .inl (mz_push (.inl 0) 3)), (3, .inl (mz_sto mz_isI mz_p1 3 4)), (4, .inl (mz_ld mz_isI 3 5)), (5, .inl (mz_ld mz_isR 0 6)), (6, .inl (mz_gf 12 4 9)), (9, .inl (mz_j2 mz_lt 12 43)), (12, .inl (mz_ld mz_isI 2 13)), (13, .inl (mz_ld mz_isR 0 14)), (14, .inl (mz_ld mz_isI 3 15)), (15, .inl (mz_ld mz_isI 1 16)), (16, .inl (mz_call rn_X12_forces 3 (mz_ckV 12) 19)), (19, .inl (mz_push (.inl (-1)) 20)), (20, .inl (mz_j2 mz_eq 23 27)), (23, .inl (mz_push (.inl 0) 24))]
theorem tk_X12_forcedBy_0 (E : List mz_V) : mz_all E tM_X12_forcedBy (ck_X12_forcedBy_0) :=
  mz_cons (mz_iload_n (k := 1) (show decode cX12_forcedBy 0 = .ok (.iload_n 1, 1) by decide +kernel)) (
  mz_cons (mz_istore_n (k := 2) (by decide) (show decode cX12_forcedBy 1 = .ok (.istore_n 2, 1) by decide +kernel)) (
  mz_cons (mz_iconst 0 (by decide) (show decode cX12_forcedBy 2 = .ok (.iconst 0, 1) by decide +kernel)) (
  mz_cons (mz_istore_n (k := 3) (by decide) (show decode cX12_forcedBy 3 = .ok (.istore_n 3, 1) by decide +kernel)) (
  mz_cons (mz_iload_n (k := 3) (show decode cX12_forcedBy 4 = .ok (.iload_n 3, 1) by decide +kernel)) (
  mz_cons (mz_aload_n (k := 0) (show decode cX12_forcedBy 5 = .ok (.aload_n 0, 1) by decide +kernel)) (
  mz_cons (mz_getfield (C := RX12) (T := TX12) (N := 29) rfl mz_inX12 (by decide) mw_976 (show decode cX12_forcedBy 6 = .ok (.getfield 16, 3) by decide +kernel)) (
  mz_cons (mz_icmp_ge 43 (by decide) (show decode cX12_forcedBy 9 = .ok (.if_icmp .ge 34, 3) by decide +kernel)) (
  mz_cons (mz_iload_n (k := 2) (show decode cX12_forcedBy 12 = .ok (.iload_n 2, 1) by decide +kernel)) (
  mz_cons (mz_aload_n (k := 0) (show decode cX12_forcedBy 13 = .ok (.aload_n 0, 1) by decide +kernel)) (
  mz_cons (mz_iload_n (k := 3) (show decode cX12_forcedBy 14 = .ok (.iload_n 3, 1) by decide +kernel)) (
  mz_cons (mz_iload_n (k := 1) (show decode cX12_forcedBy 15 = .ok (.iload_n 1, 1) by decide +kernel)) (
  mz_cons (mz_invV (n := 2) (ctr_X12_forces E) rfl ⟨by decide, by decide, by decide +kernel⟩ ⟨by decide, by decide⟩ mw_1238 mw_1235 mw_1237 mw_51 mw_74 (show decode cX12_forcedBy 16 = .ok (.invokevirtual 205, 3) by decide +kernel)) (
  mz_cons (mz_iconst (-1) (by decide) (show decode cX12_forcedBy 19 = .ok (.iconst (-1), 1) by decide +kernel)) (
  mz_cons (mz_icmp_ne 27 (by decide) (show decode cX12_forcedBy 20 = .ok (.if_icmp .ne 7, 3) by decide +kernel)) (
  mz_cons (mz_iconst 0 (by decide) (show decode cX12_forcedBy 23 = .ok (.iconst 0, 1) by decide +kernel)) (
  mz_nil))))))))))))))))
noncomputable def ck_X12_forcedBy_1 : List (Nat × mz_O) := [(24, .inl (mz_go 35)), (35, .inl (mz_o2 mz_f_ior 36)), (36, .inl (mz_sto mz_isI mz_p1 2 37)), (37, .inl (mz_inc 3 1 40)), (40, .inl (mz_go 4)), (43, .inl (mz_ld mz_isI 2 44)), (44, .inr (mz_rt mz_isI))]
theorem tk_X12_forcedBy_1 (E : List mz_V) : mz_all E tM_X12_forcedBy (ck_X12_forcedBy_1) :=
  mz_cons (mz_goto 35 (by decide) (show decode cX12_forcedBy 24 = .ok (.goto 11, 3) by decide +kernel)) (
  mz_cons (mz_ior (show decode cX12_forcedBy 35 = .ok (.ior, 1) by decide +kernel)) (
  mz_cons (mz_istore_n (k := 2) (by decide) (show decode cX12_forcedBy 36 = .ok (.istore_n 2, 1) by decide +kernel)) (
  mz_cons (mz_iinc 1 (by decide) (by decide) (show decode cX12_forcedBy 37 = .ok (.iinc 3 1, 3) by decide +kernel)) (
  mz_cons (mz_goto 4 (by decide) (show decode cX12_forcedBy 40 = .ok (.goto (-36), 3) by decide +kernel)) (
  mz_cons (mz_iload_n (k := 2) (show decode cX12_forcedBy 43 = .ok (.iload_n 2, 1) by decide +kernel)) (
  mz_consR (mz_ireturn rfl (show decode cX12_forcedBy 44 = .ok (.ireturn, 1) by decide +kernel)) (
  mz_nil)))))))
noncomputable def tb_X12_forcedBy : List (Nat × List (Nat × mz_O)) := [(23, ck_X12_forcedBy_0), (44, ck_X12_forcedBy_1)]
theorem tok_X12_forcedBy (E : List mz_V) : mz_tok E tM_X12_forcedBy (tb_X12_forcedBy) := mz_tcons (tk_X12_forcedBy_0 E) (mz_tcons (tk_X12_forcedBy_1 E) (mz_tnil))
noncomputable def rn_X12_forcedBy : List mz_V → List mz_C → Option (Option mz_V × List mz_C) := mz_rn tb_X12_forcedBy 37 4
theorem ctr_X12_forcedBy (E : List mz_V) : mz_ctr E yX12_forcedBy tM_X12_forcedBy rn_X12_forcedBy := mz_ctr_of 37 (tok_X12_forcedBy E) (by decide) rfl rfl
abbrev tM_X12_forced : mz_M := (cX12_forced, 8, (some .int), RX12, "forced", 4, 91)
noncomputable def ck_X12_forced_0 : List (Nat × mz_O) := [(0, .inl (mz_ld mz_isI 2 1)), (1, .inl (mz_push (.inl (-1)) 2)), (2, .inl (mz_j2 mz_eq 16 5)), (5, .inl (mz_ld mz_isR 0 6)), (6, .inl (mz_ld mz_isI 2 7)), (7, .inl (mz_call rn_X12_isRoom 2 (mz_ckV 12) 10)), (10, .inl (mz_j1 mz_eq0 13 16)), (13, .inl (mz_push (.inl (-2)) 15)), (15, .inr (mz_rt mz_isI)), (16, .inl (mz_ld mz_isR 0 17)), (17, .inl (mz_ld mz_isI 1 18)), (18, .inl (mz_call rn_X12_isSetOf 2 (mz_ckV 12) 21)), (21, .inl (mz_j1 mz_eq0 39 24)), (24, .inl (mz_ld mz_isI 2 25)), (25, .inl (mz_push (.inl (-1)) 26)), (26, .inl (mz_j2 mz_eq 42 29))]
theorem tk_X12_forced_0 (E : List mz_V) : mz_all E tM_X12_forced (ck_X12_forced_0) :=
  mz_cons (mz_iload_n (k := 2) (show decode cX12_forced 0 = .ok (.iload_n 2, 1) by decide +kernel)) (
  mz_cons (mz_iconst (-1) (by decide) (show decode cX12_forced 1 = .ok (.iconst (-1), 1) by decide +kernel)) (
  mz_cons (mz_icmp_eq 16 (by decide) (show decode cX12_forced 2 = .ok (.if_icmp .eq 14, 3) by decide +kernel)) (
  mz_cons (mz_aload_n (k := 0) (show decode cX12_forced 5 = .ok (.aload_n 0, 1) by decide +kernel)) (
  mz_cons (mz_iload_n (k := 2) (show decode cX12_forced 6 = .ok (.iload_n 2, 1) by decide +kernel)) (
  mz_cons (mz_invV (n := 1) (ctr_X12_isRoom E) rfl ⟨by decide, by decide, by decide +kernel⟩ ⟨by decide, by decide⟩ mw_1124 mw_1121 mw_1123 mw_37 mw_74 (show decode cX12_forced 7 = .ok (.invokevirtual 137, 3) by decide +kernel)) (
  mz_cons (mz_if_ne 16 (by decide) (show decode cX12_forced 10 = .ok (.ifCond .ne 6, 3) by decide +kernel)) (
  mz_cons (mz_bipush (-2) (by decide) (show decode cX12_forced 13 = .ok (.bipush (-2), 2) by decide +kernel)) (
  mz_consR (mz_ireturn rfl (show decode cX12_forced 15 = .ok (.ireturn, 1) by decide +kernel)) (
  mz_cons (mz_aload_n (k := 0) (show decode cX12_forced 16 = .ok (.aload_n 0, 1) by decide +kernel)) (
  mz_cons (mz_iload_n (k := 1) (show decode cX12_forced 17 = .ok (.iload_n 1, 1) by decide +kernel)) (
  mz_cons (mz_invV (n := 1) (ctr_X12_isSetOf E) rfl ⟨by decide, by decide, by decide +kernel⟩ ⟨by decide, by decide⟩ mw_1139 mw_1136 mw_1138 mw_39 mw_74 (show decode cX12_forced 18 = .ok (.invokevirtual 167, 3) by decide +kernel)) (
  mz_cons (mz_if_eq 39 (by decide) (show decode cX12_forced 21 = .ok (.ifCond .eq 18, 3) by decide +kernel)) (
  mz_cons (mz_iload_n (k := 2) (show decode cX12_forced 24 = .ok (.iload_n 2, 1) by decide +kernel)) (
  mz_cons (mz_iconst (-1) (by decide) (show decode cX12_forced 25 = .ok (.iconst (-1), 1) by decide +kernel)) (
  mz_cons (mz_icmp_eq 42 (by decide) (show decode cX12_forced 26 = .ok (.if_icmp .eq 16, 3) by decide +kernel)) (
  mz_nil))))))))))))))))
noncomputable def ck_X12_forced_1 : List (Nat × mz_O) := [(29, .inl (mz_ld mz_isI 3 30)), (30, .inl (mz_o1 mz_f_i2l 31)), (31, .inl (mz_push (.inr (.inl 0)) 32)), (32, .inl (mz_push (.inr (.inl 1)) 33)), (33, .inl (mz_call rn_X12_in 3 mz_ckT 36)), (36, .inl (mz_j1 mz_eq0 39 42)), (39, .inl (mz_push (.inl (-3)) 41)), (41, .inr (mz_rt mz_isI)), (42, .inl (mz_ld mz_isI 1 43)), (43, .inl (mz_sto mz_isI mz_p1 4 45)), (45, .inl (mz_push (.inl 0) 46)), (46, .inl (mz_sto mz_isI mz_p1 5 48)), (48, .inl (mz_ld mz_isI 5 50)), (50, .inl (mz_push (.inl 11) 52)), (52, .inl (mz_j2 mz_lt 55 141)), (55, .inl (mz_ld mz_isI 2 56))]
theorem tk_X12_forced_1 (E : List mz_V) : mz_all E tM_X12_forced (ck_X12_forced_1) :=
  mz_cons (mz_iload_n (k := 3) (show decode cX12_forced 29 = .ok (.iload_n 3, 1) by decide +kernel)) (
  mz_cons (mz_i2l (show decode cX12_forced 30 = .ok (.i2l, 1) by decide +kernel)) (
  mz_cons (mz_lconst 0 (by decide) (show decode cX12_forced 31 = .ok (.lconst 0, 1) by decide +kernel)) (
  mz_cons (mz_lconst 1 (by decide) (show decode cX12_forced 32 = .ok (.lconst 1, 1) by decide +kernel)) (
  mz_cons (mz_invS (n := 3) (ctr_X12_in E) ⟨by decide, by decide, by decide +kernel⟩ ⟨by decide, by decide⟩ mw_1068 mw_1066 mw_1067 mw_74 (show decode cX12_forced 33 = .ok (.invokestatic 65, 3) by decide +kernel)) (
  mz_cons (mz_if_ne 42 (by decide) (show decode cX12_forced 36 = .ok (.ifCond .ne 6, 3) by decide +kernel)) (
  mz_cons (mz_bipush (-3) (by decide) (show decode cX12_forced 39 = .ok (.bipush (-3), 2) by decide +kernel)) (
  mz_consR (mz_ireturn rfl (show decode cX12_forced 41 = .ok (.ireturn, 1) by decide +kernel)) (
  mz_cons (mz_iload_n (k := 1) (show decode cX12_forced 42 = .ok (.iload_n 1, 1) by decide +kernel)) (
  mz_cons (mz_istore (by decide) (show decode cX12_forced 43 = .ok (.istore 4, 2) by decide +kernel)) (
  mz_cons (mz_iconst 0 (by decide) (show decode cX12_forced 45 = .ok (.iconst 0, 1) by decide +kernel)) (
  mz_cons (mz_istore (by decide) (show decode cX12_forced 46 = .ok (.istore 5, 2) by decide +kernel)) (
  mz_cons (mz_iload (show decode cX12_forced 48 = .ok (.iload 5, 2) by decide +kernel)) (
  mz_cons (mz_bipush 11 (by decide) (show decode cX12_forced 50 = .ok (.bipush 11, 2) by decide +kernel)) (
  mz_cons (mz_icmp_ge 141 (by decide) (show decode cX12_forced 52 = .ok (.if_icmp .ge 89, 3) by decide +kernel)) (
  mz_cons (mz_iload_n (k := 2) (show decode cX12_forced 55 = .ok (.iload_n 2, 1) by decide +kernel)) (
  mz_nil))))))))))))))))
noncomputable def ck_X12_forced_2 : List (Nat × mz_O) := [(56, .inl (mz_push (.inl (-1)) 57)), (57, .inl (mz_j2 mz_eq 80 60)), (60, .inl (mz_ld mz_isI 4 62)), (62, .inl (mz_ld mz_isI 2 63)), (63, .inl (mz_call rn_X12_has 2 mz_ckT 66)), (66, .inl (mz_j1 mz_eq0 80 69)), (69, .inl (mz_ld mz_isI 3 70)), (70, .inl (mz_j1 mz_eq0 73 78)), (73, .inl (mz_ld mz_isI 5 75)), (75, .inl (mz_go 79)), (78, .inl (mz_push (.inl (-1)) 79)), (79, .inr (mz_rt mz_isI)), (80, .inl (mz_ld mz_isR 0 81)), (81, .inl (mz_ld mz_isI 4 83)), (83, .inl (mz_call rn_X12_forcedBy 2 (mz_ckV 12) 86)), (86, .inl (mz_sto mz_isI mz_p1 6 88))]
theorem tk_X12_forced_2 (E : List mz_V) : mz_all E tM_X12_forced (ck_X12_forced_2) :=
  mz_cons (mz_iconst (-1) (by decide) (show decode cX12_forced 56 = .ok (.iconst (-1), 1) by decide +kernel)) (
  mz_cons (mz_icmp_eq 80 (by decide) (show decode cX12_forced 57 = .ok (.if_icmp .eq 23, 3) by decide +kernel)) (
  mz_cons (mz_iload (show decode cX12_forced 60 = .ok (.iload 4, 2) by decide +kernel)) (
  mz_cons (mz_iload_n (k := 2) (show decode cX12_forced 62 = .ok (.iload_n 2, 1) by decide +kernel)) (
  mz_cons (mz_invS (n := 2) (ctr_X12_has E) ⟨by decide, by decide, by decide +kernel⟩ ⟨by decide, by decide⟩ mw_1131 mw_1129 mw_1130 mw_74 (show decode cX12_forced 63 = .ok (.invokestatic 134, 3) by decide +kernel)) (
  mz_cons (mz_if_eq 80 (by decide) (show decode cX12_forced 66 = .ok (.ifCond .eq 14, 3) by decide +kernel)) (
  mz_cons (mz_iload_n (k := 3) (show decode cX12_forced 69 = .ok (.iload_n 3, 1) by decide +kernel)) (
  mz_cons (mz_if_ne 78 (by decide) (show decode cX12_forced 70 = .ok (.ifCond .ne 8, 3) by decide +kernel)) (
  mz_cons (mz_iload (show decode cX12_forced 73 = .ok (.iload 5, 2) by decide +kernel)) (
  mz_cons (mz_goto 79 (by decide) (show decode cX12_forced 75 = .ok (.goto 4, 3) by decide +kernel)) (
  mz_cons (mz_iconst (-1) (by decide) (show decode cX12_forced 78 = .ok (.iconst (-1), 1) by decide +kernel)) (
  mz_consR (mz_ireturn rfl (show decode cX12_forced 79 = .ok (.ireturn, 1) by decide +kernel)) (
  mz_cons (mz_aload_n (k := 0) (show decode cX12_forced 80 = .ok (.aload_n 0, 1) by decide +kernel)) (
  mz_cons (mz_iload (show decode cX12_forced 81 = .ok (.iload 4, 2) by decide +kernel)) (
  mz_cons (mz_invV (n := 1) (ctr_X12_forcedBy E) rfl ⟨by decide, by decide, by decide +kernel⟩ ⟨by decide, by decide⟩ mw_1234 mw_1231 mw_1233 mw_50 mw_74 (show decode cX12_forced 83 = .ok (.invokevirtual 208, 3) by decide +kernel)) (
  mz_cons (mz_istore (by decide) (show decode cX12_forced 86 = .ok (.istore 6, 2) by decide +kernel)) (
  mz_nil))))))))))))))))
noncomputable def ck_X12_forced_3 : List (Nat × mz_O) := [(88, .inl (mz_ld mz_isI 2 89)), (89, .inl (mz_push (.inl (-1)) 90)), (90, .inl (mz_j2 mz_eq 131 93)), (93, .inl (mz_ld mz_isI 6 95)), (95, .inl (mz_ld mz_isI 2 96)), (96, .inl (mz_call rn_X12_has 2 mz_ckT 99)), (99, .inl (mz_j1 mz_eq0 131 102)), (131, .inl (mz_ld mz_isI 6 133)), (133, .inl (mz_sto mz_isI mz_p1 4 135)), (135, .inl (mz_inc 5 1 138)), (138, .inl (mz_go 48)), (141, .inl (mz_ld mz_isI 2 142)), (142, .inl (mz_push (.inl (-1)) 143)), (143, .inl (mz_j2 mz_eq 146 151)), (146, .inl (mz_ld mz_isI 4 148)), (148, .inl (mz_go 152))]
theorem tk_X12_forced_3 (E : List mz_V) : mz_all E tM_X12_forced (ck_X12_forced_3) :=
  mz_cons (mz_iload_n (k := 2) (show decode cX12_forced 88 = .ok (.iload_n 2, 1) by decide +kernel)) (
  mz_cons (mz_iconst (-1) (by decide) (show decode cX12_forced 89 = .ok (.iconst (-1), 1) by decide +kernel)) (
  mz_cons (mz_icmp_eq 131 (by decide) (show decode cX12_forced 90 = .ok (.if_icmp .eq 41, 3) by decide +kernel)) (
  mz_cons (mz_iload (show decode cX12_forced 93 = .ok (.iload 6, 2) by decide +kernel)) (
  mz_cons (mz_iload_n (k := 2) (show decode cX12_forced 95 = .ok (.iload_n 2, 1) by decide +kernel)) (
  mz_cons (mz_invS (n := 2) (ctr_X12_has E) ⟨by decide, by decide, by decide +kernel⟩ ⟨by decide, by decide⟩ mw_1131 mw_1129 mw_1130 mw_74 (show decode cX12_forced 96 = .ok (.invokestatic 134, 3) by decide +kernel)) (
  mz_cons (mz_if_eq 131 (by decide) (show decode cX12_forced 99 = .ok (.ifCond .eq 32, 3) by decide +kernel)) (
  mz_cons (mz_iload (show decode cX12_forced 131 = .ok (.iload 6, 2) by decide +kernel)) (
  mz_cons (mz_istore (by decide) (show decode cX12_forced 133 = .ok (.istore 4, 2) by decide +kernel)) (
  mz_cons (mz_iinc 1 (by decide) (by decide) (show decode cX12_forced 135 = .ok (.iinc 5 1, 3) by decide +kernel)) (
  mz_cons (mz_goto 48 (by decide) (show decode cX12_forced 138 = .ok (.goto (-90), 3) by decide +kernel)) (
  mz_cons (mz_iload_n (k := 2) (show decode cX12_forced 141 = .ok (.iload_n 2, 1) by decide +kernel)) (
  mz_cons (mz_iconst (-1) (by decide) (show decode cX12_forced 142 = .ok (.iconst (-1), 1) by decide +kernel)) (
  mz_cons (mz_icmp_ne 151 (by decide) (show decode cX12_forced 143 = .ok (.if_icmp .ne 8, 3) by decide +kernel)) (
  mz_cons (mz_iload (show decode cX12_forced 146 = .ok (.iload 4, 2) by decide +kernel)) (
  mz_cons (mz_goto 152 (by decide) (show decode cX12_forced 148 = .ok (.goto 4, 3) by decide +kernel)) (
  mz_nil))))))))))))))))
noncomputable def ck_X12_forced_4 : List (Nat × mz_O) := [(151, .inl (mz_push (.inl (-1)) 152)), (152, .inr (mz_rt mz_isI))]
theorem tk_X12_forced_4 (E : List mz_V) : mz_all E tM_X12_forced (ck_X12_forced_4) :=
  mz_cons (mz_iconst (-1) (by decide) (show decode cX12_forced 151 = .ok (.iconst (-1), 1) by decide +kernel)) (
  mz_consR (mz_ireturn rfl (show decode cX12_forced 152 = .ok (.ireturn, 1) by decide +kernel)) (
  mz_nil))
noncomputable def tb_X12_forced : List (Nat × List (Nat × mz_O)) := [(26, ck_X12_forced_0), (55, ck_X12_forced_1), (86, ck_X12_forced_2), (148, ck_X12_forced_3), (152, ck_X12_forced_4)]
theorem tok_X12_forced (E : List mz_V) : mz_tok E tM_X12_forced (tb_X12_forced) := mz_tcons (tk_X12_forced_0 E) (mz_tcons (tk_X12_forced_1 E) (mz_tcons (tk_X12_forced_2 E) (mz_tcons (tk_X12_forced_3 E) (mz_tcons (tk_X12_forced_4 E) (mz_tnil)))))
noncomputable def rn_X12_forced : List mz_V → List mz_C → Option (Option mz_V × List mz_C) := mz_rn tb_X12_forced 317 8
theorem ctr_X12_forced (E : List mz_V) : mz_ctr E yX12_forced tM_X12_forced rn_X12_forced := mz_ctr_of 317 (tok_X12_forced E) (by decide) rfl rfl
abbrev tM_X12_roundsOf : mz_M := (cX12_roundsOf, 4, (some .int), RX12, "roundsOf", 4, 91)
noncomputable def ck_X12_roundsOf_0 : List (Nat × mz_O) := [(0, .inl (mz_ld mz_isI 1 1)), (1, .inl (mz_sto mz_isI mz_p1 2 2)), (2, .inl (mz_push (.inl 0) 3)), (3, .inl (mz_sto mz_isI mz_p1 3 4)), (4, .inl (mz_ld mz_isI 3 5)), (5, .inl (mz_push (.inl 11) 7)), (7, .inl (mz_j2 mz_lt 10 32)), (10, .inl (mz_ld mz_isI 2 11)), (11, .inl (mz_ld mz_isR 0 12)), (12, .inl (mz_call rn_X12_all 1 (mz_ckV 12) 15)), (15, .inl (mz_j2 mz_eq 18 20)), (18, .inl (mz_ld mz_isI 3 19)), (19, .inr (mz_rt mz_isI)), (20, .inl (mz_ld mz_isR 0 21)), (21, .inl (mz_ld mz_isI 2 22)), (22, .inl (mz_call rn_X12_forcedBy 2 (mz_ckV 12) 25))]
theorem tk_X12_roundsOf_0 (E : List mz_V) : mz_all E tM_X12_roundsOf (ck_X12_roundsOf_0) :=
  mz_cons (mz_iload_n (k := 1) (show decode cX12_roundsOf 0 = .ok (.iload_n 1, 1) by decide +kernel)) (
  mz_cons (mz_istore_n (k := 2) (by decide) (show decode cX12_roundsOf 1 = .ok (.istore_n 2, 1) by decide +kernel)) (
  mz_cons (mz_iconst 0 (by decide) (show decode cX12_roundsOf 2 = .ok (.iconst 0, 1) by decide +kernel)) (
  mz_cons (mz_istore_n (k := 3) (by decide) (show decode cX12_roundsOf 3 = .ok (.istore_n 3, 1) by decide +kernel)) (
  mz_cons (mz_iload_n (k := 3) (show decode cX12_roundsOf 4 = .ok (.iload_n 3, 1) by decide +kernel)) (
  mz_cons (mz_bipush 11 (by decide) (show decode cX12_roundsOf 5 = .ok (.bipush 11, 2) by decide +kernel)) (
  mz_cons (mz_icmp_ge 32 (by decide) (show decode cX12_roundsOf 7 = .ok (.if_icmp .ge 25, 3) by decide +kernel)) (
  mz_cons (mz_iload_n (k := 2) (show decode cX12_roundsOf 10 = .ok (.iload_n 2, 1) by decide +kernel)) (
  mz_cons (mz_aload_n (k := 0) (show decode cX12_roundsOf 11 = .ok (.aload_n 0, 1) by decide +kernel)) (
  mz_cons (mz_invV (n := 0) (ctr_X12_all E) rfl ⟨by decide, by decide, by decide +kernel⟩ ⟨by decide, by decide⟩ mw_1143 mw_1140 mw_1142 mw_40 mw_74 (show decode cX12_roundsOf 12 = .ok (.invokevirtual 131, 3) by decide +kernel)) (
  mz_cons (mz_icmp_ne 20 (by decide) (show decode cX12_roundsOf 15 = .ok (.if_icmp .ne 5, 3) by decide +kernel)) (
  mz_cons (mz_iload_n (k := 3) (show decode cX12_roundsOf 18 = .ok (.iload_n 3, 1) by decide +kernel)) (
  mz_consR (mz_ireturn rfl (show decode cX12_roundsOf 19 = .ok (.ireturn, 1) by decide +kernel)) (
  mz_cons (mz_aload_n (k := 0) (show decode cX12_roundsOf 20 = .ok (.aload_n 0, 1) by decide +kernel)) (
  mz_cons (mz_iload_n (k := 2) (show decode cX12_roundsOf 21 = .ok (.iload_n 2, 1) by decide +kernel)) (
  mz_cons (mz_invV (n := 1) (ctr_X12_forcedBy E) rfl ⟨by decide, by decide, by decide +kernel⟩ ⟨by decide, by decide⟩ mw_1234 mw_1231 mw_1233 mw_50 mw_74 (show decode cX12_roundsOf 22 = .ok (.invokevirtual 208, 3) by decide +kernel)) (
  mz_nil))))))))))))))))
noncomputable def ck_X12_roundsOf_1 : List (Nat × mz_O) := [(25, .inl (mz_sto mz_isI mz_p1 2 26)), (26, .inl (mz_inc 3 1 29)), (29, .inl (mz_go 4)), (32, .inl (mz_push (.inl 268435456) 34)), (34, .inr (mz_rt mz_isI))]
theorem tk_X12_roundsOf_1 (E : List mz_V) : mz_all E tM_X12_roundsOf (ck_X12_roundsOf_1) :=
  mz_cons (mz_istore_n (k := 2) (by decide) (show decode cX12_roundsOf 25 = .ok (.istore_n 2, 1) by decide +kernel)) (
  mz_cons (mz_iinc 1 (by decide) (by decide) (show decode cX12_roundsOf 26 = .ok (.iinc 3 1, 3) by decide +kernel)) (
  mz_cons (mz_goto 4 (by decide) (show decode cX12_roundsOf 29 = .ok (.goto (-25), 3) by decide +kernel)) (
  mz_cons (mz_ldc mw_1152 (show decode cX12_roundsOf 32 = .ok (.ldc 159, 2) by decide +kernel)) (
  mz_consR (mz_ireturn rfl (show decode cX12_roundsOf 34 = .ok (.ireturn, 1) by decide +kernel)) (
  mz_nil)))))
noncomputable def tb_X12_roundsOf : List (Nat × List (Nat × mz_O)) := [(22, ck_X12_roundsOf_0), (34, ck_X12_roundsOf_1)]
theorem tok_X12_roundsOf (E : List mz_V) : mz_tok E tM_X12_roundsOf (tb_X12_roundsOf) := mz_tcons (tk_X12_roundsOf_0 E) (mz_tcons (tk_X12_roundsOf_1 E) (mz_tnil))
noncomputable def rn_X12_roundsOf : List mz_V → List mz_C → Option (Option mz_V × List mz_C) := mz_rn tb_X12_roundsOf 162 4
theorem ctr_X12_roundsOf (E : List mz_V) : mz_ctr E yX12_roundsOf tM_X12_roundsOf rn_X12_roundsOf := mz_ctr_of 162 (tok_X12_roundsOf E) (by decide) rfl rfl
