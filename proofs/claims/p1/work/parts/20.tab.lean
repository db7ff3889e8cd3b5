abbrev tM_X12_forcers : mz_M := (cX12_forcers, 9, (some .int), RX12, "forcers", 5, 114)
noncomputable def ck_X12_forcers_0 : List (Nat × mz_O) := [(0, .inl (mz_ld mz_isI 1 1)), (1, .inl (mz_o1 mz_f_i2l 2)), (2, .inl (mz_push (.inr (.inl 0)) 3)), (3, .inl (mz_push (.inr (.inl 4)) 6)), (6, .inl (mz_call rn_X12_in 3 mz_ckT 9)), (9, .inl (mz_j1 mz_eq0 12 15)), (12, .inl (mz_push (.inl (-3)) 14)), (14, .inr (mz_rt mz_isI)), (15, .inl (mz_push (.inl (-1)) 16)), (16, .inl (mz_sto mz_isI mz_p1 2 17)), (17, .inl (mz_push (.inl 0) 18)), (18, .inl (mz_sto mz_isI mz_p1 3 19)), (19, .inl (mz_push (.inl (-1)) 20)), (20, .inl (mz_sto mz_isI mz_p1 4 22)), (22, .inl (mz_push (.inl 268435456) 24)), (24, .inl (mz_sto mz_isI mz_p1 5 26))]
theorem tk_X12_forcers_0 (E : List mz_V) : mz_all E tM_X12_forcers (ck_X12_forcers_0) :=
  mz_cons (mz_iload_n (k := 1) (show decode cX12_forcers 0 = .ok (.iload_n 1, 1) by decide +kernel)) (
  mz_cons (mz_i2l (show decode cX12_forcers 1 = .ok (.i2l, 1) by decide +kernel)) (
  mz_cons (mz_lconst 0 (by decide) (show decode cX12_forcers 2 = .ok (.lconst 0, 1) by decide +kernel)) (
  mz_cons (mz_ldc2 mw_1193 (show decode cX12_forcers 3 = .ok (.ldc2_w 192, 3) by decide +kernel)) (
  mz_cons (mz_invS (n := 3) (ctr_X12_in E) ⟨by decide, by decide, by decide +kernel⟩ ⟨by decide, by decide⟩ mw_1068 mw_1066 mw_1067 mw_74 (show decode cX12_forcers 6 = .ok (.invokestatic 65, 3) by decide +kernel)) (
  mz_cons (mz_if_ne 15 (by decide) (show decode cX12_forcers 9 = .ok (.ifCond .ne 6, 3) by decide +kernel)) (
  mz_cons (mz_bipush (-3) (by decide) (show decode cX12_forcers 12 = .ok (.bipush (-3), 2) by decide +kernel)) (
  mz_consR (mz_ireturn rfl (show decode cX12_forcers 14 = .ok (.ireturn, 1) by decide +kernel)) (
  mz_cons (mz_iconst (-1) (by decide) (show decode cX12_forcers 15 = .ok (.iconst (-1), 1) by decide +kernel)) (
  mz_cons (mz_istore_n (k := 2) (by decide) (show decode cX12_forcers 16 = .ok (.istore_n 2, 1) by decide +kernel)) (
  mz_cons (mz_iconst 0 (by decide) (show decode cX12_forcers 17 = .ok (.iconst 0, 1) by decide +kernel)) (
  mz_cons (mz_istore_n (k := 3) (by decide) (show decode cX12_forcers 18 = .ok (.istore_n 3, 1) by decide +kernel)) (
  mz_cons (mz_iconst (-1) (by decide) (show decode cX12_forcers 19 = .ok (.iconst (-1), 1) by decide +kernel)) (
  mz_cons (mz_istore (by decide) (show decode cX12_forcers 20 = .ok (.istore 4, 2) by decide +kernel)) (
  mz_cons (mz_ldc mw_1152 (show decode cX12_forcers 22 = .ok (.ldc 159, 2) by decide +kernel)) (
  mz_cons (mz_istore (by decide) (show decode cX12_forcers 24 = .ok (.istore 5, 2) by decide +kernel)) (
  mz_nil))))))))))))))))
noncomputable def ck_X12_forcers_1 : List (Nat × mz_O) := [(26, .inl (mz_push (.inl 0) 27)), (27, .inl (mz_sto mz_isI mz_p1 6 29)), (29, .inl (mz_ld mz_isI 6 31)), (31, .inl (mz_ld mz_isR 0 32)), (32, .inl (mz_call rn_X12_all 1 (mz_ckV 12) 35)), (35, .inl (mz_j2 mz_gt 174 38)), (38, .inl (mz_ld mz_isR 0 39)), (39, .inl (mz_ld mz_isI 6 41)), (41, .inl (mz_call rn_X12_roundsOf 2 (mz_ckV 12) 44)), (44, .inl (mz_sto mz_isI mz_p1 7 46)), (46, .inl (mz_ld mz_isI 7 48)), (48, .inl (mz_push (.inl 268435456) 50)), (50, .inl (mz_j2 mz_lt 53 168)), (53, .inl (mz_ld mz_isI 2 54)), (54, .inl (mz_push (.inl (-1)) 55)), (55, .inl (mz_j2 mz_eq 70 58))]
theorem tk_X12_forcers_1 (E : List mz_V) : mz_all E tM_X12_forcers (ck_X12_forcers_1) :=
  mz_cons (mz_iconst 0 (by decide) (show decode cX12_forcers 26 = .ok (.iconst 0, 1) by decide +kernel)) (
  mz_cons (mz_istore (by decide) (show decode cX12_forcers 27 = .ok (.istore 6, 2) by decide +kernel)) (
  mz_cons (mz_iload (show decode cX12_forcers 29 = .ok (.iload 6, 2) by decide +kernel)) (
  mz_cons (mz_aload_n (k := 0) (show decode cX12_forcers 31 = .ok (.aload_n 0, 1) by decide +kernel)) (
  mz_cons (mz_invV (n := 0) (ctr_X12_all E) rfl ⟨by decide, by decide, by decide +kernel⟩ ⟨by decide, by decide⟩ mw_1143 mw_1140 mw_1142 mw_40 mw_74 (show decode cX12_forcers 32 = .ok (.invokevirtual 131, 3) by decide +kernel)) (
  mz_cons (mz_icmp_gt 174 (by decide) (show decode cX12_forcers 35 = .ok (.if_icmp .gt 139, 3) by decide +kernel)) (
  mz_cons (mz_aload_n (k := 0) (show decode cX12_forcers 38 = .ok (.aload_n 0, 1) by decide +kernel)) (
  mz_cons (mz_iload (show decode cX12_forcers 39 = .ok (.iload 6, 2) by decide +kernel)) (
  mz_cons (mz_invV (n := 1) (ctr_X12_roundsOf E) rfl ⟨by decide, by decide, by decide +kernel⟩ ⟨by decide, by decide⟩ mw_1246 mw_1243 mw_1245 mw_52 mw_74 (show decode cX12_forcers 41 = .ok (.invokevirtual 211, 3) by decide +kernel)) (
  mz_cons (mz_istore (by decide) (show decode cX12_forcers 44 = .ok (.istore 7, 2) by decide +kernel)) (
  mz_cons (mz_iload (show decode cX12_forcers 46 = .ok (.iload 7, 2) by decide +kernel)) (
  mz_cons (mz_ldc mw_1152 (show decode cX12_forcers 48 = .ok (.ldc 159, 2) by decide +kernel)) (
  mz_cons (mz_icmp_ge 168 (by decide) (show decode cX12_forcers 50 = .ok (.if_icmp .ge 118, 3) by decide +kernel)) (
  mz_cons (mz_iload_n (k := 2) (show decode cX12_forcers 53 = .ok (.iload_n 2, 1) by decide +kernel)) (
  mz_cons (mz_iconst (-1) (by decide) (show decode cX12_forcers 54 = .ok (.iconst (-1), 1) by decide +kernel)) (
  mz_cons (mz_icmp_eq 70 (by decide) (show decode cX12_forcers 55 = .ok (.if_icmp .eq 15, 3) by decide +kernel)) (
  mz_nil))))))))))))))))
noncomputable def ck_X12_forcers_2 : List (Nat × mz_O) := [(70, .inl (mz_push (.inl 1) 71)), (71, .inl (mz_go 75)), (75, .inl (mz_sto mz_isI mz_p1 8 77)), (77, .inl (mz_ld mz_isI 8 79)), (79, .inl (mz_j1 mz_eq0 86 82)), (82, .inl (mz_push (.inl 1) 83)), (83, .inl (mz_go 105)), (105, .inl (mz_sto mz_isI mz_p1 3 106)), (106, .inl (mz_ld mz_isI 8 108)), (108, .inl (mz_j1 mz_eq0 116 111)), (111, .inl (mz_ld mz_isI 6 113)), (113, .inl (mz_go 117)), (117, .inl (mz_sto mz_isI mz_p1 2 118)), (118, .inl (mz_ld mz_isI 6 120)), (120, .inl (mz_call rn_X12_many 1 mz_ckT 123)), (123, .inl (mz_ld mz_isI 7 125))]
theorem tk_X12_forcers_2 (E : List mz_V) : mz_all E tM_X12_forcers (ck_X12_forcers_2) :=
  mz_cons (mz_iconst 1 (by decide) (show decode cX12_forcers 70 = .ok (.iconst 1, 1) by decide +kernel)) (
  mz_cons (mz_goto 75 (by decide) (show decode cX12_forcers 71 = .ok (.goto 4, 3) by decide +kernel)) (
  mz_cons (mz_istore (by decide) (show decode cX12_forcers 75 = .ok (.istore 8, 2) by decide +kernel)) (
  mz_cons (mz_iload (show decode cX12_forcers 77 = .ok (.iload 8, 2) by decide +kernel)) (
  mz_cons (mz_if_eq 86 (by decide) (show decode cX12_forcers 79 = .ok (.ifCond .eq 7, 3) by decide +kernel)) (
  mz_cons (mz_iconst 1 (by decide) (show decode cX12_forcers 82 = .ok (.iconst 1, 1) by decide +kernel)) (
  mz_cons (mz_goto 105 (by decide) (show decode cX12_forcers 83 = .ok (.goto 22, 3) by decide +kernel)) (
  mz_cons (mz_istore_n (k := 3) (by decide) (show decode cX12_forcers 105 = .ok (.istore_n 3, 1) by decide +kernel)) (
  mz_cons (mz_iload (show decode cX12_forcers 106 = .ok (.iload 8, 2) by decide +kernel)) (
  mz_cons (mz_if_eq 116 (by decide) (show decode cX12_forcers 108 = .ok (.ifCond .eq 8, 3) by decide +kernel)) (
  mz_cons (mz_iload (show decode cX12_forcers 111 = .ok (.iload 6, 2) by decide +kernel)) (
  mz_cons (mz_goto 117 (by decide) (show decode cX12_forcers 113 = .ok (.goto 4, 3) by decide +kernel)) (
  mz_cons (mz_istore_n (k := 2) (by decide) (show decode cX12_forcers 117 = .ok (.istore_n 2, 1) by decide +kernel)) (
  mz_cons (mz_iload (show decode cX12_forcers 118 = .ok (.iload 6, 2) by decide +kernel)) (
  mz_cons (mz_invS (n := 1) (ctr_X12_many E) ⟨by decide, by decide, by decide +kernel⟩ ⟨by decide, by decide⟩ mw_1151 mw_1149 mw_1150 mw_74 (show decode cX12_forcers 120 = .ok (.invokestatic 143, 3) by decide +kernel)) (
  mz_cons (mz_iload (show decode cX12_forcers 123 = .ok (.iload 7, 2) by decide +kernel)) (
  mz_nil))))))))))))))))
noncomputable def ck_X12_forcers_3 : List (Nat × mz_O) := [(125, .inl (mz_o2 mz_f_iadd 126)), (126, .inl (mz_ld mz_isI 5 128)), (128, .inl (mz_j2 mz_lt 131 136)), (131, .inl (mz_ld mz_isI 6 133)), (133, .inl (mz_go 138)), (138, .inl (mz_sto mz_isI mz_p1 4 140)), (140, .inl (mz_ld mz_isI 6 142)), (142, .inl (mz_call rn_X12_many 1 mz_ckT 145)), (145, .inl (mz_ld mz_isI 7 147)), (147, .inl (mz_o2 mz_f_iadd 148)), (148, .inl (mz_ld mz_isI 5 150)), (150, .inl (mz_j2 mz_lt 153 164)), (153, .inl (mz_ld mz_isI 6 155)), (155, .inl (mz_call rn_X12_many 1 mz_ckT 158)), (158, .inl (mz_ld mz_isI 7 160)), (160, .inl (mz_o2 mz_f_iadd 161))]
theorem tk_X12_forcers_3 (E : List mz_V) : mz_all E tM_X12_forcers (ck_X12_forcers_3) :=
  mz_cons (mz_iadd (show decode cX12_forcers 125 = .ok (.iadd, 1) by decide +kernel)) (
  mz_cons (mz_iload (show decode cX12_forcers 126 = .ok (.iload 5, 2) by decide +kernel)) (
  mz_cons (mz_icmp_ge 136 (by decide) (show decode cX12_forcers 128 = .ok (.if_icmp .ge 8, 3) by decide +kernel)) (
  mz_cons (mz_iload (show decode cX12_forcers 131 = .ok (.iload 6, 2) by decide +kernel)) (
  mz_cons (mz_goto 138 (by decide) (show decode cX12_forcers 133 = .ok (.goto 5, 3) by decide +kernel)) (
  mz_cons (mz_istore (by decide) (show decode cX12_forcers 138 = .ok (.istore 4, 2) by decide +kernel)) (
  mz_cons (mz_iload (show decode cX12_forcers 140 = .ok (.iload 6, 2) by decide +kernel)) (
  mz_cons (mz_invS (n := 1) (ctr_X12_many E) ⟨by decide, by decide, by decide +kernel⟩ ⟨by decide, by decide⟩ mw_1151 mw_1149 mw_1150 mw_74 (show decode cX12_forcers 142 = .ok (.invokestatic 143, 3) by decide +kernel)) (
  mz_cons (mz_iload (show decode cX12_forcers 145 = .ok (.iload 7, 2) by decide +kernel)) (
  mz_cons (mz_iadd (show decode cX12_forcers 147 = .ok (.iadd, 1) by decide +kernel)) (
  mz_cons (mz_iload (show decode cX12_forcers 148 = .ok (.iload 5, 2) by decide +kernel)) (
  mz_cons (mz_icmp_ge 164 (by decide) (show decode cX12_forcers 150 = .ok (.if_icmp .ge 14, 3) by decide +kernel)) (
  mz_cons (mz_iload (show decode cX12_forcers 153 = .ok (.iload 6, 2) by decide +kernel)) (
  mz_cons (mz_invS (n := 1) (ctr_X12_many E) ⟨by decide, by decide, by decide +kernel⟩ ⟨by decide, by decide⟩ mw_1151 mw_1149 mw_1150 mw_74 (show decode cX12_forcers 155 = .ok (.invokestatic 143, 3) by decide +kernel)) (
  mz_cons (mz_iload (show decode cX12_forcers 158 = .ok (.iload 7, 2) by decide +kernel)) (
  mz_cons (mz_iadd (show decode cX12_forcers 160 = .ok (.iadd, 1) by decide +kernel)) (
  mz_nil))))))))))))))))
noncomputable def ck_X12_forcers_4 : List (Nat × mz_O) := [(161, .inl (mz_go 166)), (166, .inl (mz_sto mz_isI mz_p1 5 168)), (168, .inl (mz_inc 6 1 171)), (171, .inl (mz_go 29)), (174, .inl (mz_ld mz_isI 1 175)), (175, .inl (mz_j1 mz_eq0 178 185)), (178, .inl (mz_ld mz_isI 2 179)), (179, .inl (mz_call rn_X12_many 1 mz_ckT 182)), (182, .inl (mz_go 215)), (185, .inl (mz_ld mz_isI 1 186)), (186, .inl (mz_push (.inl 1) 187)), (187, .inl (mz_j2 mz_eq 190 194)), (190, .inl (mz_ld mz_isI 2 191)), (191, .inl (mz_go 215)), (194, .inl (mz_ld mz_isI 1 195)), (195, .inl (mz_push (.inl 2) 196))]
theorem tk_X12_forcers_4 (E : List mz_V) : mz_all E tM_X12_forcers (ck_X12_forcers_4) :=
  mz_cons (mz_goto 166 (by decide) (show decode cX12_forcers 161 = .ok (.goto 5, 3) by decide +kernel)) (
  mz_cons (mz_istore (by decide) (show decode cX12_forcers 166 = .ok (.istore 5, 2) by decide +kernel)) (
  mz_cons (mz_iinc 1 (by decide) (by decide) (show decode cX12_forcers 168 = .ok (.iinc 6 1, 3) by decide +kernel)) (
  mz_cons (mz_goto 29 (by decide) (show decode cX12_forcers 171 = .ok (.goto (-142), 3) by decide +kernel)) (
  mz_cons (mz_iload_n (k := 1) (show decode cX12_forcers 174 = .ok (.iload_n 1, 1) by decide +kernel)) (
  mz_cons (mz_if_ne 185 (by decide) (show decode cX12_forcers 175 = .ok (.ifCond .ne 10, 3) by decide +kernel)) (
  mz_cons (mz_iload_n (k := 2) (show decode cX12_forcers 178 = .ok (.iload_n 2, 1) by decide +kernel)) (
  mz_cons (mz_invS (n := 1) (ctr_X12_many E) ⟨by decide, by decide, by decide +kernel⟩ ⟨by decide, by decide⟩ mw_1151 mw_1149 mw_1150 mw_74 (show decode cX12_forcers 179 = .ok (.invokestatic 143, 3) by decide +kernel)) (
  mz_cons (mz_goto 215 (by decide) (show decode cX12_forcers 182 = .ok (.goto 33, 3) by decide +kernel)) (
  mz_cons (mz_iload_n (k := 1) (show decode cX12_forcers 185 = .ok (.iload_n 1, 1) by decide +kernel)) (
  mz_cons (mz_iconst 1 (by decide) (show decode cX12_forcers 186 = .ok (.iconst 1, 1) by decide +kernel)) (
  mz_cons (mz_icmp_ne 194 (by decide) (show decode cX12_forcers 187 = .ok (.if_icmp .ne 7, 3) by decide +kernel)) (
  mz_cons (mz_iload_n (k := 2) (show decode cX12_forcers 190 = .ok (.iload_n 2, 1) by decide +kernel)) (
  mz_cons (mz_goto 215 (by decide) (show decode cX12_forcers 191 = .ok (.goto 24, 3) by decide +kernel)) (
  mz_cons (mz_iload_n (k := 1) (show decode cX12_forcers 194 = .ok (.iload_n 1, 1) by decide +kernel)) (
  mz_cons (mz_iconst 2 (by decide) (show decode cX12_forcers 195 = .ok (.iconst 2, 1) by decide +kernel)) (
  mz_nil))))))))))))))))
noncomputable def ck_X12_forcers_5 : List (Nat × mz_O) := [(196, .inl (mz_j2 mz_eq 199 203)), (199, .inl (mz_ld mz_isI 3 200)), (200, .inl (mz_go 215)), (203, .inl (mz_ld mz_isI 1 204)), (204, .inl (mz_push (.inl 3) 205)), (205, .inl (mz_j2 mz_eq 208 213)), (208, .inl (mz_ld mz_isI 5 210)), (210, .inl (mz_go 215)), (213, .inl (mz_ld mz_isI 4 215)), (215, .inr (mz_rt mz_isI))]
theorem tk_X12_forcers_5 (E : List mz_V) : mz_all E tM_X12_forcers (ck_X12_forcers_5) :=
  mz_cons (mz_icmp_ne 203 (by decide) (show decode cX12_forcers 196 = .ok (.if_icmp .ne 7, 3) by decide +kernel)) (
  mz_cons (mz_iload_n (k := 3) (show decode cX12_forcers 199 = .ok (.iload_n 3, 1) by decide +kernel)) (
  mz_cons (mz_goto 215 (by decide) (show decode cX12_forcers 200 = .ok (.goto 15, 3) by decide +kernel)) (
  mz_cons (mz_iload_n (k := 1) (show decode cX12_forcers 203 = .ok (.iload_n 1, 1) by decide +kernel)) (
  mz_cons (mz_iconst 3 (by decide) (show decode cX12_forcers 204 = .ok (.iconst 3, 1) by decide +kernel)) (
  mz_cons (mz_icmp_ne 213 (by decide) (show decode cX12_forcers 205 = .ok (.if_icmp .ne 8, 3) by decide +kernel)) (
  mz_cons (mz_iload (show decode cX12_forcers 208 = .ok (.iload 5, 2) by decide +kernel)) (
  mz_cons (mz_goto 215 (by decide) (show decode cX12_forcers 210 = .ok (.goto 5, 3) by decide +kernel)) (
  mz_cons (mz_iload (show decode cX12_forcers 213 = .ok (.iload 4, 2) by decide +kernel)) (
  mz_consR (mz_ireturn rfl (show decode cX12_forcers 215 = .ok (.ireturn, 1) by decide +kernel)) (
  mz_nil))))))))))
noncomputable def tb_X12_forcers : List (Nat × List (Nat × mz_O)) := [(24, ck_X12_forcers_0), (55, ck_X12_forcers_1), (123, ck_X12_forcers_2), (160, ck_X12_forcers_3), (195, ck_X12_forcers_4), (215, ck_X12_forcers_5)]
theorem tok_X12_forcers (E : List mz_V) : mz_tok E tM_X12_forcers (tb_X12_forcers) := mz_tcons (tk_X12_forcers_0 E) (mz_tcons (tk_X12_forcers_1 E) (mz_tcons (tk_X12_forcers_2 E) (mz_tcons (tk_X12_forcers_3 E) (mz_tcons (tk_X12_forcers_4 E) (mz_tcons (tk_X12_forcers_5 E) (mz_tnil))))))
noncomputable def rn_X12_forcers : List mz_V → List mz_C → Option (Option mz_V × List mz_C) := mz_rn tb_X12_forcers 107 9
theorem ctr_X12_forcers (E : List mz_V) : mz_ctr E yX12_forcers tM_X12_forcers rn_X12_forcers := mz_ctr_of 107 (tok_X12_forcers E) (by decide) rfl rfl
abbrev tM_X12_hold : mz_M := (cX12_hold, 4, (some .int), RX12, "hold", 6, 141)
noncomputable def ck_X12_hold_0 : List (Nat × mz_O) := [(0, .inl (mz_ld mz_isR 0 1)), (1, .inl (mz_ld mz_isI 1 2)), (2, .inl (mz_call rn_X12_isSetOf 2 (mz_ckV 12) 5)), (5, .inl (mz_j1 mz_eq0 20 8)), (8, .inl (mz_ld mz_isI 2 9)), (9, .inl (mz_o1 mz_f_i2l 10)), (10, .inl (mz_push (.inr (.inl 0)) 11)), (11, .inl (mz_push (.inr (.inl 999)) 14)), (14, .inl (mz_call rn_X12_in 3 mz_ckT 17)), (17, .inl (mz_j1 mz_eq0 20 23)), (20, .inl (mz_push (.inl (-3)) 22)), (22, .inr (mz_rt mz_isI)), (23, .inl (mz_push (.inl 1) 24)), (24, .inl (mz_sto mz_isI mz_p1 3 25)), (25, .inl (mz_ld mz_isI 3 26)), (26, .inl (mz_push (.inl 10) 28))]
theorem tk_X12_hold_0 (E : List mz_V) : mz_all E tM_X12_hold (ck_X12_hold_0) :=
  mz_cons (mz_aload_n (k := 0) (show decode cX12_hold 0 = .ok (.aload_n 0, 1) by decide +kernel)) (
  mz_cons (mz_iload_n (k := 1) (show decode cX12_hold 1 = .ok (.iload_n 1, 1) by decide +kernel)) (
  mz_cons (mz_invV (n := 1) (ctr_X12_isSetOf E) rfl ⟨by decide, by decide, by decide +kernel⟩ ⟨by decide, by decide⟩ mw_1139 mw_1136 mw_1138 mw_39 mw_74 (show decode cX12_hold 2 = .ok (.invokevirtual 167, 3) by decide +kernel)) (
  mz_cons (mz_if_eq 20 (by decide) (show decode cX12_hold 5 = .ok (.ifCond .eq 15, 3) by decide +kernel)) (
  mz_cons (mz_iload_n (k := 2) (show decode cX12_hold 8 = .ok (.iload_n 2, 1) by decide +kernel)) (
  mz_cons (mz_i2l (show decode cX12_hold 9 = .ok (.i2l, 1) by decide +kernel)) (
  mz_cons (mz_lconst 0 (by decide) (show decode cX12_hold 10 = .ok (.lconst 0, 1) by decide +kernel)) (
  mz_cons (mz_ldc2 mw_1180 (show decode cX12_hold 11 = .ok (.ldc2_w 175, 3) by decide +kernel)) (
  mz_cons (mz_invS (n := 3) (ctr_X12_in E) ⟨by decide, by decide, by decide +kernel⟩ ⟨by decide, by decide⟩ mw_1068 mw_1066 mw_1067 mw_74 (show decode cX12_hold 14 = .ok (.invokestatic 65, 3) by decide +kernel)) (
  mz_cons (mz_if_ne 23 (by decide) (show decode cX12_hold 17 = .ok (.ifCond .ne 6, 3) by decide +kernel)) (
  mz_cons (mz_bipush (-3) (by decide) (show decode cX12_hold 20 = .ok (.bipush (-3), 2) by decide +kernel)) (
  mz_consR (mz_ireturn rfl (show decode cX12_hold 22 = .ok (.ireturn, 1) by decide +kernel)) (
  mz_cons (mz_iconst 1 (by decide) (show decode cX12_hold 23 = .ok (.iconst 1, 1) by decide +kernel)) (
  mz_cons (mz_istore_n (k := 3) (by decide) (show decode cX12_hold 24 = .ok (.istore_n 3, 1) by decide +kernel)) (
  mz_cons (mz_iload_n (k := 3) (show decode cX12_hold 25 = .ok (.iload_n 3, 1) by decide +kernel)) (
  mz_cons (mz_bipush 10 (by decide) (show decode cX12_hold 26 = .ok (.bipush 10, 2) by decide +kernel)) (
  mz_nil))))))))))))))))
noncomputable def ck_X12_hold_1 : List (Nat × mz_O) := [(28, .inl (mz_j2 mz_lt 31 58)), (31, .inl (mz_ld mz_isR 0 32)), (32, .inl (mz_ld mz_isI 3 33)), (33, .inl (mz_call rn_X12_layLost 2 (mz_ckV 12) 36)), (36, .inl (mz_ld mz_isR 0 37)), (37, .inl (mz_gf 12 14 40)), (40, .inl (mz_ld mz_isI 1 41)), (41, .inl (mz_push (.inl 0) 42)), (42, .inl (mz_call rn_X12_code 2 mz_ckT 45)), (45, .inl (mz_al false 46)), (46, .inl (mz_ld mz_isI 2 47)), (47, .inl (mz_j2 mz_gt 52 50)), (50, .inl (mz_ld mz_isI 3 51)), (51, .inr (mz_rt mz_isI)), (52, .inl (mz_inc 3 1 55)), (55, .inl (mz_go 25))]
theorem tk_X12_hold_1 (E : List mz_V) : mz_all E tM_X12_hold (ck_X12_hold_1) :=
  mz_cons (mz_icmp_ge 58 (by decide) (show decode cX12_hold 28 = .ok (.if_icmp .ge 30, 3) by decide +kernel)) (
  mz_cons (mz_aload_n (k := 0) (show decode cX12_hold 31 = .ok (.aload_n 0, 1) by decide +kernel)) (
  mz_cons (mz_iload_n (k := 3) (show decode cX12_hold 32 = .ok (.iload_n 3, 1) by decide +kernel)) (
  mz_cons (mz_invV (n := 1) (ctr_X12_layLost E) rfl ⟨by decide, by decide, by decide +kernel⟩ ⟨by decide, by decide⟩ mw_1148 mw_1145 mw_1147 mw_41 mw_74 (show decode cX12_hold 33 = .ok (.invokevirtual 172, 3) by decide +kernel)) (
  mz_cons (mz_aload_n (k := 0) (show decode cX12_hold 36 = .ok (.aload_n 0, 1) by decide +kernel)) (
  mz_cons (mz_getfield (C := RX12) (T := TX12) (N := 29) rfl mz_inX12 (by decide) mw_986 (show decode cX12_hold 37 = .ok (.getfield 35, 3) by decide +kernel)) (
  mz_cons (mz_iload_n (k := 1) (show decode cX12_hold 40 = .ok (.iload_n 1, 1) by decide +kernel)) (
  mz_cons (mz_iconst 0 (by decide) (show decode cX12_hold 41 = .ok (.iconst 0, 1) by decide +kernel)) (
  mz_cons (mz_invS (n := 2) (ctr_X12_code E) ⟨by decide, by decide, by decide +kernel⟩ ⟨by decide, by decide⟩ mw_1175 mw_1173 mw_1174 mw_74 (show decode cX12_hold 42 = .ok (.invokestatic 156, 3) by decide +kernel)) (
  mz_cons (mz_iaload (show decode cX12_hold 45 = .ok (.iaload, 1) by decide +kernel)) (
  mz_cons (mz_iload_n (k := 2) (show decode cX12_hold 46 = .ok (.iload_n 2, 1) by decide +kernel)) (
  mz_cons (mz_icmp_gt 52 (by decide) (show decode cX12_hold 47 = .ok (.if_icmp .gt 5, 3) by decide +kernel)) (
  mz_cons (mz_iload_n (k := 3) (show decode cX12_hold 50 = .ok (.iload_n 3, 1) by decide +kernel)) (
  mz_consR (mz_ireturn rfl (show decode cX12_hold 51 = .ok (.ireturn, 1) by decide +kernel)) (
  mz_cons (mz_iinc 1 (by decide) (by decide) (show decode cX12_hold 52 = .ok (.iinc 3 1, 3) by decide +kernel)) (
  mz_cons (mz_goto 25 (by decide) (show decode cX12_hold 55 = .ok (.goto (-30), 3) by decide +kernel)) (
  mz_nil))))))))))))))))
noncomputable def ck_X12_hold_2 : List (Nat × mz_O) := [(58, .inl (mz_push (.inl (-1)) 59)), (59, .inr (mz_rt mz_isI))]
theorem tk_X12_hold_2 (E : List mz_V) : mz_all E tM_X12_hold (ck_X12_hold_2) :=
  mz_cons (mz_iconst (-1) (by decide) (show decode cX12_hold 58 = .ok (.iconst (-1), 1) by decide +kernel)) (
  mz_consR (mz_ireturn rfl (show decode cX12_hold 59 = .ok (.ireturn, 1) by decide +kernel)) (
  mz_nil))
noncomputable def tb_X12_hold : List (Nat × List (Nat × mz_O)) := [(26, ck_X12_hold_0), (55, ck_X12_hold_1), (59, ck_X12_hold_2)]
theorem tok_X12_hold (E : List mz_V) : mz_tok E tM_X12_hold (tb_X12_hold) := mz_tcons (tk_X12_hold_0 E) (mz_tcons (tk_X12_hold_1 E) (mz_tcons (tk_X12_hold_2 E) (mz_tnil)))
noncomputable def rn_X12_hold : List mz_V → List mz_C → Option (Option mz_V × List mz_C) := mz_rn tb_X12_hold 171 4
theorem ctr_X12_hold (E : List mz_V) : mz_ctr E yX12_hold tM_X12_hold rn_X12_hold := mz_ctr_of 171 (tok_X12_hold E) (by decide) rfl rfl
abbrev tM_X12_init : mz_M := (cX12_init, 1, none, RX12, "<init>", 1, 22)
noncomputable def ck_X12_init_0 : List (Nat × mz_O) := [(0, .inl (mz_ld mz_isR 0 1)), (1, .inl (mz_oi 4)), (4, .inl (mz_ld mz_isR 0 5)), (5, .inl (mz_push (.inl 200) 8)), (8, .inl (mz_na false 10)), (10, .inl (mz_pf 12 0 mz_isQ 13)), (13, .inl (mz_ld mz_isR 0 14)), (14, .inl (mz_push (.inl 48) 16)), (16, .inl (mz_na false 18)), (18, .inl (mz_pf 12 2 mz_isQ 21)), (21, .inl (mz_ld mz_isR 0 22)), (22, .inl (mz_push (.inl 1) 23)), (23, .inl (mz_pf 12 4 mz_isI 26)), (26, .inl (mz_ld mz_isR 0 27)), (27, .inl (mz_push (.inl 9) 29)), (29, .inl (mz_na false 31))]
theorem tk_X12_init_0 (E : List mz_V) : mz_all E tM_X12_init (ck_X12_init_0) :=
  mz_cons (mz_aload_n (k := 0) (show decode cX12_init 0 = .ok (.aload_n 0, 1) by decide +kernel)) (
  mz_cons (mz_objInit (by decide) (by decide) mw_971 mw_86 mw_87 (show decode cX12_init 1 = .ok (.invokespecial 1, 3) by decide +kernel)) (
  mz_cons (mz_aload_n (k := 0) (show decode cX12_init 4 = .ok (.aload_n 0, 1) by decide +kernel)) (
  mz_cons (mz_sipush 200 (by decide) (show decode cX12_init 5 = .ok (.sipush 200, 3) by decide +kernel)) (
  mz_cons (mz_newI mw_127 (show decode cX12_init 8 = .ok (.newarray .int, 2) by decide +kernel)) (
  mz_cons (mz_putfieldF (C := RX12) (T := TX12) (N := 29) rfl mz_inX12 tyX12_ok nmX12 (by decide) mz_fit_arr rfl rfl rfl mw_972 (show decode cX12_init 10 = .ok (.putfield 7, 3) by decide +kernel)) (
  mz_cons (mz_aload_n (k := 0) (show decode cX12_init 13 = .ok (.aload_n 0, 1) by decide +kernel)) (
  mz_cons (mz_bipush 48 (by decide) (show decode cX12_init 14 = .ok (.bipush 48, 2) by decide +kernel)) (
  mz_cons (mz_newI mw_127 (show decode cX12_init 16 = .ok (.newarray .int, 2) by decide +kernel)) (
  mz_cons (mz_putfieldF (C := RX12) (T := TX12) (N := 29) rfl mz_inX12 tyX12_ok nmX12 (by decide) mz_fit_arr rfl rfl rfl mw_974 (show decode cX12_init 18 = .ok (.putfield 13, 3) by decide +kernel)) (
  mz_cons (mz_aload_n (k := 0) (show decode cX12_init 21 = .ok (.aload_n 0, 1) by decide +kernel)) (
  mz_cons (mz_iconst 1 (by decide) (show decode cX12_init 22 = .ok (.iconst 1, 1) by decide +kernel)) (
  mz_cons (mz_putfield (C := RX12) (T := TX12) (N := 29) rfl mz_inX12 tyX12_ok nmX12 (by decide) mz_fit_int rfl mw_976 (show decode cX12_init 23 = .ok (.putfield 16, 3) by decide +kernel)) (
  mz_cons (mz_aload_n (k := 0) (show decode cX12_init 26 = .ok (.aload_n 0, 1) by decide +kernel)) (
  mz_cons (mz_bipush 9 (by decide) (show decode cX12_init 27 = .ok (.bipush 9, 2) by decide +kernel)) (
  mz_cons (mz_newI mw_127 (show decode cX12_init 29 = .ok (.newarray .int, 2) by decide +kernel)) (
  mz_nil))))))))))))))))
noncomputable def ck_X12_init_1 : List (Nat × mz_O) := [(31, .inl (mz_pf 12 5 mz_isQ 34)), (34, .inl (mz_ld mz_isR 0 35)), (35, .inl (mz_push (.inl 9) 37)), (37, .inl (mz_na false 39)), (39, .inl (mz_dp 40)), (40, .inl (mz_push (.inl 0) 41)), (41, .inl (mz_push (.inl 1) 42)), (42, .inl (mz_ast false mz_isI 43)), (43, .inl (mz_dp 44)), (44, .inl (mz_push (.inl 1) 45)), (45, .inl (mz_push (.inl 1) 46)), (46, .inl (mz_ast false mz_isI 47)), (47, .inl (mz_dp 48)), (48, .inl (mz_push (.inl 2) 49)), (49, .inl (mz_push (.inl 1) 50)), (50, .inl (mz_ast false mz_isI 51))]
theorem tk_X12_init_1 (E : List mz_V) : mz_all E tM_X12_init (ck_X12_init_1) :=
  mz_cons (mz_putfieldF (C := RX12) (T := TX12) (N := 29) rfl mz_inX12 tyX12_ok nmX12 (by decide) mz_fit_arr rfl rfl rfl mw_977 (show decode cX12_init 31 = .ok (.putfield 20, 3) by decide +kernel)) (
  mz_cons (mz_aload_n (k := 0) (show decode cX12_init 34 = .ok (.aload_n 0, 1) by decide +kernel)) (
  mz_cons (mz_bipush 9 (by decide) (show decode cX12_init 35 = .ok (.bipush 9, 2) by decide +kernel)) (
  mz_cons (mz_newI mw_127 (show decode cX12_init 37 = .ok (.newarray .int, 2) by decide +kernel)) (
  mz_cons (mz_dup (show decode cX12_init 39 = .ok (.dup, 1) by decide +kernel)) (
  mz_cons (mz_iconst 0 (by decide) (show decode cX12_init 40 = .ok (.iconst 0, 1) by decide +kernel)) (
  mz_cons (mz_iconst 1 (by decide) (show decode cX12_init 41 = .ok (.iconst 1, 1) by decide +kernel)) (
  mz_cons (mz_iastore (show decode cX12_init 42 = .ok (.iastore, 1) by decide +kernel)) (
  mz_cons (mz_dup (show decode cX12_init 43 = .ok (.dup, 1) by decide +kernel)) (
  mz_cons (mz_iconst 1 (by decide) (show decode cX12_init 44 = .ok (.iconst 1, 1) by decide +kernel)) (
  mz_cons (mz_iconst 1 (by decide) (show decode cX12_init 45 = .ok (.iconst 1, 1) by decide +kernel)) (
  mz_cons (mz_iastore (show decode cX12_init 46 = .ok (.iastore, 1) by decide +kernel)) (
  mz_cons (mz_dup (show decode cX12_init 47 = .ok (.dup, 1) by decide +kernel)) (
  mz_cons (mz_iconst 2 (by decide) (show decode cX12_init 48 = .ok (.iconst 2, 1) by decide +kernel)) (
  mz_cons (mz_iconst 1 (by decide) (show decode cX12_init 49 = .ok (.iconst 1, 1) by decide +kernel)) (
  mz_cons (mz_iastore (show decode cX12_init 50 = .ok (.iastore, 1) by decide +kernel)) (
  mz_nil))))))))))))))))
noncomputable def ck_X12_init_2 : List (Nat × mz_O) := [(51, .inl (mz_dp 52)), (52, .inl (mz_push (.inl 3) 53)), (53, .inl (mz_push (.inl 1) 54)), (54, .inl (mz_ast false mz_isI 55)), (55, .inl (mz_dp 56)), (56, .inl (mz_push (.inl 4) 57)), (57, .inl (mz_push (.inl 1) 58)), (58, .inl (mz_ast false mz_isI 59)), (59, .inl (mz_dp 60)), (60, .inl (mz_push (.inl 5) 61)), (61, .inl (mz_push (.inl 1) 62)), (62, .inl (mz_ast false mz_isI 63)), (63, .inl (mz_dp 64)), (64, .inl (mz_push (.inl 6) 66)), (66, .inl (mz_push (.inl 1) 67)), (67, .inl (mz_ast false mz_isI 68))]
theorem tk_X12_init_2 (E : List mz_V) : mz_all E tM_X12_init (ck_X12_init_2) :=
  mz_cons (mz_dup (show decode cX12_init 51 = .ok (.dup, 1) by decide +kernel)) (
  mz_cons (mz_iconst 3 (by decide) (show decode cX12_init 52 = .ok (.iconst 3, 1) by decide +kernel)) (
  mz_cons (mz_iconst 1 (by decide) (show decode cX12_init 53 = .ok (.iconst 1, 1) by decide +kernel)) (
  mz_cons (mz_iastore (show decode cX12_init 54 = .ok (.iastore, 1) by decide +kernel)) (
  mz_cons (mz_dup (show decode cX12_init 55 = .ok (.dup, 1) by decide +kernel)) (
  mz_cons (mz_iconst 4 (by decide) (show decode cX12_init 56 = .ok (.iconst 4, 1) by decide +kernel)) (
  mz_cons (mz_iconst 1 (by decide) (show decode cX12_init 57 = .ok (.iconst 1, 1) by decide +kernel)) (
  mz_cons (mz_iastore (show decode cX12_init 58 = .ok (.iastore, 1) by decide +kernel)) (
  mz_cons (mz_dup (show decode cX12_init 59 = .ok (.dup, 1) by decide +kernel)) (
  mz_cons (mz_iconst 5 (by decide) (show decode cX12_init 60 = .ok (.iconst 5, 1) by decide +kernel)) (
  mz_cons (mz_iconst 1 (by decide) (show decode cX12_init 61 = .ok (.iconst 1, 1) by decide +kernel)) (
  mz_cons (mz_iastore (show decode cX12_init 62 = .ok (.iastore, 1) by decide +kernel)) (
  mz_cons (mz_dup (show decode cX12_init 63 = .ok (.dup, 1) by decide +kernel)) (
  mz_cons (mz_bipush 6 (by decide) (show decode cX12_init 64 = .ok (.bipush 6, 2) by decide +kernel)) (
  mz_cons (mz_iconst 1 (by decide) (show decode cX12_init 66 = .ok (.iconst 1, 1) by decide +kernel)) (
  mz_cons (mz_iastore (show decode cX12_init 67 = .ok (.iastore, 1) by decide +kernel)) (
  mz_nil))))))))))))))))
noncomputable def ck_X12_init_3 : List (Nat × mz_O) := [(68, .inl (mz_dp 69)), (69, .inl (mz_push (.inl 7) 71)), (71, .inl (mz_push (.inl 1) 72)), (72, .inl (mz_ast false mz_isI 73)), (73, .inl (mz_dp 74)), (74, .inl (mz_push (.inl 8) 76)), (76, .inl (mz_push (.inl 1) 77)), (77, .inl (mz_ast false mz_isI 78)), (78, .inl (mz_pf 12 6 mz_isQ 81)), (81, .inl (mz_ld mz_isR 0 82)), (82, .inl (mz_push (.inl 9) 84)), (84, .inl (mz_na false 86)), (86, .inl (mz_dp 87)), (87, .inl (mz_push (.inl 0) 88)), (88, .inl (mz_push (.inl 1) 89)), (89, .inl (mz_ast false mz_isI 90))]
theorem tk_X12_init_3 (E : List mz_V) : mz_all E tM_X12_init (ck_X12_init_3) :=
  mz_cons (mz_dup (show decode cX12_init 68 = .ok (.dup, 1) by decide +kernel)) (
  mz_cons (mz_bipush 7 (by decide) (show decode cX12_init 69 = .ok (.bipush 7, 2) by decide +kernel)) (
  mz_cons (mz_iconst 1 (by decide) (show decode cX12_init 71 = .ok (.iconst 1, 1) by decide +kernel)) (
  mz_cons (mz_iastore (show decode cX12_init 72 = .ok (.iastore, 1) by decide +kernel)) (
  mz_cons (mz_dup (show decode cX12_init 73 = .ok (.dup, 1) by decide +kernel)) (
  mz_cons (mz_bipush 8 (by decide) (show decode cX12_init 74 = .ok (.bipush 8, 2) by decide +kernel)) (
  mz_cons (mz_iconst 1 (by decide) (show decode cX12_init 76 = .ok (.iconst 1, 1) by decide +kernel)) (
  mz_cons (mz_iastore (show decode cX12_init 77 = .ok (.iastore, 1) by decide +kernel)) (
  mz_cons (mz_putfieldF (C := RX12) (T := TX12) (N := 29) rfl mz_inX12 tyX12_ok nmX12 (by decide) mz_fit_arr rfl rfl rfl mw_978 (show decode cX12_init 78 = .ok (.putfield 23, 3) by decide +kernel)) (
  mz_cons (mz_aload_n (k := 0) (show decode cX12_init 81 = .ok (.aload_n 0, 1) by decide +kernel)) (
  mz_cons (mz_bipush 9 (by decide) (show decode cX12_init 82 = .ok (.bipush 9, 2) by decide +kernel)) (
  mz_cons (mz_newI mw_127 (show decode cX12_init 84 = .ok (.newarray .int, 2) by decide +kernel)) (
  mz_cons (mz_dup (show decode cX12_init 86 = .ok (.dup, 1) by decide +kernel)) (
  mz_cons (mz_iconst 0 (by decide) (show decode cX12_init 87 = .ok (.iconst 0, 1) by decide +kernel)) (
  mz_cons (mz_iconst 1 (by decide) (show decode cX12_init 88 = .ok (.iconst 1, 1) by decide +kernel)) (
  mz_cons (mz_iastore (show decode cX12_init 89 = .ok (.iastore, 1) by decide +kernel)) (
  mz_nil))))))))))))))))
noncomputable def ck_X12_init_4 : List (Nat × mz_O) := [(90, .inl (mz_dp 91)), (91, .inl (mz_push (.inl 1) 92)), (92, .inl (mz_push (.inl 1) 93)), (93, .inl (mz_ast false mz_isI 94)), (94, .inl (mz_dp 95)), (95, .inl (mz_push (.inl 2) 96)), (96, .inl (mz_push (.inl 1) 97)), (97, .inl (mz_ast false mz_isI 98)), (98, .inl (mz_dp 99)), (99, .inl (mz_push (.inl 3) 100)), (100, .inl (mz_push (.inl 1) 101)), (101, .inl (mz_ast false mz_isI 102)), (102, .inl (mz_dp 103)), (103, .inl (mz_push (.inl 4) 104)), (104, .inl (mz_push (.inl 1) 105)), (105, .inl (mz_ast false mz_isI 106))]
theorem tk_X12_init_4 (E : List mz_V) : mz_all E tM_X12_init (ck_X12_init_4) :=
  mz_cons (mz_dup (show decode cX12_init 90 = .ok (.dup, 1) by decide +kernel)) (
  mz_cons (mz_iconst 1 (by decide) (show decode cX12_init 91 = .ok (.iconst 1, 1) by decide +kernel)) (
  mz_cons (mz_iconst 1 (by decide) (show decode cX12_init 92 = .ok (.iconst 1, 1) by decide +kernel)) (
  mz_cons (mz_iastore (show decode cX12_init 93 = .ok (.iastore, 1) by decide +kernel)) (
  mz_cons (mz_dup (show decode cX12_init 94 = .ok (.dup, 1) by decide +kernel)) (
  mz_cons (mz_iconst 2 (by decide) (show decode cX12_init 95 = .ok (.iconst 2, 1) by decide +kernel)) (
  mz_cons (mz_iconst 1 (by decide) (show decode cX12_init 96 = .ok (.iconst 1, 1) by decide +kernel)) (
  mz_cons (mz_iastore (show decode cX12_init 97 = .ok (.iastore, 1) by decide +kernel)) (
  mz_cons (mz_dup (show decode cX12_init 98 = .ok (.dup, 1) by decide +kernel)) (
  mz_cons (mz_iconst 3 (by decide) (show decode cX12_init 99 = .ok (.iconst 3, 1) by decide +kernel)) (
  mz_cons (mz_iconst 1 (by decide) (show decode cX12_init 100 = .ok (.iconst 1, 1) by decide +kernel)) (
  mz_cons (mz_iastore (show decode cX12_init 101 = .ok (.iastore, 1) by decide +kernel)) (
  mz_cons (mz_dup (show decode cX12_init 102 = .ok (.dup, 1) by decide +kernel)) (
  mz_cons (mz_iconst 4 (by decide) (show decode cX12_init 103 = .ok (.iconst 4, 1) by decide +kernel)) (
  mz_cons (mz_iconst 1 (by decide) (show decode cX12_init 104 = .ok (.iconst 1, 1) by decide +kernel)) (
  mz_cons (mz_iastore (show decode cX12_init 105 = .ok (.iastore, 1) by decide +kernel)) (
  mz_nil))))))))))))))))
noncomputable def ck_X12_init_5 : List (Nat × mz_O) := [(106, .inl (mz_dp 107)), (107, .inl (mz_push (.inl 5) 108)), (108, .inl (mz_push (.inl 1) 109)), (109, .inl (mz_ast false mz_isI 110)), (110, .inl (mz_dp 111)), (111, .inl (mz_push (.inl 6) 113)), (113, .inl (mz_push (.inl 1) 114)), (114, .inl (mz_ast false mz_isI 115)), (115, .inl (mz_dp 116)), (116, .inl (mz_push (.inl 7) 118)), (118, .inl (mz_push (.inl 1) 119)), (119, .inl (mz_ast false mz_isI 120)), (120, .inl (mz_dp 121)), (121, .inl (mz_push (.inl 8) 123)), (123, .inl (mz_push (.inl 1) 124)), (124, .inl (mz_ast false mz_isI 125))]
theorem tk_X12_init_5 (E : List mz_V) : mz_all E tM_X12_init (ck_X12_init_5) :=
  mz_cons (mz_dup (show decode cX12_init 106 = .ok (.dup, 1) by decide +kernel)) (
  mz_cons (mz_iconst 5 (by decide) (show decode cX12_init 107 = .ok (.iconst 5, 1) by decide +kernel)) (
  mz_cons (mz_iconst 1 (by decide) (show decode cX12_init 108 = .ok (.iconst 1, 1) by decide +kernel)) (
  mz_cons (mz_iastore (show decode cX12_init 109 = .ok (.iastore, 1) by decide +kernel)) (
  mz_cons (mz_dup (show decode cX12_init 110 = .ok (.dup, 1) by decide +kernel)) (
  mz_cons (mz_bipush 6 (by decide) (show decode cX12_init 111 = .ok (.bipush 6, 2) by decide +kernel)) (
  mz_cons (mz_iconst 1 (by decide) (show decode cX12_init 113 = .ok (.iconst 1, 1) by decide +kernel)) (
  mz_cons (mz_iastore (show decode cX12_init 114 = .ok (.iastore, 1) by decide +kernel)) (
  mz_cons (mz_dup (show decode cX12_init 115 = .ok (.dup, 1) by decide +kernel)) (
  mz_cons (mz_bipush 7 (by decide) (show decode cX12_init 116 = .ok (.bipush 7, 2) by decide +kernel)) (
  mz_cons (mz_iconst 1 (by decide) (show decode cX12_init 118 = .ok (.iconst 1, 1) by decide +kernel)) (
  mz_cons (mz_iastore (show decode cX12_init 119 = .ok (.iastore, 1) by decide +kernel)) (
  mz_cons (mz_dup (show decode cX12_init 120 = .ok (.dup, 1) by decide +kernel)) (
  mz_cons (mz_bipush 8 (by decide) (show decode cX12_init 121 = .ok (.bipush 8, 2) by decide +kernel)) (
  mz_cons (mz_iconst 1 (by decide) (show decode cX12_init 123 = .ok (.iconst 1, 1) by decide +kernel)) (
  mz_cons (mz_iastore (show decode cX12_init 124 = .ok (.iastore, 1) by decide +kernel)) (
  mz_nil))))))))))))))))
noncomputable def ck_X12_init_6 : List (Nat × mz_O) := [(125, .inl (mz_pf 12 7 mz_isQ 128)), (128, .inl (mz_ld mz_isR 0 129)), (129, .inl (mz_push (.inl 1) 130)), (130, .inl (mz_pf 12 8 mz_isI 133)), (133, .inl (mz_ld mz_isR 0 134)), (134, .inl (mz_push (.inl 10) 136)), (136, .inl (mz_pf 12 9 mz_isI 139)), (139, .inl (mz_ld mz_isR 0 140)), (140, .inl (mz_push (.inl 19683) 143)), (143, .inl (mz_na false 145)), (145, .inl (mz_pf 12 14 mz_isQ 148)), (148, .inl (mz_ld mz_isR 0 149)), (149, .inl (mz_push (.inl 512) 152)), (152, .inl (mz_na false 154)), (154, .inl (mz_pf 12 21 mz_isQ 157)), (157, .inl (mz_ld mz_isR 0 158))]
theorem tk_X12_init_6 (E : List mz_V) : mz_all E tM_X12_init (ck_X12_init_6) :=
  mz_cons (mz_putfieldF (C := RX12) (T := TX12) (N := 29) rfl mz_inX12 tyX12_ok nmX12 (by decide) mz_fit_arr rfl rfl rfl mw_979 (show decode cX12_init 125 = .ok (.putfield 26, 3) by decide +kernel)) (
  mz_cons (mz_aload_n (k := 0) (show decode cX12_init 128 = .ok (.aload_n 0, 1) by decide +kernel)) (
  mz_cons (mz_iconst 1 (by decide) (show decode cX12_init 129 = .ok (.iconst 1, 1) by decide +kernel)) (
  mz_cons (mz_putfield (C := RX12) (T := TX12) (N := 29) rfl mz_inX12 tyX12_ok nmX12 (by decide) mz_fit_int rfl mw_980 (show decode cX12_init 130 = .ok (.putfield 29, 3) by decide +kernel)) (
  mz_cons (mz_aload_n (k := 0) (show decode cX12_init 133 = .ok (.aload_n 0, 1) by decide +kernel)) (
  mz_cons (mz_bipush 10 (by decide) (show decode cX12_init 134 = .ok (.bipush 10, 2) by decide +kernel)) (
  mz_cons (mz_putfield (C := RX12) (T := TX12) (N := 29) rfl mz_inX12 tyX12_ok nmX12 (by decide) mz_fit_int rfl mw_981 (show decode cX12_init 136 = .ok (.putfield 32, 3) by decide +kernel)) (
  mz_cons (mz_aload_n (k := 0) (show decode cX12_init 139 = .ok (.aload_n 0, 1) by decide +kernel)) (
  mz_cons (mz_sipush 19683 (by decide) (show decode cX12_init 140 = .ok (.sipush 19683, 3) by decide +kernel)) (
  mz_cons (mz_newI mw_127 (show decode cX12_init 143 = .ok (.newarray .int, 2) by decide +kernel)) (
  mz_cons (mz_putfieldF (C := RX12) (T := TX12) (N := 29) rfl mz_inX12 tyX12_ok nmX12 (by decide) mz_fit_arr rfl rfl rfl mw_986 (show decode cX12_init 145 = .ok (.putfield 35, 3) by decide +kernel)) (
  mz_cons (mz_aload_n (k := 0) (show decode cX12_init 148 = .ok (.aload_n 0, 1) by decide +kernel)) (
  mz_cons (mz_sipush 512 (by decide) (show decode cX12_init 149 = .ok (.sipush 512, 3) by decide +kernel)) (
  mz_cons (mz_newI mw_127 (show decode cX12_init 152 = .ok (.newarray .int, 2) by decide +kernel)) (
  mz_cons (mz_putfieldF (C := RX12) (T := TX12) (N := 29) rfl mz_inX12 tyX12_ok nmX12 (by decide) mz_fit_arr rfl rfl rfl mw_993 (show decode cX12_init 154 = .ok (.putfield 38, 3) by decide +kernel)) (
  mz_cons (mz_aload_n (k := 0) (show decode cX12_init 157 = .ok (.aload_n 0, 1) by decide +kernel)) (
  mz_nil))))))))))))))))
noncomputable def ck_X12_init_7 : List (Nat × mz_O) := [(158, .inl (mz_push (.inl 10) 160)), (160, .inl (mz_na false 162)), (162, .inl (mz_pf 12 22 mz_isQ 165)), (165, .inl (mz_ld mz_isR 0 166)), (166, .inl (mz_push (.inl 10) 168)), (168, .inl (mz_na false 170)), (170, .inl (mz_pf 12 23 mz_isQ 173)), (173, .inl (mz_ld mz_isR 0 174)), (174, .inl (mz_push (.inl 4608) 177)), (177, .inl (mz_na true 179)), (179, .inl (mz_pf 12 24 mz_isQ 182)), (182, .inl (mz_ld mz_isR 0 183)), (183, .inl (mz_push (.inl 4608) 186)), (186, .inl (mz_na false 188)), (188, .inl (mz_pf 12 25 mz_isQ 191)), (191, .inl (mz_ld mz_isR 0 192))]
theorem tk_X12_init_7 (E : List mz_V) : mz_all E tM_X12_init (ck_X12_init_7) :=
  mz_cons (mz_bipush 10 (by decide) (show decode cX12_init 158 = .ok (.bipush 10, 2) by decide +kernel)) (
  mz_cons (mz_newI mw_127 (show decode cX12_init 160 = .ok (.newarray .int, 2) by decide +kernel)) (
  mz_cons (mz_putfieldF (C := RX12) (T := TX12) (N := 29) rfl mz_inX12 tyX12_ok nmX12 (by decide) mz_fit_arr rfl rfl rfl mw_994 (show decode cX12_init 162 = .ok (.putfield 41, 3) by decide +kernel)) (
  mz_cons (mz_aload_n (k := 0) (show decode cX12_init 165 = .ok (.aload_n 0, 1) by decide +kernel)) (
  mz_cons (mz_bipush 10 (by decide) (show decode cX12_init 166 = .ok (.bipush 10, 2) by decide +kernel)) (
  mz_cons (mz_newI mw_127 (show decode cX12_init 168 = .ok (.newarray .int, 2) by decide +kernel)) (
  mz_cons (mz_putfieldF (C := RX12) (T := TX12) (N := 29) rfl mz_inX12 tyX12_ok nmX12 (by decide) mz_fit_arr rfl rfl rfl mw_995 (show decode cX12_init 170 = .ok (.putfield 44, 3) by decide +kernel)) (
  mz_cons (mz_aload_n (k := 0) (show decode cX12_init 173 = .ok (.aload_n 0, 1) by decide +kernel)) (
  mz_cons (mz_sipush 4608 (by decide) (show decode cX12_init 174 = .ok (.sipush 4608, 3) by decide +kernel)) (
  mz_cons (mz_newZ mw_1060 (show decode cX12_init 177 = .ok (.newarray .boolean, 2) by decide +kernel)) (
  mz_cons (mz_putfieldF (C := RX12) (T := TX12) (N := 29) rfl mz_inX12 tyX12_ok nmX12 (by decide) mz_fit_arr rfl rfl rfl mw_996 (show decode cX12_init 179 = .ok (.putfield 47, 3) by decide +kernel)) (
  mz_cons (mz_aload_n (k := 0) (show decode cX12_init 182 = .ok (.aload_n 0, 1) by decide +kernel)) (
  mz_cons (mz_sipush 4608 (by decide) (show decode cX12_init 183 = .ok (.sipush 4608, 3) by decide +kernel)) (
  mz_cons (mz_newI mw_127 (show decode cX12_init 186 = .ok (.newarray .int, 2) by decide +kernel)) (
  mz_cons (mz_putfieldF (C := RX12) (T := TX12) (N := 29) rfl mz_inX12 tyX12_ok nmX12 (by decide) mz_fit_arr rfl rfl rfl mw_997 (show decode cX12_init 188 = .ok (.putfield 51, 3) by decide +kernel)) (
  mz_cons (mz_aload_n (k := 0) (show decode cX12_init 191 = .ok (.aload_n 0, 1) by decide +kernel)) (
  mz_nil))))))))))))))))
noncomputable def ck_X12_init_8 : List (Nat × mz_O) := [(192, .inl (mz_push (.inl 4608) 195)), (195, .inl (mz_na false 197)), (197, .inl (mz_pf 12 26 mz_isQ 200)), (200, .inl (mz_ld mz_isR 0 201)), (201, .inl (mz_push (.inl 4608) 204)), (204, .inl (mz_na false 206)), (206, .inl (mz_pf 12 27 mz_isQ 209)), (209, .inl (mz_ld mz_isR 0 210)), (210, .inl (mz_push (.inl 512) 213)), (213, .inl (mz_na false 215)), (215, .inl (mz_pf 12 28 mz_isQ 218)), (218, .inr (mz_rv))]
theorem tk_X12_init_8 (E : List mz_V) : mz_all E tM_X12_init (ck_X12_init_8) :=
  mz_cons (mz_sipush 4608 (by decide) (show decode cX12_init 192 = .ok (.sipush 4608, 3) by decide +kernel)) (
  mz_cons (mz_newI mw_127 (show decode cX12_init 195 = .ok (.newarray .int, 2) by decide +kernel)) (
  mz_cons (mz_putfieldF (C := RX12) (T := TX12) (N := 29) rfl mz_inX12 tyX12_ok nmX12 (by decide) mz_fit_arr rfl rfl rfl mw_998 (show decode cX12_init 197 = .ok (.putfield 54, 3) by decide +kernel)) (
  mz_cons (mz_aload_n (k := 0) (show decode cX12_init 200 = .ok (.aload_n 0, 1) by decide +kernel)) (
  mz_cons (mz_sipush 4608 (by decide) (show decode cX12_init 201 = .ok (.sipush 4608, 3) by decide +kernel)) (
  mz_cons (mz_newI mw_127 (show decode cX12_init 204 = .ok (.newarray .int, 2) by decide +kernel)) (
  mz_cons (mz_putfieldF (C := RX12) (T := TX12) (N := 29) rfl mz_inX12 tyX12_ok nmX12 (by decide) mz_fit_arr rfl rfl rfl mw_999 (show decode cX12_init 206 = .ok (.putfield 57, 3) by decide +kernel)) (
  mz_cons (mz_aload_n (k := 0) (show decode cX12_init 209 = .ok (.aload_n 0, 1) by decide +kernel)) (
  mz_cons (mz_sipush 512 (by decide) (show decode cX12_init 210 = .ok (.sipush 512, 3) by decide +kernel)) (
  mz_cons (mz_newI mw_127 (show decode cX12_init 213 = .ok (.newarray .int, 2) by decide +kernel)) (
  mz_cons (mz_putfieldF (C := RX12) (T := TX12) (N := 29) rfl mz_inX12 tyX12_ok nmX12 (by decide) mz_fit_arr rfl rfl rfl mw_1000 (show decode cX12_init 215 = .ok (.putfield 60, 3) by decide +kernel)) (
  mz_consR (mz_return rfl (show decode cX12_init 218 = .ok (.return_, 1) by decide +kernel)) (
  mz_nil))))))))))))
noncomputable def tb_X12_init : List (Nat × List (Nat × mz_O)) := [(29, ck_X12_init_0), (50, ck_X12_init_1), (67, ck_X12_init_2), (89, ck_X12_init_3), (105, ck_X12_init_4), (124, ck_X12_init_5), (157, ck_X12_init_6), (191, ck_X12_init_7), (218, ck_X12_init_8)]
theorem tok_X12_init (E : List mz_V) : mz_tok E tM_X12_init (tb_X12_init) := mz_tcons (tk_X12_init_0 E) (mz_tcons (tk_X12_init_1 E) (mz_tcons (tk_X12_init_2 E) (mz_tcons (tk_X12_init_3 E) (mz_tcons (tk_X12_init_4 E) (mz_tcons (tk_X12_init_5 E) (mz_tcons (tk_X12_init_6 E) (mz_tcons (tk_X12_init_7 E) (mz_tcons (tk_X12_init_8 E) (mz_tnil)))))))))
noncomputable def rn_X12_init : List mz_V → List mz_C → Option (Option mz_V × List mz_C) := mz_rn tb_X12_init 150 1
theorem ctr_X12_init (E : List mz_V) : mz_ctr E yX12_init tM_X12_init rn_X12_init := mz_ctr_of 150 (tok_X12_init E) (by decide) rfl rfl
abbrev tM_X12_least : mz_M := (cX12_least, 7, (some .int), RX12, "least", 6, 141)
noncomputable def ck_X12_least_0 : List (Nat × mz_O) := [(0, .inl (mz_ld mz_isR 0 1)), (1, .inl (mz_ld mz_isI 1 2)), (2, .inl (mz_call rn_X12_isSetOf 2 (mz_ckV 12) 5)), (5, .inl (mz_j1 mz_eq0 20 8)), (8, .inl (mz_ld mz_isI 2 9)), (9, .inl (mz_o1 mz_f_i2l 10)), (10, .inl (mz_push (.inr (.inl 0)) 11)), (11, .inl (mz_push (.inr (.inl 2)) 14)), (14, .inl (mz_call rn_X12_in 3 mz_ckT 17)), (17, .inl (mz_j1 mz_eq0 20 23)), (20, .inl (mz_push (.inl (-3)) 22)), (22, .inr (mz_rt mz_isI)), (23, .inl (mz_ld mz_isR 0 24)), (24, .inl (mz_ld mz_isR 0 25)), (25, .inl (mz_gf 12 8 28)), (28, .inl (mz_call rn_X12_layLost 2 (mz_ckV 12) 31))]
theorem tk_X12_least_0 (E : List mz_V) : mz_all E tM_X12_least (ck_X12_least_0) :=
  mz_cons (mz_aload_n (k := 0) (show decode cX12_least 0 = .ok (.aload_n 0, 1) by decide +kernel)) (
  mz_cons (mz_iload_n (k := 1) (show decode cX12_least 1 = .ok (.iload_n 1, 1) by decide +kernel)) (
  mz_cons (mz_invV (n := 1) (ctr_X12_isSetOf E) rfl ⟨by decide, by decide, by decide +kernel⟩ ⟨by decide, by decide⟩ mw_1139 mw_1136 mw_1138 mw_39 mw_74 (show decode cX12_least 2 = .ok (.invokevirtual 167, 3) by decide +kernel)) (
  mz_cons (mz_if_eq 20 (by decide) (show decode cX12_least 5 = .ok (.ifCond .eq 15, 3) by decide +kernel)) (
  mz_cons (mz_iload_n (k := 2) (show decode cX12_least 8 = .ok (.iload_n 2, 1) by decide +kernel)) (
  mz_cons (mz_i2l (show decode cX12_least 9 = .ok (.i2l, 1) by decide +kernel)) (
  mz_cons (mz_lconst 0 (by decide) (show decode cX12_least 10 = .ok (.lconst 0, 1) by decide +kernel)) (
  mz_cons (mz_ldc2 mw_1144 (show decode cX12_least 11 = .ok (.ldc2_w 170, 3) by decide +kernel)) (
  mz_cons (mz_invS (n := 3) (ctr_X12_in E) ⟨by decide, by decide, by decide +kernel⟩ ⟨by decide, by decide⟩ mw_1068 mw_1066 mw_1067 mw_74 (show decode cX12_least 14 = .ok (.invokestatic 65, 3) by decide +kernel)) (
  mz_cons (mz_if_ne 23 (by decide) (show decode cX12_least 17 = .ok (.ifCond .ne 6, 3) by decide +kernel)) (
  mz_cons (mz_bipush (-3) (by decide) (show decode cX12_least 20 = .ok (.bipush (-3), 2) by decide +kernel)) (
  mz_consR (mz_ireturn rfl (show decode cX12_least 22 = .ok (.ireturn, 1) by decide +kernel)) (
  mz_cons (mz_aload_n (k := 0) (show decode cX12_least 23 = .ok (.aload_n 0, 1) by decide +kernel)) (
  mz_cons (mz_aload_n (k := 0) (show decode cX12_least 24 = .ok (.aload_n 0, 1) by decide +kernel)) (
  mz_cons (mz_getfield (C := RX12) (T := TX12) (N := 29) rfl mz_inX12 (by decide) mw_980 (show decode cX12_least 25 = .ok (.getfield 29, 3) by decide +kernel)) (
  mz_cons (mz_invV (n := 1) (ctr_X12_layLost E) rfl ⟨by decide, by decide, by decide +kernel⟩ ⟨by decide, by decide⟩ mw_1148 mw_1145 mw_1147 mw_41 mw_74 (show decode cX12_least 28 = .ok (.invokevirtual 172, 3) by decide +kernel)) (
  mz_nil))))))))))))))))
noncomputable def ck_X12_least_1 : List (Nat × mz_O) := [(31, .inl (mz_ld mz_isR 0 32)), (32, .inl (mz_gf 12 14 35)), (35, .inl (mz_ld mz_isI 1 36)), (36, .inl (mz_push (.inl 0) 37)), (37, .inl (mz_call rn_X12_code 2 mz_ckT 40)), (40, .inl (mz_al false 41)), (41, .inl (mz_sto mz_isI mz_p1 3 42)), (42, .inl (mz_push (.inl (-1)) 43)), (43, .inl (mz_sto mz_isI mz_p1 4 45)), (45, .inl (mz_push (.inl 0) 46)), (46, .inl (mz_sto mz_isI mz_p1 5 48)), (48, .inl (mz_push (.inl 0) 49)), (49, .inl (mz_sto mz_isI mz_p1 6 51)), (51, .inl (mz_ld mz_isI 6 53)), (53, .inl (mz_ld mz_isR 0 54)), (54, .inl (mz_call rn_X12_all 1 (mz_ckV 12) 57))]
theorem tk_X12_least_1 (E : List mz_V) : mz_all E tM_X12_least (ck_X12_least_1) :=
  mz_cons (mz_aload_n (k := 0) (show decode cX12_least 31 = .ok (.aload_n 0, 1) by decide +kernel)) (
  mz_cons (mz_getfield (C := RX12) (T := TX12) (N := 29) rfl mz_inX12 (by decide) mw_986 (show decode cX12_least 32 = .ok (.getfield 35, 3) by decide +kernel)) (
  mz_cons (mz_iload_n (k := 1) (show decode cX12_least 35 = .ok (.iload_n 1, 1) by decide +kernel)) (
  mz_cons (mz_iconst 0 (by decide) (show decode cX12_least 36 = .ok (.iconst 0, 1) by decide +kernel)) (
  mz_cons (mz_invS (n := 2) (ctr_X12_code E) ⟨by decide, by decide, by decide +kernel⟩ ⟨by decide, by decide⟩ mw_1175 mw_1173 mw_1174 mw_74 (show decode cX12_least 37 = .ok (.invokestatic 156, 3) by decide +kernel)) (
  mz_cons (mz_iaload (show decode cX12_least 40 = .ok (.iaload, 1) by decide +kernel)) (
  mz_cons (mz_istore_n (k := 3) (by decide) (show decode cX12_least 41 = .ok (.istore_n 3, 1) by decide +kernel)) (
  mz_cons (mz_iconst (-1) (by decide) (show decode cX12_least 42 = .ok (.iconst (-1), 1) by decide +kernel)) (
  mz_cons (mz_istore (by decide) (show decode cX12_least 43 = .ok (.istore 4, 2) by decide +kernel)) (
  mz_cons (mz_iconst 0 (by decide) (show decode cX12_least 45 = .ok (.iconst 0, 1) by decide +kernel)) (
  mz_cons (mz_istore (by decide) (show decode cX12_least 46 = .ok (.istore 5, 2) by decide +kernel)) (
  mz_cons (mz_iconst 0 (by decide) (show decode cX12_least 48 = .ok (.iconst 0, 1) by decide +kernel)) (
  mz_cons (mz_istore (by decide) (show decode cX12_least 49 = .ok (.istore 6, 2) by decide +kernel)) (
  mz_cons (mz_iload (show decode cX12_least 51 = .ok (.iload 6, 2) by decide +kernel)) (
  mz_cons (mz_aload_n (k := 0) (show decode cX12_least 53 = .ok (.aload_n 0, 1) by decide +kernel)) (
  mz_cons (mz_invV (n := 0) (ctr_X12_all E) rfl ⟨by decide, by decide, by decide +kernel⟩ ⟨by decide, by decide⟩ mw_1143 mw_1140 mw_1142 mw_40 mw_74 (show decode cX12_least 54 = .ok (.invokevirtual 131, 3) by decide +kernel)) (
  mz_nil))))))))))))))))
noncomputable def ck_X12_least_2 : List (Nat × mz_O) := [(57, .inl (mz_j2 mz_gt 111 60)), (60, .inl (mz_ld mz_isR 0 61)), (61, .inl (mz_ld mz_isI 6 63)), (63, .inl (mz_ld mz_isI 1 64)), (64, .inl (mz_push (.inl 0) 65)), (65, .inl (mz_ld mz_isR 0 66)), (66, .inl (mz_gf 12 8 69)), (69, .inl (mz_call rn_X12_mayWet 5 (mz_ckV 12) 72)), (72, .inl (mz_j1 mz_eq0 105 75)), (75, .inl (mz_ld mz_isR 0 76)), (76, .inl (mz_ld mz_isI 6 78)), (78, .inl (mz_ld mz_isI 1 79)), (79, .inl (mz_push (.inl 0) 80)), (80, .inl (mz_call rn_X12_behind 4 (mz_ckV 12) 83)), (83, .inl (mz_ld mz_isI 3 84)), (84, .inl (mz_j2 mz_eq 87 105))]
theorem tk_X12_least_2 (E : List mz_V) : mz_all E tM_X12_least (ck_X12_least_2) :=
  mz_cons (mz_icmp_gt 111 (by decide) (show decode cX12_least 57 = .ok (.if_icmp .gt 54, 3) by decide +kernel)) (
  mz_cons (mz_aload_n (k := 0) (show decode cX12_least 60 = .ok (.aload_n 0, 1) by decide +kernel)) (
  mz_cons (mz_iload (show decode cX12_least 61 = .ok (.iload 6, 2) by decide +kernel)) (
  mz_cons (mz_iload_n (k := 1) (show decode cX12_least 63 = .ok (.iload_n 1, 1) by decide +kernel)) (
  mz_cons (mz_iconst 0 (by decide) (show decode cX12_least 64 = .ok (.iconst 0, 1) by decide +kernel)) (
  mz_cons (mz_aload_n (k := 0) (show decode cX12_least 65 = .ok (.aload_n 0, 1) by decide +kernel)) (
  mz_cons (mz_getfield (C := RX12) (T := TX12) (N := 29) rfl mz_inX12 (by decide) mw_980 (show decode cX12_least 66 = .ok (.getfield 29, 3) by decide +kernel)) (
  mz_cons (mz_invV (n := 4) (ctr_X12_mayWet E) rfl ⟨by decide, by decide, by decide +kernel⟩ ⟨by decide, by decide⟩ mw_1156 mw_1153 mw_1155 mw_42 mw_74 (show decode cX12_least 69 = .ok (.invokevirtual 160, 3) by decide +kernel)) (
  mz_cons (mz_if_eq 105 (by decide) (show decode cX12_least 72 = .ok (.ifCond .eq 33, 3) by decide +kernel)) (
  mz_cons (mz_aload_n (k := 0) (show decode cX12_least 75 = .ok (.aload_n 0, 1) by decide +kernel)) (
  mz_cons (mz_iload (show decode cX12_least 76 = .ok (.iload 6, 2) by decide +kernel)) (
  mz_cons (mz_iload_n (k := 1) (show decode cX12_least 78 = .ok (.iload_n 1, 1) by decide +kernel)) (
  mz_cons (mz_iconst 0 (by decide) (show decode cX12_least 79 = .ok (.iconst 0, 1) by decide +kernel)) (
  mz_cons (mz_invV (n := 3) (ctr_X12_behind E) rfl ⟨by decide, by decide, by decide +kernel⟩ ⟨by decide, by decide⟩ mw_1160 mw_1157 mw_1159 mw_43 mw_74 (show decode cX12_least 80 = .ok (.invokevirtual 163, 3) by decide +kernel)) (
  mz_cons (mz_iload_n (k := 3) (show decode cX12_least 83 = .ok (.iload_n 3, 1) by decide +kernel)) (
  mz_cons (mz_icmp_ne 105 (by decide) (show decode cX12_least 84 = .ok (.if_icmp .ne 21, 3) by decide +kernel)) (
  mz_nil))))))))))))))))
noncomputable def ck_X12_least_3 : List (Nat × mz_O) := [(87, .inl (mz_ld mz_isI 4 89)), (89, .inl (mz_push (.inl (-1)) 90)), (90, .inl (mz_j2 mz_eq 93 98)), (93, .inl (mz_ld mz_isI 6 95)), (95, .inl (mz_go 100)), (100, .inl (mz_sto mz_isI mz_p1 4 102)), (102, .inl (mz_inc 5 1 105)), (105, .inl (mz_inc 6 1 108)), (108, .inl (mz_go 51)), (111, .inl (mz_ld mz_isI 2 112)), (112, .inl (mz_j1 mz_eq0 115 119)), (115, .inl (mz_ld mz_isI 3 116)), (116, .inl (mz_go 131)), (119, .inl (mz_ld mz_isI 2 120)), (120, .inl (mz_push (.inl 1) 121)), (121, .inl (mz_j2 mz_eq 124 129))]
theorem tk_X12_least_3 (E : List mz_V) : mz_all E tM_X12_least (ck_X12_least_3) :=
  mz_cons (mz_iload (show decode cX12_least 87 = .ok (.iload 4, 2) by decide +kernel)) (
  mz_cons (mz_iconst (-1) (by decide) (show decode cX12_least 89 = .ok (.iconst (-1), 1) by decide +kernel)) (
  mz_cons (mz_icmp_ne 98 (by decide) (show decode cX12_least 90 = .ok (.if_icmp .ne 8, 3) by decide +kernel)) (
  mz_cons (mz_iload (show decode cX12_least 93 = .ok (.iload 6, 2) by decide +kernel)) (
  mz_cons (mz_goto 100 (by decide) (show decode cX12_least 95 = .ok (.goto 5, 3) by decide +kernel)) (
  mz_cons (mz_istore (by decide) (show decode cX12_least 100 = .ok (.istore 4, 2) by decide +kernel)) (
  mz_cons (mz_iinc 1 (by decide) (by decide) (show decode cX12_least 102 = .ok (.iinc 5 1, 3) by decide +kernel)) (
  mz_cons (mz_iinc 1 (by decide) (by decide) (show decode cX12_least 105 = .ok (.iinc 6 1, 3) by decide +kernel)) (
  mz_cons (mz_goto 51 (by decide) (show decode cX12_least 108 = .ok (.goto (-57), 3) by decide +kernel)) (
  mz_cons (mz_iload_n (k := 2) (show decode cX12_least 111 = .ok (.iload_n 2, 1) by decide +kernel)) (
  mz_cons (mz_if_ne 119 (by decide) (show decode cX12_least 112 = .ok (.ifCond .ne 7, 3) by decide +kernel)) (
  mz_cons (mz_iload_n (k := 3) (show decode cX12_least 115 = .ok (.iload_n 3, 1) by decide +kernel)) (
  mz_cons (mz_goto 131 (by decide) (show decode cX12_least 116 = .ok (.goto 15, 3) by decide +kernel)) (
  mz_cons (mz_iload_n (k := 2) (show decode cX12_least 119 = .ok (.iload_n 2, 1) by decide +kernel)) (
  mz_cons (mz_iconst 1 (by decide) (show decode cX12_least 120 = .ok (.iconst 1, 1) by decide +kernel)) (
  mz_cons (mz_icmp_ne 129 (by decide) (show decode cX12_least 121 = .ok (.if_icmp .ne 8, 3) by decide +kernel)) (
  mz_nil))))))))))))))))
noncomputable def ck_X12_least_4 : List (Nat × mz_O) := [(124, .inl (mz_ld mz_isI 4 126)), (126, .inl (mz_go 131)), (129, .inl (mz_ld mz_isI 5 131)), (131, .inr (mz_rt mz_isI))]
theorem tk_X12_least_4 (E : List mz_V) : mz_all E tM_X12_least (ck_X12_least_4) :=
  mz_cons (mz_iload (show decode cX12_least 124 = .ok (.iload 4, 2) by decide +kernel)) (
  mz_cons (mz_goto 131 (by decide) (show decode cX12_least 126 = .ok (.goto 5, 3) by decide +kernel)) (
  mz_cons (mz_iload (show decode cX12_least 129 = .ok (.iload 5, 2) by decide +kernel)) (
  mz_consR (mz_ireturn rfl (show decode cX12_least 131 = .ok (.ireturn, 1) by decide +kernel)) (
  mz_nil))))
noncomputable def tb_X12_least : List (Nat × List (Nat × mz_O)) := [(28, ck_X12_least_0), (54, ck_X12_least_1), (84, ck_X12_least_2), (121, ck_X12_least_3), (131, ck_X12_least_4)]
theorem tok_X12_least (E : List mz_V) : mz_tok E tM_X12_least (tb_X12_least) := mz_tcons (tk_X12_least_0 E) (mz_tcons (tk_X12_least_1 E) (mz_tcons (tk_X12_least_2 E) (mz_tcons (tk_X12_least_3 E) (mz_tcons (tk_X12_least_4 E) (mz_tnil)))))
noncomputable def rn_X12_least : List mz_V → List mz_C → Option (Option mz_V × List mz_C) := mz_rn tb_X12_least 91 7
theorem ctr_X12_least (E : List mz_V) : mz_ctr E yX12_least tM_X12_least rn_X12_least := mz_ctr_of 91 (tok_X12_least E) (by decide) rfl rfl
abbrev tM_X12_mean : mz_M := (cX12_mean, 3, (some .long), RX12, "mean", 4, 95)
noncomputable def ck_X12_mean_0 : List (Nat × mz_O) := [(0, .inl (mz_ld mz_isR 0 1)), (1, .inl (mz_ld mz_isI 1 2)), (2, .inl (mz_call rn_X12_isRoom 2 (mz_ckV 12) 5)), (5, .inl (mz_j1 mz_eq0 8 12)), (8, .inl (mz_push (.inr (.inl (-2))) 11)), (11, .inr (mz_rt mz_isL)), (12, .inl (mz_ld mz_isI 2 13)), (13, .inl (mz_o1 mz_f_i2l 14)), (14, .inl (mz_push (.inr (.inl 0)) 15)), (15, .inl (mz_push (.inr (.inl 1)) 16)), (16, .inl (mz_call rn_X12_in 3 mz_ckT 19)), (19, .inl (mz_j1 mz_eq0 22 26)), (22, .inl (mz_push (.inr (.inl (-3))) 25)), (25, .inr (mz_rt mz_isL)), (26, .inl (mz_ld mz_isR 0 27)), (27, .inl (mz_call rn_X12_wayMany 1 (mz_ckV 12) 30))]
theorem tk_X12_mean_0 (E : List mz_V) : mz_all E tM_X12_mean (ck_X12_mean_0) :=
  mz_cons (mz_aload_n (k := 0) (show decode cX12_mean 0 = .ok (.aload_n 0, 1) by decide +kernel)) (
  mz_cons (mz_iload_n (k := 1) (show decode cX12_mean 1 = .ok (.iload_n 1, 1) by decide +kernel)) (
  mz_cons (mz_invV (n := 1) (ctr_X12_isRoom E) rfl ⟨by decide, by decide, by decide +kernel⟩ ⟨by decide, by decide⟩ mw_1124 mw_1121 mw_1123 mw_37 mw_74 (show decode cX12_mean 2 = .ok (.invokevirtual 137, 3) by decide +kernel)) (
  mz_cons (mz_if_ne 12 (by decide) (show decode cX12_mean 5 = .ok (.ifCond .ne 7, 3) by decide +kernel)) (
  mz_cons (mz_ldc2 mw_1251 (show decode cX12_mean 8 = .ok (.ldc2_w 233, 3) by decide +kernel)) (
  mz_consR (mz_lreturn rfl (show decode cX12_mean 11 = .ok (.lreturn, 1) by decide +kernel)) (
  mz_cons (mz_iload_n (k := 2) (show decode cX12_mean 12 = .ok (.iload_n 2, 1) by decide +kernel)) (
  mz_cons (mz_i2l (show decode cX12_mean 13 = .ok (.i2l, 1) by decide +kernel)) (
  mz_cons (mz_lconst 0 (by decide) (show decode cX12_mean 14 = .ok (.lconst 0, 1) by decide +kernel)) (
  mz_cons (mz_lconst 1 (by decide) (show decode cX12_mean 15 = .ok (.lconst 1, 1) by decide +kernel)) (
  mz_cons (mz_invS (n := 3) (ctr_X12_in E) ⟨by decide, by decide, by decide +kernel⟩ ⟨by decide, by decide⟩ mw_1068 mw_1066 mw_1067 mw_74 (show decode cX12_mean 16 = .ok (.invokestatic 65, 3) by decide +kernel)) (
  mz_cons (mz_if_ne 26 (by decide) (show decode cX12_mean 19 = .ok (.ifCond .ne 7, 3) by decide +kernel)) (
  mz_cons (mz_ldc2 mw_1252 (show decode cX12_mean 22 = .ok (.ldc2_w 235, 3) by decide +kernel)) (
  mz_consR (mz_lreturn rfl (show decode cX12_mean 25 = .ok (.lreturn, 1) by decide +kernel)) (
  mz_cons (mz_aload_n (k := 0) (show decode cX12_mean 26 = .ok (.aload_n 0, 1) by decide +kernel)) (
  mz_cons (mz_invV (n := 0) (ctr_X12_wayMany E) rfl ⟨by decide, by decide, by decide +kernel⟩ ⟨by decide, by decide⟩ mw_1256 mw_1253 mw_1255 mw_53 mw_74 (show decode cX12_mean 27 = .ok (.invokevirtual 214, 3) by decide +kernel)) (
  mz_nil))))))))))))))))
noncomputable def ck_X12_mean_1 : List (Nat × mz_O) := [(30, .inl (mz_push (.inl 10) 32)), (32, .inl (mz_j2 mz_gt 35 41)), (41, .inl (mz_ld mz_isR 0 42)), (42, .inl (mz_ld mz_isR 0 43)), (43, .inl (mz_ld mz_isI 1 44)), (44, .inl (mz_push (.inl (-1)) 45)), (45, .inl (mz_call rn_X12_carriedBy 3 (mz_ckV 12) 48)), (48, .inl (mz_ld mz_isI 2 49)), (49, .inl (mz_call rn_X12_part 3 (mz_ckV 12) 52)), (52, .inr (mz_rt mz_isL))]
theorem tk_X12_mean_1 (E : List mz_V) : mz_all E tM_X12_mean (ck_X12_mean_1) :=
  mz_cons (mz_bipush 10 (by decide) (show decode cX12_mean 30 = .ok (.bipush 10, 2) by decide +kernel)) (
  mz_cons (mz_icmp_le 41 (by decide) (show decode cX12_mean 32 = .ok (.if_icmp .le 9, 3) by decide +kernel)) (
  mz_cons (mz_aload_n (k := 0) (show decode cX12_mean 41 = .ok (.aload_n 0, 1) by decide +kernel)) (
  mz_cons (mz_aload_n (k := 0) (show decode cX12_mean 42 = .ok (.aload_n 0, 1) by decide +kernel)) (
  mz_cons (mz_iload_n (k := 1) (show decode cX12_mean 43 = .ok (.iload_n 1, 1) by decide +kernel)) (
  mz_cons (mz_iconst (-1) (by decide) (show decode cX12_mean 44 = .ok (.iconst (-1), 1) by decide +kernel)) (
  mz_cons (mz_invV (n := 2) (ctr_X12_carriedBy E) rfl ⟨by decide, by decide, by decide +kernel⟩ ⟨by decide, by decide⟩ mw_1261 mw_1258 mw_1260 mw_54 mw_74 (show decode cX12_mean 45 = .ok (.invokevirtual 239, 3) by decide +kernel)) (
  mz_cons (mz_iload_n (k := 2) (show decode cX12_mean 48 = .ok (.iload_n 2, 1) by decide +kernel)) (
  mz_cons (mz_invV (n := 2) (ctr_X12_part E) rfl ⟨by decide, by decide, by decide +kernel⟩ ⟨by decide, by decide⟩ mw_1273 mw_1270 mw_1272 mw_57 mw_74 (show decode cX12_mean 49 = .ok (.invokevirtual 243, 3) by decide +kernel)) (
  mz_consR (mz_lreturn rfl (show decode cX12_mean 52 = .ok (.lreturn, 1) by decide +kernel)) (
  mz_nil))))))))))
noncomputable def tb_X12_mean : List (Nat × List (Nat × mz_O)) := [(27, ck_X12_mean_0), (52, ck_X12_mean_1)]
theorem tok_X12_mean (E : List mz_V) : mz_tok E tM_X12_mean (tb_X12_mean) := mz_tcons (tk_X12_mean_0 E) (mz_tcons (tk_X12_mean_1 E) (mz_tnil))
noncomputable def rn_X12_mean : List mz_V → List mz_C → Option (Option mz_V × List mz_C) := mz_rn tb_X12_mean 32 3
theorem ctr_X12_mean (E : List mz_V) : mz_ctr E yX12_mean tM_X12_mean rn_X12_mean := mz_ctr_of 32 (tok_X12_mean E) (by decide) rfl rfl
abbrev tM_X12_net : mz_M := (cX12_net, 2, (some .int), RX12, "net", 4, 88)
noncomputable def ck_X12_net_0 : List (Nat × mz_O) := [(0, .inl (mz_ld mz_isR 0 1)), (1, .inl (mz_call rn_X12_fault 1 (mz_ckV 12) 4)), (4, .inl (mz_push (.inl (-1)) 5)), (5, .inl (mz_j2 mz_eq 11 8)), (8, .inl (mz_push (.inl (-4)) 10)), (10, .inr (mz_rt mz_isI))]
theorem tk_X12_net_0 (E : List mz_V) : mz_all E tM_X12_net (ck_X12_net_0) :=
  mz_cons (mz_aload_n (k := 0) (show decode cX12_net 0 = .ok (.aload_n 0, 1) by decide +kernel)) (
  mz_cons (mz_invV (n := 0) (ctr_X12_fault E) rfl ⟨by decide, by decide, by decide +kernel⟩ ⟨by decide, by decide⟩ mw_1077 mw_1112 mw_1075 mw_1076 mw_74 (show decode cX12_net 1 = .ok (.invokevirtual 119, 3) by decide +kernel)) (
  mz_cons (mz_iconst (-1) (by decide) (show decode cX12_net 4 = .ok (.iconst (-1), 1) by decide +kernel)) (
  mz_cons (mz_icmp_eq 11 (by decide) (show decode cX12_net 5 = .ok (.if_icmp .eq 6, 3) by decide +kernel)) (
  mz_cons (mz_bipush (-4) (by decide) (show decode cX12_net 8 = .ok (.bipush (-4), 2) by decide +kernel)) (
  mz_consR (mz_ireturn rfl (show decode cX12_net 10 = .ok (.ireturn, 1) by decide +kernel)) (
  mz_nil))))))
noncomputable def tb_X12_net : List (Nat × List (Nat × mz_O)) := [(10, ck_X12_net_0)]
theorem tok_X12_net (E : List mz_V) : mz_tok E tM_X12_net (tb_X12_net) := mz_tcons (tk_X12_net_0 E) (mz_tnil)
noncomputable def rn_X12_net : List mz_V → List mz_C → Option (Option mz_V × List mz_C) := mz_rn tb_X12_net 16 2
theorem ctr_X12_net (E : List mz_V) : mz_ctr E yX12_net tM_X12_net rn_X12_net := mz_ctr_of 16 (tok_X12_net E) (by decide) rfl rfl
