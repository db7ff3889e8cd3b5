abbrev tM_X12_pairs : mz_M := (cX12_pairs, 7, (some .int), RX12, "pairs", 4, 88)
noncomputable def ck_X12_pairs_0 : List (Nat × mz_O) := [(0, .inl (mz_ld mz_isR 0 1)), (1, .inl (mz_call rn_X12_isEven 1 (mz_ckV 12) 4)), (4, .inl (mz_j1 mz_eq0 7 10)), (10, .inl (mz_push (.inl 0) 11)), (11, .inl (mz_sto mz_isI mz_p1 1 12)), (12, .inl (mz_ld mz_isI 1 13)), (13, .inl (mz_ld mz_isR 0 14)), (14, .inl (mz_call rn_X12_all 1 (mz_ckV 12) 17)), (17, .inl (mz_j2 mz_gt 171 20)), (20, .inl (mz_ld mz_isR 0 21)), (21, .inl (mz_gf 12 28 24)), (24, .inl (mz_ld mz_isI 1 25)), (25, .inl (mz_push (.inl 0) 26)), (26, .inl (mz_ast false mz_isI 27)), (27, .inl (mz_push (.inl 0) 28)), (28, .inl (mz_sto mz_isI mz_p1 2 29))]
theorem tk_X12_pairs_0 (E : List mz_V) : mz_all E tM_X12_pairs (ck_X12_pairs_0) :=
  mz_cons (mz_aload_n (k := 0) (show decode cX12_pairs 0 = .ok (.aload_n 0, 1) by decide +kernel)) (
  mz_cons (mz_invV (n := 0) (ctr_X12_isEven E) rfl ⟨by decide, by decide, by decide +kernel⟩ ⟨by decide, by decide⟩ mw_1301 mw_1298 mw_1300 mw_59 mw_74 (show decode cX12_pairs 1 = .ok (.invokevirtual 253, 3) by decide +kernel)) (
  mz_cons (mz_if_ne 10 (by decide) (show decode cX12_pairs 4 = .ok (.ifCond .ne 6, 3) by decide +kernel)) (
  mz_cons (mz_iconst 0 (by decide) (show decode cX12_pairs 10 = .ok (.iconst 0, 1) by decide +kernel)) (
  mz_cons (mz_istore_n (k := 1) (by decide) (show decode cX12_pairs 11 = .ok (.istore_n 1, 1) by decide +kernel)) (
  mz_cons (mz_iload_n (k := 1) (show decode cX12_pairs 12 = .ok (.iload_n 1, 1) by decide +kernel)) (
  mz_cons (mz_aload_n (k := 0) (show decode cX12_pairs 13 = .ok (.aload_n 0, 1) by decide +kernel)) (
  mz_cons (mz_invV (n := 0) (ctr_X12_all E) rfl ⟨by decide, by decide, by decide +kernel⟩ ⟨by decide, by decide⟩ mw_1143 mw_1140 mw_1142 mw_40 mw_74 (show decode cX12_pairs 14 = .ok (.invokevirtual 131, 3) by decide +kernel)) (
  mz_cons (mz_icmp_gt 171 (by decide) (show decode cX12_pairs 17 = .ok (.if_icmp .gt 154, 3) by decide +kernel)) (
  mz_cons (mz_aload_n (k := 0) (show decode cX12_pairs 20 = .ok (.aload_n 0, 1) by decide +kernel)) (
  mz_cons (mz_getfield (C := RX12) (T := TX12) (N := 29) rfl mz_inX12 (by decide) mw_1000 (show decode cX12_pairs 21 = .ok (.getfield 60, 3) by decide +kernel)) (
  mz_cons (mz_iload_n (k := 1) (show decode cX12_pairs 24 = .ok (.iload_n 1, 1) by decide +kernel)) (
  mz_cons (mz_iconst 0 (by decide) (show decode cX12_pairs 25 = .ok (.iconst 0, 1) by decide +kernel)) (
  mz_cons (mz_iastore (show decode cX12_pairs 26 = .ok (.iastore, 1) by decide +kernel)) (
  mz_cons (mz_iconst 0 (by decide) (show decode cX12_pairs 27 = .ok (.iconst 0, 1) by decide +kernel)) (
  mz_cons (mz_istore_n (k := 2) (by decide) (show decode cX12_pairs 28 = .ok (.istore_n 2, 1) by decide +kernel)) (
  mz_nil))))))))))))))))
noncomputable def ck_X12_pairs_1 : List (Nat × mz_O) := [(29, .inl (mz_ld mz_isI 2 30)), (30, .inl (mz_push (.inl 81) 32)), (32, .inl (mz_j2 mz_lt 35 165)), (35, .inl (mz_ld mz_isI 2 36)), (36, .inl (mz_push (.inl 9) 38)), (38, .inl (mz_o2 mz_f_idiv 39)), (39, .inl (mz_sto mz_isI mz_p1 3 40)), (40, .inl (mz_ld mz_isI 2 41)), (41, .inl (mz_push (.inl 9) 43)), (43, .inl (mz_o2 mz_f_irem 44)), (44, .inl (mz_sto mz_isI mz_p1 4 46)), (46, .inl (mz_ld mz_isI 3 47)), (47, .inl (mz_ld mz_isI 4 49)), (49, .inl (mz_j2 mz_lt 52 96)), (52, .inl (mz_ld mz_isI 4 54)), (54, .inl (mz_ld mz_isR 0 55))]
theorem tk_X12_pairs_1 (E : List mz_V) : mz_all E tM_X12_pairs (ck_X12_pairs_1) :=
  mz_cons (mz_iload_n (k := 2) (show decode cX12_pairs 29 = .ok (.iload_n 2, 1) by decide +kernel)) (
  mz_cons (mz_bipush 81 (by decide) (show decode cX12_pairs 30 = .ok (.bipush 81, 2) by decide +kernel)) (
  mz_cons (mz_icmp_ge 165 (by decide) (show decode cX12_pairs 32 = .ok (.if_icmp .ge 133, 3) by decide +kernel)) (
  mz_cons (mz_iload_n (k := 2) (show decode cX12_pairs 35 = .ok (.iload_n 2, 1) by decide +kernel)) (
  mz_cons (mz_bipush 9 (by decide) (show decode cX12_pairs 36 = .ok (.bipush 9, 2) by decide +kernel)) (
  mz_cons (mz_idiv (show decode cX12_pairs 38 = .ok (.idiv, 1) by decide +kernel)) (
  mz_cons (mz_istore_n (k := 3) (by decide) (show decode cX12_pairs 39 = .ok (.istore_n 3, 1) by decide +kernel)) (
  mz_cons (mz_iload_n (k := 2) (show decode cX12_pairs 40 = .ok (.iload_n 2, 1) by decide +kernel)) (
  mz_cons (mz_bipush 9 (by decide) (show decode cX12_pairs 41 = .ok (.bipush 9, 2) by decide +kernel)) (
  mz_cons (mz_irem (show decode cX12_pairs 43 = .ok (.irem, 1) by decide +kernel)) (
  mz_cons (mz_istore (by decide) (show decode cX12_pairs 44 = .ok (.istore 4, 2) by decide +kernel)) (
  mz_cons (mz_iload_n (k := 3) (show decode cX12_pairs 46 = .ok (.iload_n 3, 1) by decide +kernel)) (
  mz_cons (mz_iload (show decode cX12_pairs 47 = .ok (.iload 4, 2) by decide +kernel)) (
  mz_cons (mz_icmp_ge 96 (by decide) (show decode cX12_pairs 49 = .ok (.if_icmp .ge 47, 3) by decide +kernel)) (
  mz_cons (mz_iload (show decode cX12_pairs 52 = .ok (.iload 4, 2) by decide +kernel)) (
  mz_cons (mz_aload_n (k := 0) (show decode cX12_pairs 54 = .ok (.aload_n 0, 1) by decide +kernel)) (
  mz_nil))))))))))))))))
noncomputable def ck_X12_pairs_2 : List (Nat × mz_O) := [(55, .inl (mz_gf 12 4 58)), (58, .inl (mz_j2 mz_lt 61 96)), (96, .inl (mz_push (.inl 0) 97)), (97, .inl (mz_sto mz_isI mz_p1 5 99)), (99, .inl (mz_ld mz_isI 5 101)), (101, .inl (mz_j1 mz_eq0 128 104)), (128, .inl (mz_push (.inl 0) 129)), (129, .inl (mz_sto mz_isI mz_p1 6 131)), (131, .inl (mz_ld mz_isR 0 132)), (132, .inl (mz_gf 12 28 135)), (135, .inl (mz_ld mz_isI 1 136)), (136, .inl (mz_ld mz_isI 6 138)), (138, .inl (mz_ld mz_isR 0 139)), (139, .inl (mz_gf 12 28 142)), (142, .inl (mz_ld mz_isI 1 143)), (143, .inl (mz_al false 144))]
theorem tk_X12_pairs_2 (E : List mz_V) : mz_all E tM_X12_pairs (ck_X12_pairs_2) :=
  mz_cons (mz_getfield (C := RX12) (T := TX12) (N := 29) rfl mz_inX12 (by decide) mw_976 (show decode cX12_pairs 55 = .ok (.getfield 16, 3) by decide +kernel)) (
  mz_cons (mz_icmp_ge 96 (by decide) (show decode cX12_pairs 58 = .ok (.if_icmp .ge 38, 3) by decide +kernel)) (
  mz_cons (mz_iconst 0 (by decide) (show decode cX12_pairs 96 = .ok (.iconst 0, 1) by decide +kernel)) (
  mz_cons (mz_istore (by decide) (show decode cX12_pairs 97 = .ok (.istore 5, 2) by decide +kernel)) (
  mz_cons (mz_iload (show decode cX12_pairs 99 = .ok (.iload 5, 2) by decide +kernel)) (
  mz_cons (mz_if_eq 128 (by decide) (show decode cX12_pairs 101 = .ok (.ifCond .eq 27, 3) by decide +kernel)) (
  mz_cons (mz_iconst 0 (by decide) (show decode cX12_pairs 128 = .ok (.iconst 0, 1) by decide +kernel)) (
  mz_cons (mz_istore (by decide) (show decode cX12_pairs 129 = .ok (.istore 6, 2) by decide +kernel)) (
  mz_cons (mz_aload_n (k := 0) (show decode cX12_pairs 131 = .ok (.aload_n 0, 1) by decide +kernel)) (
  mz_cons (mz_getfield (C := RX12) (T := TX12) (N := 29) rfl mz_inX12 (by decide) mw_1000 (show decode cX12_pairs 132 = .ok (.getfield 60, 3) by decide +kernel)) (
  mz_cons (mz_iload_n (k := 1) (show decode cX12_pairs 135 = .ok (.iload_n 1, 1) by decide +kernel)) (
  mz_cons (mz_iload (show decode cX12_pairs 136 = .ok (.iload 6, 2) by decide +kernel)) (
  mz_cons (mz_aload_n (k := 0) (show decode cX12_pairs 138 = .ok (.aload_n 0, 1) by decide +kernel)) (
  mz_cons (mz_getfield (C := RX12) (T := TX12) (N := 29) rfl mz_inX12 (by decide) mw_1000 (show decode cX12_pairs 139 = .ok (.getfield 60, 3) by decide +kernel)) (
  mz_cons (mz_iload_n (k := 1) (show decode cX12_pairs 142 = .ok (.iload_n 1, 1) by decide +kernel)) (
  mz_cons (mz_iaload (show decode cX12_pairs 143 = .ok (.iaload, 1) by decide +kernel)) (
  mz_nil))))))))))))))))
noncomputable def ck_X12_pairs_3 : List (Nat × mz_O) := [(144, .inl (mz_j2 mz_gt 147 152)), (152, .inl (mz_ld mz_isR 0 153)), (153, .inl (mz_gf 12 28 156)), (156, .inl (mz_ld mz_isI 1 157)), (157, .inl (mz_al false 158)), (158, .inl (mz_ast false mz_isI 159)), (159, .inl (mz_inc 2 1 162)), (162, .inl (mz_go 29)), (165, .inl (mz_inc 1 1 168)), (168, .inl (mz_go 12)), (171, .inl (mz_ld mz_isR 0 172)), (172, .inl (mz_gf 12 28 175)), (175, .inl (mz_ld mz_isR 0 176)), (176, .inl (mz_call rn_X12_all 1 (mz_ckV 12) 179)), (179, .inl (mz_al false 180)), (180, .inr (mz_rt mz_isI))]
theorem tk_X12_pairs_3 (E : List mz_V) : mz_all E tM_X12_pairs (ck_X12_pairs_3) :=
  mz_cons (mz_icmp_le 152 (by decide) (show decode cX12_pairs 144 = .ok (.if_icmp .le 8, 3) by decide +kernel)) (
  mz_cons (mz_aload_n (k := 0) (show decode cX12_pairs 152 = .ok (.aload_n 0, 1) by decide +kernel)) (
  mz_cons (mz_getfield (C := RX12) (T := TX12) (N := 29) rfl mz_inX12 (by decide) mw_1000 (show decode cX12_pairs 153 = .ok (.getfield 60, 3) by decide +kernel)) (
  mz_cons (mz_iload_n (k := 1) (show decode cX12_pairs 156 = .ok (.iload_n 1, 1) by decide +kernel)) (
  mz_cons (mz_iaload (show decode cX12_pairs 157 = .ok (.iaload, 1) by decide +kernel)) (
  mz_cons (mz_iastore (show decode cX12_pairs 158 = .ok (.iastore, 1) by decide +kernel)) (
  mz_cons (mz_iinc 1 (by decide) (by decide) (show decode cX12_pairs 159 = .ok (.iinc 2 1, 3) by decide +kernel)) (
  mz_cons (mz_goto 29 (by decide) (show decode cX12_pairs 162 = .ok (.goto (-133), 3) by decide +kernel)) (
  mz_cons (mz_iinc 1 (by decide) (by decide) (show decode cX12_pairs 165 = .ok (.iinc 1 1, 3) by decide +kernel)) (
  mz_cons (mz_goto 12 (by decide) (show decode cX12_pairs 168 = .ok (.goto (-156), 3) by decide +kernel)) (
  mz_cons (mz_aload_n (k := 0) (show decode cX12_pairs 171 = .ok (.aload_n 0, 1) by decide +kernel)) (
  mz_cons (mz_getfield (C := RX12) (T := TX12) (N := 29) rfl mz_inX12 (by decide) mw_1000 (show decode cX12_pairs 172 = .ok (.getfield 60, 3) by decide +kernel)) (
  mz_cons (mz_aload_n (k := 0) (show decode cX12_pairs 175 = .ok (.aload_n 0, 1) by decide +kernel)) (
  mz_cons (mz_invV (n := 0) (ctr_X12_all E) rfl ⟨by decide, by decide, by decide +kernel⟩ ⟨by decide, by decide⟩ mw_1143 mw_1140 mw_1142 mw_40 mw_74 (show decode cX12_pairs 176 = .ok (.invokevirtual 131, 3) by decide +kernel)) (
  mz_cons (mz_iaload (show decode cX12_pairs 179 = .ok (.iaload, 1) by decide +kernel)) (
  mz_consR (mz_ireturn rfl (show decode cX12_pairs 180 = .ok (.ireturn, 1) by decide +kernel)) (
  mz_nil))))))))))))))))
noncomputable def tb_X12_pairs : List (Nat × List (Nat × mz_O)) := [(28, ck_X12_pairs_0), (54, ck_X12_pairs_1), (143, ck_X12_pairs_2), (180, ck_X12_pairs_3)]
theorem tok_X12_pairs (E : List mz_V) : mz_tok E tM_X12_pairs (tb_X12_pairs) := mz_tcons (tk_X12_pairs_0 E) (mz_tcons (tk_X12_pairs_1 E) (mz_tcons (tk_X12_pairs_2 E) (mz_tcons (tk_X12_pairs_3 E) (mz_tnil))))
noncomputable def rn_X12_pairs : List mz_V → List mz_C → Option (Option mz_V × List mz_C) := mz_rn tb_X12_pairs 6177 7
theorem ctr_X12_pairs (E : List mz_V) : mz_ctr E yX12_pairs tM_X12_pairs rn_X12_pairs := mz_ctr_of 6177 (tok_X12_pairs E) (by decide) rfl rfl
abbrev tM_X12_play : mz_M := (cX12_play, 2, (some .int), RX12, "play", 2, 47)
noncomputable def ck_X12_play_0 : List (Nat × mz_O) := [(0, .inl (mz_ld mz_isI 1 1)), (1, .inl (mz_o1 mz_f_i2l 2)), (2, .inl (mz_push (.inr (.inl 0)) 3)), (3, .inl (mz_push (.inr (.inl 4)) 6)), (6, .inl (mz_call rn_X12_in 3 mz_ckT 9)), (9, .inl (mz_j1 mz_eq0 12 15)), (12, .inl (mz_push (.inl (-3)) 14)), (14, .inr (mz_rt mz_isI)), (15, .inl (mz_ld mz_isR 0 16)), (16, .inl (mz_gf 12 15 19)), (19, .inl (mz_j1 mz_eq0 22 25)), (22, .inl (mz_push (.inl (-4)) 24)), (24, .inr (mz_rt mz_isI))]
theorem tk_X12_play_0 (E : List mz_V) : mz_all E tM_X12_play (ck_X12_play_0) :=
  mz_cons (mz_iload_n (k := 1) (show decode cX12_play 0 = .ok (.iload_n 1, 1) by decide +kernel)) (
  mz_cons (mz_i2l (show decode cX12_play 1 = .ok (.i2l, 1) by decide +kernel)) (
  mz_cons (mz_lconst 0 (by decide) (show decode cX12_play 2 = .ok (.lconst 0, 1) by decide +kernel)) (
  mz_cons (mz_ldc2 mw_1193 (show decode cX12_play 3 = .ok (.ldc2_w 192, 3) by decide +kernel)) (
  mz_cons (mz_invS (n := 3) (ctr_X12_in E) ⟨by decide, by decide, by decide +kernel⟩ ⟨by decide, by decide⟩ mw_1068 mw_1066 mw_1067 mw_74 (show decode cX12_play 6 = .ok (.invokestatic 65, 3) by decide +kernel)) (
  mz_cons (mz_if_ne 15 (by decide) (show decode cX12_play 9 = .ok (.ifCond .ne 6, 3) by decide +kernel)) (
  mz_cons (mz_bipush (-3) (by decide) (show decode cX12_play 12 = .ok (.bipush (-3), 2) by decide +kernel)) (
  mz_consR (mz_ireturn rfl (show decode cX12_play 14 = .ok (.ireturn, 1) by decide +kernel)) (
  mz_cons (mz_aload_n (k := 0) (show decode cX12_play 15 = .ok (.aload_n 0, 1) by decide +kernel)) (
  mz_cons (mz_getfield (C := RX12) (T := TX12) (N := 29) rfl mz_inX12 (by decide) mw_987 (show decode cX12_play 16 = .ok (.getfield 127, 3) by decide +kernel)) (
  mz_cons (mz_if_ne 25 (by decide) (show decode cX12_play 19 = .ok (.ifCond .ne 6, 3) by decide +kernel)) (
  mz_cons (mz_bipush (-4) (by decide) (show decode cX12_play 22 = .ok (.bipush (-4), 2) by decide +kernel)) (
  mz_consR (mz_ireturn rfl (show decode cX12_play 24 = .ok (.ireturn, 1) by decide +kernel)) (
  mz_nil)))))))))))))
noncomputable def tb_X12_play : List (Nat × List (Nat × mz_O)) := [(24, ck_X12_play_0)]
theorem tok_X12_play (E : List mz_V) : mz_tok E tM_X12_play (tb_X12_play) := mz_tcons (tk_X12_play_0 E) (mz_tnil)
noncomputable def rn_X12_play : List mz_V → List mz_C → Option (Option mz_V × List mz_C) := mz_rn tb_X12_play 21 2
theorem ctr_X12_play (E : List mz_V) : mz_ctr E yX12_play tM_X12_play rn_X12_play := mz_ctr_of 21 (tok_X12_play E) (by decide) rfl rfl
abbrev tM_X12_room : mz_M := (cX12_room, 3, (some .int), RX12, "room", 3, 68)
noncomputable def ck_X12_room_0 : List (Nat × mz_O) := [(0, .inl (mz_ld mz_isR 0 1)), (1, .inl (mz_ld mz_isI 1 2)), (2, .inl (mz_call rn_X12_isRoom 2 (mz_ckV 12) 5)), (5, .inl (mz_j1 mz_eq0 8 11)), (8, .inl (mz_push (.inl (-2)) 10)), (10, .inr (mz_rt mz_isI)), (11, .inl (mz_ld mz_isI 2 12)), (12, .inl (mz_j1 mz_eq0 15 24)), (15, .inl (mz_ld mz_isR 0 16)), (16, .inl (mz_gf 12 5 19)), (19, .inl (mz_ld mz_isI 1 20)), (20, .inl (mz_al false 21)), (21, .inl (mz_go 67)), (24, .inl (mz_ld mz_isI 2 25)), (25, .inl (mz_push (.inl 1) 26)), (26, .inl (mz_j2 mz_eq 29 37))]
theorem tk_X12_room_0 (E : List mz_V) : mz_all E tM_X12_room (ck_X12_room_0) :=
  mz_cons (mz_aload_n (k := 0) (show decode cX12_room 0 = .ok (.aload_n 0, 1) by decide +kernel)) (
  mz_cons (mz_iload_n (k := 1) (show decode cX12_room 1 = .ok (.iload_n 1, 1) by decide +kernel)) (
  mz_cons (mz_invV (n := 1) (ctr_X12_isRoom E) rfl ⟨by decide, by decide, by decide +kernel⟩ ⟨by decide, by decide⟩ mw_1124 mw_1121 mw_1123 mw_37 mw_74 (show decode cX12_room 2 = .ok (.invokevirtual 137, 3) by decide +kernel)) (
  mz_cons (mz_if_ne 11 (by decide) (show decode cX12_room 5 = .ok (.ifCond .ne 6, 3) by decide +kernel)) (
  mz_cons (mz_bipush (-2) (by decide) (show decode cX12_room 8 = .ok (.bipush (-2), 2) by decide +kernel)) (
  mz_consR (mz_ireturn rfl (show decode cX12_room 10 = .ok (.ireturn, 1) by decide +kernel)) (
  mz_cons (mz_iload_n (k := 2) (show decode cX12_room 11 = .ok (.iload_n 2, 1) by decide +kernel)) (
  mz_cons (mz_if_ne 24 (by decide) (show decode cX12_room 12 = .ok (.ifCond .ne 12, 3) by decide +kernel)) (
  mz_cons (mz_aload_n (k := 0) (show decode cX12_room 15 = .ok (.aload_n 0, 1) by decide +kernel)) (
  mz_cons (mz_getfield (C := RX12) (T := TX12) (N := 29) rfl mz_inX12 (by decide) mw_977 (show decode cX12_room 16 = .ok (.getfield 20, 3) by decide +kernel)) (
  mz_cons (mz_iload_n (k := 1) (show decode cX12_room 19 = .ok (.iload_n 1, 1) by decide +kernel)) (
  mz_cons (mz_iaload (show decode cX12_room 20 = .ok (.iaload, 1) by decide +kernel)) (
  mz_cons (mz_goto 67 (by decide) (show decode cX12_room 21 = .ok (.goto 46, 3) by decide +kernel)) (
  mz_cons (mz_iload_n (k := 2) (show decode cX12_room 24 = .ok (.iload_n 2, 1) by decide +kernel)) (
  mz_cons (mz_iconst 1 (by decide) (show decode cX12_room 25 = .ok (.iconst 1, 1) by decide +kernel)) (
  mz_cons (mz_icmp_ne 37 (by decide) (show decode cX12_room 26 = .ok (.if_icmp .ne 11, 3) by decide +kernel)) (
  mz_nil))))))))))))))))
noncomputable def ck_X12_room_1 : List (Nat × mz_O) := [(29, .inl (mz_ld mz_isR 0 30)), (30, .inl (mz_ld mz_isI 1 31)), (31, .inl (mz_call rn_X12_atOf 2 (mz_ckV 12) 34)), (34, .inl (mz_go 67)), (37, .inl (mz_ld mz_isI 2 38)), (38, .inl (mz_push (.inl 2) 39)), (39, .inl (mz_j2 mz_eq 42 51)), (42, .inl (mz_ld mz_isR 0 43)), (43, .inl (mz_gf 12 6 46)), (46, .inl (mz_ld mz_isI 1 47)), (47, .inl (mz_al false 48)), (48, .inl (mz_go 67)), (51, .inl (mz_ld mz_isI 2 52)), (52, .inl (mz_push (.inl 3) 53)), (53, .inl (mz_j2 mz_eq 56 65)), (56, .inl (mz_ld mz_isR 0 57))]
theorem tk_X12_room_1 (E : List mz_V) : mz_all E tM_X12_room (ck_X12_room_1) :=
  mz_cons (mz_aload_n (k := 0) (show decode cX12_room 29 = .ok (.aload_n 0, 1) by decide +kernel)) (
  mz_cons (mz_iload_n (k := 1) (show decode cX12_room 30 = .ok (.iload_n 1, 1) by decide +kernel)) (
  mz_cons (mz_invV (n := 1) (ctr_X12_atOf E) rfl ⟨by decide, by decide, by decide +kernel⟩ ⟨by decide, by decide⟩ mw_1128 mw_1125 mw_1127 mw_38 mw_74 (show decode cX12_room 31 = .ok (.invokevirtual 140, 3) by decide +kernel)) (
  mz_cons (mz_goto 67 (by decide) (show decode cX12_room 34 = .ok (.goto 33, 3) by decide +kernel)) (
  mz_cons (mz_iload_n (k := 2) (show decode cX12_room 37 = .ok (.iload_n 2, 1) by decide +kernel)) (
  mz_cons (mz_iconst 2 (by decide) (show decode cX12_room 38 = .ok (.iconst 2, 1) by decide +kernel)) (
  mz_cons (mz_icmp_ne 51 (by decide) (show decode cX12_room 39 = .ok (.if_icmp .ne 12, 3) by decide +kernel)) (
  mz_cons (mz_aload_n (k := 0) (show decode cX12_room 42 = .ok (.aload_n 0, 1) by decide +kernel)) (
  mz_cons (mz_getfield (C := RX12) (T := TX12) (N := 29) rfl mz_inX12 (by decide) mw_978 (show decode cX12_room 43 = .ok (.getfield 23, 3) by decide +kernel)) (
  mz_cons (mz_iload_n (k := 1) (show decode cX12_room 46 = .ok (.iload_n 1, 1) by decide +kernel)) (
  mz_cons (mz_iaload (show decode cX12_room 47 = .ok (.iaload, 1) by decide +kernel)) (
  mz_cons (mz_goto 67 (by decide) (show decode cX12_room 48 = .ok (.goto 19, 3) by decide +kernel)) (
  mz_cons (mz_iload_n (k := 2) (show decode cX12_room 51 = .ok (.iload_n 2, 1) by decide +kernel)) (
  mz_cons (mz_iconst 3 (by decide) (show decode cX12_room 52 = .ok (.iconst 3, 1) by decide +kernel)) (
  mz_cons (mz_icmp_ne 65 (by decide) (show decode cX12_room 53 = .ok (.if_icmp .ne 12, 3) by decide +kernel)) (
  mz_cons (mz_aload_n (k := 0) (show decode cX12_room 56 = .ok (.aload_n 0, 1) by decide +kernel)) (
  mz_nil))))))))))))))))
noncomputable def ck_X12_room_2 : List (Nat × mz_O) := [(57, .inl (mz_gf 12 7 60)), (60, .inl (mz_ld mz_isI 1 61)), (61, .inl (mz_al false 62)), (62, .inl (mz_go 67)), (65, .inl (mz_push (.inl (-3)) 67)), (67, .inr (mz_rt mz_isI))]
theorem tk_X12_room_2 (E : List mz_V) : mz_all E tM_X12_room (ck_X12_room_2) :=
  mz_cons (mz_getfield (C := RX12) (T := TX12) (N := 29) rfl mz_inX12 (by decide) mw_979 (show decode cX12_room 57 = .ok (.getfield 26, 3) by decide +kernel)) (
  mz_cons (mz_iload_n (k := 1) (show decode cX12_room 60 = .ok (.iload_n 1, 1) by decide +kernel)) (
  mz_cons (mz_iaload (show decode cX12_room 61 = .ok (.iaload, 1) by decide +kernel)) (
  mz_cons (mz_goto 67 (by decide) (show decode cX12_room 62 = .ok (.goto 5, 3) by decide +kernel)) (
  mz_cons (mz_bipush (-3) (by decide) (show decode cX12_room 65 = .ok (.bipush (-3), 2) by decide +kernel)) (
  mz_consR (mz_ireturn rfl (show decode cX12_room 67 = .ok (.ireturn, 1) by decide +kernel)) (
  mz_nil))))))
noncomputable def tb_X12_room : List (Nat × List (Nat × mz_O)) := [(26, ck_X12_room_0), (56, ck_X12_room_1), (67, ck_X12_room_2)]
theorem tok_X12_room (E : List mz_V) : mz_tok E tM_X12_room (tb_X12_room) := mz_tcons (tk_X12_room_0 E) (mz_tcons (tk_X12_room_1 E) (mz_tcons (tk_X12_room_2 E) (mz_tnil)))
noncomputable def rn_X12_room : List mz_V → List mz_C → Option (Option mz_V × List mz_C) := mz_rn tb_X12_room 31 3
theorem ctr_X12_room (E : List mz_V) : mz_ctr E yX12_room tM_X12_room rn_X12_room := mz_ctr_of 31 (tok_X12_room E) (by decide) rfl rfl
abbrev tM_X12_seeds : mz_M := (cX12_seeds, 8, (some .int), RX12, "seeds", 4, 90)
noncomputable def ck_X12_seeds_0 : List (Nat × mz_O) := [(0, .inl (mz_ld mz_isI 1 1)), (1, .inl (mz_o1 mz_f_i2l 2)), (2, .inl (mz_push (.inr (.inl 1)) 3)), (3, .inl (mz_push (.inr (.inl 9)) 6)), (6, .inl (mz_call rn_X12_in 3 mz_ckT 9)), (9, .inl (mz_j1 mz_eq0 24 12)), (12, .inl (mz_ld mz_isI 2 13)), (13, .inl (mz_o1 mz_f_i2l 14)), (14, .inl (mz_push (.inr (.inl 0)) 15)), (15, .inl (mz_push (.inr (.inl 2)) 18)), (18, .inl (mz_call rn_X12_in 3 mz_ckT 21)), (21, .inl (mz_j1 mz_eq0 24 27)), (24, .inl (mz_push (.inl (-3)) 26)), (26, .inr (mz_rt mz_isI)), (27, .inl (mz_push (.inl (-1)) 28)), (28, .inl (mz_sto mz_isI mz_p1 3 29))]
theorem tk_X12_seeds_0 (E : List mz_V) : mz_all E tM_X12_seeds (ck_X12_seeds_0) :=
  mz_cons (mz_iload_n (k := 1) (show decode cX12_seeds 0 = .ok (.iload_n 1, 1) by decide +kernel)) (
  mz_cons (mz_i2l (show decode cX12_seeds 1 = .ok (.i2l, 1) by decide +kernel)) (
  mz_cons (mz_lconst 1 (by decide) (show decode cX12_seeds 2 = .ok (.lconst 1, 1) by decide +kernel)) (
  mz_cons (mz_ldc2 mw_1222 (show decode cX12_seeds 3 = .ok (.ldc2_w 203, 3) by decide +kernel)) (
  mz_cons (mz_invS (n := 3) (ctr_X12_in E) ⟨by decide, by decide, by decide +kernel⟩ ⟨by decide, by decide⟩ mw_1068 mw_1066 mw_1067 mw_74 (show decode cX12_seeds 6 = .ok (.invokestatic 65, 3) by decide +kernel)) (
  mz_cons (mz_if_eq 24 (by decide) (show decode cX12_seeds 9 = .ok (.ifCond .eq 15, 3) by decide +kernel)) (
  mz_cons (mz_iload_n (k := 2) (show decode cX12_seeds 12 = .ok (.iload_n 2, 1) by decide +kernel)) (
  mz_cons (mz_i2l (show decode cX12_seeds 13 = .ok (.i2l, 1) by decide +kernel)) (
  mz_cons (mz_lconst 0 (by decide) (show decode cX12_seeds 14 = .ok (.lconst 0, 1) by decide +kernel)) (
  mz_cons (mz_ldc2 mw_1144 (show decode cX12_seeds 15 = .ok (.ldc2_w 170, 3) by decide +kernel)) (
  mz_cons (mz_invS (n := 3) (ctr_X12_in E) ⟨by decide, by decide, by decide +kernel⟩ ⟨by decide, by decide⟩ mw_1068 mw_1066 mw_1067 mw_74 (show decode cX12_seeds 18 = .ok (.invokestatic 65, 3) by decide +kernel)) (
  mz_cons (mz_if_ne 27 (by decide) (show decode cX12_seeds 21 = .ok (.ifCond .ne 6, 3) by decide +kernel)) (
  mz_cons (mz_bipush (-3) (by decide) (show decode cX12_seeds 24 = .ok (.bipush (-3), 2) by decide +kernel)) (
  mz_consR (mz_ireturn rfl (show decode cX12_seeds 26 = .ok (.ireturn, 1) by decide +kernel)) (
  mz_cons (mz_iconst (-1) (by decide) (show decode cX12_seeds 27 = .ok (.iconst (-1), 1) by decide +kernel)) (
  mz_cons (mz_istore_n (k := 3) (by decide) (show decode cX12_seeds 28 = .ok (.istore_n 3, 1) by decide +kernel)) (
  mz_nil))))))))))))))))
noncomputable def ck_X12_seeds_1 : List (Nat × mz_O) := [(29, .inl (mz_push (.inl 0) 30)), (30, .inl (mz_sto mz_isI mz_p1 4 32)), (32, .inl (mz_push (.inl 0) 33)), (33, .inl (mz_sto mz_isI mz_p1 5 35)), (35, .inl (mz_ld mz_isI 5 37)), (37, .inl (mz_ld mz_isR 0 38)), (38, .inl (mz_call rn_X12_all 1 (mz_ckV 12) 41)), (41, .inl (mz_j2 mz_gt 155 44)), (44, .inl (mz_ld mz_isI 5 46)), (46, .inl (mz_sto mz_isI mz_p1 6 48)), (48, .inl (mz_push (.inl 0) 49)), (49, .inl (mz_sto mz_isI mz_p1 7 51)), (51, .inl (mz_ld mz_isI 7 53)), (53, .inl (mz_ld mz_isI 1 54)), (54, .inl (mz_j2 mz_lt 57 72)), (57, .inl (mz_ld mz_isR 0 58))]
theorem tk_X12_seeds_1 (E : List mz_V) : mz_all E tM_X12_seeds (ck_X12_seeds_1) :=
  mz_cons (mz_iconst 0 (by decide) (show decode cX12_seeds 29 = .ok (.iconst 0, 1) by decide +kernel)) (
  mz_cons (mz_istore (by decide) (show decode cX12_seeds 30 = .ok (.istore 4, 2) by decide +kernel)) (
  mz_cons (mz_iconst 0 (by decide) (show decode cX12_seeds 32 = .ok (.iconst 0, 1) by decide +kernel)) (
  mz_cons (mz_istore (by decide) (show decode cX12_seeds 33 = .ok (.istore 5, 2) by decide +kernel)) (
  mz_cons (mz_iload (show decode cX12_seeds 35 = .ok (.iload 5, 2) by decide +kernel)) (
  mz_cons (mz_aload_n (k := 0) (show decode cX12_seeds 37 = .ok (.aload_n 0, 1) by decide +kernel)) (
  mz_cons (mz_invV (n := 0) (ctr_X12_all E) rfl ⟨by decide, by decide, by decide +kernel⟩ ⟨by decide, by decide⟩ mw_1143 mw_1140 mw_1142 mw_40 mw_74 (show decode cX12_seeds 38 = .ok (.invokevirtual 131, 3) by decide +kernel)) (
  mz_cons (mz_icmp_gt 155 (by decide) (show decode cX12_seeds 41 = .ok (.if_icmp .gt 114, 3) by decide +kernel)) (
  mz_cons (mz_iload (show decode cX12_seeds 44 = .ok (.iload 5, 2) by decide +kernel)) (
  mz_cons (mz_istore (by decide) (show decode cX12_seeds 46 = .ok (.istore 6, 2) by decide +kernel)) (
  mz_cons (mz_iconst 0 (by decide) (show decode cX12_seeds 48 = .ok (.iconst 0, 1) by decide +kernel)) (
  mz_cons (mz_istore (by decide) (show decode cX12_seeds 49 = .ok (.istore 7, 2) by decide +kernel)) (
  mz_cons (mz_iload (show decode cX12_seeds 51 = .ok (.iload 7, 2) by decide +kernel)) (
  mz_cons (mz_iload_n (k := 1) (show decode cX12_seeds 53 = .ok (.iload_n 1, 1) by decide +kernel)) (
  mz_cons (mz_icmp_ge 72 (by decide) (show decode cX12_seeds 54 = .ok (.if_icmp .ge 18, 3) by decide +kernel)) (
  mz_cons (mz_aload_n (k := 0) (show decode cX12_seeds 57 = .ok (.aload_n 0, 1) by decide +kernel)) (
  mz_nil))))))))))))))))
noncomputable def ck_X12_seeds_2 : List (Nat × mz_O) := [(58, .inl (mz_ld mz_isI 6 60)), (60, .inl (mz_push (.inl 0) 61)), (61, .inl (mz_call rn_X12_caughtBy 3 (mz_ckV 12) 64)), (64, .inl (mz_sto mz_isI mz_p1 6 66)), (66, .inl (mz_inc 7 1 69)), (69, .inl (mz_go 51)), (72, .inl (mz_ld mz_isI 6 74)), (74, .inl (mz_ld mz_isR 0 75)), (75, .inl (mz_call rn_X12_all 1 (mz_ckV 12) 78)), (78, .inl (mz_j2 mz_eq 81 149)), (81, .inl (mz_ld mz_isI 3 82)), (82, .inl (mz_push (.inl (-1)) 83)), (83, .inl (mz_j2 mz_eq 98 86)), (98, .inl (mz_push (.inl 1) 99)), (99, .inl (mz_go 103)), (103, .inl (mz_sto mz_isI mz_p1 7 105))]
theorem tk_X12_seeds_2 (E : List mz_V) : mz_all E tM_X12_seeds (ck_X12_seeds_2) :=
  mz_cons (mz_iload (show decode cX12_seeds 58 = .ok (.iload 6, 2) by decide +kernel)) (
  mz_cons (mz_iconst 0 (by decide) (show decode cX12_seeds 60 = .ok (.iconst 0, 1) by decide +kernel)) (
  mz_cons (mz_invV (n := 2) (ctr_X12_caughtBy E) rfl ⟨by decide, by decide, by decide +kernel⟩ ⟨by decide, by decide⟩ mw_1217 mw_1214 mw_1216 mw_49 mw_74 (show decode cX12_seeds 61 = .ok (.invokevirtual 197, 3) by decide +kernel)) (
  mz_cons (mz_istore (by decide) (show decode cX12_seeds 64 = .ok (.istore 6, 2) by decide +kernel)) (
  mz_cons (mz_iinc 1 (by decide) (by decide) (show decode cX12_seeds 66 = .ok (.iinc 7 1, 3) by decide +kernel)) (
  mz_cons (mz_goto 51 (by decide) (show decode cX12_seeds 69 = .ok (.goto (-18), 3) by decide +kernel)) (
  mz_cons (mz_iload (show decode cX12_seeds 72 = .ok (.iload 6, 2) by decide +kernel)) (
  mz_cons (mz_aload_n (k := 0) (show decode cX12_seeds 74 = .ok (.aload_n 0, 1) by decide +kernel)) (
  mz_cons (mz_invV (n := 0) (ctr_X12_all E) rfl ⟨by decide, by decide, by decide +kernel⟩ ⟨by decide, by decide⟩ mw_1143 mw_1140 mw_1142 mw_40 mw_74 (show decode cX12_seeds 75 = .ok (.invokevirtual 131, 3) by decide +kernel)) (
  mz_cons (mz_icmp_ne 149 (by decide) (show decode cX12_seeds 78 = .ok (.if_icmp .ne 71, 3) by decide +kernel)) (
  mz_cons (mz_iload_n (k := 3) (show decode cX12_seeds 81 = .ok (.iload_n 3, 1) by decide +kernel)) (
  mz_cons (mz_iconst (-1) (by decide) (show decode cX12_seeds 82 = .ok (.iconst (-1), 1) by decide +kernel)) (
  mz_cons (mz_icmp_eq 98 (by decide) (show decode cX12_seeds 83 = .ok (.if_icmp .eq 15, 3) by decide +kernel)) (
  mz_cons (mz_iconst 1 (by decide) (show decode cX12_seeds 98 = .ok (.iconst 1, 1) by decide +kernel)) (
  mz_cons (mz_goto 103 (by decide) (show decode cX12_seeds 99 = .ok (.goto 4, 3) by decide +kernel)) (
  mz_cons (mz_istore (by decide) (show decode cX12_seeds 103 = .ok (.istore 7, 2) by decide +kernel)) (
  mz_nil))))))))))))))))
noncomputable def ck_X12_seeds_3 : List (Nat × mz_O) := [(105, .inl (mz_ld mz_isI 7 107)), (107, .inl (mz_j1 mz_eq0 114 110)), (110, .inl (mz_push (.inl 1) 111)), (111, .inl (mz_go 135)), (135, .inl (mz_sto mz_isI mz_p1 4 137)), (137, .inl (mz_ld mz_isI 7 139)), (139, .inl (mz_j1 mz_eq0 147 142)), (142, .inl (mz_ld mz_isI 5 144)), (144, .inl (mz_go 148)), (148, .inl (mz_sto mz_isI mz_p1 3 149)), (149, .inl (mz_inc 5 1 152)), (152, .inl (mz_go 35)), (155, .inl (mz_ld mz_isI 2 156)), (156, .inl (mz_j1 mz_eq0 159 166)), (159, .inl (mz_ld mz_isI 3 160)), (160, .inl (mz_call rn_X12_many 1 mz_ckT 163))]
theorem tk_X12_seeds_3 (E : List mz_V) : mz_all E tM_X12_seeds (ck_X12_seeds_3) :=
  mz_cons (mz_iload (show decode cX12_seeds 105 = .ok (.iload 7, 2) by decide +kernel)) (
  mz_cons (mz_if_eq 114 (by decide) (show decode cX12_seeds 107 = .ok (.ifCond .eq 7, 3) by decide +kernel)) (
  mz_cons (mz_iconst 1 (by decide) (show decode cX12_seeds 110 = .ok (.iconst 1, 1) by decide +kernel)) (
  mz_cons (mz_goto 135 (by decide) (show decode cX12_seeds 111 = .ok (.goto 24, 3) by decide +kernel)) (
  mz_cons (mz_istore (by decide) (show decode cX12_seeds 135 = .ok (.istore 4, 2) by decide +kernel)) (
  mz_cons (mz_iload (show decode cX12_seeds 137 = .ok (.iload 7, 2) by decide +kernel)) (
  mz_cons (mz_if_eq 147 (by decide) (show decode cX12_seeds 139 = .ok (.ifCond .eq 8, 3) by decide +kernel)) (
  mz_cons (mz_iload (show decode cX12_seeds 142 = .ok (.iload 5, 2) by decide +kernel)) (
  mz_cons (mz_goto 148 (by decide) (show decode cX12_seeds 144 = .ok (.goto 4, 3) by decide +kernel)) (
  mz_cons (mz_istore_n (k := 3) (by decide) (show decode cX12_seeds 148 = .ok (.istore_n 3, 1) by decide +kernel)) (
  mz_cons (mz_iinc 1 (by decide) (by decide) (show decode cX12_seeds 149 = .ok (.iinc 5 1, 3) by decide +kernel)) (
  mz_cons (mz_goto 35 (by decide) (show decode cX12_seeds 152 = .ok (.goto (-117), 3) by decide +kernel)) (
  mz_cons (mz_iload_n (k := 2) (show decode cX12_seeds 155 = .ok (.iload_n 2, 1) by decide +kernel)) (
  mz_cons (mz_if_ne 166 (by decide) (show decode cX12_seeds 156 = .ok (.ifCond .ne 10, 3) by decide +kernel)) (
  mz_cons (mz_iload_n (k := 3) (show decode cX12_seeds 159 = .ok (.iload_n 3, 1) by decide +kernel)) (
  mz_cons (mz_invS (n := 1) (ctr_X12_many E) ⟨by decide, by decide, by decide +kernel⟩ ⟨by decide, by decide⟩ mw_1151 mw_1149 mw_1150 mw_74 (show decode cX12_seeds 160 = .ok (.invokestatic 143, 3) by decide +kernel)) (
  mz_nil))))))))))))))))
noncomputable def ck_X12_seeds_4 : List (Nat × mz_O) := [(163, .inl (mz_go 177)), (166, .inl (mz_ld mz_isI 2 167)), (167, .inl (mz_push (.inl 1) 168)), (168, .inl (mz_j2 mz_eq 171 175)), (171, .inl (mz_ld mz_isI 3 172)), (172, .inl (mz_go 177)), (175, .inl (mz_ld mz_isI 4 177)), (177, .inr (mz_rt mz_isI))]
theorem tk_X12_seeds_4 (E : List mz_V) : mz_all E tM_X12_seeds (ck_X12_seeds_4) :=
  mz_cons (mz_goto 177 (by decide) (show decode cX12_seeds 163 = .ok (.goto 14, 3) by decide +kernel)) (
  mz_cons (mz_iload_n (k := 2) (show decode cX12_seeds 166 = .ok (.iload_n 2, 1) by decide +kernel)) (
  mz_cons (mz_iconst 1 (by decide) (show decode cX12_seeds 167 = .ok (.iconst 1, 1) by decide +kernel)) (
  mz_cons (mz_icmp_ne 175 (by decide) (show decode cX12_seeds 168 = .ok (.if_icmp .ne 7, 3) by decide +kernel)) (
  mz_cons (mz_iload_n (k := 3) (show decode cX12_seeds 171 = .ok (.iload_n 3, 1) by decide +kernel)) (
  mz_cons (mz_goto 177 (by decide) (show decode cX12_seeds 172 = .ok (.goto 5, 3) by decide +kernel)) (
  mz_cons (mz_iload (show decode cX12_seeds 175 = .ok (.iload 4, 2) by decide +kernel)) (
  mz_consR (mz_ireturn rfl (show decode cX12_seeds 177 = .ok (.ireturn, 1) by decide +kernel)) (
  mz_nil))))))))
noncomputable def tb_X12_seeds : List (Nat × List (Nat × mz_O)) := [(28, ck_X12_seeds_0), (57, ck_X12_seeds_1), (103, ck_X12_seeds_2), (160, ck_X12_seeds_3), (177, ck_X12_seeds_4)]
theorem tok_X12_seeds (E : List mz_V) : mz_tok E tM_X12_seeds (tb_X12_seeds) := mz_tcons (tk_X12_seeds_0 E) (mz_tcons (tk_X12_seeds_1 E) (mz_tcons (tk_X12_seeds_2 E) (mz_tcons (tk_X12_seeds_3 E) (mz_tcons (tk_X12_seeds_4 E) (mz_tnil)))))
noncomputable def rn_X12_seeds : List mz_V → List mz_C → Option (Option mz_V × List mz_C) := mz_rn tb_X12_seeds 270 8
theorem ctr_X12_seeds (E : List mz_V) : mz_ctr E yX12_seeds tM_X12_seeds rn_X12_seeds := mz_ctr_of 270 (tok_X12_seeds E) (by decide) rfl rfl
abbrev tM_X12_layTill : mz_M := (cX12_layTill, 5, none, RX12, "layTill", 3, 66)
noncomputable def ck_X12_layTill_0 : List (Nat × mz_O) := [(0, .inl (mz_ld mz_isR 0 1)), (1, .inl (mz_call rn_X12_all 1 (mz_ckV 12) 4)), (4, .inl (mz_sto mz_isI mz_p1 1 5)), (5, .inl (mz_ld mz_isI 1 6)), (6, .inl (mz_j1 mz_lt0 121 9)), (9, .inl (mz_ld mz_isI 1 10)), (10, .inl (mz_ld mz_isR 0 11)), (11, .inl (mz_ld mz_isI 1 12)), (12, .inl (mz_call rn_X12_besideAll 2 (mz_ckV 12) 15)), (15, .inl (mz_o2 mz_f_ior 16)), (16, .inl (mz_sto mz_isI mz_p1 2 17)), (17, .inl (mz_ld mz_isR 0 18)), (18, .inl (mz_gf 12 21 21)), (21, .inl (mz_ld mz_isI 1 22)), (22, .inl (mz_ld mz_isI 1 23)), (23, .inl (mz_ld mz_isR 0 24))]
theorem tk_X12_layTill_0 (E : List mz_V) : mz_all E tM_X12_layTill (ck_X12_layTill_0) :=
  mz_cons (mz_aload_n (k := 0) (show decode cX12_layTill 0 = .ok (.aload_n 0, 1) by decide +kernel)) (
  mz_cons (mz_invV (n := 0) (ctr_X12_all E) rfl ⟨by decide, by decide, by decide +kernel⟩ ⟨by decide, by decide⟩ mw_1143 mw_1140 mw_1142 mw_40 mw_74 (show decode cX12_layTill 1 = .ok (.invokevirtual 131, 3) by decide +kernel)) (
  mz_cons (mz_istore_n (k := 1) (by decide) (show decode cX12_layTill 4 = .ok (.istore_n 1, 1) by decide +kernel)) (
  mz_cons (mz_iload_n (k := 1) (show decode cX12_layTill 5 = .ok (.iload_n 1, 1) by decide +kernel)) (
  mz_cons (mz_if_lt 121 (by decide) (show decode cX12_layTill 6 = .ok (.ifCond .lt 115, 3) by decide +kernel)) (
  mz_cons (mz_iload_n (k := 1) (show decode cX12_layTill 9 = .ok (.iload_n 1, 1) by decide +kernel)) (
  mz_cons (mz_aload_n (k := 0) (show decode cX12_layTill 10 = .ok (.aload_n 0, 1) by decide +kernel)) (
  mz_cons (mz_iload_n (k := 1) (show decode cX12_layTill 11 = .ok (.iload_n 1, 1) by decide +kernel)) (
  mz_cons (mz_invV (n := 1) (ctr_X12_besideAll E) rfl ⟨by decide, by decide, by decide +kernel⟩ ⟨by decide, by decide⟩ mw_1168 mw_1165 mw_1167 mw_45 mw_74 (show decode cX12_layTill 12 = .ok (.invokevirtual 146, 3) by decide +kernel)) (
  mz_cons (mz_ior (show decode cX12_layTill 15 = .ok (.ior, 1) by decide +kernel)) (
  mz_cons (mz_istore_n (k := 2) (by decide) (show decode cX12_layTill 16 = .ok (.istore_n 2, 1) by decide +kernel)) (
  mz_cons (mz_aload_n (k := 0) (show decode cX12_layTill 17 = .ok (.aload_n 0, 1) by decide +kernel)) (
  mz_cons (mz_getfield (C := RX12) (T := TX12) (N := 29) rfl mz_inX12 (by decide) mw_993 (show decode cX12_layTill 18 = .ok (.getfield 38, 3) by decide +kernel)) (
  mz_cons (mz_iload_n (k := 1) (show decode cX12_layTill 21 = .ok (.iload_n 1, 1) by decide +kernel)) (
  mz_cons (mz_iload_n (k := 1) (show decode cX12_layTill 22 = .ok (.iload_n 1, 1) by decide +kernel)) (
  mz_cons (mz_aload_n (k := 0) (show decode cX12_layTill 23 = .ok (.aload_n 0, 1) by decide +kernel)) (
  mz_nil))))))))))))))))
noncomputable def ck_X12_layTill_1 : List (Nat × mz_O) := [(24, .inl (mz_call rn_X12_all 1 (mz_ckV 12) 27)), (27, .inl (mz_j2 mz_eq 30 34)), (30, .inl (mz_push (.inl 0) 31)), (31, .inl (mz_go 48)), (34, .inl (mz_ld mz_isI 2 35)), (35, .inl (mz_ld mz_isR 0 36)), (36, .inl (mz_call rn_X12_all 1 (mz_ckV 12) 39)), (39, .inl (mz_j2 mz_eq 42 46)), (46, .inl (mz_push (.inl 268435456) 48)), (48, .inl (mz_ast false mz_isI 49)), (49, .inl (mz_push (.inl 0) 50)), (50, .inl (mz_sto mz_isI mz_p1 3 51)), (51, .inl (mz_ld mz_isI 3 52)), (52, .inl (mz_ld mz_isR 0 53)), (53, .inl (mz_gf 12 4 56)), (56, .inl (mz_j2 mz_lt 59 115))]
theorem tk_X12_layTill_1 (E : List mz_V) : mz_all E tM_X12_layTill (ck_X12_layTill_1) :=
  mz_cons (mz_invV (n := 0) (ctr_X12_all E) rfl ⟨by decide, by decide, by decide +kernel⟩ ⟨by decide, by decide⟩ mw_1143 mw_1140 mw_1142 mw_40 mw_74 (show decode cX12_layTill 24 = .ok (.invokevirtual 131, 3) by decide +kernel)) (
  mz_cons (mz_icmp_ne 34 (by decide) (show decode cX12_layTill 27 = .ok (.if_icmp .ne 7, 3) by decide +kernel)) (
  mz_cons (mz_iconst 0 (by decide) (show decode cX12_layTill 30 = .ok (.iconst 0, 1) by decide +kernel)) (
  mz_cons (mz_goto 48 (by decide) (show decode cX12_layTill 31 = .ok (.goto 17, 3) by decide +kernel)) (
  mz_cons (mz_iload_n (k := 2) (show decode cX12_layTill 34 = .ok (.iload_n 2, 1) by decide +kernel)) (
  mz_cons (mz_aload_n (k := 0) (show decode cX12_layTill 35 = .ok (.aload_n 0, 1) by decide +kernel)) (
  mz_cons (mz_invV (n := 0) (ctr_X12_all E) rfl ⟨by decide, by decide, by decide +kernel⟩ ⟨by decide, by decide⟩ mw_1143 mw_1140 mw_1142 mw_40 mw_74 (show decode cX12_layTill 36 = .ok (.invokevirtual 131, 3) by decide +kernel)) (
  mz_cons (mz_icmp_ne 46 (by decide) (show decode cX12_layTill 39 = .ok (.if_icmp .ne 7, 3) by decide +kernel)) (
  mz_cons (mz_ldc mw_1152 (show decode cX12_layTill 46 = .ok (.ldc 159, 2) by decide +kernel)) (
  mz_cons (mz_iastore (show decode cX12_layTill 48 = .ok (.iastore, 1) by decide +kernel)) (
  mz_cons (mz_iconst 0 (by decide) (show decode cX12_layTill 49 = .ok (.iconst 0, 1) by decide +kernel)) (
  mz_cons (mz_istore_n (k := 3) (by decide) (show decode cX12_layTill 50 = .ok (.istore_n 3, 1) by decide +kernel)) (
  mz_cons (mz_iload_n (k := 3) (show decode cX12_layTill 51 = .ok (.iload_n 3, 1) by decide +kernel)) (
  mz_cons (mz_aload_n (k := 0) (show decode cX12_layTill 52 = .ok (.aload_n 0, 1) by decide +kernel)) (
  mz_cons (mz_getfield (C := RX12) (T := TX12) (N := 29) rfl mz_inX12 (by decide) mw_976 (show decode cX12_layTill 53 = .ok (.getfield 16, 3) by decide +kernel)) (
  mz_cons (mz_icmp_ge 115 (by decide) (show decode cX12_layTill 56 = .ok (.if_icmp .ge 59, 3) by decide +kernel)) (
  mz_nil))))))))))))))))
noncomputable def ck_X12_layTill_2 : List (Nat × mz_O) := [(59, .inl (mz_ld mz_isI 2 60)), (60, .inl (mz_ld mz_isI 3 61)), (61, .inl (mz_call rn_X12_has 2 mz_ckT 64)), (64, .inl (mz_j1 mz_eq0 67 109)), (67, .inl (mz_push (.inl 1) 68)), (68, .inl (mz_ld mz_isR 0 69)), (69, .inl (mz_gf 12 21 72)), (72, .inl (mz_ld mz_isI 2 73)), (73, .inl (mz_push (.inl 1) 74)), (74, .inl (mz_ld mz_isI 3 75)), (75, .inl (mz_o2 mz_f_ishl 76)), (76, .inl (mz_o2 mz_f_ior 77)), (77, .inl (mz_al false 78)), (78, .inl (mz_o2 mz_f_iadd 79)), (79, .inl (mz_sto mz_isI mz_p1 4 81)), (81, .inl (mz_ld mz_isR 0 82))]
theorem tk_X12_layTill_2 (E : List mz_V) : mz_all E tM_X12_layTill (ck_X12_layTill_2) :=
  mz_cons (mz_iload_n (k := 2) (show decode cX12_layTill 59 = .ok (.iload_n 2, 1) by decide +kernel)) (
  mz_cons (mz_iload_n (k := 3) (show decode cX12_layTill 60 = .ok (.iload_n 3, 1) by decide +kernel)) (
  mz_cons (mz_invS (n := 2) (ctr_X12_has E) ⟨by decide, by decide, by decide +kernel⟩ ⟨by decide, by decide⟩ mw_1131 mw_1129 mw_1130 mw_74 (show decode cX12_layTill 61 = .ok (.invokestatic 134, 3) by decide +kernel)) (
  mz_cons (mz_if_ne 109 (by decide) (show decode cX12_layTill 64 = .ok (.ifCond .ne 45, 3) by decide +kernel)) (
  mz_cons (mz_iconst 1 (by decide) (show decode cX12_layTill 67 = .ok (.iconst 1, 1) by decide +kernel)) (
  mz_cons (mz_aload_n (k := 0) (show decode cX12_layTill 68 = .ok (.aload_n 0, 1) by decide +kernel)) (
  mz_cons (mz_getfield (C := RX12) (T := TX12) (N := 29) rfl mz_inX12 (by decide) mw_993 (show decode cX12_layTill 69 = .ok (.getfield 38, 3) by decide +kernel)) (
  mz_cons (mz_iload_n (k := 2) (show decode cX12_layTill 72 = .ok (.iload_n 2, 1) by decide +kernel)) (
  mz_cons (mz_iconst 1 (by decide) (show decode cX12_layTill 73 = .ok (.iconst 1, 1) by decide +kernel)) (
  mz_cons (mz_iload_n (k := 3) (show decode cX12_layTill 74 = .ok (.iload_n 3, 1) by decide +kernel)) (
  mz_cons (mz_ishl (show decode cX12_layTill 75 = .ok (.ishl, 1) by decide +kernel)) (
  mz_cons (mz_ior (show decode cX12_layTill 76 = .ok (.ior, 1) by decide +kernel)) (
  mz_cons (mz_iaload (show decode cX12_layTill 77 = .ok (.iaload, 1) by decide +kernel)) (
  mz_cons (mz_iadd (show decode cX12_layTill 78 = .ok (.iadd, 1) by decide +kernel)) (
  mz_cons (mz_istore (by decide) (show decode cX12_layTill 79 = .ok (.istore 4, 2) by decide +kernel)) (
  mz_cons (mz_aload_n (k := 0) (show decode cX12_layTill 81 = .ok (.aload_n 0, 1) by decide +kernel)) (
  mz_nil))))))))))))))))
noncomputable def ck_X12_layTill_3 : List (Nat × mz_O) := [(82, .inl (mz_gf 12 21 85)), (85, .inl (mz_ld mz_isI 1 86)), (86, .inl (mz_ld mz_isI 4 88)), (88, .inl (mz_ld mz_isR 0 89)), (89, .inl (mz_gf 12 21 92)), (92, .inl (mz_ld mz_isI 1 93)), (93, .inl (mz_al false 94)), (94, .inl (mz_j2 mz_lt 97 102)), (97, .inl (mz_ld mz_isI 4 99)), (99, .inl (mz_go 108)), (108, .inl (mz_ast false mz_isI 109)), (109, .inl (mz_inc 3 1 112)), (112, .inl (mz_go 51)), (115, .inl (mz_inc 1 (-1) 118)), (118, .inl (mz_go 5)), (121, .inr (mz_rv))]
theorem tk_X12_layTill_3 (E : List mz_V) : mz_all E tM_X12_layTill (ck_X12_layTill_3) :=
  mz_cons (mz_getfield (C := RX12) (T := TX12) (N := 29) rfl mz_inX12 (by decide) mw_993 (show decode cX12_layTill 82 = .ok (.getfield 38, 3) by decide +kernel)) (
  mz_cons (mz_iload_n (k := 1) (show decode cX12_layTill 85 = .ok (.iload_n 1, 1) by decide +kernel)) (
  mz_cons (mz_iload (show decode cX12_layTill 86 = .ok (.iload 4, 2) by decide +kernel)) (
  mz_cons (mz_aload_n (k := 0) (show decode cX12_layTill 88 = .ok (.aload_n 0, 1) by decide +kernel)) (
  mz_cons (mz_getfield (C := RX12) (T := TX12) (N := 29) rfl mz_inX12 (by decide) mw_993 (show decode cX12_layTill 89 = .ok (.getfield 38, 3) by decide +kernel)) (
  mz_cons (mz_iload_n (k := 1) (show decode cX12_layTill 92 = .ok (.iload_n 1, 1) by decide +kernel)) (
  mz_cons (mz_iaload (show decode cX12_layTill 93 = .ok (.iaload, 1) by decide +kernel)) (
  mz_cons (mz_icmp_ge 102 (by decide) (show decode cX12_layTill 94 = .ok (.if_icmp .ge 8, 3) by decide +kernel)) (
  mz_cons (mz_iload (show decode cX12_layTill 97 = .ok (.iload 4, 2) by decide +kernel)) (
  mz_cons (mz_goto 108 (by decide) (show decode cX12_layTill 99 = .ok (.goto 9, 3) by decide +kernel)) (
  mz_cons (mz_iastore (show decode cX12_layTill 108 = .ok (.iastore, 1) by decide +kernel)) (
  mz_cons (mz_iinc 1 (by decide) (by decide) (show decode cX12_layTill 109 = .ok (.iinc 3 1, 3) by decide +kernel)) (
  mz_cons (mz_goto 51 (by decide) (show decode cX12_layTill 112 = .ok (.goto (-61), 3) by decide +kernel)) (
  mz_cons (mz_iinc (-1) (by decide) (by decide) (show decode cX12_layTill 115 = .ok (.iinc 1 (-1), 3) by decide +kernel)) (
  mz_cons (mz_goto 5 (by decide) (show decode cX12_layTill 118 = .ok (.goto (-113), 3) by decide +kernel)) (
  mz_consR (mz_return rfl (show decode cX12_layTill 121 = .ok (.return_, 1) by decide +kernel)) (
  mz_nil))))))))))))))))
noncomputable def tb_X12_layTill : List (Nat × List (Nat × mz_O)) := [(23, ck_X12_layTill_0), (56, ck_X12_layTill_1), (81, ck_X12_layTill_2), (121, ck_X12_layTill_3)]
theorem tok_X12_layTill (E : List mz_V) : mz_tok E tM_X12_layTill (tb_X12_layTill) := mz_tcons (tk_X12_layTill_0 E) (mz_tcons (tk_X12_layTill_1 E) (mz_tcons (tk_X12_layTill_2 E) (mz_tcons (tk_X12_layTill_3 E) (mz_tnil))))
noncomputable def rn_X12_layTill : List mz_V → List mz_C → Option (Option mz_V × List mz_C) := mz_rn tb_X12_layTill 114 5
theorem ctr_X12_layTill (E : List mz_V) : mz_ctr E yX12_layTill tM_X12_layTill rn_X12_layTill := mz_ctr_of 114 (tok_X12_layTill E) (by decide) rfl rfl
abbrev tM_X12_sparks : mz_M := (cX12_sparks, 7, (some .int), RX12, "sparks", 4, 90)
noncomputable def ck_X12_sparks_0 : List (Nat × mz_O) := [(0, .inl (mz_ld mz_isI 1 1)), (1, .inl (mz_push (.inl (-1)) 2)), (2, .inl (mz_j2 mz_lt 5 8)), (5, .inl (mz_push (.inl (-3)) 7)), (7, .inr (mz_rt mz_isI)), (8, .inl (mz_ld mz_isR 0 9)), (9, .inl (mz_call rn_X12_layTill 1 (mz_ckV 12) 12)), (12, .inl (mz_ld mz_isI 1 13)), (13, .inl (mz_push (.inl (-1)) 14)), (14, .inl (mz_j2 mz_eq 17 24)), (17, .inl (mz_ld mz_isR 0 18)), (18, .inl (mz_gf 12 21 21)), (21, .inl (mz_push (.inl 0) 22)), (22, .inl (mz_al false 23)), (23, .inr (mz_rt mz_isI)), (24, .inl (mz_push (.inl 0) 25))]
theorem tk_X12_sparks_0 (E : List mz_V) : mz_all E tM_X12_sparks (ck_X12_sparks_0) :=
  mz_cons (mz_iload_n (k := 1) (show decode cX12_sparks 0 = .ok (.iload_n 1, 1) by decide +kernel)) (
  mz_cons (mz_iconst (-1) (by decide) (show decode cX12_sparks 1 = .ok (.iconst (-1), 1) by decide +kernel)) (
  mz_cons (mz_icmp_ge 8 (by decide) (show decode cX12_sparks 2 = .ok (.if_icmp .ge 6, 3) by decide +kernel)) (
  mz_cons (mz_bipush (-3) (by decide) (show decode cX12_sparks 5 = .ok (.bipush (-3), 2) by decide +kernel)) (
  mz_consR (mz_ireturn rfl (show decode cX12_sparks 7 = .ok (.ireturn, 1) by decide +kernel)) (
  mz_cons (mz_aload_n (k := 0) (show decode cX12_sparks 8 = .ok (.aload_n 0, 1) by decide +kernel)) (
  mz_cons (mz_invV (n := 0) (ctr_X12_layTill E) rfl ⟨by decide, by decide, by decide +kernel⟩ ⟨by decide, by decide⟩ mw_1201 mw_1198 mw_1200 mw_47 mw_74 (show decode cX12_sparks 9 = .ok (.invokevirtual 194, 3) by decide +kernel)) (
  mz_cons (mz_iload_n (k := 1) (show decode cX12_sparks 12 = .ok (.iload_n 1, 1) by decide +kernel)) (
  mz_cons (mz_iconst (-1) (by decide) (show decode cX12_sparks 13 = .ok (.iconst (-1), 1) by decide +kernel)) (
  mz_cons (mz_icmp_ne 24 (by decide) (show decode cX12_sparks 14 = .ok (.if_icmp .ne 10, 3) by decide +kernel)) (
  mz_cons (mz_aload_n (k := 0) (show decode cX12_sparks 17 = .ok (.aload_n 0, 1) by decide +kernel)) (
  mz_cons (mz_getfield (C := RX12) (T := TX12) (N := 29) rfl mz_inX12 (by decide) mw_993 (show decode cX12_sparks 18 = .ok (.getfield 38, 3) by decide +kernel)) (
  mz_cons (mz_iconst 0 (by decide) (show decode cX12_sparks 21 = .ok (.iconst 0, 1) by decide +kernel)) (
  mz_cons (mz_iaload (show decode cX12_sparks 22 = .ok (.iaload, 1) by decide +kernel)) (
  mz_consR (mz_ireturn rfl (show decode cX12_sparks 23 = .ok (.ireturn, 1) by decide +kernel)) (
  mz_cons (mz_iconst 0 (by decide) (show decode cX12_sparks 24 = .ok (.iconst 0, 1) by decide +kernel)) (
  mz_nil))))))))))))))))
noncomputable def ck_X12_sparks_1 : List (Nat × mz_O) := [(25, .inl (mz_sto mz_isI mz_p1 2 26)), (26, .inl (mz_push (.inl (-1)) 27)), (27, .inl (mz_sto mz_isI mz_p1 3 28)), (28, .inl (mz_push (.inl 0) 29)), (29, .inl (mz_sto mz_isI mz_p1 4 31)), (31, .inl (mz_ld mz_isI 4 33)), (33, .inl (mz_ld mz_isI 1 34)), (34, .inl (mz_j2 mz_gt 166 37)), (37, .inl (mz_ld mz_isI 2 38)), (38, .inl (mz_ld mz_isR 0 39)), (39, .inl (mz_call rn_X12_all 1 (mz_ckV 12) 42)), (42, .inl (mz_j2 mz_eq 166 45)), (45, .inl (mz_ld mz_isI 2 46)), (46, .inl (mz_ld mz_isR 0 47)), (47, .inl (mz_ld mz_isI 2 48)), (48, .inl (mz_call rn_X12_besideAll 2 (mz_ckV 12) 51))]
theorem tk_X12_sparks_1 (E : List mz_V) : mz_all E tM_X12_sparks (ck_X12_sparks_1) :=
  mz_cons (mz_istore_n (k := 2) (by decide) (show decode cX12_sparks 25 = .ok (.istore_n 2, 1) by decide +kernel)) (
  mz_cons (mz_iconst (-1) (by decide) (show decode cX12_sparks 26 = .ok (.iconst (-1), 1) by decide +kernel)) (
  mz_cons (mz_istore_n (k := 3) (by decide) (show decode cX12_sparks 27 = .ok (.istore_n 3, 1) by decide +kernel)) (
  mz_cons (mz_iconst 0 (by decide) (show decode cX12_sparks 28 = .ok (.iconst 0, 1) by decide +kernel)) (
  mz_cons (mz_istore (by decide) (show decode cX12_sparks 29 = .ok (.istore 4, 2) by decide +kernel)) (
  mz_cons (mz_iload (show decode cX12_sparks 31 = .ok (.iload 4, 2) by decide +kernel)) (
  mz_cons (mz_iload_n (k := 1) (show decode cX12_sparks 33 = .ok (.iload_n 1, 1) by decide +kernel)) (
  mz_cons (mz_icmp_gt 166 (by decide) (show decode cX12_sparks 34 = .ok (.if_icmp .gt 132, 3) by decide +kernel)) (
  mz_cons (mz_iload_n (k := 2) (show decode cX12_sparks 37 = .ok (.iload_n 2, 1) by decide +kernel)) (
  mz_cons (mz_aload_n (k := 0) (show decode cX12_sparks 38 = .ok (.aload_n 0, 1) by decide +kernel)) (
  mz_cons (mz_invV (n := 0) (ctr_X12_all E) rfl ⟨by decide, by decide, by decide +kernel⟩ ⟨by decide, by decide⟩ mw_1143 mw_1140 mw_1142 mw_40 mw_74 (show decode cX12_sparks 39 = .ok (.invokevirtual 131, 3) by decide +kernel)) (
  mz_cons (mz_icmp_eq 166 (by decide) (show decode cX12_sparks 42 = .ok (.if_icmp .eq 124, 3) by decide +kernel)) (
  mz_cons (mz_iload_n (k := 2) (show decode cX12_sparks 45 = .ok (.iload_n 2, 1) by decide +kernel)) (
  mz_cons (mz_aload_n (k := 0) (show decode cX12_sparks 46 = .ok (.aload_n 0, 1) by decide +kernel)) (
  mz_cons (mz_iload_n (k := 2) (show decode cX12_sparks 47 = .ok (.iload_n 2, 1) by decide +kernel)) (
  mz_cons (mz_invV (n := 1) (ctr_X12_besideAll E) rfl ⟨by decide, by decide, by decide +kernel⟩ ⟨by decide, by decide⟩ mw_1168 mw_1165 mw_1167 mw_45 mw_74 (show decode cX12_sparks 48 = .ok (.invokevirtual 146, 3) by decide +kernel)) (
  mz_nil))))))))))))))))
noncomputable def ck_X12_sparks_2 : List (Nat × mz_O) := [(51, .inl (mz_o2 mz_f_ior 52)), (52, .inl (mz_sto mz_isI mz_p1 5 54)), (54, .inl (mz_push (.inl (-1)) 55)), (55, .inl (mz_sto mz_isI mz_p1 3 56)), (56, .inl (mz_push (.inl 0) 57)), (57, .inl (mz_sto mz_isI mz_p1 6 59)), (59, .inl (mz_ld mz_isI 6 61)), (61, .inl (mz_ld mz_isR 0 62)), (62, .inl (mz_gf 12 4 65)), (65, .inl (mz_j2 mz_lt 68 128)), (68, .inl (mz_ld mz_isI 3 69)), (69, .inl (mz_push (.inl (-1)) 70)), (70, .inl (mz_j2 mz_eq 73 128)), (73, .inl (mz_ld mz_isI 5 75)), (75, .inl (mz_ld mz_isR 0 76)), (76, .inl (mz_call rn_X12_all 1 (mz_ckV 12) 79))]
theorem tk_X12_sparks_2 (E : List mz_V) : mz_all E tM_X12_sparks (ck_X12_sparks_2) :=
  mz_cons (mz_ior (show decode cX12_sparks 51 = .ok (.ior, 1) by decide +kernel)) (
  mz_cons (mz_istore (by decide) (show decode cX12_sparks 52 = .ok (.istore 5, 2) by decide +kernel)) (
  mz_cons (mz_iconst (-1) (by decide) (show decode cX12_sparks 54 = .ok (.iconst (-1), 1) by decide +kernel)) (
  mz_cons (mz_istore_n (k := 3) (by decide) (show decode cX12_sparks 55 = .ok (.istore_n 3, 1) by decide +kernel)) (
  mz_cons (mz_iconst 0 (by decide) (show decode cX12_sparks 56 = .ok (.iconst 0, 1) by decide +kernel)) (
  mz_cons (mz_istore (by decide) (show decode cX12_sparks 57 = .ok (.istore 6, 2) by decide +kernel)) (
  mz_cons (mz_iload (show decode cX12_sparks 59 = .ok (.iload 6, 2) by decide +kernel)) (
  mz_cons (mz_aload_n (k := 0) (show decode cX12_sparks 61 = .ok (.aload_n 0, 1) by decide +kernel)) (
  mz_cons (mz_getfield (C := RX12) (T := TX12) (N := 29) rfl mz_inX12 (by decide) mw_976 (show decode cX12_sparks 62 = .ok (.getfield 16, 3) by decide +kernel)) (
  mz_cons (mz_icmp_ge 128 (by decide) (show decode cX12_sparks 65 = .ok (.if_icmp .ge 63, 3) by decide +kernel)) (
  mz_cons (mz_iload_n (k := 3) (show decode cX12_sparks 68 = .ok (.iload_n 3, 1) by decide +kernel)) (
  mz_cons (mz_iconst (-1) (by decide) (show decode cX12_sparks 69 = .ok (.iconst (-1), 1) by decide +kernel)) (
  mz_cons (mz_icmp_ne 128 (by decide) (show decode cX12_sparks 70 = .ok (.if_icmp .ne 58, 3) by decide +kernel)) (
  mz_cons (mz_iload (show decode cX12_sparks 73 = .ok (.iload 5, 2) by decide +kernel)) (
  mz_cons (mz_aload_n (k := 0) (show decode cX12_sparks 75 = .ok (.aload_n 0, 1) by decide +kernel)) (
  mz_cons (mz_invV (n := 0) (ctr_X12_all E) rfl ⟨by decide, by decide, by decide +kernel⟩ ⟨by decide, by decide⟩ mw_1143 mw_1140 mw_1142 mw_40 mw_74 (show decode cX12_sparks 76 = .ok (.invokevirtual 131, 3) by decide +kernel)) (
  mz_nil))))))))))))))))
noncomputable def ck_X12_sparks_3 : List (Nat × mz_O) := [(79, .inl (mz_j2 mz_eq 128 82)), (82, .inl (mz_ld mz_isI 5 84)), (84, .inl (mz_ld mz_isI 6 86)), (86, .inl (mz_call rn_X12_has 2 mz_ckT 89)), (89, .inl (mz_j1 mz_eq0 92 120)), (92, .inl (mz_push (.inl 1) 93)), (93, .inl (mz_ld mz_isR 0 94)), (94, .inl (mz_gf 12 21 97)), (97, .inl (mz_ld mz_isI 5 99)), (99, .inl (mz_push (.inl 1) 100)), (100, .inl (mz_ld mz_isI 6 102)), (102, .inl (mz_o2 mz_f_ishl 103)), (103, .inl (mz_o2 mz_f_ior 104)), (104, .inl (mz_al false 105)), (105, .inl (mz_o2 mz_f_iadd 106)), (106, .inl (mz_ld mz_isR 0 107))]
theorem tk_X12_sparks_3 (E : List mz_V) : mz_all E tM_X12_sparks (ck_X12_sparks_3) :=
  mz_cons (mz_icmp_eq 128 (by decide) (show decode cX12_sparks 79 = .ok (.if_icmp .eq 49, 3) by decide +kernel)) (
  mz_cons (mz_iload (show decode cX12_sparks 82 = .ok (.iload 5, 2) by decide +kernel)) (
  mz_cons (mz_iload (show decode cX12_sparks 84 = .ok (.iload 6, 2) by decide +kernel)) (
  mz_cons (mz_invS (n := 2) (ctr_X12_has E) ⟨by decide, by decide, by decide +kernel⟩ ⟨by decide, by decide⟩ mw_1131 mw_1129 mw_1130 mw_74 (show decode cX12_sparks 86 = .ok (.invokestatic 134, 3) by decide +kernel)) (
  mz_cons (mz_if_ne 120 (by decide) (show decode cX12_sparks 89 = .ok (.ifCond .ne 31, 3) by decide +kernel)) (
  mz_cons (mz_iconst 1 (by decide) (show decode cX12_sparks 92 = .ok (.iconst 1, 1) by decide +kernel)) (
  mz_cons (mz_aload_n (k := 0) (show decode cX12_sparks 93 = .ok (.aload_n 0, 1) by decide +kernel)) (
  mz_cons (mz_getfield (C := RX12) (T := TX12) (N := 29) rfl mz_inX12 (by decide) mw_993 (show decode cX12_sparks 94 = .ok (.getfield 38, 3) by decide +kernel)) (
  mz_cons (mz_iload (show decode cX12_sparks 97 = .ok (.iload 5, 2) by decide +kernel)) (
  mz_cons (mz_iconst 1 (by decide) (show decode cX12_sparks 99 = .ok (.iconst 1, 1) by decide +kernel)) (
  mz_cons (mz_iload (show decode cX12_sparks 100 = .ok (.iload 6, 2) by decide +kernel)) (
  mz_cons (mz_ishl (show decode cX12_sparks 102 = .ok (.ishl, 1) by decide +kernel)) (
  mz_cons (mz_ior (show decode cX12_sparks 103 = .ok (.ior, 1) by decide +kernel)) (
  mz_cons (mz_iaload (show decode cX12_sparks 104 = .ok (.iaload, 1) by decide +kernel)) (
  mz_cons (mz_iadd (show decode cX12_sparks 105 = .ok (.iadd, 1) by decide +kernel)) (
  mz_cons (mz_aload_n (k := 0) (show decode cX12_sparks 106 = .ok (.aload_n 0, 1) by decide +kernel)) (
  mz_nil))))))))))))))))
noncomputable def ck_X12_sparks_4 : List (Nat × mz_O) := [(107, .inl (mz_gf 12 21 110)), (110, .inl (mz_ld mz_isI 2 111)), (111, .inl (mz_al false 112)), (112, .inl (mz_j2 mz_eq 115 120)), (115, .inl (mz_ld mz_isI 6 117)), (117, .inl (mz_go 121)), (121, .inl (mz_sto mz_isI mz_p1 3 122)), (122, .inl (mz_inc 6 1 125)), (125, .inl (mz_go 59)), (128, .inl (mz_ld mz_isI 3 129)), (129, .inl (mz_push (.inl (-1)) 130)), (130, .inl (mz_j2 mz_eq 133 138)), (138, .inl (mz_ld mz_isI 5 140)), (140, .inl (mz_push (.inl 1) 141)), (141, .inl (mz_ld mz_isI 3 142)), (142, .inl (mz_o2 mz_f_ishl 143))]
theorem tk_X12_sparks_4 (E : List mz_V) : mz_all E tM_X12_sparks (ck_X12_sparks_4) :=
  mz_cons (mz_getfield (C := RX12) (T := TX12) (N := 29) rfl mz_inX12 (by decide) mw_993 (show decode cX12_sparks 107 = .ok (.getfield 38, 3) by decide +kernel)) (
  mz_cons (mz_iload_n (k := 2) (show decode cX12_sparks 110 = .ok (.iload_n 2, 1) by decide +kernel)) (
  mz_cons (mz_iaload (show decode cX12_sparks 111 = .ok (.iaload, 1) by decide +kernel)) (
  mz_cons (mz_icmp_ne 120 (by decide) (show decode cX12_sparks 112 = .ok (.if_icmp .ne 8, 3) by decide +kernel)) (
  mz_cons (mz_iload (show decode cX12_sparks 115 = .ok (.iload 6, 2) by decide +kernel)) (
  mz_cons (mz_goto 121 (by decide) (show decode cX12_sparks 117 = .ok (.goto 4, 3) by decide +kernel)) (
  mz_cons (mz_istore_n (k := 3) (by decide) (show decode cX12_sparks 121 = .ok (.istore_n 3, 1) by decide +kernel)) (
  mz_cons (mz_iinc 1 (by decide) (by decide) (show decode cX12_sparks 122 = .ok (.iinc 6 1, 3) by decide +kernel)) (
  mz_cons (mz_goto 59 (by decide) (show decode cX12_sparks 125 = .ok (.goto (-66), 3) by decide +kernel)) (
  mz_cons (mz_iload_n (k := 3) (show decode cX12_sparks 128 = .ok (.iload_n 3, 1) by decide +kernel)) (
  mz_cons (mz_iconst (-1) (by decide) (show decode cX12_sparks 129 = .ok (.iconst (-1), 1) by decide +kernel)) (
  mz_cons (mz_icmp_ne 138 (by decide) (show decode cX12_sparks 130 = .ok (.if_icmp .ne 8, 3) by decide +kernel)) (
  mz_cons (mz_iload (show decode cX12_sparks 138 = .ok (.iload 5, 2) by decide +kernel)) (
  mz_cons (mz_iconst 1 (by decide) (show decode cX12_sparks 140 = .ok (.iconst 1, 1) by decide +kernel)) (
  mz_cons (mz_iload_n (k := 3) (show decode cX12_sparks 141 = .ok (.iload_n 3, 1) by decide +kernel)) (
  mz_cons (mz_ishl (show decode cX12_sparks 142 = .ok (.ishl, 1) by decide +kernel)) (
  mz_nil))))))))))))))))
noncomputable def ck_X12_sparks_5 : List (Nat × mz_O) := [(143, .inl (mz_o2 mz_f_ior 144)), (144, .inl (mz_sto mz_isI mz_p1 2 145)), (145, .inl (mz_ld mz_isI 3 146)), (146, .inl (mz_push (.inl (-1)) 147)), (147, .inl (mz_j2 mz_eq 150 152)), (152, .inl (mz_ld mz_isI 4 154)), (154, .inl (mz_ld mz_isI 1 155)), (155, .inl (mz_j2 mz_eq 158 160)), (158, .inl (mz_ld mz_isI 3 159)), (159, .inr (mz_rt mz_isI)), (160, .inl (mz_inc 4 1 163)), (163, .inl (mz_go 31)), (166, .inl (mz_push (.inl (-1)) 167)), (167, .inr (mz_rt mz_isI))]
theorem tk_X12_sparks_5 (E : List mz_V) : mz_all E tM_X12_sparks (ck_X12_sparks_5) :=
  mz_cons (mz_ior (show decode cX12_sparks 143 = .ok (.ior, 1) by decide +kernel)) (
  mz_cons (mz_istore_n (k := 2) (by decide) (show decode cX12_sparks 144 = .ok (.istore_n 2, 1) by decide +kernel)) (
  mz_cons (mz_iload_n (k := 3) (show decode cX12_sparks 145 = .ok (.iload_n 3, 1) by decide +kernel)) (
  mz_cons (mz_iconst (-1) (by decide) (show decode cX12_sparks 146 = .ok (.iconst (-1), 1) by decide +kernel)) (
  mz_cons (mz_icmp_ne 152 (by decide) (show decode cX12_sparks 147 = .ok (.if_icmp .ne 5, 3) by decide +kernel)) (
  mz_cons (mz_iload (show decode cX12_sparks 152 = .ok (.iload 4, 2) by decide +kernel)) (
  mz_cons (mz_iload_n (k := 1) (show decode cX12_sparks 154 = .ok (.iload_n 1, 1) by decide +kernel)) (
  mz_cons (mz_icmp_ne 160 (by decide) (show decode cX12_sparks 155 = .ok (.if_icmp .ne 5, 3) by decide +kernel)) (
  mz_cons (mz_iload_n (k := 3) (show decode cX12_sparks 158 = .ok (.iload_n 3, 1) by decide +kernel)) (
  mz_consR (mz_ireturn rfl (show decode cX12_sparks 159 = .ok (.ireturn, 1) by decide +kernel)) (
  mz_cons (mz_iinc 1 (by decide) (by decide) (show decode cX12_sparks 160 = .ok (.iinc 4 1, 3) by decide +kernel)) (
  mz_cons (mz_goto 31 (by decide) (show decode cX12_sparks 163 = .ok (.goto (-132), 3) by decide +kernel)) (
  mz_cons (mz_iconst (-1) (by decide) (show decode cX12_sparks 166 = .ok (.iconst (-1), 1) by decide +kernel)) (
  mz_consR (mz_ireturn rfl (show decode cX12_sparks 167 = .ok (.ireturn, 1) by decide +kernel)) (
  mz_nil))))))))))))))
noncomputable def tb_X12_sparks : List (Nat × List (Nat × mz_O)) := [(24, ck_X12_sparks_0), (48, ck_X12_sparks_1), (76, ck_X12_sparks_2), (106, ck_X12_sparks_3), (142, ck_X12_sparks_4), (167, ck_X12_sparks_5)]
theorem tok_X12_sparks (E : List mz_V) : mz_tok E tM_X12_sparks (tb_X12_sparks) := mz_tcons (tk_X12_sparks_0 E) (mz_tcons (tk_X12_sparks_1 E) (mz_tcons (tk_X12_sparks_2 E) (mz_tcons (tk_X12_sparks_3 E) (mz_tcons (tk_X12_sparks_4 E) (mz_tcons (tk_X12_sparks_5 E) (mz_tnil))))))
noncomputable def rn_X12_sparks : List mz_V → List mz_C → Option (Option mz_V × List mz_C) := mz_rn tb_X12_sparks 106 7
theorem ctr_X12_sparks (E : List mz_V) : mz_ctr E yX12_sparks tM_X12_sparks rn_X12_sparks := mz_ctr_of 106 (tok_X12_sparks E) (by decide) rfl rfl
abbrev tM_X12_layToken : mz_M := (cX12_layToken, 9, none, RX12, "layToken", 2, 43)
noncomputable def ck_X12_layToken_0 : List (Nat × mz_O) := [(0, .inl (mz_push (.inl 512) 3)), (3, .inl (mz_ld mz_isI 1 4)), (4, .inl (mz_o2 mz_f_imul 5)), (5, .inl (mz_ld mz_isI 2 6)), (6, .inl (mz_o2 mz_f_iadd 7)), (7, .inl (mz_sto mz_isI mz_p1 3 8)), (8, .inl (mz_ld mz_isR 0 9)), (9, .inl (mz_gf 12 24 12)), (12, .inl (mz_ld mz_isI 3 13)), (13, .inl (mz_push (.inl 0) 14)), (14, .inl (mz_ast true mz_is01 15)), (15, .inl (mz_ld mz_isR 0 16)), (16, .inl (mz_gf 12 25 19)), (19, .inl (mz_ld mz_isI 3 20)), (20, .inl (mz_push (.inl 0) 21)), (21, .inl (mz_ast false mz_isI 22))]
theorem tk_X12_layToken_0 (E : List mz_V) : mz_all E tM_X12_layToken (ck_X12_layToken_0) :=
  mz_cons (mz_sipush 512 (by decide) (show decode cX12_layToken 0 = .ok (.sipush 512, 3) by decide +kernel)) (
  mz_cons (mz_iload_n (k := 1) (show decode cX12_layToken 3 = .ok (.iload_n 1, 1) by decide +kernel)) (
  mz_cons (mz_imul (show decode cX12_layToken 4 = .ok (.imul, 1) by decide +kernel)) (
  mz_cons (mz_iload_n (k := 2) (show decode cX12_layToken 5 = .ok (.iload_n 2, 1) by decide +kernel)) (
  mz_cons (mz_iadd (show decode cX12_layToken 6 = .ok (.iadd, 1) by decide +kernel)) (
  mz_cons (mz_istore_n (k := 3) (by decide) (show decode cX12_layToken 7 = .ok (.istore_n 3, 1) by decide +kernel)) (
  mz_cons (mz_aload_n (k := 0) (show decode cX12_layToken 8 = .ok (.aload_n 0, 1) by decide +kernel)) (
  mz_cons (mz_getfield (C := RX12) (T := TX12) (N := 29) rfl mz_inX12 (by decide) mw_996 (show decode cX12_layToken 9 = .ok (.getfield 47, 3) by decide +kernel)) (
  mz_cons (mz_iload_n (k := 3) (show decode cX12_layToken 12 = .ok (.iload_n 3, 1) by decide +kernel)) (
  mz_cons (mz_iconst 0 (by decide) (show decode cX12_layToken 13 = .ok (.iconst 0, 1) by decide +kernel)) (
  mz_cons (mz_zastore (show decode cX12_layToken 14 = .ok (.bastore, 1) by decide +kernel)) (
  mz_cons (mz_aload_n (k := 0) (show decode cX12_layToken 15 = .ok (.aload_n 0, 1) by decide +kernel)) (
  mz_cons (mz_getfield (C := RX12) (T := TX12) (N := 29) rfl mz_inX12 (by decide) mw_997 (show decode cX12_layToken 16 = .ok (.getfield 51, 3) by decide +kernel)) (
  mz_cons (mz_iload_n (k := 3) (show decode cX12_layToken 19 = .ok (.iload_n 3, 1) by decide +kernel)) (
  mz_cons (mz_iconst 0 (by decide) (show decode cX12_layToken 20 = .ok (.iconst 0, 1) by decide +kernel)) (
  mz_cons (mz_iastore (show decode cX12_layToken 21 = .ok (.iastore, 1) by decide +kernel)) (
  mz_nil))))))))))))))))
noncomputable def ck_X12_layToken_1 : List (Nat × mz_O) := [(22, .inl (mz_ld mz_isR 0 23)), (23, .inl (mz_gf 12 26 26)), (26, .inl (mz_ld mz_isI 3 27)), (27, .inl (mz_push (.inl 0) 28)), (28, .inl (mz_ast false mz_isI 29)), (29, .inl (mz_ld mz_isR 0 30)), (30, .inl (mz_gf 12 27 33)), (33, .inl (mz_ld mz_isI 3 34)), (34, .inl (mz_push (.inl (-1)) 35)), (35, .inl (mz_ast false mz_isI 36)), (36, .inl (mz_push (.inl 0) 37)), (37, .inl (mz_sto mz_isI mz_p1 4 39)), (39, .inl (mz_ld mz_isI 4 41)), (41, .inl (mz_ld mz_isR 0 42)), (42, .inl (mz_gf 12 4 45)), (45, .inl (mz_j2 mz_lt 48 263))]
theorem tk_X12_layToken_1 (E : List mz_V) : mz_all E tM_X12_layToken (ck_X12_layToken_1) :=
  mz_cons (mz_aload_n (k := 0) (show decode cX12_layToken 22 = .ok (.aload_n 0, 1) by decide +kernel)) (
  mz_cons (mz_getfield (C := RX12) (T := TX12) (N := 29) rfl mz_inX12 (by decide) mw_998 (show decode cX12_layToken 23 = .ok (.getfield 54, 3) by decide +kernel)) (
  mz_cons (mz_iload_n (k := 3) (show decode cX12_layToken 26 = .ok (.iload_n 3, 1) by decide +kernel)) (
  mz_cons (mz_iconst 0 (by decide) (show decode cX12_layToken 27 = .ok (.iconst 0, 1) by decide +kernel)) (
  mz_cons (mz_iastore (show decode cX12_layToken 28 = .ok (.iastore, 1) by decide +kernel)) (
  mz_cons (mz_aload_n (k := 0) (show decode cX12_layToken 29 = .ok (.aload_n 0, 1) by decide +kernel)) (
  mz_cons (mz_getfield (C := RX12) (T := TX12) (N := 29) rfl mz_inX12 (by decide) mw_999 (show decode cX12_layToken 30 = .ok (.getfield 57, 3) by decide +kernel)) (
  mz_cons (mz_iload_n (k := 3) (show decode cX12_layToken 33 = .ok (.iload_n 3, 1) by decide +kernel)) (
  mz_cons (mz_iconst (-1) (by decide) (show decode cX12_layToken 34 = .ok (.iconst (-1), 1) by decide +kernel)) (
  mz_cons (mz_iastore (show decode cX12_layToken 35 = .ok (.iastore, 1) by decide +kernel)) (
  mz_cons (mz_iconst 0 (by decide) (show decode cX12_layToken 36 = .ok (.iconst 0, 1) by decide +kernel)) (
  mz_cons (mz_istore (by decide) (show decode cX12_layToken 37 = .ok (.istore 4, 2) by decide +kernel)) (
  mz_cons (mz_iload (show decode cX12_layToken 39 = .ok (.iload 4, 2) by decide +kernel)) (
  mz_cons (mz_aload_n (k := 0) (show decode cX12_layToken 41 = .ok (.aload_n 0, 1) by decide +kernel)) (
  mz_cons (mz_getfield (C := RX12) (T := TX12) (N := 29) rfl mz_inX12 (by decide) mw_976 (show decode cX12_layToken 42 = .ok (.getfield 16, 3) by decide +kernel)) (
  mz_cons (mz_icmp_ge 263 (by decide) (show decode cX12_layToken 45 = .ok (.if_icmp .ge 218, 3) by decide +kernel)) (
  mz_nil))))))))))))))))
noncomputable def ck_X12_layToken_2 : List (Nat × mz_O) := [(48, .inl (mz_ld mz_isR 0 49)), (49, .inl (mz_gf 12 5 52)), (52, .inl (mz_ld mz_isI 1 53)), (53, .inl (mz_al false 54)), (54, .inl (mz_ld mz_isI 4 56)), (56, .inl (mz_call rn_X12_has 2 mz_ckT 59)), (59, .inl (mz_j1 mz_eq0 257 62)), (257, .inl (mz_inc 4 1 260)), (260, .inl (mz_go 39)), (263, .inr (mz_rv))]
theorem tk_X12_layToken_2 (E : List mz_V) : mz_all E tM_X12_layToken (ck_X12_layToken_2) :=
  mz_cons (mz_aload_n (k := 0) (show decode cX12_layToken 48 = .ok (.aload_n 0, 1) by decide +kernel)) (
  mz_cons (mz_getfield (C := RX12) (T := TX12) (N := 29) rfl mz_inX12 (by decide) mw_977 (show decode cX12_layToken 49 = .ok (.getfield 20, 3) by decide +kernel)) (
  mz_cons (mz_iload_n (k := 1) (show decode cX12_layToken 52 = .ok (.iload_n 1, 1) by decide +kernel)) (
  mz_cons (mz_iaload (show decode cX12_layToken 53 = .ok (.iaload, 1) by decide +kernel)) (
  mz_cons (mz_iload (show decode cX12_layToken 54 = .ok (.iload 4, 2) by decide +kernel)) (
  mz_cons (mz_invS (n := 2) (ctr_X12_has E) ⟨by decide, by decide, by decide +kernel⟩ ⟨by decide, by decide⟩ mw_1131 mw_1129 mw_1130 mw_74 (show decode cX12_layToken 56 = .ok (.invokestatic 134, 3) by decide +kernel)) (
  mz_cons (mz_if_eq 257 (by decide) (show decode cX12_layToken 59 = .ok (.ifCond .eq 198, 3) by decide +kernel)) (
  mz_cons (mz_iinc 1 (by decide) (by decide) (show decode cX12_layToken 257 = .ok (.iinc 4 1, 3) by decide +kernel)) (
  mz_cons (mz_goto 39 (by decide) (show decode cX12_layToken 260 = .ok (.goto (-221), 3) by decide +kernel)) (
  mz_consR (mz_return rfl (show decode cX12_layToken 263 = .ok (.return_, 1) by decide +kernel)) (
  mz_nil))))))))))
noncomputable def tb_X12_layToken : List (Nat × List (Nat × mz_O)) := [(21, ck_X12_layToken_0), (45, ck_X12_layToken_1), (263, ck_X12_layToken_2)]
theorem tok_X12_layToken (E : List mz_V) : mz_tok E tM_X12_layToken (tb_X12_layToken) := mz_tcons (tk_X12_layToken_0 E) (mz_tcons (tk_X12_layToken_1 E) (mz_tcons (tk_X12_layToken_2 E) (mz_tnil)))
noncomputable def rn_X12_layToken : List mz_V → List mz_C → Option (Option mz_V × List mz_C) := mz_rn tb_X12_layToken 56 9
theorem ctr_X12_layToken (E : List mz_V) : mz_ctr E yX12_layToken tM_X12_layToken rn_X12_layToken := mz_ctr_of 56 (tok_X12_layToken E) (by decide) rfl rfl
