abbrev tM_X11_room : mz_M := (cX11_room, 3, (some .int), RX11, "room", 2, 43)
noncomputable def ck_X11_room_0 : List (Nat × mz_O) := [(0, .inl (mz_ld mz_isR 0 1)), (1, .inl (mz_gf 11 0 4)), (4, .inl (mz_ld mz_isI 1 5)), (5, .inl (mz_call rn_X6_isRoom 2 (mz_ckV 6) 8)), (8, .inl (mz_j1 mz_eq0 11 14)), (11, .inl (mz_push (.inl (-2)) 13)), (13, .inr (mz_rt mz_isI)), (14, .inl (mz_ld mz_isI 2 15)), (15, .inl (mz_ts 0 3 [44, 53, 62, 71] 80)), (44, .inl (mz_ld mz_isR 0 45)), (45, .inl (mz_gf 11 0 48)), (48, .inl (mz_ld mz_isI 1 49)), (49, .inl (mz_call rn_X6_beside 2 (mz_ckV 6) 52)), (52, .inr (mz_rt mz_isI)), (53, .inl (mz_ld mz_isR 0 54)), (54, .inl (mz_gf 11 0 57))]
theorem tk_X11_room_0 (E : List mz_V) : mz_all E tM_X11_room (ck_X11_room_0) :=
  mz_cons (mz_aload_n (k := 0) (show decode cX11_room 0 = .ok (.aload_n 0, 1) by decide +kernel)) (
  mz_cons (mz_getfield (C := RX11) (T := TX11) (N := 9) rfl mz_inX11 (by decide) mw_330 (show decode cX11_room 1 = .ok (.getfield 18, 3) by decide +kernel)) (
  mz_cons (mz_iload_n (k := 1) (show decode cX11_room 4 = .ok (.iload_n 1, 1) by decide +kernel)) (
  mz_cons (mz_invV (n := 1) (ctr_X6_isRoom E) rfl ⟨by decide, by decide, by decide +kernel⟩ ⟨by decide, by decide⟩ mw_522 mw_539 mw_520 mw_521 mw_65 (show decode cX11_room 5 = .ok (.invokevirtual 129, 3) by decide +kernel)) (
  mz_cons (mz_if_ne 14 (by decide) (show decode cX11_room 8 = .ok (.ifCond .ne 6, 3) by decide +kernel)) (
  mz_cons (mz_bipush (-2) (by decide) (show decode cX11_room 11 = .ok (.bipush (-2), 2) by decide +kernel)) (
  mz_consR (mz_ireturn rfl (show decode cX11_room 13 = .ok (.ireturn, 1) by decide +kernel)) (
  mz_cons (mz_iload_n (k := 2) (show decode cX11_room 14 = .ok (.iload_n 2, 1) by decide +kernel)) (
  mz_cons (mz_tableswitch [44, 53, 62, 71] 80 (by decide) (by decide) (fun z h1 h2 => show (z - 0).toNat < 4 by omega) (show decode cX11_room 15 = .ok (.tableswitch 65 0 3 #[29, 38, 47, 56], 29) by decide +kernel)) (
  mz_cons (mz_aload_n (k := 0) (show decode cX11_room 44 = .ok (.aload_n 0, 1) by decide +kernel)) (
  mz_cons (mz_getfield (C := RX11) (T := TX11) (N := 9) rfl mz_inX11 (by decide) mw_330 (show decode cX11_room 45 = .ok (.getfield 18, 3) by decide +kernel)) (
  mz_cons (mz_iload_n (k := 1) (show decode cX11_room 48 = .ok (.iload_n 1, 1) by decide +kernel)) (
  mz_cons (mz_invV (n := 1) (ctr_X6_beside E) rfl ⟨by decide, by decide, by decide +kernel⟩ ⟨by decide, by decide⟩ mw_543 mw_540 mw_541 mw_542 mw_65 (show decode cX11_room 49 = .ok (.invokevirtual 133, 3) by decide +kernel)) (
  mz_consR (mz_ireturn rfl (show decode cX11_room 52 = .ok (.ireturn, 1) by decide +kernel)) (
  mz_cons (mz_aload_n (k := 0) (show decode cX11_room 53 = .ok (.aload_n 0, 1) by decide +kernel)) (
  mz_cons (mz_getfield (C := RX11) (T := TX11) (N := 9) rfl mz_inX11 (by decide) mw_330 (show decode cX11_room 54 = .ok (.getfield 18, 3) by decide +kernel)) (
  mz_nil))))))))))))))))
noncomputable def ck_X11_room_1 : List (Nat × mz_O) := [(57, .inl (mz_ld mz_isI 1 58)), (58, .inl (mz_call rn_X6_at 2 (mz_ckV 6) 61)), (61, .inr (mz_rt mz_isI)), (62, .inl (mz_ld mz_isR 0 63)), (63, .inl (mz_gf 11 0 66)), (66, .inl (mz_ld mz_isI 1 67)), (67, .inl (mz_call rn_X6_folk 2 (mz_ckV 6) 70)), (70, .inr (mz_rt mz_isI)), (71, .inl (mz_ld mz_isR 0 72)), (72, .inl (mz_gf 11 0 75)), (75, .inl (mz_ld mz_isI 1 76)), (76, .inl (mz_call rn_X6_thick 2 (mz_ckV 6) 79)), (79, .inr (mz_rt mz_isI)), (80, .inl (mz_push (.inl (-3)) 82)), (82, .inr (mz_rt mz_isI))]
theorem tk_X11_room_1 (E : List mz_V) : mz_all E tM_X11_room (ck_X11_room_1) :=
  mz_cons (mz_iload_n (k := 1) (show decode cX11_room 57 = .ok (.iload_n 1, 1) by decide +kernel)) (
  mz_cons (mz_invV (n := 1) (ctr_X6_at E) rfl ⟨by decide, by decide, by decide +kernel⟩ ⟨by decide, by decide⟩ mw_547 mw_544 mw_545 mw_546 mw_65 (show decode cX11_room 58 = .ok (.invokevirtual 136, 3) by decide +kernel)) (
  mz_consR (mz_ireturn rfl (show decode cX11_room 61 = .ok (.ireturn, 1) by decide +kernel)) (
  mz_cons (mz_aload_n (k := 0) (show decode cX11_room 62 = .ok (.aload_n 0, 1) by decide +kernel)) (
  mz_cons (mz_getfield (C := RX11) (T := TX11) (N := 9) rfl mz_inX11 (by decide) mw_330 (show decode cX11_room 63 = .ok (.getfield 18, 3) by decide +kernel)) (
  mz_cons (mz_iload_n (k := 1) (show decode cX11_room 66 = .ok (.iload_n 1, 1) by decide +kernel)) (
  mz_cons (mz_invV (n := 1) (ctr_X6_folk E) rfl ⟨by decide, by decide, by decide +kernel⟩ ⟨by decide, by decide⟩ mw_551 mw_548 mw_549 mw_550 mw_65 (show decode cX11_room 67 = .ok (.invokevirtual 139, 3) by decide +kernel)) (
  mz_consR (mz_ireturn rfl (show decode cX11_room 70 = .ok (.ireturn, 1) by decide +kernel)) (
  mz_cons (mz_aload_n (k := 0) (show decode cX11_room 71 = .ok (.aload_n 0, 1) by decide +kernel)) (
  mz_cons (mz_getfield (C := RX11) (T := TX11) (N := 9) rfl mz_inX11 (by decide) mw_330 (show decode cX11_room 72 = .ok (.getfield 18, 3) by decide +kernel)) (
  mz_cons (mz_iload_n (k := 1) (show decode cX11_room 75 = .ok (.iload_n 1, 1) by decide +kernel)) (
  mz_cons (mz_invV (n := 1) (ctr_X6_thick E) rfl ⟨by decide, by decide, by decide +kernel⟩ ⟨by decide, by decide⟩ mw_555 mw_552 mw_553 mw_554 mw_65 (show decode cX11_room 76 = .ok (.invokevirtual 142, 3) by decide +kernel)) (
  mz_consR (mz_ireturn rfl (show decode cX11_room 79 = .ok (.ireturn, 1) by decide +kernel)) (
  mz_cons (mz_bipush (-3) (by decide) (show decode cX11_room 80 = .ok (.bipush (-3), 2) by decide +kernel)) (
  mz_consR (mz_ireturn rfl (show decode cX11_room 82 = .ok (.ireturn, 1) by decide +kernel)) (
  mz_nil)))))))))))))))
noncomputable def tb_X11_room : List (Nat × List (Nat × mz_O)) := [(54, ck_X11_room_0), (82, ck_X11_room_1)]
theorem tok_X11_room (E : List mz_V) : mz_tok E tM_X11_room (tb_X11_room) := mz_tcons (tk_X11_room_0 E) (mz_tcons (tk_X11_room_1 E) (mz_tnil))
noncomputable def rn_X11_room : List mz_V → List mz_C → Option (Option mz_V × List mz_C) := mz_rn tb_X11_room 22 3
theorem ctr_X11_room (E : List mz_V) : mz_ctr E yX11_room tM_X11_room rn_X11_room := mz_ctr_of 22 (tok_X11_room E) (by decide) rfl rfl
abbrev tM_X0_isSeeds : mz_M := (cX0_isSeeds, 3, (some .boolean), RX0, "isSeeds", 4, 94)
noncomputable def ck_X0_isSeeds_0 : List (Nat × mz_O) := [(0, .inl (mz_ld mz_isR 0 1)), (1, .inl (mz_gf 0 0 4)), (4, .inl (mz_ld mz_isI 1 5)), (5, .inl (mz_call rn_X6_isSet 2 (mz_ckV 6) 8)), (8, .inl (mz_j1 mz_eq0 32 11)), (11, .inl (mz_ld mz_isR 0 12)), (12, .inl (mz_ld mz_isI 1 13)), (13, .inl (mz_push (.inl 0) 14)), (14, .inl (mz_ld mz_isI 2 15)), (15, .inl (mz_call rn_X0_burnFrom 4 (mz_ckV 0) 18)), (18, .inl (mz_ld mz_isR 0 19)), (19, .inl (mz_gf 0 0 22)), (22, .inl (mz_call rn_X6_all 1 (mz_ckV 6) 25)), (25, .inl (mz_j2 mz_eq 28 32)), (28, .inl (mz_push (.inl 1) 29)), (29, .inl (mz_go 33))]
theorem tk_X0_isSeeds_0 (E : List mz_V) : mz_all E tM_X0_isSeeds (ck_X0_isSeeds_0) :=
  mz_cons (mz_aload_n (k := 0) (show decode cX0_isSeeds 0 = .ok (.aload_n 0, 1) by decide +kernel)) (
  mz_cons (mz_getfield (C := RX0) (T := TX0) (N := 3) rfl mz_inX0 (by decide) mw_266 (show decode cX0_isSeeds 1 = .ok (.getfield 15, 3) by decide +kernel)) (
  mz_cons (mz_iload_n (k := 1) (show decode cX0_isSeeds 4 = .ok (.iload_n 1, 1) by decide +kernel)) (
  mz_cons (mz_invV (n := 1) (ctr_X6_isSet E) rfl ⟨by decide, by decide, by decide +kernel⟩ ⟨by decide, by decide⟩ mw_563 mw_777 mw_561 mw_562 mw_65 (show decode cX0_isSeeds 5 = .ok (.invokevirtual 67, 3) by decide +kernel)) (
  mz_cons (mz_if_eq 32 (by decide) (show decode cX0_isSeeds 8 = .ok (.ifCond .eq 24, 3) by decide +kernel)) (
  mz_cons (mz_aload_n (k := 0) (show decode cX0_isSeeds 11 = .ok (.aload_n 0, 1) by decide +kernel)) (
  mz_cons (mz_iload_n (k := 1) (show decode cX0_isSeeds 12 = .ok (.iload_n 1, 1) by decide +kernel)) (
  mz_cons (mz_iconst 0 (by decide) (show decode cX0_isSeeds 13 = .ok (.iconst 0, 1) by decide +kernel)) (
  mz_cons (mz_iload_n (k := 2) (show decode cX0_isSeeds 14 = .ok (.iload_n 2, 1) by decide +kernel)) (
  mz_cons (mz_invV (n := 3) (ctr_X0_burnFrom E) rfl ⟨by decide, by decide, by decide +kernel⟩ ⟨by decide, by decide⟩ mw_745 mw_778 mw_743 mw_744 mw_70 (show decode cX0_isSeeds 15 = .ok (.invokevirtual 61, 3) by decide +kernel)) (
  mz_cons (mz_aload_n (k := 0) (show decode cX0_isSeeds 18 = .ok (.aload_n 0, 1) by decide +kernel)) (
  mz_cons (mz_getfield (C := RX0) (T := TX0) (N := 3) rfl mz_inX0 (by decide) mw_266 (show decode cX0_isSeeds 19 = .ok (.getfield 15, 3) by decide +kernel)) (
  mz_cons (mz_invV (n := 0) (ctr_X6_all E) rfl ⟨by decide, by decide, by decide +kernel⟩ ⟨by decide, by decide⟩ mw_567 mw_779 mw_565 mw_566 mw_65 (show decode cX0_isSeeds 22 = .ok (.invokevirtual 46, 3) by decide +kernel)) (
  mz_cons (mz_icmp_ne 32 (by decide) (show decode cX0_isSeeds 25 = .ok (.if_icmp .ne 7, 3) by decide +kernel)) (
  mz_cons (mz_iconst 1 (by decide) (show decode cX0_isSeeds 28 = .ok (.iconst 1, 1) by decide +kernel)) (
  mz_cons (mz_goto 33 (by decide) (show decode cX0_isSeeds 29 = .ok (.goto 4, 3) by decide +kernel)) (
  mz_nil))))))))))))))))
noncomputable def ck_X0_isSeeds_1 : List (Nat × mz_O) := [(32, .inl (mz_push (.inl 0) 33)), (33, .inr (mz_rt mz_is01))]
theorem tk_X0_isSeeds_1 (E : List mz_V) : mz_all E tM_X0_isSeeds (ck_X0_isSeeds_1) :=
  mz_cons (mz_iconst 0 (by decide) (show decode cX0_isSeeds 32 = .ok (.iconst 0, 1) by decide +kernel)) (
  mz_consR (mz_zreturn rfl (show decode cX0_isSeeds 33 = .ok (.ireturn, 1) by decide +kernel)) (
  mz_nil))
noncomputable def tb_X0_isSeeds : List (Nat × List (Nat × mz_O)) := [(29, ck_X0_isSeeds_0), (33, ck_X0_isSeeds_1)]
theorem tok_X0_isSeeds (E : List mz_V) : mz_tok E tM_X0_isSeeds (tb_X0_isSeeds) := mz_tcons (tk_X0_isSeeds_0 E) (mz_tcons (tk_X0_isSeeds_1 E) (mz_tnil))
noncomputable def rn_X0_isSeeds : List mz_V → List mz_C → Option (Option mz_V × List mz_C) := mz_rn tb_X0_isSeeds 27 3
theorem ctr_X0_isSeeds (E : List mz_V) : mz_ctr E yX0_isSeeds tM_X0_isSeeds rn_X0_isSeeds := mz_ctr_of 27 (tok_X0_isSeeds E) (by decide) rfl rfl
abbrev tM_X0_leastSeeds : mz_M := (cX0_leastSeeds, 3, (some .int), RX0, "leastSeeds", 5, 116)
noncomputable def ck_X0_leastSeeds_0 : List (Nat × mz_O) := [(0, .inl (mz_push (.inl 0) 1)), (1, .inl (mz_sto mz_isI mz_p1 2 2)), (2, .inl (mz_ld mz_isI 2 3)), (3, .inl (mz_push (.inl 512) 6)), (6, .inl (mz_j2 mz_lt 9 40)), (9, .inl (mz_ld mz_isR 0 10)), (10, .inl (mz_ld mz_isR 0 11)), (11, .inl (mz_gf 0 1 14)), (14, .inl (mz_ld mz_isI 2 15)), (15, .inl (mz_call rn_X8_get 2 (mz_ckV 8) 18)), (18, .inl (mz_ld mz_isI 1 19)), (19, .inl (mz_call rn_X0_isSeeds 3 (mz_ckV 0) 22)), (22, .inl (mz_j1 mz_eq0 34 25)), (25, .inl (mz_ld mz_isR 0 26)), (26, .inl (mz_gf 0 1 29)), (29, .inl (mz_ld mz_isI 2 30))]
theorem tk_X0_leastSeeds_0 (E : List mz_V) : mz_all E tM_X0_leastSeeds (ck_X0_leastSeeds_0) :=
  mz_cons (mz_iconst 0 (by decide) (show decode cX0_leastSeeds 0 = .ok (.iconst 0, 1) by decide +kernel)) (
  mz_cons (mz_istore_n (k := 2) (by decide) (show decode cX0_leastSeeds 1 = .ok (.istore_n 2, 1) by decide +kernel)) (
  mz_cons (mz_iload_n (k := 2) (show decode cX0_leastSeeds 2 = .ok (.iload_n 2, 1) by decide +kernel)) (
  mz_cons (mz_sipush 512 (by decide) (show decode cX0_leastSeeds 3 = .ok (.sipush 512, 3) by decide +kernel)) (
  mz_cons (mz_icmp_ge 40 (by decide) (show decode cX0_leastSeeds 6 = .ok (.if_icmp .ge 34, 3) by decide +kernel)) (
  mz_cons (mz_aload_n (k := 0) (show decode cX0_leastSeeds 9 = .ok (.aload_n 0, 1) by decide +kernel)) (
  mz_cons (mz_aload_n (k := 0) (show decode cX0_leastSeeds 10 = .ok (.aload_n 0, 1) by decide +kernel)) (
  mz_cons (mz_getfield (C := RX0) (T := TX0) (N := 3) rfl mz_inX0 (by decide) mw_267 (show decode cX0_leastSeeds 11 = .ok (.getfield 19, 3) by decide +kernel)) (
  mz_cons (mz_iload_n (k := 2) (show decode cX0_leastSeeds 14 = .ok (.iload_n 2, 1) by decide +kernel)) (
  mz_cons (mz_invV (n := 1) (ctr_X8_get E) rfl ⟨by decide, by decide, by decide +kernel⟩ ⟨by decide, by decide⟩ mw_631 mw_772 mw_629 mw_630 mw_63 (show decode cX0_leastSeeds 15 = .ok (.invokevirtual 37, 3) by decide +kernel)) (
  mz_cons (mz_iload_n (k := 1) (show decode cX0_leastSeeds 18 = .ok (.iload_n 1, 1) by decide +kernel)) (
  mz_cons (mz_invV (n := 2) (ctr_X0_isSeeds E) rfl ⟨by decide, by decide, by decide +kernel⟩ ⟨by decide, by decide⟩ mw_776 mw_773 mw_775 mw_21 mw_70 (show decode cX0_leastSeeds 19 = .ok (.invokevirtual 43, 3) by decide +kernel)) (
  mz_cons (mz_if_eq 34 (by decide) (show decode cX0_leastSeeds 22 = .ok (.ifCond .eq 12, 3) by decide +kernel)) (
  mz_cons (mz_aload_n (k := 0) (show decode cX0_leastSeeds 25 = .ok (.aload_n 0, 1) by decide +kernel)) (
  mz_cons (mz_getfield (C := RX0) (T := TX0) (N := 3) rfl mz_inX0 (by decide) mw_267 (show decode cX0_leastSeeds 26 = .ok (.getfield 19, 3) by decide +kernel)) (
  mz_cons (mz_iload_n (k := 2) (show decode cX0_leastSeeds 29 = .ok (.iload_n 2, 1) by decide +kernel)) (
  mz_nil))))))))))))))))
noncomputable def ck_X0_leastSeeds_1 : List (Nat × mz_O) := [(30, .inl (mz_call rn_X8_get 2 (mz_ckV 8) 33)), (33, .inr (mz_rt mz_isI)), (34, .inl (mz_inc 2 1 37)), (37, .inl (mz_go 2))]
theorem tk_X0_leastSeeds_1 (E : List mz_V) : mz_all E tM_X0_leastSeeds (ck_X0_leastSeeds_1) :=
  mz_cons (mz_invV (n := 1) (ctr_X8_get E) rfl ⟨by decide, by decide, by decide +kernel⟩ ⟨by decide, by decide⟩ mw_631 mw_772 mw_629 mw_630 mw_63 (show decode cX0_leastSeeds 30 = .ok (.invokevirtual 37, 3) by decide +kernel)) (
  mz_consR (mz_ireturn rfl (show decode cX0_leastSeeds 33 = .ok (.ireturn, 1) by decide +kernel)) (
  mz_cons (mz_iinc 1 (by decide) (by decide) (show decode cX0_leastSeeds 34 = .ok (.iinc 2 1, 3) by decide +kernel)) (
  mz_cons (mz_goto 2 (by decide) (show decode cX0_leastSeeds 37 = .ok (.goto (-35), 3) by decide +kernel)) (
  mz_nil))))
noncomputable def tb_X0_leastSeeds : List (Nat × List (Nat × mz_O)) := [(29, ck_X0_leastSeeds_0), (37, ck_X0_leastSeeds_1)]
theorem tok_X0_leastSeeds (E : List mz_V) : mz_tok E tM_X0_leastSeeds (tb_X0_leastSeeds) := mz_tcons (tk_X0_leastSeeds_0 E) (mz_tcons (tk_X0_leastSeeds_1 E) (mz_tnil))
noncomputable def rn_X0_leastSeeds : List mz_V → List mz_C → Option (Option mz_V × List mz_C) := mz_rn tb_X0_leastSeeds 41 3
theorem ctr_X0_leastSeeds (E : List mz_V) : mz_ctr E yX0_leastSeeds tM_X0_leastSeeds rn_X0_leastSeeds := mz_ctr_of 41 (tok_X0_leastSeeds E) (by decide) rfl rfl
abbrev tM_X0_leastSeedSets : mz_M := (cX0_leastSeedSets, 6, (some .int), RX0, "leastSeedSets", 6, 138)
noncomputable def ck_X0_leastSeedSets_0 : List (Nat × mz_O) := [(0, .inl (mz_ld mz_isR 0 1)), (1, .inl (mz_ld mz_isI 1 2)), (2, .inl (mz_call rn_X0_leastSeeds 2 (mz_ckV 0) 5)), (5, .inl (mz_call rn_J6_bitCount_0f7a4 1 mz_ckT 8)), (8, .inl (mz_sto mz_isI mz_p1 2 9)), (9, .inl (mz_push (.inl 0) 10)), (10, .inl (mz_sto mz_isI mz_p1 3 11)), (11, .inl (mz_ld mz_isR 0 12)), (12, .inl (mz_gf 0 1 15)), (15, .inl (mz_ld mz_isI 2 16)), (16, .inl (mz_push (.inl 1) 17)), (17, .inl (mz_o2 mz_f_iadd 18)), (18, .inl (mz_call rn_X8_startOf 2 (mz_ckV 8) 21)), (21, .inl (mz_sto mz_isI mz_p1 4 23)), (23, .inl (mz_ld mz_isR 0 24)), (24, .inl (mz_gf 0 1 27))]
theorem tk_X0_leastSeedSets_0 (E : List mz_V) : mz_all E tM_X0_leastSeedSets (ck_X0_leastSeedSets_0) :=
  mz_cons (mz_aload_n (k := 0) (show decode cX0_leastSeedSets 0 = .ok (.aload_n 0, 1) by decide +kernel)) (
  mz_cons (mz_iload_n (k := 1) (show decode cX0_leastSeedSets 1 = .ok (.iload_n 1, 1) by decide +kernel)) (
  mz_cons (mz_invV (n := 1) (ctr_X0_leastSeeds E) rfl ⟨by decide, by decide, by decide +kernel⟩ ⟨by decide, by decide⟩ mw_771 mw_768 mw_769 mw_770 mw_70 (show decode cX0_leastSeedSets 2 = .ok (.invokevirtual 50, 3) by decide +kernel)) (
  mz_cons (mz_invS (n := 1) (ctr_J6_bitCount_0f7a4 E) ⟨by decide, by decide, by decide +kernel⟩ ⟨by decide, by decide⟩ mw_109 mw_753 mw_108 mw_64 (show decode cX0_leastSeedSets 5 = .ok (.invokestatic 53, 3) by decide +kernel)) (
  mz_cons (mz_istore_n (k := 2) (by decide) (show decode cX0_leastSeedSets 8 = .ok (.istore_n 2, 1) by decide +kernel)) (
  mz_cons (mz_iconst 0 (by decide) (show decode cX0_leastSeedSets 9 = .ok (.iconst 0, 1) by decide +kernel)) (
  mz_cons (mz_istore_n (k := 3) (by decide) (show decode cX0_leastSeedSets 10 = .ok (.istore_n 3, 1) by decide +kernel)) (
  mz_cons (mz_aload_n (k := 0) (show decode cX0_leastSeedSets 11 = .ok (.aload_n 0, 1) by decide +kernel)) (
  mz_cons (mz_getfield (C := RX0) (T := TX0) (N := 3) rfl mz_inX0 (by decide) mw_267 (show decode cX0_leastSeedSets 12 = .ok (.getfield 19, 3) by decide +kernel)) (
  mz_cons (mz_iload_n (k := 2) (show decode cX0_leastSeedSets 15 = .ok (.iload_n 2, 1) by decide +kernel)) (
  mz_cons (mz_iconst 1 (by decide) (show decode cX0_leastSeedSets 16 = .ok (.iconst 1, 1) by decide +kernel)) (
  mz_cons (mz_iadd (show decode cX0_leastSeedSets 17 = .ok (.iadd, 1) by decide +kernel)) (
  mz_cons (mz_invV (n := 1) (ctr_X8_startOf E) rfl ⟨by decide, by decide, by decide +kernel⟩ ⟨by decide, by decide⟩ mw_626 mw_780 mw_624 mw_625 mw_63 (show decode cX0_leastSeedSets 18 = .ok (.invokevirtual 58, 3) by decide +kernel)) (
  mz_cons (mz_istore (by decide) (show decode cX0_leastSeedSets 21 = .ok (.istore 4, 2) by decide +kernel)) (
  mz_cons (mz_aload_n (k := 0) (show decode cX0_leastSeedSets 23 = .ok (.aload_n 0, 1) by decide +kernel)) (
  mz_cons (mz_getfield (C := RX0) (T := TX0) (N := 3) rfl mz_inX0 (by decide) mw_267 (show decode cX0_leastSeedSets 24 = .ok (.getfield 19, 3) by decide +kernel)) (
  mz_nil))))))))))))))))
noncomputable def ck_X0_leastSeedSets_1 : List (Nat × mz_O) := [(27, .inl (mz_ld mz_isI 2 28)), (28, .inl (mz_call rn_X8_startOf 2 (mz_ckV 8) 31)), (31, .inl (mz_sto mz_isI mz_p1 5 33)), (33, .inl (mz_ld mz_isI 5 35)), (35, .inl (mz_ld mz_isI 4 37)), (37, .inl (mz_j2 mz_lt 40 66)), (40, .inl (mz_ld mz_isR 0 41)), (41, .inl (mz_ld mz_isR 0 42)), (42, .inl (mz_gf 0 1 45)), (45, .inl (mz_ld mz_isI 5 47)), (47, .inl (mz_call rn_X8_get 2 (mz_ckV 8) 50)), (50, .inl (mz_ld mz_isI 1 51)), (51, .inl (mz_call rn_X0_isSeeds 3 (mz_ckV 0) 54)), (54, .inl (mz_j1 mz_eq0 60 57)), (57, .inl (mz_inc 3 1 60)), (60, .inl (mz_inc 5 1 63))]
theorem tk_X0_leastSeedSets_1 (E : List mz_V) : mz_all E tM_X0_leastSeedSets (ck_X0_leastSeedSets_1) :=
  mz_cons (mz_iload_n (k := 2) (show decode cX0_leastSeedSets 27 = .ok (.iload_n 2, 1) by decide +kernel)) (
  mz_cons (mz_invV (n := 1) (ctr_X8_startOf E) rfl ⟨by decide, by decide, by decide +kernel⟩ ⟨by decide, by decide⟩ mw_626 mw_780 mw_624 mw_625 mw_63 (show decode cX0_leastSeedSets 28 = .ok (.invokevirtual 58, 3) by decide +kernel)) (
  mz_cons (mz_istore (by decide) (show decode cX0_leastSeedSets 31 = .ok (.istore 5, 2) by decide +kernel)) (
  mz_cons (mz_iload (show decode cX0_leastSeedSets 33 = .ok (.iload 5, 2) by decide +kernel)) (
  mz_cons (mz_iload (show decode cX0_leastSeedSets 35 = .ok (.iload 4, 2) by decide +kernel)) (
  mz_cons (mz_icmp_ge 66 (by decide) (show decode cX0_leastSeedSets 37 = .ok (.if_icmp .ge 29, 3) by decide +kernel)) (
  mz_cons (mz_aload_n (k := 0) (show decode cX0_leastSeedSets 40 = .ok (.aload_n 0, 1) by decide +kernel)) (
  mz_cons (mz_aload_n (k := 0) (show decode cX0_leastSeedSets 41 = .ok (.aload_n 0, 1) by decide +kernel)) (
  mz_cons (mz_getfield (C := RX0) (T := TX0) (N := 3) rfl mz_inX0 (by decide) mw_267 (show decode cX0_leastSeedSets 42 = .ok (.getfield 19, 3) by decide +kernel)) (
  mz_cons (mz_iload (show decode cX0_leastSeedSets 45 = .ok (.iload 5, 2) by decide +kernel)) (
  mz_cons (mz_invV (n := 1) (ctr_X8_get E) rfl ⟨by decide, by decide, by decide +kernel⟩ ⟨by decide, by decide⟩ mw_631 mw_772 mw_629 mw_630 mw_63 (show decode cX0_leastSeedSets 47 = .ok (.invokevirtual 37, 3) by decide +kernel)) (
  mz_cons (mz_iload_n (k := 1) (show decode cX0_leastSeedSets 50 = .ok (.iload_n 1, 1) by decide +kernel)) (
  mz_cons (mz_invV (n := 2) (ctr_X0_isSeeds E) rfl ⟨by decide, by decide, by decide +kernel⟩ ⟨by decide, by decide⟩ mw_776 mw_773 mw_775 mw_21 mw_70 (show decode cX0_leastSeedSets 51 = .ok (.invokevirtual 43, 3) by decide +kernel)) (
  mz_cons (mz_if_eq 60 (by decide) (show decode cX0_leastSeedSets 54 = .ok (.ifCond .eq 6, 3) by decide +kernel)) (
  mz_cons (mz_iinc 1 (by decide) (by decide) (show decode cX0_leastSeedSets 57 = .ok (.iinc 3 1, 3) by decide +kernel)) (
  mz_cons (mz_iinc 1 (by decide) (by decide) (show decode cX0_leastSeedSets 60 = .ok (.iinc 5 1, 3) by decide +kernel)) (
  mz_nil))))))))))))))))
noncomputable def ck_X0_leastSeedSets_2 : List (Nat × mz_O) := [(63, .inl (mz_go 33)), (66, .inl (mz_ld mz_isI 3 67)), (67, .inr (mz_rt mz_isI))]
theorem tk_X0_leastSeedSets_2 (E : List mz_V) : mz_all E tM_X0_leastSeedSets (ck_X0_leastSeedSets_2) :=
  mz_cons (mz_goto 33 (by decide) (show decode cX0_leastSeedSets 63 = .ok (.goto (-30), 3) by decide +kernel)) (
  mz_cons (mz_iload_n (k := 3) (show decode cX0_leastSeedSets 66 = .ok (.iload_n 3, 1) by decide +kernel)) (
  mz_consR (mz_ireturn rfl (show decode cX0_leastSeedSets 67 = .ok (.ireturn, 1) by decide +kernel)) (
  mz_nil)))
noncomputable def tb_X0_leastSeedSets : List (Nat × List (Nat × mz_O)) := [(24, ck_X0_leastSeedSets_0), (60, ck_X0_leastSeedSets_1), (67, ck_X0_leastSeedSets_2)]
theorem tok_X0_leastSeedSets (E : List mz_V) : mz_tok E tM_X0_leastSeedSets (tb_X0_leastSeedSets) := mz_tcons (tk_X0_leastSeedSets_0 E) (mz_tcons (tk_X0_leastSeedSets_1 E) (mz_tcons (tk_X0_leastSeedSets_2 E) (mz_tnil)))
noncomputable def rn_X0_leastSeedSets : List mz_V → List mz_C → Option (Option mz_V × List mz_C) := mz_rn tb_X0_leastSeedSets 152 6
theorem ctr_X0_leastSeedSets (E : List mz_V) : mz_ctr E yX0_leastSeedSets tM_X0_leastSeedSets rn_X0_leastSeedSets := mz_ctr_of 152 (tok_X0_leastSeedSets E) (by decide) rfl rfl
abbrev tM_X11_seeds : mz_M := (cX11_seeds, 4, (some .int), RX11, "seeds", 7, 163)
noncomputable def ck_X11_seeds_0 : List (Nat × mz_O) := [(0, .inl (mz_ld mz_isI 1 1)), (1, .inl (mz_push (.inl 1) 2)), (2, .inl (mz_push (.inl 9) 4)), (4, .inl (mz_call rn_X11_within 3 mz_ckT 7)), (7, .inl (mz_j1 mz_eq0 19 10)), (10, .inl (mz_ld mz_isI 2 11)), (11, .inl (mz_push (.inl 0) 12)), (12, .inl (mz_push (.inl 2) 13)), (13, .inl (mz_call rn_X11_within 3 mz_ckT 16)), (16, .inl (mz_j1 mz_eq0 19 22)), (19, .inl (mz_push (.inl (-3)) 21)), (21, .inr (mz_rt mz_isI)), (22, .inl (mz_ld mz_isI 2 23)), (23, .inl (mz_push (.inl 2) 24)), (24, .inl (mz_j2 mz_eq 27 36)), (27, .inl (mz_ld mz_isR 0 28))]
theorem tk_X11_seeds_0 (E : List mz_V) : mz_all E tM_X11_seeds (ck_X11_seeds_0) :=
  mz_cons (mz_iload_n (k := 1) (show decode cX11_seeds 0 = .ok (.iload_n 1, 1) by decide +kernel)) (
  mz_cons (mz_iconst 1 (by decide) (show decode cX11_seeds 1 = .ok (.iconst 1, 1) by decide +kernel)) (
  mz_cons (mz_bipush 9 (by decide) (show decode cX11_seeds 2 = .ok (.bipush 9, 2) by decide +kernel)) (
  mz_cons (mz_invS (n := 3) (ctr_X11_within E) ⟨by decide, by decide, by decide +kernel⟩ ⟨by decide, by decide⟩ mw_140 mw_362 mw_139 mw_61 (show decode cX11_seeds 4 = .ok (.invokestatic 88, 3) by decide +kernel)) (
  mz_cons (mz_if_eq 19 (by decide) (show decode cX11_seeds 7 = .ok (.ifCond .eq 12, 3) by decide +kernel)) (
  mz_cons (mz_iload_n (k := 2) (show decode cX11_seeds 10 = .ok (.iload_n 2, 1) by decide +kernel)) (
  mz_cons (mz_iconst 0 (by decide) (show decode cX11_seeds 11 = .ok (.iconst 0, 1) by decide +kernel)) (
  mz_cons (mz_iconst 2 (by decide) (show decode cX11_seeds 12 = .ok (.iconst 2, 1) by decide +kernel)) (
  mz_cons (mz_invS (n := 3) (ctr_X11_within E) ⟨by decide, by decide, by decide +kernel⟩ ⟨by decide, by decide⟩ mw_140 mw_362 mw_139 mw_61 (show decode cX11_seeds 13 = .ok (.invokestatic 88, 3) by decide +kernel)) (
  mz_cons (mz_if_ne 22 (by decide) (show decode cX11_seeds 16 = .ok (.ifCond .ne 6, 3) by decide +kernel)) (
  mz_cons (mz_bipush (-3) (by decide) (show decode cX11_seeds 19 = .ok (.bipush (-3), 2) by decide +kernel)) (
  mz_consR (mz_ireturn rfl (show decode cX11_seeds 21 = .ok (.ireturn, 1) by decide +kernel)) (
  mz_cons (mz_iload_n (k := 2) (show decode cX11_seeds 22 = .ok (.iload_n 2, 1) by decide +kernel)) (
  mz_cons (mz_iconst 2 (by decide) (show decode cX11_seeds 23 = .ok (.iconst 2, 1) by decide +kernel)) (
  mz_cons (mz_icmp_ne 36 (by decide) (show decode cX11_seeds 24 = .ok (.if_icmp .ne 12, 3) by decide +kernel)) (
  mz_cons (mz_aload_n (k := 0) (show decode cX11_seeds 27 = .ok (.aload_n 0, 1) by decide +kernel)) (
  mz_nil))))))))))))))))
noncomputable def ck_X11_seeds_1 : List (Nat × mz_O) := [(28, .inl (mz_gf 11 5 31)), (31, .inl (mz_ld mz_isI 1 32)), (32, .inl (mz_call rn_X0_leastSeedSets 2 (mz_ckV 0) 35)), (35, .inr (mz_rt mz_isI)), (36, .inl (mz_ld mz_isR 0 37)), (37, .inl (mz_gf 11 5 40)), (40, .inl (mz_ld mz_isI 1 41)), (41, .inl (mz_call rn_X0_leastSeeds 2 (mz_ckV 0) 44)), (44, .inl (mz_sto mz_isI mz_p1 3 45)), (45, .inl (mz_ld mz_isI 2 46)), (46, .inl (mz_j1 mz_eq0 49 56)), (49, .inl (mz_ld mz_isI 3 50)), (50, .inl (mz_call rn_J6_bitCount_0f7a4 1 mz_ckT 53)), (53, .inl (mz_go 57)), (56, .inl (mz_ld mz_isI 3 57)), (57, .inr (mz_rt mz_isI))]
theorem tk_X11_seeds_1 (E : List mz_V) : mz_all E tM_X11_seeds (ck_X11_seeds_1) :=
  mz_cons (mz_getfield (C := RX11) (T := TX11) (N := 9) rfl mz_inX11 (by decide) mw_335 (show decode cX11_seeds 28 = .ok (.getfield 61, 3) by decide +kernel)) (
  mz_cons (mz_iload_n (k := 1) (show decode cX11_seeds 31 = .ok (.iload_n 1, 1) by decide +kernel)) (
  mz_cons (mz_invV (n := 1) (ctr_X0_leastSeedSets E) rfl ⟨by decide, by decide, by decide +kernel⟩ ⟨by decide, by decide⟩ mw_767 mw_764 mw_765 mw_766 mw_70 (show decode cX11_seeds 32 = .ok (.invokevirtual 195, 3) by decide +kernel)) (
  mz_consR (mz_ireturn rfl (show decode cX11_seeds 35 = .ok (.ireturn, 1) by decide +kernel)) (
  mz_cons (mz_aload_n (k := 0) (show decode cX11_seeds 36 = .ok (.aload_n 0, 1) by decide +kernel)) (
  mz_cons (mz_getfield (C := RX11) (T := TX11) (N := 9) rfl mz_inX11 (by decide) mw_335 (show decode cX11_seeds 37 = .ok (.getfield 61, 3) by decide +kernel)) (
  mz_cons (mz_iload_n (k := 1) (show decode cX11_seeds 40 = .ok (.iload_n 1, 1) by decide +kernel)) (
  mz_cons (mz_invV (n := 1) (ctr_X0_leastSeeds E) rfl ⟨by decide, by decide, by decide +kernel⟩ ⟨by decide, by decide⟩ mw_771 mw_781 mw_769 mw_770 mw_70 (show decode cX11_seeds 41 = .ok (.invokevirtual 198, 3) by decide +kernel)) (
  mz_cons (mz_istore_n (k := 3) (by decide) (show decode cX11_seeds 44 = .ok (.istore_n 3, 1) by decide +kernel)) (
  mz_cons (mz_iload_n (k := 2) (show decode cX11_seeds 45 = .ok (.iload_n 2, 1) by decide +kernel)) (
  mz_cons (mz_if_ne 56 (by decide) (show decode cX11_seeds 46 = .ok (.ifCond .ne 10, 3) by decide +kernel)) (
  mz_cons (mz_iload_n (k := 3) (show decode cX11_seeds 49 = .ok (.iload_n 3, 1) by decide +kernel)) (
  mz_cons (mz_invS (n := 1) (ctr_J6_bitCount_0f7a4 E) ⟨by decide, by decide, by decide +kernel⟩ ⟨by decide, by decide⟩ mw_109 mw_782 mw_108 mw_64 (show decode cX11_seeds 50 = .ok (.invokestatic 201, 3) by decide +kernel)) (
  mz_cons (mz_goto 57 (by decide) (show decode cX11_seeds 53 = .ok (.goto 4, 3) by decide +kernel)) (
  mz_cons (mz_iload_n (k := 3) (show decode cX11_seeds 56 = .ok (.iload_n 3, 1) by decide +kernel)) (
  mz_consR (mz_ireturn rfl (show decode cX11_seeds 57 = .ok (.ireturn, 1) by decide +kernel)) (
  mz_nil))))))))))))))))
noncomputable def tb_X11_seeds : List (Nat × List (Nat × mz_O)) := [(27, ck_X11_seeds_0), (57, ck_X11_seeds_1)]
theorem tok_X11_seeds (E : List mz_V) : mz_tok E tM_X11_seeds (tb_X11_seeds) := mz_tcons (tk_X11_seeds_0 E) (mz_tcons (tk_X11_seeds_1 E) (mz_tnil))
noncomputable def rn_X11_seeds : List mz_V → List mz_C → Option (Option mz_V × List mz_C) := mz_rn tb_X11_seeds 34 4
theorem ctr_X11_seeds (E : List mz_V) : mz_ctr E yX11_seeds tM_X11_seeds rn_X11_seeds := mz_ctr_of 34 (tok_X11_seeds E) (by decide) rfl rfl
abbrev tM_X9_turnsFrom_l2 : mz_M := (cX9_turnsFrom, 6, (some .int), RX9, "turnsFrom", 2, 42)
noncomputable def ck_X9_turnsFrom_l2_0 : List (Nat × mz_O) := [(0, .inl (mz_ld mz_isI 1 1)), (1, .inl (mz_ld mz_isR 0 2)), (2, .inl (mz_gf 9 0 5)), (5, .inl (mz_call rn_X6_all 1 (mz_ckV 6) 8)), (8, .inl (mz_j2 mz_eq 17 11)), (17, .inl (mz_push (.inl 0) 18)), (18, .inr (mz_rt mz_isI))]
theorem tk_X9_turnsFrom_l2_0 (E : List mz_V) : mz_all E tM_X9_turnsFrom_l2 (ck_X9_turnsFrom_l2_0) :=
  mz_cons (mz_iload_n (k := 1) (show decode cX9_turnsFrom 0 = .ok (.iload_n 1, 1) by decide +kernel)) (
  mz_cons (mz_aload_n (k := 0) (show decode cX9_turnsFrom 1 = .ok (.aload_n 0, 1) by decide +kernel)) (
  mz_cons (mz_getfield (C := RX9) (T := TX9) (N := 2) rfl mz_inX9 (by decide) mw_253 (show decode cX9_turnsFrom 2 = .ok (.getfield 9, 3) by decide +kernel)) (
  mz_cons (mz_invV (n := 0) (ctr_X6_all E) rfl ⟨by decide, by decide, by decide +kernel⟩ ⟨by decide, by decide⟩ mw_567 mw_705 mw_565 mw_566 mw_65 (show decode cX9_turnsFrom 5 = .ok (.invokevirtual 38, 3) by decide +kernel)) (
  mz_cons (mz_icmp_eq 17 (by decide) (show decode cX9_turnsFrom 8 = .ok (.if_icmp .eq 9, 3) by decide +kernel)) (
  mz_cons (mz_iconst 0 (by decide) (show decode cX9_turnsFrom 17 = .ok (.iconst 0, 1) by decide +kernel)) (
  mz_consR (mz_ireturn rfl (show decode cX9_turnsFrom 18 = .ok (.ireturn, 1) by decide +kernel)) (
  mz_nil)))))))
noncomputable def tb_X9_turnsFrom_l2 : List (Nat × List (Nat × mz_O)) := [(18, ck_X9_turnsFrom_l2_0)]
theorem tok_X9_turnsFrom_l2 (E : List mz_V) : mz_tok E tM_X9_turnsFrom_l2 (tb_X9_turnsFrom_l2) := mz_tcons (tk_X9_turnsFrom_l2_0 E) (mz_tnil)
noncomputable def rn_X9_turnsFrom_l2 : List mz_V → List mz_C → Option (Option mz_V × List mz_C) := mz_rn tb_X9_turnsFrom_l2 17 6
theorem ctr_X9_turnsFrom_l2 (E : List mz_V) : mz_ctr E yX9_turnsFrom tM_X9_turnsFrom_l2 rn_X9_turnsFrom_l2 := mz_ctr_of 17 (tok_X9_turnsFrom_l2 E) (by decide) rfl rfl
abbrev tM_X9_turnsByBest_l1 : mz_M := (cX9_turnsByBest, 5, (some .int), RX9, "turnsByBest", 3, 67)
noncomputable def ck_X9_turnsByBest_l1_0 : List (Nat × mz_O) := [(0, .inl (mz_push (.inl 1000000) 2)), (2, .inl (mz_sto mz_isI mz_p1 3 3)), (3, .inl (mz_push (.inl 0) 4)), (4, .inl (mz_sto mz_isI mz_p1 4 6)), (6, .inl (mz_ld mz_isI 4 8)), (8, .inl (mz_ld mz_isR 0 9)), (9, .inl (mz_gf 9 0 12)), (12, .inl (mz_call rn_X6_howMany 1 (mz_ckV 6) 15)), (15, .inl (mz_j2 mz_lt 18 51)), (18, .inl (mz_ld mz_isI 1 19)), (19, .inl (mz_ld mz_isI 4 21)), (21, .inl (mz_call rn_X11_has 2 mz_ckT 24)), (24, .inl (mz_j1 mz_eq0 27 45)), (27, .inl (mz_ld mz_isI 3 28)), (28, .inl (mz_ld mz_isR 0 29)), (29, .inl (mz_ld mz_isI 1 30))]
theorem tk_X9_turnsByBest_l1_0 (E : List mz_V) : mz_all E tM_X9_turnsByBest_l1 (ck_X9_turnsByBest_l1_0) :=
  mz_cons (mz_ldc mw_712 (show decode cX9_turnsByBest 0 = .ok (.ldc 64, 2) by decide +kernel)) (
  mz_cons (mz_istore_n (k := 3) (by decide) (show decode cX9_turnsByBest 2 = .ok (.istore_n 3, 1) by decide +kernel)) (
  mz_cons (mz_iconst 0 (by decide) (show decode cX9_turnsByBest 3 = .ok (.iconst 0, 1) by decide +kernel)) (
  mz_cons (mz_istore (by decide) (show decode cX9_turnsByBest 4 = .ok (.istore 4, 2) by decide +kernel)) (
  mz_cons (mz_iload (show decode cX9_turnsByBest 6 = .ok (.iload 4, 2) by decide +kernel)) (
  mz_cons (mz_aload_n (k := 0) (show decode cX9_turnsByBest 8 = .ok (.aload_n 0, 1) by decide +kernel)) (
  mz_cons (mz_getfield (C := RX9) (T := TX9) (N := 2) rfl mz_inX9 (by decide) mw_253 (show decode cX9_turnsByBest 9 = .ok (.getfield 9, 3) by decide +kernel)) (
  mz_cons (mz_invV (n := 0) (ctr_X6_howMany E) rfl ⟨by decide, by decide, by decide +kernel⟩ ⟨by decide, by decide⟩ mw_386 mw_713 mw_384 mw_385 mw_65 (show decode cX9_turnsByBest 12 = .ok (.invokevirtual 51, 3) by decide +kernel)) (
  mz_cons (mz_icmp_ge 51 (by decide) (show decode cX9_turnsByBest 15 = .ok (.if_icmp .ge 36, 3) by decide +kernel)) (
  mz_cons (mz_iload_n (k := 1) (show decode cX9_turnsByBest 18 = .ok (.iload_n 1, 1) by decide +kernel)) (
  mz_cons (mz_iload (show decode cX9_turnsByBest 19 = .ok (.iload 4, 2) by decide +kernel)) (
  mz_cons (mz_invSN (n := 2) (host := "WettedNet") (ctr_X11_has E) ⟨by decide, by decide, by decide +kernel⟩ ⟨by decide, by decide⟩ mw_604 (by decide +kernel) mw_603 mw_61 (show decode cX9_turnsByBest 21 = .ok (.invokestatic 47, 3) by decide +kernel)) (
  mz_cons (mz_if_ne 45 (by decide) (show decode cX9_turnsByBest 24 = .ok (.ifCond .ne 21, 3) by decide +kernel)) (
  mz_cons (mz_iload_n (k := 3) (show decode cX9_turnsByBest 27 = .ok (.iload_n 3, 1) by decide +kernel)) (
  mz_cons (mz_aload_n (k := 0) (show decode cX9_turnsByBest 28 = .ok (.aload_n 0, 1) by decide +kernel)) (
  mz_cons (mz_iload_n (k := 1) (show decode cX9_turnsByBest 29 = .ok (.iload_n 1, 1) by decide +kernel)) (
  mz_nil))))))))))))))))
noncomputable def ck_X9_turnsByBest_l1_1 : List (Nat × mz_O) := [(30, .inl (mz_push (.inl 1) 31)), (31, .inl (mz_ld mz_isI 4 33)), (33, .inl (mz_o2 mz_f_ishl 34)), (34, .inl (mz_o2 mz_f_ior 35)), (35, .inl (mz_ld mz_isI 2 36)), (36, .inl (mz_push (.inl 1) 37)), (37, .inl (mz_o2 mz_f_iadd 38)), (38, .inl (mz_call rn_X9_turnsFrom_l2 3 (mz_ckV 9) 41)), (41, .inl (mz_mn 44)), (44, .inl (mz_sto mz_isI mz_p1 3 45)), (45, .inl (mz_inc 4 1 48)), (48, .inl (mz_go 6)), (51, .inl (mz_ld mz_isI 3 52)), (52, .inr (mz_rt mz_isI))]
theorem tk_X9_turnsByBest_l1_1 (E : List mz_V) : mz_all E tM_X9_turnsByBest_l1 (ck_X9_turnsByBest_l1_1) :=
  mz_cons (mz_iconst 1 (by decide) (show decode cX9_turnsByBest 30 = .ok (.iconst 1, 1) by decide +kernel)) (
  mz_cons (mz_iload (show decode cX9_turnsByBest 31 = .ok (.iload 4, 2) by decide +kernel)) (
  mz_cons (mz_ishl (show decode cX9_turnsByBest 33 = .ok (.ishl, 1) by decide +kernel)) (
  mz_cons (mz_ior (show decode cX9_turnsByBest 34 = .ok (.ior, 1) by decide +kernel)) (
  mz_cons (mz_iload_n (k := 2) (show decode cX9_turnsByBest 35 = .ok (.iload_n 2, 1) by decide +kernel)) (
  mz_cons (mz_iconst 1 (by decide) (show decode cX9_turnsByBest 36 = .ok (.iconst 1, 1) by decide +kernel)) (
  mz_cons (mz_iadd (show decode cX9_turnsByBest 37 = .ok (.iadd, 1) by decide +kernel)) (
  mz_cons (mz_invV (n := 2) (ctr_X9_turnsFrom_l2 E) rfl ⟨by decide, by decide, by decide +kernel⟩ ⟨by decide, by decide⟩ mw_704 mw_701 mw_703 mw_17 mw_69 (show decode cX9_turnsByBest 38 = .ok (.invokevirtual 24, 3) by decide +kernel)) (
  mz_cons (mz_min (by decide) (by decide) mw_715 (show decode cX9_turnsByBest 41 = .ok (.invokestatic 65, 3) by decide +kernel)) (
  mz_cons (mz_istore_n (k := 3) (by decide) (show decode cX9_turnsByBest 44 = .ok (.istore_n 3, 1) by decide +kernel)) (
  mz_cons (mz_iinc 1 (by decide) (by decide) (show decode cX9_turnsByBest 45 = .ok (.iinc 4 1, 3) by decide +kernel)) (
  mz_cons (mz_goto 6 (by decide) (show decode cX9_turnsByBest 48 = .ok (.goto (-42), 3) by decide +kernel)) (
  mz_cons (mz_iload_n (k := 3) (show decode cX9_turnsByBest 51 = .ok (.iload_n 3, 1) by decide +kernel)) (
  mz_consR (mz_ireturn rfl (show decode cX9_turnsByBest 52 = .ok (.ireturn, 1) by decide +kernel)) (
  mz_nil))))))))))))))
noncomputable def tb_X9_turnsByBest_l1 : List (Nat × List (Nat × mz_O)) := [(29, ck_X9_turnsByBest_l1_0), (52, ck_X9_turnsByBest_l1_1)]
theorem tok_X9_turnsByBest_l1 (E : List mz_V) : mz_tok E tM_X9_turnsByBest_l1 (tb_X9_turnsByBest_l1) := mz_tcons (tk_X9_turnsByBest_l1_0 E) (mz_tcons (tk_X9_turnsByBest_l1_1 E) (mz_tnil))
noncomputable def rn_X9_turnsByBest_l1 : List mz_V → List mz_C → Option (Option mz_V × List mz_C) := mz_rn tb_X9_turnsByBest_l1 45 5
theorem ctr_X9_turnsByBest_l1 (E : List mz_V) : mz_ctr E yX9_turnsByBest tM_X9_turnsByBest_l1 rn_X9_turnsByBest_l1 := mz_ctr_of 45 (tok_X9_turnsByBest_l1 E) (by decide) rfl rfl
abbrev tM_X9_turnsFrom_l0 : mz_M := (cX9_turnsFrom, 6, (some .int), RX9, "turnsFrom", 4, 91)
noncomputable def ck_X9_turnsFrom_l0_0 : List (Nat × mz_O) := [(0, .inl (mz_ld mz_isI 1 1)), (1, .inl (mz_ld mz_isR 0 2)), (2, .inl (mz_gf 9 0 5)), (5, .inl (mz_call rn_X6_all 1 (mz_ckV 6) 8)), (8, .inl (mz_j2 mz_eq 17 11)), (11, .inl (mz_ld mz_isI 2 12)), (12, .inl (mz_push (.inl 9) 14)), (14, .inl (mz_j2 mz_gt 17 19)), (17, .inl (mz_push (.inl 0) 18)), (18, .inr (mz_rt mz_isI)), (19, .inl (mz_ld mz_isR 0 20)), (20, .inl (mz_gf 9 1 23)), (23, .inl (mz_ld mz_isI 1 24)), (24, .inl (mz_call rn_X5_recall 2 (mz_ckV 5) 27)), (27, .inl (mz_sto mz_isI mz_p1 3 28)), (28, .inl (mz_ld mz_isI 3 29))]
theorem tk_X9_turnsFrom_l0_0 (E : List mz_V) : mz_all E tM_X9_turnsFrom_l0 (ck_X9_turnsFrom_l0_0) :=
  mz_cons (mz_iload_n (k := 1) (show decode cX9_turnsFrom 0 = .ok (.iload_n 1, 1) by decide +kernel)) (
  mz_cons (mz_aload_n (k := 0) (show decode cX9_turnsFrom 1 = .ok (.aload_n 0, 1) by decide +kernel)) (
  mz_cons (mz_getfield (C := RX9) (T := TX9) (N := 2) rfl mz_inX9 (by decide) mw_253 (show decode cX9_turnsFrom 2 = .ok (.getfield 9, 3) by decide +kernel)) (
  mz_cons (mz_invV (n := 0) (ctr_X6_all E) rfl ⟨by decide, by decide, by decide +kernel⟩ ⟨by decide, by decide⟩ mw_567 mw_705 mw_565 mw_566 mw_65 (show decode cX9_turnsFrom 5 = .ok (.invokevirtual 38, 3) by decide +kernel)) (
  mz_cons (mz_icmp_eq 17 (by decide) (show decode cX9_turnsFrom 8 = .ok (.if_icmp .eq 9, 3) by decide +kernel)) (
  mz_cons (mz_iload_n (k := 2) (show decode cX9_turnsFrom 11 = .ok (.iload_n 2, 1) by decide +kernel)) (
  mz_cons (mz_bipush 9 (by decide) (show decode cX9_turnsFrom 12 = .ok (.bipush 9, 2) by decide +kernel)) (
  mz_cons (mz_icmp_le 19 (by decide) (show decode cX9_turnsFrom 14 = .ok (.if_icmp .le 5, 3) by decide +kernel)) (
  mz_cons (mz_iconst 0 (by decide) (show decode cX9_turnsFrom 17 = .ok (.iconst 0, 1) by decide +kernel)) (
  mz_consR (mz_ireturn rfl (show decode cX9_turnsFrom 18 = .ok (.ireturn, 1) by decide +kernel)) (
  mz_cons (mz_aload_n (k := 0) (show decode cX9_turnsFrom 19 = .ok (.aload_n 0, 1) by decide +kernel)) (
  mz_cons (mz_getfield (C := RX9) (T := TX9) (N := 2) rfl mz_inX9 (by decide) mw_254 (show decode cX9_turnsFrom 20 = .ok (.getfield 15, 3) by decide +kernel)) (
  mz_cons (mz_iload_n (k := 1) (show decode cX9_turnsFrom 23 = .ok (.iload_n 1, 1) by decide +kernel)) (
  mz_cons (mz_invV (n := 1) (ctr_X5_recall E) rfl ⟨by decide, by decide, by decide +kernel⟩ ⟨by decide, by decide⟩ mw_592 mw_706 mw_590 mw_591 mw_62 (show decode cX9_turnsFrom 24 = .ok (.invokevirtual 54, 3) by decide +kernel)) (
  mz_cons (mz_istore_n (k := 3) (by decide) (show decode cX9_turnsFrom 27 = .ok (.istore_n 3, 1) by decide +kernel)) (
  mz_cons (mz_iload_n (k := 3) (show decode cX9_turnsFrom 28 = .ok (.iload_n 3, 1) by decide +kernel)) (
  mz_nil))))))))))))))))
noncomputable def ck_X9_turnsFrom_l0_1 : List (Nat × mz_O) := [(29, .inl (mz_push (.inl (-1)) 30)), (30, .inl (mz_j2 mz_eq 35 33)), (35, .inl (mz_ld mz_isI 1 36)), (36, .inl (mz_ld mz_isR 0 37)), (37, .inl (mz_gf 9 0 40)), (40, .inl (mz_ld mz_isI 1 41)), (41, .inl (mz_call rn_X6_besideAny 2 (mz_ckV 6) 44)), (44, .inl (mz_o2 mz_f_ior 45)), (45, .inl (mz_sto mz_isI mz_p1 4 47)), (47, .inl (mz_ld mz_isI 4 49)), (49, .inl (mz_ld mz_isR 0 50)), (50, .inl (mz_gf 9 0 53)), (53, .inl (mz_call rn_X6_all 1 (mz_ckV 6) 56)), (56, .inl (mz_j2 mz_eq 59 63)), (63, .inl (mz_push (.inl 1) 64)), (64, .inl (mz_ld mz_isR 0 65))]
theorem tk_X9_turnsFrom_l0_1 (E : List mz_V) : mz_all E tM_X9_turnsFrom_l0 (ck_X9_turnsFrom_l0_1) :=
  mz_cons (mz_iconst (-1) (by decide) (show decode cX9_turnsFrom 29 = .ok (.iconst (-1), 1) by decide +kernel)) (
  mz_cons (mz_icmp_eq 35 (by decide) (show decode cX9_turnsFrom 30 = .ok (.if_icmp .eq 5, 3) by decide +kernel)) (
  mz_cons (mz_iload_n (k := 1) (show decode cX9_turnsFrom 35 = .ok (.iload_n 1, 1) by decide +kernel)) (
  mz_cons (mz_aload_n (k := 0) (show decode cX9_turnsFrom 36 = .ok (.aload_n 0, 1) by decide +kernel)) (
  mz_cons (mz_getfield (C := RX9) (T := TX9) (N := 2) rfl mz_inX9 (by decide) mw_253 (show decode cX9_turnsFrom 37 = .ok (.getfield 9, 3) by decide +kernel)) (
  mz_cons (mz_iload_n (k := 1) (show decode cX9_turnsFrom 40 = .ok (.iload_n 1, 1) by decide +kernel)) (
  mz_cons (mz_invV (n := 1) (ctr_X6_besideAny E) rfl ⟨by decide, by decide, by decide +kernel⟩ ⟨by decide, by decide⟩ mw_601 mw_707 mw_599 mw_600 mw_65 (show decode cX9_turnsFrom 41 = .ok (.invokevirtual 32, 3) by decide +kernel)) (
  mz_cons (mz_ior (show decode cX9_turnsFrom 44 = .ok (.ior, 1) by decide +kernel)) (
  mz_cons (mz_istore (by decide) (show decode cX9_turnsFrom 45 = .ok (.istore 4, 2) by decide +kernel)) (
  mz_cons (mz_iload (show decode cX9_turnsFrom 47 = .ok (.iload 4, 2) by decide +kernel)) (
  mz_cons (mz_aload_n (k := 0) (show decode cX9_turnsFrom 49 = .ok (.aload_n 0, 1) by decide +kernel)) (
  mz_cons (mz_getfield (C := RX9) (T := TX9) (N := 2) rfl mz_inX9 (by decide) mw_253 (show decode cX9_turnsFrom 50 = .ok (.getfield 9, 3) by decide +kernel)) (
  mz_cons (mz_invV (n := 0) (ctr_X6_all E) rfl ⟨by decide, by decide, by decide +kernel⟩ ⟨by decide, by decide⟩ mw_567 mw_705 mw_565 mw_566 mw_65 (show decode cX9_turnsFrom 53 = .ok (.invokevirtual 38, 3) by decide +kernel)) (
  mz_cons (mz_icmp_ne 63 (by decide) (show decode cX9_turnsFrom 56 = .ok (.if_icmp .ne 7, 3) by decide +kernel)) (
  mz_cons (mz_iconst 1 (by decide) (show decode cX9_turnsFrom 63 = .ok (.iconst 1, 1) by decide +kernel)) (
  mz_cons (mz_aload_n (k := 0) (show decode cX9_turnsFrom 64 = .ok (.aload_n 0, 1) by decide +kernel)) (
  mz_nil))))))))))))))))
noncomputable def ck_X9_turnsFrom_l0_2 : List (Nat × mz_O) := [(65, .inl (mz_ld mz_isI 4 67)), (67, .inl (mz_ld mz_isI 2 68)), (68, .inl (mz_call rn_X9_turnsByBest_l1 3 (mz_ckV 9) 71)), (71, .inl (mz_o2 mz_f_iadd 72)), (72, .inl (mz_sto mz_isI mz_p1 5 74)), (74, .inl (mz_ld mz_isR 0 75)), (75, .inl (mz_gf 9 1 78)), (78, .inl (mz_ld mz_isI 1 79)), (79, .inl (mz_ld mz_isI 5 81)), (81, .inl (mz_call rn_X5_keep 3 (mz_ckV 5) 84)), (84, .inl (mz_ld mz_isI 5 86)), (86, .inr (mz_rt mz_isI))]
theorem tk_X9_turnsFrom_l0_2 (E : List mz_V) : mz_all E tM_X9_turnsFrom_l0 (ck_X9_turnsFrom_l0_2) :=
  mz_cons (mz_iload (show decode cX9_turnsFrom 65 = .ok (.iload 4, 2) by decide +kernel)) (
  mz_cons (mz_iload_n (k := 2) (show decode cX9_turnsFrom 67 = .ok (.iload_n 2, 1) by decide +kernel)) (
  mz_cons (mz_invV (n := 2) (ctr_X9_turnsByBest_l1 E) rfl ⟨by decide, by decide, by decide +kernel⟩ ⟨by decide, by decide⟩ mw_711 mw_708 mw_710 mw_18 mw_69 (show decode cX9_turnsFrom 68 = .ok (.invokevirtual 57, 3) by decide +kernel)) (
  mz_cons (mz_iadd (show decode cX9_turnsFrom 71 = .ok (.iadd, 1) by decide +kernel)) (
  mz_cons (mz_istore (by decide) (show decode cX9_turnsFrom 72 = .ok (.istore 5, 2) by decide +kernel)) (
  mz_cons (mz_aload_n (k := 0) (show decode cX9_turnsFrom 74 = .ok (.aload_n 0, 1) by decide +kernel)) (
  mz_cons (mz_getfield (C := RX9) (T := TX9) (N := 2) rfl mz_inX9 (by decide) mw_254 (show decode cX9_turnsFrom 75 = .ok (.getfield 15, 3) by decide +kernel)) (
  mz_cons (mz_iload_n (k := 1) (show decode cX9_turnsFrom 78 = .ok (.iload_n 1, 1) by decide +kernel)) (
  mz_cons (mz_iload (show decode cX9_turnsFrom 79 = .ok (.iload 5, 2) by decide +kernel)) (
  mz_cons (mz_invV (n := 2) (ctr_X5_keep E) rfl ⟨by decide, by decide, by decide +kernel⟩ ⟨by decide, by decide⟩ mw_635 mw_716 mw_633 mw_634 mw_62 (show decode cX9_turnsFrom 81 = .ok (.invokevirtual 60, 3) by decide +kernel)) (
  mz_cons (mz_iload (show decode cX9_turnsFrom 84 = .ok (.iload 5, 2) by decide +kernel)) (
  mz_consR (mz_ireturn rfl (show decode cX9_turnsFrom 86 = .ok (.ireturn, 1) by decide +kernel)) (
  mz_nil))))))))))))
noncomputable def tb_X9_turnsFrom_l0 : List (Nat × List (Nat × mz_O)) := [(28, ck_X9_turnsFrom_l0_0), (64, ck_X9_turnsFrom_l0_1), (86, ck_X9_turnsFrom_l0_2)]
theorem tok_X9_turnsFrom_l0 (E : List mz_V) : mz_tok E tM_X9_turnsFrom_l0 (tb_X9_turnsFrom_l0) := mz_tcons (tk_X9_turnsFrom_l0_0 E) (mz_tcons (tk_X9_turnsFrom_l0_1 E) (mz_tcons (tk_X9_turnsFrom_l0_2 E) (mz_tnil)))
noncomputable def rn_X9_turnsFrom_l0 : List mz_V → List mz_C → Option (Option mz_V × List mz_C) := mz_rn tb_X9_turnsFrom_l0 52 6
theorem ctr_X9_turnsFrom_l0 (E : List mz_V) : mz_ctr E yX9_turnsFrom tM_X9_turnsFrom_l0 rn_X9_turnsFrom_l0 := mz_ctr_of 52 (tok_X9_turnsFrom_l0 E) (by decide) rfl rfl
abbrev tM_X9_fewestTurns : mz_M := (cX9_fewestTurns, 1, (some .int), RX9, "fewestTurns", 5, 116)
noncomputable def ck_X9_fewestTurns_0 : List (Nat × mz_O) := [(0, .inl (mz_ld mz_isR 0 1)), (1, .inl (mz_gf 9 1 4)), (4, .inl (mz_call rn_X5_startSearch 1 (mz_ckV 5) 7)), (7, .inl (mz_ld mz_isR 0 8)), (8, .inl (mz_push (.inl 0) 9)), (9, .inl (mz_push (.inl 0) 10)), (10, .inl (mz_call rn_X9_turnsFrom_l0 3 (mz_ckV 9) 13)), (13, .inr (mz_rt mz_isI))]
theorem tk_X9_fewestTurns_0 (E : List mz_V) : mz_all E tM_X9_fewestTurns (ck_X9_fewestTurns_0) :=
  mz_cons (mz_aload_n (k := 0) (show decode cX9_fewestTurns 0 = .ok (.aload_n 0, 1) by decide +kernel)) (
  mz_cons (mz_getfield (C := RX9) (T := TX9) (N := 2) rfl mz_inX9 (by decide) mw_254 (show decode cX9_fewestTurns 1 = .ok (.getfield 15, 3) by decide +kernel)) (
  mz_cons (mz_invV (n := 0) (ctr_X5_startSearch E) rfl ⟨by decide, by decide, by decide +kernel⟩ ⟨by decide, by decide⟩ mw_579 mw_700 mw_577 mw_578 mw_62 (show decode cX9_fewestTurns 4 = .ok (.invokevirtual 19, 3) by decide +kernel)) (
  mz_cons (mz_aload_n (k := 0) (show decode cX9_fewestTurns 7 = .ok (.aload_n 0, 1) by decide +kernel)) (
  mz_cons (mz_iconst 0 (by decide) (show decode cX9_fewestTurns 8 = .ok (.iconst 0, 1) by decide +kernel)) (
  mz_cons (mz_iconst 0 (by decide) (show decode cX9_fewestTurns 9 = .ok (.iconst 0, 1) by decide +kernel)) (
  mz_cons (mz_invV (n := 2) (ctr_X9_turnsFrom_l0 E) rfl ⟨by decide, by decide, by decide +kernel⟩ ⟨by decide, by decide⟩ mw_704 mw_701 mw_703 mw_17 mw_69 (show decode cX9_fewestTurns 10 = .ok (.invokevirtual 24, 3) by decide +kernel)) (
  mz_consR (mz_ireturn rfl (show decode cX9_fewestTurns 13 = .ok (.ireturn, 1) by decide +kernel)) (
  mz_nil))))))))
noncomputable def tb_X9_fewestTurns : List (Nat × List (Nat × mz_O)) := [(13, ck_X9_fewestTurns_0)]
theorem tok_X9_fewestTurns (E : List mz_V) : mz_tok E tM_X9_fewestTurns (tb_X9_fewestTurns) := mz_tcons (tk_X9_fewestTurns_0 E) (mz_tnil)
noncomputable def rn_X9_fewestTurns : List mz_V → List mz_C → Option (Option mz_V × List mz_C) := mz_rn tb_X9_fewestTurns 18 1
theorem ctr_X9_fewestTurns (E : List mz_V) : mz_ctr E yX9_fewestTurns tM_X9_fewestTurns rn_X9_fewestTurns := mz_ctr_of 18 (tok_X9_fewestTurns E) (by decide) rfl rfl
abbrev tM_X9_leastSpark : mz_M := (cX9_leastSpark, 4, (some .int), RX9, "leastSpark", 5, 116)
noncomputable def ck_X9_leastSpark_0 : List (Nat × mz_O) := [(0, .inl (mz_push (.inl 0) 1)), (1, .inl (mz_sto mz_isI mz_p1 3 2)), (2, .inl (mz_ld mz_isI 3 3)), (3, .inl (mz_ld mz_isR 0 4)), (4, .inl (mz_gf 9 0 7)), (7, .inl (mz_call rn_X6_howMany 1 (mz_ckV 6) 10)), (10, .inl (mz_j2 mz_lt 13 43)), (13, .inl (mz_ld mz_isI 1 14)), (14, .inl (mz_ld mz_isI 3 15)), (15, .inl (mz_call rn_X11_has 2 mz_ckT 18)), (18, .inl (mz_j1 mz_eq0 21 37)), (21, .inl (mz_ld mz_isR 0 22)), (22, .inl (mz_ld mz_isI 1 23)), (23, .inl (mz_push (.inl 1) 24)), (24, .inl (mz_ld mz_isI 3 25)), (25, .inl (mz_o2 mz_f_ishl 26))]
theorem tk_X9_leastSpark_0 (E : List mz_V) : mz_all E tM_X9_leastSpark (ck_X9_leastSpark_0) :=
  mz_cons (mz_iconst 0 (by decide) (show decode cX9_leastSpark 0 = .ok (.iconst 0, 1) by decide +kernel)) (
  mz_cons (mz_istore_n (k := 3) (by decide) (show decode cX9_leastSpark 1 = .ok (.istore_n 3, 1) by decide +kernel)) (
  mz_cons (mz_iload_n (k := 3) (show decode cX9_leastSpark 2 = .ok (.iload_n 3, 1) by decide +kernel)) (
  mz_cons (mz_aload_n (k := 0) (show decode cX9_leastSpark 3 = .ok (.aload_n 0, 1) by decide +kernel)) (
  mz_cons (mz_getfield (C := RX9) (T := TX9) (N := 2) rfl mz_inX9 (by decide) mw_253 (show decode cX9_leastSpark 4 = .ok (.getfield 9, 3) by decide +kernel)) (
  mz_cons (mz_invV (n := 0) (ctr_X6_howMany E) rfl ⟨by decide, by decide, by decide +kernel⟩ ⟨by decide, by decide⟩ mw_386 mw_713 mw_384 mw_385 mw_65 (show decode cX9_leastSpark 7 = .ok (.invokevirtual 51, 3) by decide +kernel)) (
  mz_cons (mz_icmp_ge 43 (by decide) (show decode cX9_leastSpark 10 = .ok (.if_icmp .ge 33, 3) by decide +kernel)) (
  mz_cons (mz_iload_n (k := 1) (show decode cX9_leastSpark 13 = .ok (.iload_n 1, 1) by decide +kernel)) (
  mz_cons (mz_iload_n (k := 3) (show decode cX9_leastSpark 14 = .ok (.iload_n 3, 1) by decide +kernel)) (
  mz_cons (mz_invSN (n := 2) (host := "WettedNet") (ctr_X11_has E) ⟨by decide, by decide, by decide +kernel⟩ ⟨by decide, by decide⟩ mw_604 (by decide +kernel) mw_603 mw_61 (show decode cX9_leastSpark 15 = .ok (.invokestatic 47, 3) by decide +kernel)) (
  mz_cons (mz_if_ne 37 (by decide) (show decode cX9_leastSpark 18 = .ok (.ifCond .ne 19, 3) by decide +kernel)) (
  mz_cons (mz_aload_n (k := 0) (show decode cX9_leastSpark 21 = .ok (.aload_n 0, 1) by decide +kernel)) (
  mz_cons (mz_iload_n (k := 1) (show decode cX9_leastSpark 22 = .ok (.iload_n 1, 1) by decide +kernel)) (
  mz_cons (mz_iconst 1 (by decide) (show decode cX9_leastSpark 23 = .ok (.iconst 1, 1) by decide +kernel)) (
  mz_cons (mz_iload_n (k := 3) (show decode cX9_leastSpark 24 = .ok (.iload_n 3, 1) by decide +kernel)) (
  mz_cons (mz_ishl (show decode cX9_leastSpark 25 = .ok (.ishl, 1) by decide +kernel)) (
  mz_nil))))))))))))))))
noncomputable def ck_X9_leastSpark_1 : List (Nat × mz_O) := [(26, .inl (mz_o2 mz_f_ior 27)), (27, .inl (mz_push (.inl 1) 28)), (28, .inl (mz_call rn_X9_turnsFrom_l0 3 (mz_ckV 9) 31)), (31, .inl (mz_ld mz_isI 2 32)), (32, .inl (mz_j2 mz_eq 35 37)), (35, .inl (mz_ld mz_isI 3 36)), (36, .inr (mz_rt mz_isI))]
theorem tk_X9_leastSpark_1 (E : List mz_V) : mz_all E tM_X9_leastSpark (ck_X9_leastSpark_1) :=
  mz_cons (mz_ior (show decode cX9_leastSpark 26 = .ok (.ior, 1) by decide +kernel)) (
  mz_cons (mz_iconst 1 (by decide) (show decode cX9_leastSpark 27 = .ok (.iconst 1, 1) by decide +kernel)) (
  mz_cons (mz_invV (n := 2) (ctr_X9_turnsFrom_l0 E) rfl ⟨by decide, by decide, by decide +kernel⟩ ⟨by decide, by decide⟩ mw_704 mw_701 mw_703 mw_17 mw_69 (show decode cX9_leastSpark 28 = .ok (.invokevirtual 24, 3) by decide +kernel)) (
  mz_cons (mz_iload_n (k := 2) (show decode cX9_leastSpark 31 = .ok (.iload_n 2, 1) by decide +kernel)) (
  mz_cons (mz_icmp_ne 37 (by decide) (show decode cX9_leastSpark 32 = .ok (.if_icmp .ne 5, 3) by decide +kernel)) (
  mz_cons (mz_iload_n (k := 3) (show decode cX9_leastSpark 35 = .ok (.iload_n 3, 1) by decide +kernel)) (
  mz_consR (mz_ireturn rfl (show decode cX9_leastSpark 36 = .ok (.ireturn, 1) by decide +kernel)) (
  mz_nil)))))))
noncomputable def tb_X9_leastSpark : List (Nat × List (Nat × mz_O)) := [(25, ck_X9_leastSpark_0), (36, ck_X9_leastSpark_1)]
theorem tok_X9_leastSpark (E : List mz_V) : mz_tok E tM_X9_leastSpark (tb_X9_leastSpark) := mz_tcons (tk_X9_leastSpark_0 E) (mz_tcons (tk_X9_leastSpark_1 E) (mz_tnil))
noncomputable def rn_X9_leastSpark : List mz_V → List mz_C → Option (Option mz_V × List mz_C) := mz_rn tb_X9_leastSpark 33 4
theorem ctr_X9_leastSpark (E : List mz_V) : mz_ctr E yX9_leastSpark tM_X9_leastSpark rn_X9_leastSpark := mz_ctr_of 33 (tok_X9_leastSpark E) (by decide) rfl rfl
abbrev tM_X9_sparkOf : mz_M := (cX9_sparkOf, 7, (some .int), RX9, "sparkOf", 6, 139)
noncomputable def ck_X9_sparkOf_0 : List (Nat × mz_O) := [(0, .inl (mz_ld mz_isR 0 1)), (1, .inl (mz_call rn_X9_fewestTurns 1 (mz_ckV 9) 4)), (4, .inl (mz_sto mz_isI mz_p1 2 5)), (5, .inl (mz_push (.inl 0) 6)), (6, .inl (mz_sto mz_isI mz_p1 3 7)), (7, .inl (mz_push (.inl 0) 8)), (8, .inl (mz_sto mz_isI mz_p1 4 10)), (10, .inl (mz_ld mz_isI 4 12)), (12, .inl (mz_push (.inl 9) 14)), (14, .inl (mz_j2 mz_lt 17 84)), (17, .inl (mz_ld mz_isI 3 18)), (18, .inl (mz_ld mz_isR 0 19)), (19, .inl (mz_gf 9 0 22)), (22, .inl (mz_ld mz_isI 3 23)), (23, .inl (mz_call rn_X6_besideAny 2 (mz_ckV 6) 26)), (26, .inl (mz_o2 mz_f_ior 27))]
theorem tk_X9_sparkOf_0 (E : List mz_V) : mz_all E tM_X9_sparkOf (ck_X9_sparkOf_0) :=
  mz_cons (mz_aload_n (k := 0) (show decode cX9_sparkOf 0 = .ok (.aload_n 0, 1) by decide +kernel)) (
  mz_cons (mz_invV (n := 0) (ctr_X9_fewestTurns E) rfl ⟨by decide, by decide, by decide +kernel⟩ ⟨by decide, by decide⟩ mw_699 mw_721 mw_697 mw_698 mw_69 (show decode cX9_sparkOf 1 = .ok (.invokevirtual 28, 3) by decide +kernel)) (
  mz_cons (mz_istore_n (k := 2) (by decide) (show decode cX9_sparkOf 4 = .ok (.istore_n 2, 1) by decide +kernel)) (
  mz_cons (mz_iconst 0 (by decide) (show decode cX9_sparkOf 5 = .ok (.iconst 0, 1) by decide +kernel)) (
  mz_cons (mz_istore_n (k := 3) (by decide) (show decode cX9_sparkOf 6 = .ok (.istore_n 3, 1) by decide +kernel)) (
  mz_cons (mz_iconst 0 (by decide) (show decode cX9_sparkOf 7 = .ok (.iconst 0, 1) by decide +kernel)) (
  mz_cons (mz_istore (by decide) (show decode cX9_sparkOf 8 = .ok (.istore 4, 2) by decide +kernel)) (
  mz_cons (mz_iload (show decode cX9_sparkOf 10 = .ok (.iload 4, 2) by decide +kernel)) (
  mz_cons (mz_bipush 9 (by decide) (show decode cX9_sparkOf 12 = .ok (.bipush 9, 2) by decide +kernel)) (
  mz_cons (mz_icmp_ge 84 (by decide) (show decode cX9_sparkOf 14 = .ok (.if_icmp .ge 70, 3) by decide +kernel)) (
  mz_cons (mz_iload_n (k := 3) (show decode cX9_sparkOf 17 = .ok (.iload_n 3, 1) by decide +kernel)) (
  mz_cons (mz_aload_n (k := 0) (show decode cX9_sparkOf 18 = .ok (.aload_n 0, 1) by decide +kernel)) (
  mz_cons (mz_getfield (C := RX9) (T := TX9) (N := 2) rfl mz_inX9 (by decide) mw_253 (show decode cX9_sparkOf 19 = .ok (.getfield 9, 3) by decide +kernel)) (
  mz_cons (mz_iload_n (k := 3) (show decode cX9_sparkOf 22 = .ok (.iload_n 3, 1) by decide +kernel)) (
  mz_cons (mz_invV (n := 1) (ctr_X6_besideAny E) rfl ⟨by decide, by decide, by decide +kernel⟩ ⟨by decide, by decide⟩ mw_601 mw_707 mw_599 mw_600 mw_65 (show decode cX9_sparkOf 23 = .ok (.invokevirtual 32, 3) by decide +kernel)) (
  mz_cons (mz_ior (show decode cX9_sparkOf 26 = .ok (.ior, 1) by decide +kernel)) (
  mz_nil))))))))))))))))
noncomputable def ck_X9_sparkOf_1 : List (Nat × mz_O) := [(27, .inl (mz_sto mz_isI mz_p1 5 29)), (29, .inl (mz_ld mz_isI 5 31)), (31, .inl (mz_ld mz_isR 0 32)), (32, .inl (mz_gf 9 0 35)), (35, .inl (mz_call rn_X6_all 1 (mz_ckV 6) 38)), (38, .inl (mz_j2 mz_eq 41 43)), (41, .inl (mz_push (.inl (-1)) 42)), (42, .inr (mz_rt mz_isI)), (43, .inl (mz_inc 2 (-1) 46)), (46, .inl (mz_ld mz_isR 0 47)), (47, .inl (mz_ld mz_isI 5 49)), (49, .inl (mz_ld mz_isI 2 50)), (50, .inl (mz_call rn_X9_leastSpark 3 (mz_ckV 9) 53)), (53, .inl (mz_sto mz_isI mz_p1 6 55)), (55, .inl (mz_ld mz_isI 4 57)), (57, .inl (mz_ld mz_isI 1 58))]
theorem tk_X9_sparkOf_1 (E : List mz_V) : mz_all E tM_X9_sparkOf (ck_X9_sparkOf_1) :=
  mz_cons (mz_istore (by decide) (show decode cX9_sparkOf 27 = .ok (.istore 5, 2) by decide +kernel)) (
  mz_cons (mz_iload (show decode cX9_sparkOf 29 = .ok (.iload 5, 2) by decide +kernel)) (
  mz_cons (mz_aload_n (k := 0) (show decode cX9_sparkOf 31 = .ok (.aload_n 0, 1) by decide +kernel)) (
  mz_cons (mz_getfield (C := RX9) (T := TX9) (N := 2) rfl mz_inX9 (by decide) mw_253 (show decode cX9_sparkOf 32 = .ok (.getfield 9, 3) by decide +kernel)) (
  mz_cons (mz_invV (n := 0) (ctr_X6_all E) rfl ⟨by decide, by decide, by decide +kernel⟩ ⟨by decide, by decide⟩ mw_567 mw_705 mw_565 mw_566 mw_65 (show decode cX9_sparkOf 35 = .ok (.invokevirtual 38, 3) by decide +kernel)) (
  mz_cons (mz_icmp_ne 43 (by decide) (show decode cX9_sparkOf 38 = .ok (.if_icmp .ne 5, 3) by decide +kernel)) (
  mz_cons (mz_iconst (-1) (by decide) (show decode cX9_sparkOf 41 = .ok (.iconst (-1), 1) by decide +kernel)) (
  mz_consR (mz_ireturn rfl (show decode cX9_sparkOf 42 = .ok (.ireturn, 1) by decide +kernel)) (
  mz_cons (mz_iinc (-1) (by decide) (by decide) (show decode cX9_sparkOf 43 = .ok (.iinc 2 (-1), 3) by decide +kernel)) (
  mz_cons (mz_aload_n (k := 0) (show decode cX9_sparkOf 46 = .ok (.aload_n 0, 1) by decide +kernel)) (
  mz_cons (mz_iload (show decode cX9_sparkOf 47 = .ok (.iload 5, 2) by decide +kernel)) (
  mz_cons (mz_iload_n (k := 2) (show decode cX9_sparkOf 49 = .ok (.iload_n 2, 1) by decide +kernel)) (
  mz_cons (mz_invV (n := 2) (ctr_X9_leastSpark E) rfl ⟨by decide, by decide, by decide +kernel⟩ ⟨by decide, by decide⟩ mw_725 mw_722 mw_724 mw_19 mw_69 (show decode cX9_sparkOf 50 = .ok (.invokevirtual 41, 3) by decide +kernel)) (
  mz_cons (mz_istore (by decide) (show decode cX9_sparkOf 53 = .ok (.istore 6, 2) by decide +kernel)) (
  mz_cons (mz_iload (show decode cX9_sparkOf 55 = .ok (.iload 4, 2) by decide +kernel)) (
  mz_cons (mz_iload_n (k := 1) (show decode cX9_sparkOf 57 = .ok (.iload_n 1, 1) by decide +kernel)) (
  mz_nil))))))))))))))))
noncomputable def ck_X9_sparkOf_2 : List (Nat × mz_O) := [(58, .inl (mz_j2 mz_eq 67 61)), (61, .inl (mz_ld mz_isI 6 63)), (63, .inl (mz_push (.inl (-1)) 64)), (64, .inl (mz_j2 mz_eq 67 70)), (67, .inl (mz_ld mz_isI 6 69)), (69, .inr (mz_rt mz_isI)), (70, .inl (mz_ld mz_isI 5 72)), (72, .inl (mz_push (.inl 1) 73)), (73, .inl (mz_ld mz_isI 6 75)), (75, .inl (mz_o2 mz_f_ishl 76)), (76, .inl (mz_o2 mz_f_ior 77)), (77, .inl (mz_sto mz_isI mz_p1 3 78)), (78, .inl (mz_inc 4 1 81)), (81, .inl (mz_go 10))]
theorem tk_X9_sparkOf_2 (E : List mz_V) : mz_all E tM_X9_sparkOf (ck_X9_sparkOf_2) :=
  mz_cons (mz_icmp_eq 67 (by decide) (show decode cX9_sparkOf 58 = .ok (.if_icmp .eq 9, 3) by decide +kernel)) (
  mz_cons (mz_iload (show decode cX9_sparkOf 61 = .ok (.iload 6, 2) by decide +kernel)) (
  mz_cons (mz_iconst (-1) (by decide) (show decode cX9_sparkOf 63 = .ok (.iconst (-1), 1) by decide +kernel)) (
  mz_cons (mz_icmp_ne 70 (by decide) (show decode cX9_sparkOf 64 = .ok (.if_icmp .ne 6, 3) by decide +kernel)) (
  mz_cons (mz_iload (show decode cX9_sparkOf 67 = .ok (.iload 6, 2) by decide +kernel)) (
  mz_consR (mz_ireturn rfl (show decode cX9_sparkOf 69 = .ok (.ireturn, 1) by decide +kernel)) (
  mz_cons (mz_iload (show decode cX9_sparkOf 70 = .ok (.iload 5, 2) by decide +kernel)) (
  mz_cons (mz_iconst 1 (by decide) (show decode cX9_sparkOf 72 = .ok (.iconst 1, 1) by decide +kernel)) (
  mz_cons (mz_iload (show decode cX9_sparkOf 73 = .ok (.iload 6, 2) by decide +kernel)) (
  mz_cons (mz_ishl (show decode cX9_sparkOf 75 = .ok (.ishl, 1) by decide +kernel)) (
  mz_cons (mz_ior (show decode cX9_sparkOf 76 = .ok (.ior, 1) by decide +kernel)) (
  mz_cons (mz_istore_n (k := 3) (by decide) (show decode cX9_sparkOf 77 = .ok (.istore_n 3, 1) by decide +kernel)) (
  mz_cons (mz_iinc 1 (by decide) (by decide) (show decode cX9_sparkOf 78 = .ok (.iinc 4 1, 3) by decide +kernel)) (
  mz_cons (mz_goto 10 (by decide) (show decode cX9_sparkOf 81 = .ok (.goto (-71), 3) by decide +kernel)) (
  mz_nil))))))))))))))
noncomputable def tb_X9_sparkOf : List (Nat × List (Nat × mz_O)) := [(26, ck_X9_sparkOf_0), (57, ck_X9_sparkOf_1), (81, ck_X9_sparkOf_2)]
theorem tok_X9_sparkOf (E : List mz_V) : mz_tok E tM_X9_sparkOf (tb_X9_sparkOf) := mz_tcons (tk_X9_sparkOf_0 E) (mz_tcons (tk_X9_sparkOf_1 E) (mz_tcons (tk_X9_sparkOf_2 E) (mz_tnil)))
noncomputable def rn_X9_sparkOf : List mz_V → List mz_C → Option (Option mz_V × List mz_C) := mz_rn tb_X9_sparkOf 69 7
theorem ctr_X9_sparkOf (E : List mz_V) : mz_ctr E yX9_sparkOf tM_X9_sparkOf rn_X9_sparkOf := mz_ctr_of 69 (tok_X9_sparkOf E) (by decide) rfl rfl
abbrev tM_X11_sparks : mz_M := (cX11_sparks, 2, (some .int), RX11, "sparks", 7, 165)
noncomputable def ck_X11_sparks_0 : List (Nat × mz_O) := [(0, .inl (mz_ld mz_isI 1 1)), (1, .inl (mz_push (.inl (-1)) 2)), (2, .inl (mz_j2 mz_lt 5 8)), (5, .inl (mz_push (.inl (-3)) 7)), (7, .inr (mz_rt mz_isI)), (8, .inl (mz_ld mz_isI 1 9)), (9, .inl (mz_push (.inl (-1)) 10)), (10, .inl (mz_j2 mz_eq 13 23)), (13, .inl (mz_ld mz_isR 0 14)), (14, .inl (mz_gf 11 4 17)), (17, .inl (mz_call rn_X9_fewestTurns 1 (mz_ckV 9) 20)), (20, .inl (mz_go 31)), (23, .inl (mz_ld mz_isR 0 24)), (24, .inl (mz_gf 11 4 27)), (27, .inl (mz_ld mz_isI 1 28)), (28, .inl (mz_call rn_X9_sparkOf 2 (mz_ckV 9) 31))]
theorem tk_X11_sparks_0 (E : List mz_V) : mz_all E tM_X11_sparks (ck_X11_sparks_0) :=
  mz_cons (mz_iload_n (k := 1) (show decode cX11_sparks 0 = .ok (.iload_n 1, 1) by decide +kernel)) (
  mz_cons (mz_iconst (-1) (by decide) (show decode cX11_sparks 1 = .ok (.iconst (-1), 1) by decide +kernel)) (
  mz_cons (mz_icmp_ge 8 (by decide) (show decode cX11_sparks 2 = .ok (.if_icmp .ge 6, 3) by decide +kernel)) (
  mz_cons (mz_bipush (-3) (by decide) (show decode cX11_sparks 5 = .ok (.bipush (-3), 2) by decide +kernel)) (
  mz_consR (mz_ireturn rfl (show decode cX11_sparks 7 = .ok (.ireturn, 1) by decide +kernel)) (
  mz_cons (mz_iload_n (k := 1) (show decode cX11_sparks 8 = .ok (.iload_n 1, 1) by decide +kernel)) (
  mz_cons (mz_iconst (-1) (by decide) (show decode cX11_sparks 9 = .ok (.iconst (-1), 1) by decide +kernel)) (
  mz_cons (mz_icmp_ne 23 (by decide) (show decode cX11_sparks 10 = .ok (.if_icmp .ne 13, 3) by decide +kernel)) (
  mz_cons (mz_aload_n (k := 0) (show decode cX11_sparks 13 = .ok (.aload_n 0, 1) by decide +kernel)) (
  mz_cons (mz_getfield (C := RX11) (T := TX11) (N := 9) rfl mz_inX11 (by decide) mw_334 (show decode cX11_sparks 14 = .ok (.getfield 52, 3) by decide +kernel)) (
  mz_cons (mz_invV (n := 0) (ctr_X9_fewestTurns E) rfl ⟨by decide, by decide, by decide +kernel⟩ ⟨by decide, by decide⟩ mw_699 mw_696 mw_697 mw_698 mw_69 (show decode cX11_sparks 17 = .ok (.invokevirtual 177, 3) by decide +kernel)) (
  mz_cons (mz_goto 31 (by decide) (show decode cX11_sparks 20 = .ok (.goto 11, 3) by decide +kernel)) (
  mz_cons (mz_aload_n (k := 0) (show decode cX11_sparks 23 = .ok (.aload_n 0, 1) by decide +kernel)) (
  mz_cons (mz_getfield (C := RX11) (T := TX11) (N := 9) rfl mz_inX11 (by decide) mw_334 (show decode cX11_sparks 24 = .ok (.getfield 52, 3) by decide +kernel)) (
  mz_cons (mz_iload_n (k := 1) (show decode cX11_sparks 27 = .ok (.iload_n 1, 1) by decide +kernel)) (
  mz_cons (mz_invV (n := 1) (ctr_X9_sparkOf E) rfl ⟨by decide, by decide, by decide +kernel⟩ ⟨by decide, by decide⟩ mw_720 mw_717 mw_718 mw_719 mw_69 (show decode cX11_sparks 28 = .ok (.invokevirtual 180, 3) by decide +kernel)) (
  mz_nil))))))))))))))))
noncomputable def ck_X11_sparks_1 : List (Nat × mz_O) := [(31, .inr (mz_rt mz_isI))]
theorem tk_X11_sparks_1 (E : List mz_V) : mz_all E tM_X11_sparks (ck_X11_sparks_1) :=
  mz_consR (mz_ireturn rfl (show decode cX11_sparks 31 = .ok (.ireturn, 1) by decide +kernel)) (
  mz_nil)
noncomputable def tb_X11_sparks : List (Nat × List (Nat × mz_O)) := [(28, ck_X11_sparks_0), (31, ck_X11_sparks_1)]
theorem tok_X11_sparks (E : List mz_V) : mz_tok E tM_X11_sparks (tb_X11_sparks) := mz_tcons (tk_X11_sparks_0 E) (mz_tcons (tk_X11_sparks_1 E) (mz_tnil))
noncomputable def rn_X11_sparks : List mz_V → List mz_C → Option (Option mz_V × List mz_C) := mz_rn tb_X11_sparks 21 2
theorem ctr_X11_sparks (E : List mz_V) : mz_ctr E yX11_sparks tM_X11_sparks rn_X11_sparks := mz_ctr_of 21 (tok_X11_sparks E) (by decide) rfl rfl
abbrev tM_X10_goesFrom_l0 : mz_M := (cX10_goesFrom, 12, (some .int), RX10, "goesFrom", 2, 43)
noncomputable def ck_X10_goesFrom_l0_0 : List (Nat × mz_O) := [(0, .inl (mz_ld mz_isR 0 1)), (1, .inl (mz_gf 10 0 4)), (4, .inl (mz_ld mz_isI 1 5)), (5, .inl (mz_call rn_X6_beside 2 (mz_ckV 6) 8)), (8, .inl (mz_ld mz_isI 2 9)), (9, .inl (mz_push (.inl (-1)) 10)), (10, .inl (mz_o2 mz_f_ixor 11)), (11, .inl (mz_o2 mz_f_iand 12)), (12, .inl (mz_sto mz_isI mz_p1 5 14)), (14, .inl (mz_ld mz_isI 5 16)), (16, .inl (mz_j1 mz_eq0 26 19)), (26, .inl (mz_push (.inl 0) 27)), (27, .inr (mz_rt mz_isI))]
theorem tk_X10_goesFrom_l0_0 (E : List mz_V) : mz_all E tM_X10_goesFrom_l0 (ck_X10_goesFrom_l0_0) :=
  mz_cons (mz_aload_n (k := 0) (show decode cX10_goesFrom 0 = .ok (.aload_n 0, 1) by decide +kernel)) (
  mz_cons (mz_getfield (C := RX10) (T := TX10) (N := 2) rfl mz_inX10 (by decide) mw_323 (show decode cX10_goesFrom 1 = .ok (.getfield 9, 3) by decide +kernel)) (
  mz_cons (mz_iload_n (k := 1) (show decode cX10_goesFrom 4 = .ok (.iload_n 1, 1) by decide +kernel)) (
  mz_cons (mz_invV (n := 1) (ctr_X6_beside E) rfl ⟨by decide, by decide, by decide +kernel⟩ ⟨by decide, by decide⟩ mw_543 mw_922 mw_541 mw_542 mw_65 (show decode cX10_goesFrom 5 = .ok (.invokevirtual 32, 3) by decide +kernel)) (
  mz_cons (mz_iload_n (k := 2) (show decode cX10_goesFrom 8 = .ok (.iload_n 2, 1) by decide +kernel)) (
  mz_cons (mz_iconst (-1) (by decide) (show decode cX10_goesFrom 9 = .ok (.iconst (-1), 1) by decide +kernel)) (
  mz_cons (mz_ixor (show decode cX10_goesFrom 10 = .ok (.ixor, 1) by decide +kernel)) (
  mz_cons (mz_iand (show decode cX10_goesFrom 11 = .ok (.iand, 1) by decide +kernel)) (
  mz_cons (mz_istore (by decide) (show decode cX10_goesFrom 12 = .ok (.istore 5, 2) by decide +kernel)) (
  mz_cons (mz_iload (show decode cX10_goesFrom 14 = .ok (.iload 5, 2) by decide +kernel)) (
  mz_cons (mz_if_eq 26 (by decide) (show decode cX10_goesFrom 16 = .ok (.ifCond .eq 10, 3) by decide +kernel)) (
  mz_cons (mz_iconst 0 (by decide) (show decode cX10_goesFrom 26 = .ok (.iconst 0, 1) by decide +kernel)) (
  mz_consR (mz_ireturn rfl (show decode cX10_goesFrom 27 = .ok (.ireturn, 1) by decide +kernel)) (
  mz_nil)))))))))))))
noncomputable def tb_X10_goesFrom_l0 : List (Nat × List (Nat × mz_O)) := [(27, ck_X10_goesFrom_l0_0)]
theorem tok_X10_goesFrom_l0 (E : List mz_V) : mz_tok E tM_X10_goesFrom_l0 (tb_X10_goesFrom_l0) := mz_tcons (tk_X10_goesFrom_l0_0 E) (mz_tnil)
noncomputable def rn_X10_goesFrom_l0 : List mz_V → List mz_C → Option (Option mz_V × List mz_C) := mz_rn tb_X10_goesFrom_l0 23 12
theorem ctr_X10_goesFrom_l0 (E : List mz_V) : mz_ctr E yX10_goesFrom tM_X10_goesFrom_l0 rn_X10_goesFrom_l0 := mz_ctr_of 23 (tok_X10_goesFrom_l0 E) (by decide) rfl rfl
abbrev tM_X10_alone : mz_M := (cX10_alone, 3, (some .int), RX10, "alone", 3, 74)
noncomputable def ck_X10_alone_0 : List (Nat × mz_O) := [(0, .inl (mz_ld mz_isR 0 1)), (1, .inl (mz_gf 10 1 4)), (4, .inl (mz_call rn_X5_startSearch 1 (mz_ckV 5) 7)), (7, .inl (mz_ld mz_isR 0 8)), (8, .inl (mz_ld mz_isI 1 9)), (9, .inl (mz_ld mz_isI 2 10)), (10, .inl (mz_push (.inl 1) 11)), (11, .inl (mz_ld mz_isI 1 12)), (12, .inl (mz_o2 mz_f_ishl 13)), (13, .inl (mz_o2 mz_f_ior 14)), (14, .inl (mz_push (.inl 1) 15)), (15, .inl (mz_push (.inl 0) 16)), (16, .inl (mz_call rn_X10_goesFrom_l0 5 (mz_ckV 10) 19)), (19, .inr (mz_rt mz_isI))]
theorem tk_X10_alone_0 (E : List mz_V) : mz_all E tM_X10_alone (ck_X10_alone_0) :=
  mz_cons (mz_aload_n (k := 0) (show decode cX10_alone 0 = .ok (.aload_n 0, 1) by decide +kernel)) (
  mz_cons (mz_getfield (C := RX10) (T := TX10) (N := 2) rfl mz_inX10 (by decide) mw_324 (show decode cX10_alone 1 = .ok (.getfield 15, 3) by decide +kernel)) (
  mz_cons (mz_invV (n := 0) (ctr_X5_startSearch E) rfl ⟨by decide, by decide, by decide +kernel⟩ ⟨by decide, by decide⟩ mw_579 mw_917 mw_577 mw_578 mw_62 (show decode cX10_alone 4 = .ok (.invokevirtual 19, 3) by decide +kernel)) (
  mz_cons (mz_aload_n (k := 0) (show decode cX10_alone 7 = .ok (.aload_n 0, 1) by decide +kernel)) (
  mz_cons (mz_iload_n (k := 1) (show decode cX10_alone 8 = .ok (.iload_n 1, 1) by decide +kernel)) (
  mz_cons (mz_iload_n (k := 2) (show decode cX10_alone 9 = .ok (.iload_n 2, 1) by decide +kernel)) (
  mz_cons (mz_iconst 1 (by decide) (show decode cX10_alone 10 = .ok (.iconst 1, 1) by decide +kernel)) (
  mz_cons (mz_iload_n (k := 1) (show decode cX10_alone 11 = .ok (.iload_n 1, 1) by decide +kernel)) (
  mz_cons (mz_ishl (show decode cX10_alone 12 = .ok (.ishl, 1) by decide +kernel)) (
  mz_cons (mz_ior (show decode cX10_alone 13 = .ok (.ior, 1) by decide +kernel)) (
  mz_cons (mz_iconst 1 (by decide) (show decode cX10_alone 14 = .ok (.iconst 1, 1) by decide +kernel)) (
  mz_cons (mz_iconst 0 (by decide) (show decode cX10_alone 15 = .ok (.iconst 0, 1) by decide +kernel)) (
  mz_cons (mz_invV (n := 4) (ctr_X10_goesFrom_l0 E) rfl ⟨by decide, by decide, by decide +kernel⟩ ⟨by decide, by decide⟩ mw_921 mw_918 mw_920 mw_29 mw_73 (show decode cX10_alone 16 = .ok (.invokevirtual 24, 3) by decide +kernel)) (
  mz_consR (mz_ireturn rfl (show decode cX10_alone 19 = .ok (.ireturn, 1) by decide +kernel)) (
  mz_nil))))))))))))))
noncomputable def tb_X10_alone : List (Nat × List (Nat × mz_O)) := [(19, ck_X10_alone_0)]
theorem tok_X10_alone (E : List mz_V) : mz_tok E tM_X10_alone (tb_X10_alone) := mz_tcons (tk_X10_alone_0 E) (mz_tnil)
noncomputable def rn_X10_alone : List mz_V → List mz_C → Option (Option mz_V × List mz_C) := mz_rn tb_X10_alone 24 3
theorem ctr_X10_alone (E : List mz_V) : mz_ctr E yX10_alone tM_X10_alone rn_X10_alone := mz_ctr_of 24 (tok_X10_alone E) (by decide) rfl rfl
abbrev tM_X10_length : mz_M := (cX10_length, 3, (some .int), RX10, "length", 3, 74)
noncomputable def ck_X10_length_0 : List (Nat × mz_O) := [(0, .inl (mz_ld mz_isR 0 1)), (1, .inl (mz_gf 10 1 4)), (4, .inl (mz_call rn_X5_startSearch 1 (mz_ckV 5) 7)), (7, .inl (mz_ld mz_isR 0 8)), (8, .inl (mz_ld mz_isI 1 9)), (9, .inl (mz_ld mz_isI 2 10)), (10, .inl (mz_push (.inl 1) 11)), (11, .inl (mz_ld mz_isI 1 12)), (12, .inl (mz_o2 mz_f_ishl 13)), (13, .inl (mz_o2 mz_f_ior 14)), (14, .inl (mz_push (.inl 0) 15)), (15, .inl (mz_push (.inl 0) 16)), (16, .inl (mz_call rn_X10_goesFrom_l0 5 (mz_ckV 10) 19)), (19, .inr (mz_rt mz_isI))]
theorem tk_X10_length_0 (E : List mz_V) : mz_all E tM_X10_length (ck_X10_length_0) :=
  mz_cons (mz_aload_n (k := 0) (show decode cX10_length 0 = .ok (.aload_n 0, 1) by decide +kernel)) (
  mz_cons (mz_getfield (C := RX10) (T := TX10) (N := 2) rfl mz_inX10 (by decide) mw_324 (show decode cX10_length 1 = .ok (.getfield 15, 3) by decide +kernel)) (
  mz_cons (mz_invV (n := 0) (ctr_X5_startSearch E) rfl ⟨by decide, by decide, by decide +kernel⟩ ⟨by decide, by decide⟩ mw_579 mw_917 mw_577 mw_578 mw_62 (show decode cX10_length 4 = .ok (.invokevirtual 19, 3) by decide +kernel)) (
  mz_cons (mz_aload_n (k := 0) (show decode cX10_length 7 = .ok (.aload_n 0, 1) by decide +kernel)) (
  mz_cons (mz_iload_n (k := 1) (show decode cX10_length 8 = .ok (.iload_n 1, 1) by decide +kernel)) (
  mz_cons (mz_iload_n (k := 2) (show decode cX10_length 9 = .ok (.iload_n 2, 1) by decide +kernel)) (
  mz_cons (mz_iconst 1 (by decide) (show decode cX10_length 10 = .ok (.iconst 1, 1) by decide +kernel)) (
  mz_cons (mz_iload_n (k := 1) (show decode cX10_length 11 = .ok (.iload_n 1, 1) by decide +kernel)) (
  mz_cons (mz_ishl (show decode cX10_length 12 = .ok (.ishl, 1) by decide +kernel)) (
  mz_cons (mz_ior (show decode cX10_length 13 = .ok (.ior, 1) by decide +kernel)) (
  mz_cons (mz_iconst 0 (by decide) (show decode cX10_length 14 = .ok (.iconst 0, 1) by decide +kernel)) (
  mz_cons (mz_iconst 0 (by decide) (show decode cX10_length 15 = .ok (.iconst 0, 1) by decide +kernel)) (
  mz_cons (mz_invV (n := 4) (ctr_X10_goesFrom_l0 E) rfl ⟨by decide, by decide, by decide +kernel⟩ ⟨by decide, by decide⟩ mw_921 mw_918 mw_920 mw_29 mw_73 (show decode cX10_length 16 = .ok (.invokevirtual 24, 3) by decide +kernel)) (
  mz_consR (mz_ireturn rfl (show decode cX10_length 19 = .ok (.ireturn, 1) by decide +kernel)) (
  mz_nil))))))))))))))
noncomputable def tb_X10_length : List (Nat × List (Nat × mz_O)) := [(19, ck_X10_length_0)]
theorem tok_X10_length (E : List mz_V) : mz_tok E tM_X10_length (tb_X10_length) := mz_tcons (tk_X10_length_0 E) (mz_tnil)
noncomputable def rn_X10_length : List mz_V → List mz_C → Option (Option mz_V × List mz_C) := mz_rn tb_X10_length 24 3
theorem ctr_X10_length (E : List mz_V) : mz_ctr E yX10_length tM_X10_length rn_X10_length := mz_ctr_of 24 (tok_X10_length E) (by decide) rfl rfl
abbrev tM_X10_step : mz_M := (cX10_step, 6, (some .int), RX10, "step", 4, 96)
noncomputable def ck_X10_step_0 : List (Nat × mz_O) := [(0, .inl (mz_ld mz_isR 0 1)), (1, .inl (mz_ld mz_isI 1 2)), (2, .inl (mz_ld mz_isI 2 3)), (3, .inl (mz_call rn_X10_length 3 (mz_ckV 10) 6)), (6, .inl (mz_sto mz_isI mz_p1 3 7)), (7, .inl (mz_ld mz_isR 0 8)), (8, .inl (mz_gf 10 0 11)), (11, .inl (mz_ld mz_isI 1 12)), (12, .inl (mz_call rn_X6_beside 2 (mz_ckV 6) 15)), (15, .inl (mz_ld mz_isI 2 16)), (16, .inl (mz_push (.inl 1) 17)), (17, .inl (mz_ld mz_isI 1 18)), (18, .inl (mz_o2 mz_f_ishl 19)), (19, .inl (mz_o2 mz_f_ior 20)), (20, .inl (mz_push (.inl (-1)) 21)), (21, .inl (mz_o2 mz_f_ixor 22))]
theorem tk_X10_step_0 (E : List mz_V) : mz_all E tM_X10_step (ck_X10_step_0) :=
  mz_cons (mz_aload_n (k := 0) (show decode cX10_step 0 = .ok (.aload_n 0, 1) by decide +kernel)) (
  mz_cons (mz_iload_n (k := 1) (show decode cX10_step 1 = .ok (.iload_n 1, 1) by decide +kernel)) (
  mz_cons (mz_iload_n (k := 2) (show decode cX10_step 2 = .ok (.iload_n 2, 1) by decide +kernel)) (
  mz_cons (mz_invV (n := 2) (ctr_X10_length E) rfl ⟨by decide, by decide, by decide +kernel⟩ ⟨by decide, by decide⟩ mw_916 mw_936 mw_914 mw_915 mw_73 (show decode cX10_step 3 = .ok (.invokevirtual 28, 3) by decide +kernel)) (
  mz_cons (mz_istore_n (k := 3) (by decide) (show decode cX10_step 6 = .ok (.istore_n 3, 1) by decide +kernel)) (
  mz_cons (mz_aload_n (k := 0) (show decode cX10_step 7 = .ok (.aload_n 0, 1) by decide +kernel)) (
  mz_cons (mz_getfield (C := RX10) (T := TX10) (N := 2) rfl mz_inX10 (by decide) mw_323 (show decode cX10_step 8 = .ok (.getfield 9, 3) by decide +kernel)) (
  mz_cons (mz_iload_n (k := 1) (show decode cX10_step 11 = .ok (.iload_n 1, 1) by decide +kernel)) (
  mz_cons (mz_invV (n := 1) (ctr_X6_beside E) rfl ⟨by decide, by decide, by decide +kernel⟩ ⟨by decide, by decide⟩ mw_543 mw_922 mw_541 mw_542 mw_65 (show decode cX10_step 12 = .ok (.invokevirtual 32, 3) by decide +kernel)) (
  mz_cons (mz_iload_n (k := 2) (show decode cX10_step 15 = .ok (.iload_n 2, 1) by decide +kernel)) (
  mz_cons (mz_iconst 1 (by decide) (show decode cX10_step 16 = .ok (.iconst 1, 1) by decide +kernel)) (
  mz_cons (mz_iload_n (k := 1) (show decode cX10_step 17 = .ok (.iload_n 1, 1) by decide +kernel)) (
  mz_cons (mz_ishl (show decode cX10_step 18 = .ok (.ishl, 1) by decide +kernel)) (
  mz_cons (mz_ior (show decode cX10_step 19 = .ok (.ior, 1) by decide +kernel)) (
  mz_cons (mz_iconst (-1) (by decide) (show decode cX10_step 20 = .ok (.iconst (-1), 1) by decide +kernel)) (
  mz_cons (mz_ixor (show decode cX10_step 21 = .ok (.ixor, 1) by decide +kernel)) (
  mz_nil))))))))))))))))
noncomputable def ck_X10_step_1 : List (Nat × mz_O) := [(22, .inl (mz_o2 mz_f_iand 23)), (23, .inl (mz_sto mz_isI mz_p1 4 25)), (25, .inl (mz_push (.inl 0) 26)), (26, .inl (mz_sto mz_isI mz_p1 5 28)), (28, .inl (mz_ld mz_isI 5 30)), (30, .inl (mz_ld mz_isR 0 31)), (31, .inl (mz_gf 10 0 34)), (34, .inl (mz_call rn_X6_howMany 1 (mz_ckV 6) 37)), (37, .inl (mz_j2 mz_lt 40 83)), (40, .inl (mz_ld mz_isI 4 42)), (42, .inl (mz_ld mz_isI 5 44)), (44, .inl (mz_call rn_X11_has 2 mz_ckT 47)), (47, .inl (mz_j1 mz_eq0 77 50)), (77, .inl (mz_inc 5 1 80)), (80, .inl (mz_go 28)), (83, .inl (mz_push (.inl (-1)) 84))]
theorem tk_X10_step_1 (E : List mz_V) : mz_all E tM_X10_step (ck_X10_step_1) :=
  mz_cons (mz_iand (show decode cX10_step 22 = .ok (.iand, 1) by decide +kernel)) (
  mz_cons (mz_istore (by decide) (show decode cX10_step 23 = .ok (.istore 4, 2) by decide +kernel)) (
  mz_cons (mz_iconst 0 (by decide) (show decode cX10_step 25 = .ok (.iconst 0, 1) by decide +kernel)) (
  mz_cons (mz_istore (by decide) (show decode cX10_step 26 = .ok (.istore 5, 2) by decide +kernel)) (
  mz_cons (mz_iload (show decode cX10_step 28 = .ok (.iload 5, 2) by decide +kernel)) (
  mz_cons (mz_aload_n (k := 0) (show decode cX10_step 30 = .ok (.aload_n 0, 1) by decide +kernel)) (
  mz_cons (mz_getfield (C := RX10) (T := TX10) (N := 2) rfl mz_inX10 (by decide) mw_323 (show decode cX10_step 31 = .ok (.getfield 9, 3) by decide +kernel)) (
  mz_cons (mz_invV (n := 0) (ctr_X6_howMany E) rfl ⟨by decide, by decide, by decide +kernel⟩ ⟨by decide, by decide⟩ mw_386 mw_925 mw_384 mw_385 mw_65 (show decode cX10_step 34 = .ok (.invokevirtual 38, 3) by decide +kernel)) (
  mz_cons (mz_icmp_ge 83 (by decide) (show decode cX10_step 37 = .ok (.if_icmp .ge 46, 3) by decide +kernel)) (
  mz_cons (mz_iload (show decode cX10_step 40 = .ok (.iload 4, 2) by decide +kernel)) (
  mz_cons (mz_iload (show decode cX10_step 42 = .ok (.iload 5, 2) by decide +kernel)) (
  mz_cons (mz_invSN (n := 2) (host := "WettedNet") (ctr_X11_has E) ⟨by decide, by decide, by decide +kernel⟩ ⟨by decide, by decide⟩ mw_604 (by decide +kernel) mw_603 mw_61 (show decode cX10_step 44 = .ok (.invokestatic 42, 3) by decide +kernel)) (
  mz_cons (mz_if_eq 77 (by decide) (show decode cX10_step 47 = .ok (.ifCond .eq 30, 3) by decide +kernel)) (
  mz_cons (mz_iinc 1 (by decide) (by decide) (show decode cX10_step 77 = .ok (.iinc 5 1, 3) by decide +kernel)) (
  mz_cons (mz_goto 28 (by decide) (show decode cX10_step 80 = .ok (.goto (-52), 3) by decide +kernel)) (
  mz_cons (mz_iconst (-1) (by decide) (show decode cX10_step 83 = .ok (.iconst (-1), 1) by decide +kernel)) (
  mz_nil))))))))))))))))
noncomputable def ck_X10_step_2 : List (Nat × mz_O) := [(84, .inr (mz_rt mz_isI))]
theorem tk_X10_step_2 (E : List mz_V) : mz_all E tM_X10_step (ck_X10_step_2) :=
  mz_consR (mz_ireturn rfl (show decode cX10_step 84 = .ok (.ireturn, 1) by decide +kernel)) (
  mz_nil)
noncomputable def tb_X10_step : List (Nat × List (Nat × mz_O)) := [(21, ck_X10_step_0), (83, ck_X10_step_1), (84, ck_X10_step_2)]
theorem tok_X10_step (E : List mz_V) : mz_tok E tM_X10_step (tb_X10_step) := mz_tcons (tk_X10_step_0 E) (mz_tcons (tk_X10_step_1 E) (mz_tcons (tk_X10_step_2 E) (mz_tnil)))
noncomputable def rn_X10_step : List mz_V → List mz_C → Option (Option mz_V × List mz_C) := mz_rn tb_X10_step 48 6
theorem ctr_X10_step (E : List mz_V) : mz_ctr E yX10_step tM_X10_step rn_X10_step := mz_ctr_of 48 (tok_X10_step E) (by decide) rfl rfl
