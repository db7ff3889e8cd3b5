abbrev tM_X2_lostFrom_l0 : mz_M := (cX2_lostFrom, 8, (some .int), RX2, "lostFrom", 4, 88)
noncomputable def ck_X2_lostFrom_l0_0 : List (Nat × mz_O) := [(0, .inl (mz_ld mz_isI 1 1)), (1, .inl (mz_call rn_X2_threes 1 mz_ckT 4)), (4, .inl (mz_push (.inl 2) 5)), (5, .inl (mz_ld mz_isI 2 6)), (6, .inl (mz_call rn_X2_threes 1 mz_ckT 9)), (9, .inl (mz_o2 mz_f_imul 10)), (10, .inl (mz_o2 mz_f_iadd 11)), (11, .inl (mz_sto mz_isI mz_p1 4 13)), (13, .inl (mz_ld mz_isR 0 14)), (14, .inl (mz_gf 2 2 17)), (17, .inl (mz_ld mz_isI 4 19)), (19, .inl (mz_call rn_X5_recall 2 (mz_ckV 5) 22)), (22, .inl (mz_sto mz_isI mz_p1 5 24)), (24, .inl (mz_ld mz_isI 5 26)), (26, .inl (mz_push (.inl (-1)) 27)), (27, .inl (mz_j2 mz_eq 33 30))]
theorem tk_X2_lostFrom_l0_0 (E : List mz_V) : mz_all E tM_X2_lostFrom_l0 (ck_X2_lostFrom_l0_0) :=
  mz_cons (mz_iload_n (k := 1) (show decode cX2_lostFrom 0 = .ok (.iload_n 1, 1) by decide +kernel)) (
  mz_cons (mz_invS (n := 1) (ctr_X2_threes E) ⟨by decide, by decide, by decide +kernel⟩ ⟨by decide, by decide⟩ mw_586 mw_584 mw_585 mw_67 (show decode cX2_lostFrom 1 = .ok (.invokestatic 81, 3) by decide +kernel)) (
  mz_cons (mz_iconst 2 (by decide) (show decode cX2_lostFrom 4 = .ok (.iconst 2, 1) by decide +kernel)) (
  mz_cons (mz_iload_n (k := 2) (show decode cX2_lostFrom 5 = .ok (.iload_n 2, 1) by decide +kernel)) (
  mz_cons (mz_invS (n := 1) (ctr_X2_threes E) ⟨by decide, by decide, by decide +kernel⟩ ⟨by decide, by decide⟩ mw_586 mw_584 mw_585 mw_67 (show decode cX2_lostFrom 6 = .ok (.invokestatic 81, 3) by decide +kernel)) (
  mz_cons (mz_imul (show decode cX2_lostFrom 9 = .ok (.imul, 1) by decide +kernel)) (
  mz_cons (mz_iadd (show decode cX2_lostFrom 10 = .ok (.iadd, 1) by decide +kernel)) (
  mz_cons (mz_istore (by decide) (show decode cX2_lostFrom 11 = .ok (.istore 4, 2) by decide +kernel)) (
  mz_cons (mz_aload_n (k := 0) (show decode cX2_lostFrom 13 = .ok (.aload_n 0, 1) by decide +kernel)) (
  mz_cons (mz_getfield (C := RX2) (T := TX2) (N := 4) rfl mz_inX2 (by decide) mw_202 (show decode cX2_lostFrom 14 = .ok (.getfield 19, 3) by decide +kernel)) (
  mz_cons (mz_iload (show decode cX2_lostFrom 17 = .ok (.iload 4, 2) by decide +kernel)) (
  mz_cons (mz_invV (n := 1) (ctr_X5_recall E) rfl ⟨by decide, by decide, by decide +kernel⟩ ⟨by decide, by decide⟩ mw_592 mw_589 mw_590 mw_591 mw_62 (show decode cX2_lostFrom 19 = .ok (.invokevirtual 84, 3) by decide +kernel)) (
  mz_cons (mz_istore (by decide) (show decode cX2_lostFrom 22 = .ok (.istore 5, 2) by decide +kernel)) (
  mz_cons (mz_iload (show decode cX2_lostFrom 24 = .ok (.iload 5, 2) by decide +kernel)) (
  mz_cons (mz_iconst (-1) (by decide) (show decode cX2_lostFrom 26 = .ok (.iconst (-1), 1) by decide +kernel)) (
  mz_cons (mz_icmp_eq 33 (by decide) (show decode cX2_lostFrom 27 = .ok (.if_icmp .eq 6, 3) by decide +kernel)) (
  mz_nil))))))))))))))))
noncomputable def ck_X2_lostFrom_l0_1 : List (Nat × mz_O) := [(30, .inl (mz_ld mz_isI 5 32)), (32, .inr (mz_rt mz_isI)), (33, .inl (mz_ld mz_isR 0 34)), (34, .inl (mz_ld mz_isI 1 35)), (35, .inl (mz_ld mz_isI 2 36)), (36, .inl (mz_call rn_X2_burnOn 3 (mz_ckV 2) 39)), (39, .inl (mz_sto mz_isI mz_p1 6 41)), (41, .inl (mz_ld mz_isR 0 42)), (42, .inl (mz_gf 2 0 45)), (45, .inl (mz_ld mz_isI 1 46)), (46, .inl (mz_call rn_X6_folkOf 2 (mz_ckV 6) 49)), (49, .inl (mz_sto mz_isI mz_p1 7 51)), (51, .inl (mz_ld mz_isI 6 53)), (53, .inl (mz_ld mz_isI 1 54)), (54, .inl (mz_j2 mz_eq 90 57)), (90, .inl (mz_ld mz_isR 0 91))]
theorem tk_X2_lostFrom_l0_1 (E : List mz_V) : mz_all E tM_X2_lostFrom_l0 (ck_X2_lostFrom_l0_1) :=
  mz_cons (mz_iload (show decode cX2_lostFrom 30 = .ok (.iload 5, 2) by decide +kernel)) (
  mz_consR (mz_ireturn rfl (show decode cX2_lostFrom 32 = .ok (.ireturn, 1) by decide +kernel)) (
  mz_cons (mz_aload_n (k := 0) (show decode cX2_lostFrom 33 = .ok (.aload_n 0, 1) by decide +kernel)) (
  mz_cons (mz_iload_n (k := 1) (show decode cX2_lostFrom 34 = .ok (.iload_n 1, 1) by decide +kernel)) (
  mz_cons (mz_iload_n (k := 2) (show decode cX2_lostFrom 35 = .ok (.iload_n 2, 1) by decide +kernel)) (
  mz_cons (mz_invV (n := 2) (ctr_X2_burnOn E) rfl ⟨by decide, by decide, by decide +kernel⟩ ⟨by decide, by decide⟩ mw_597 mw_594 mw_595 mw_596 mw_67 (show decode cX2_lostFrom 36 = .ok (.invokevirtual 67, 3) by decide +kernel)) (
  mz_cons (mz_istore (by decide) (show decode cX2_lostFrom 39 = .ok (.istore 6, 2) by decide +kernel)) (
  mz_cons (mz_aload_n (k := 0) (show decode cX2_lostFrom 41 = .ok (.aload_n 0, 1) by decide +kernel)) (
  mz_cons (mz_getfield (C := RX2) (T := TX2) (N := 4) rfl mz_inX2 (by decide) mw_200 (show decode cX2_lostFrom 42 = .ok (.getfield 9, 3) by decide +kernel)) (
  mz_cons (mz_iload_n (k := 1) (show decode cX2_lostFrom 45 = .ok (.iload_n 1, 1) by decide +kernel)) (
  mz_cons (mz_invV (n := 1) (ctr_X6_folkOf E) rfl ⟨by decide, by decide, by decide +kernel⟩ ⟨by decide, by decide⟩ mw_608 mw_605 mw_606 mw_607 mw_65 (show decode cX2_lostFrom 46 = .ok (.invokevirtual 87, 3) by decide +kernel)) (
  mz_cons (mz_istore (by decide) (show decode cX2_lostFrom 49 = .ok (.istore 7, 2) by decide +kernel)) (
  mz_cons (mz_iload (show decode cX2_lostFrom 51 = .ok (.iload 6, 2) by decide +kernel)) (
  mz_cons (mz_iload_n (k := 1) (show decode cX2_lostFrom 53 = .ok (.iload_n 1, 1) by decide +kernel)) (
  mz_cons (mz_icmp_eq 90 (by decide) (show decode cX2_lostFrom 54 = .ok (.if_icmp .eq 36, 3) by decide +kernel)) (
  mz_cons (mz_aload_n (k := 0) (show decode cX2_lostFrom 90 = .ok (.aload_n 0, 1) by decide +kernel)) (
  mz_nil))))))))))))))))
noncomputable def ck_X2_lostFrom_l0_2 : List (Nat × mz_O) := [(91, .inl (mz_gf 2 2 94)), (94, .inl (mz_ld mz_isI 4 96)), (96, .inl (mz_ld mz_isI 7 98)), (98, .inl (mz_call rn_X5_keep 3 (mz_ckV 5) 101)), (101, .inl (mz_ld mz_isI 7 103)), (103, .inr (mz_rt mz_isI))]
theorem tk_X2_lostFrom_l0_2 (E : List mz_V) : mz_all E tM_X2_lostFrom_l0 (ck_X2_lostFrom_l0_2) :=
  mz_cons (mz_getfield (C := RX2) (T := TX2) (N := 4) rfl mz_inX2 (by decide) mw_202 (show decode cX2_lostFrom 91 = .ok (.getfield 19, 3) by decide +kernel)) (
  mz_cons (mz_iload (show decode cX2_lostFrom 94 = .ok (.iload 4, 2) by decide +kernel)) (
  mz_cons (mz_iload (show decode cX2_lostFrom 96 = .ok (.iload 7, 2) by decide +kernel)) (
  mz_cons (mz_invV (n := 2) (ctr_X5_keep E) rfl ⟨by decide, by decide, by decide +kernel⟩ ⟨by decide, by decide⟩ mw_635 mw_632 mw_633 mw_634 mw_62 (show decode cX2_lostFrom 98 = .ok (.invokevirtual 94, 3) by decide +kernel)) (
  mz_cons (mz_iload (show decode cX2_lostFrom 101 = .ok (.iload 7, 2) by decide +kernel)) (
  mz_consR (mz_ireturn rfl (show decode cX2_lostFrom 103 = .ok (.ireturn, 1) by decide +kernel)) (
  mz_nil))))))
noncomputable def tb_X2_lostFrom_l0 : List (Nat × List (Nat × mz_O)) := [(27, ck_X2_lostFrom_l0_0), (90, ck_X2_lostFrom_l0_1), (103, ck_X2_lostFrom_l0_2)]
theorem tok_X2_lostFrom_l0 (E : List mz_V) : mz_tok E tM_X2_lostFrom_l0 (tb_X2_lostFrom_l0) := mz_tcons (tk_X2_lostFrom_l0_0 E) (mz_tcons (tk_X2_lostFrom_l0_1 E) (mz_tcons (tk_X2_lostFrom_l0_2 E) (mz_tnil)))
noncomputable def rn_X2_lostFrom_l0 : List mz_V → List mz_C → Option (Option mz_V × List mz_C) := mz_rn tb_X2_lostFrom_l0 46 8
theorem ctr_X2_lostFrom_l0 (E : List mz_V) : mz_ctr E yX2_lostFrom tM_X2_lostFrom_l0 rn_X2_lostFrom_l0 := mz_ctr_of 46 (tok_X2_lostFrom_l0 E) (by decide) rfl rfl
abbrev tM_X5_startSearch : mz_M := (cX5_startSearch, 1, none, RX5, "startSearch", 1, 22)
noncomputable def ck_X5_startSearch_0 : List (Nat × mz_O) := [(0, .inl (mz_ld mz_isR 0 1)), (1, .inl (mz_gf 5 0 4)), (4, .inl (mz_j1 mz_nul 7 16)), (7, .inl (mz_ld mz_isR 0 8)), (8, .inl (mz_push (.inl 19683) 11)), (11, .inl (mz_na false 13)), (13, .inl (mz_pf 5 0 mz_isQ 16)), (16, .inl (mz_ld mz_isR 0 17)), (17, .inl (mz_dp 18)), (18, .inl (mz_gf 5 1 21)), (21, .inl (mz_push (.inl 1) 22)), (22, .inl (mz_o2 mz_f_iadd 23)), (23, .inl (mz_pf 5 1 mz_isI 26)), (26, .inr (mz_rv))]
theorem tk_X5_startSearch_0 (E : List mz_V) : mz_all E tM_X5_startSearch (ck_X5_startSearch_0) :=
  mz_cons (mz_aload_n (k := 0) (show decode cX5_startSearch 0 = .ok (.aload_n 0, 1) by decide +kernel)) (
  mz_cons (mz_getfield (C := RX5) (T := TX5) (N := 2) rfl mz_inX5 (by decide) mw_94 (show decode cX5_startSearch 1 = .ok (.getfield 9, 3) by decide +kernel)) (
  mz_cons (mz_ifnonnull 16 (by decide) (show decode cX5_startSearch 4 = .ok (.ifnonnull 12, 3) by decide +kernel)) (
  mz_cons (mz_aload_n (k := 0) (show decode cX5_startSearch 7 = .ok (.aload_n 0, 1) by decide +kernel)) (
  mz_cons (mz_sipush 19683 (by decide) (show decode cX5_startSearch 8 = .ok (.sipush 19683, 3) by decide +kernel)) (
  mz_cons (mz_newI mw_127 (show decode cX5_startSearch 11 = .ok (.newarray .int, 2) by decide +kernel)) (
  mz_cons (mz_putfield (C := RX5) (T := TX5) (N := 2) rfl mz_inX5 tyX5_ok nmX5 (by decide) mz_fit_arr rfl mw_94 (show decode cX5_startSearch 13 = .ok (.putfield 9, 3) by decide +kernel)) (
  mz_cons (mz_aload_n (k := 0) (show decode cX5_startSearch 16 = .ok (.aload_n 0, 1) by decide +kernel)) (
  mz_cons (mz_dup (show decode cX5_startSearch 17 = .ok (.dup, 1) by decide +kernel)) (
  mz_cons (mz_getfield (C := RX5) (T := TX5) (N := 2) rfl mz_inX5 (by decide) mw_95 (show decode cX5_startSearch 18 = .ok (.getfield 15, 3) by decide +kernel)) (
  mz_cons (mz_iconst 1 (by decide) (show decode cX5_startSearch 21 = .ok (.iconst 1, 1) by decide +kernel)) (
  mz_cons (mz_iadd (show decode cX5_startSearch 22 = .ok (.iadd, 1) by decide +kernel)) (
  mz_cons (mz_putfield (C := RX5) (T := TX5) (N := 2) rfl mz_inX5 tyX5_ok nmX5 (by decide) mz_fit_int rfl mw_95 (show decode cX5_startSearch 23 = .ok (.putfield 15, 3) by decide +kernel)) (
  mz_consR (mz_return rfl (show decode cX5_startSearch 26 = .ok (.return_, 1) by decide +kernel)) (
  mz_nil))))))))))))))
noncomputable def tb_X5_startSearch : List (Nat × List (Nat × mz_O)) := [(26, ck_X5_startSearch_0)]
theorem tok_X5_startSearch (E : List mz_V) : mz_tok E tM_X5_startSearch (tb_X5_startSearch) := mz_tcons (tk_X5_startSearch_0 E) (mz_tnil)
noncomputable def rn_X5_startSearch : List mz_V → List mz_C → Option (Option mz_V × List mz_C) := mz_rn tb_X5_startSearch 24 1
theorem ctr_X5_startSearch (E : List mz_V) : mz_ctr E yX5_startSearch tM_X5_startSearch rn_X5_startSearch := mz_ctr_of 24 (tok_X5_startSearch E) (by decide) rfl rfl
abbrev tM_X2_leastLost : mz_M := (cX2_leastLost, 4, (some .int), RX2, "leastLost", 5, 115)
noncomputable def ck_X2_leastLost_0 : List (Nat × mz_O) := [(0, .inl (mz_ld mz_isR 0 1)), (1, .inl (mz_ld mz_isI 3 2)), (2, .inl (mz_pf 2 3 mz_isI 5)), (5, .inl (mz_ld mz_isR 0 6)), (6, .inl (mz_gf 2 2 9)), (9, .inl (mz_call rn_X5_startSearch 1 (mz_ckV 5) 12)), (12, .inl (mz_ld mz_isR 0 13)), (13, .inl (mz_ld mz_isI 1 14)), (14, .inl (mz_ld mz_isI 2 15)), (15, .inl (mz_push (.inl 0) 16)), (16, .inl (mz_call rn_X2_lostFrom_l0 4 (mz_ckV 2) 19)), (19, .inr (mz_rt mz_isI))]
theorem tk_X2_leastLost_0 (E : List mz_V) : mz_all E tM_X2_leastLost (ck_X2_leastLost_0) :=
  mz_cons (mz_aload_n (k := 0) (show decode cX2_leastLost 0 = .ok (.aload_n 0, 1) by decide +kernel)) (
  mz_cons (mz_iload_n (k := 3) (show decode cX2_leastLost 1 = .ok (.iload_n 3, 1) by decide +kernel)) (
  mz_cons (mz_putfield (C := RX2) (T := TX2) (N := 4) rfl mz_inX2 tyX2_ok nmX2 (by decide) mz_fit_int rfl mw_203 (show decode cX2_leastLost 2 = .ok (.putfield 23, 3) by decide +kernel)) (
  mz_cons (mz_aload_n (k := 0) (show decode cX2_leastLost 5 = .ok (.aload_n 0, 1) by decide +kernel)) (
  mz_cons (mz_getfield (C := RX2) (T := TX2) (N := 4) rfl mz_inX2 (by decide) mw_202 (show decode cX2_leastLost 6 = .ok (.getfield 19, 3) by decide +kernel)) (
  mz_cons (mz_invV (n := 0) (ctr_X5_startSearch E) rfl ⟨by decide, by decide, by decide +kernel⟩ ⟨by decide, by decide⟩ mw_579 mw_576 mw_577 mw_578 mw_62 (show decode cX2_leastLost 9 = .ok (.invokevirtual 27, 3) by decide +kernel)) (
  mz_cons (mz_aload_n (k := 0) (show decode cX2_leastLost 12 = .ok (.aload_n 0, 1) by decide +kernel)) (
  mz_cons (mz_iload_n (k := 1) (show decode cX2_leastLost 13 = .ok (.iload_n 1, 1) by decide +kernel)) (
  mz_cons (mz_iload_n (k := 2) (show decode cX2_leastLost 14 = .ok (.iload_n 2, 1) by decide +kernel)) (
  mz_cons (mz_iconst 0 (by decide) (show decode cX2_leastLost 15 = .ok (.iconst 0, 1) by decide +kernel)) (
  mz_cons (mz_invV (n := 3) (ctr_X2_lostFrom_l0 E) rfl ⟨by decide, by decide, by decide +kernel⟩ ⟨by decide, by decide⟩ mw_583 mw_580 mw_582 mw_13 mw_67 (show decode cX2_leastLost 16 = .ok (.invokevirtual 32, 3) by decide +kernel)) (
  mz_consR (mz_ireturn rfl (show decode cX2_leastLost 19 = .ok (.ireturn, 1) by decide +kernel)) (
  mz_nil))))))))))))
noncomputable def tb_X2_leastLost : List (Nat × List (Nat × mz_O)) := [(19, ck_X2_leastLost_0)]
theorem tok_X2_leastLost (E : List mz_V) : mz_tok E tM_X2_leastLost (tb_X2_leastLost) := mz_tcons (tk_X2_leastLost_0 E) (mz_tnil)
noncomputable def rn_X2_leastLost : List mz_V → List mz_C → Option (Option mz_V × List mz_C) := mz_rn tb_X2_leastLost 22 4
theorem ctr_X2_leastLost (E : List mz_V) : mz_ctr E yX2_leastLost tM_X2_leastLost rn_X2_leastLost := mz_ctr_of 22 (tok_X2_leastLost E) (by decide) rfl rfl
abbrev tM_X6_hands : mz_M := (cX6_hands, 1, (some .int), RX6, "hands", 1, 22)
noncomputable def ck_X6_hands_0 : List (Nat × mz_O) := [(0, .inl (mz_ld mz_isR 0 1)), (1, .inl (mz_gf 6 5 4)), (4, .inr (mz_rt mz_isI))]
theorem tk_X6_hands_0 (E : List mz_V) : mz_all E tM_X6_hands (ck_X6_hands_0) :=
  mz_cons (mz_aload_n (k := 0) (show decode cX6_hands 0 = .ok (.aload_n 0, 1) by decide +kernel)) (
  mz_cons (mz_getfield (C := RX6) (T := TX6) (N := 7) rfl mz_inX6 (by decide) mw_146 (show decode cX6_hands 1 = .ok (.getfield 24, 3) by decide +kernel)) (
  mz_consR (mz_ireturn rfl (show decode cX6_hands 4 = .ok (.ireturn, 1) by decide +kernel)) (
  mz_nil)))
noncomputable def tb_X6_hands : List (Nat × List (Nat × mz_O)) := [(4, ck_X6_hands_0)]
theorem tok_X6_hands (E : List mz_V) : mz_tok E tM_X6_hands (tb_X6_hands) := mz_tcons (tk_X6_hands_0 E) (mz_tnil)
noncomputable def rn_X6_hands : List mz_V → List mz_C → Option (Option mz_V × List mz_C) := mz_rn tb_X6_hands 13 1
theorem ctr_X6_hands (E : List mz_V) : mz_ctr E yX6_hands tM_X6_hands rn_X6_hands := mz_ctr_of 13 (tok_X6_hands E) (by decide) rfl rfl
abbrev tM_X4_start : mz_M := (cX4_start, 2, (some .int), RX4, "start", 6, 138)
noncomputable def ck_X4_start_0 : List (Nat × mz_O) := [(0, .inl (mz_ld mz_isR 0 1)), (1, .inl (mz_push (.inl 1) 2)), (2, .inl (mz_pf 4 2 mz_is01 5)), (5, .inl (mz_ld mz_isR 0 6)), (6, .inl (mz_push (.inl 0) 7)), (7, .inl (mz_pf 4 3 mz_is01 10)), (10, .inl (mz_ld mz_isR 0 11)), (11, .inl (mz_ld mz_isI 1 12)), (12, .inl (mz_pf 4 4 mz_isI 15)), (15, .inl (mz_ld mz_isR 0 16)), (16, .inl (mz_push (.inl 0) 17)), (17, .inl (mz_pf 4 5 mz_isI 20)), (20, .inl (mz_ld mz_isR 0 21)), (21, .inl (mz_push (.inl 0) 22)), (22, .inl (mz_pf 4 6 mz_isI 25)), (25, .inl (mz_ld mz_isR 0 26))]
theorem tk_X4_start_0 (E : List mz_V) : mz_all E tM_X4_start (ck_X4_start_0) :=
  mz_cons (mz_aload_n (k := 0) (show decode cX4_start 0 = .ok (.aload_n 0, 1) by decide +kernel)) (
  mz_cons (mz_iconst 1 (by decide) (show decode cX4_start 1 = .ok (.iconst 1, 1) by decide +kernel)) (
  mz_cons (mz_putfield (C := RX4) (T := TX4) (N := 9) rfl mz_inX4 tyX4_ok nmX4 (by decide) mz_fit_bool rfl mw_221 (show decode cX4_start 2 = .ok (.putfield 7, 3) by decide +kernel)) (
  mz_cons (mz_aload_n (k := 0) (show decode cX4_start 5 = .ok (.aload_n 0, 1) by decide +kernel)) (
  mz_cons (mz_iconst 0 (by decide) (show decode cX4_start 6 = .ok (.iconst 0, 1) by decide +kernel)) (
  mz_cons (mz_putfield (C := RX4) (T := TX4) (N := 9) rfl mz_inX4 tyX4_ok nmX4 (by decide) mz_fit_bool rfl mw_222 (show decode cX4_start 7 = .ok (.putfield 13, 3) by decide +kernel)) (
  mz_cons (mz_aload_n (k := 0) (show decode cX4_start 10 = .ok (.aload_n 0, 1) by decide +kernel)) (
  mz_cons (mz_iload_n (k := 1) (show decode cX4_start 11 = .ok (.iload_n 1, 1) by decide +kernel)) (
  mz_cons (mz_putfield (C := RX4) (T := TX4) (N := 9) rfl mz_inX4 tyX4_ok nmX4 (by decide) mz_fit_int rfl mw_223 (show decode cX4_start 12 = .ok (.putfield 16, 3) by decide +kernel)) (
  mz_cons (mz_aload_n (k := 0) (show decode cX4_start 15 = .ok (.aload_n 0, 1) by decide +kernel)) (
  mz_cons (mz_iconst 0 (by decide) (show decode cX4_start 16 = .ok (.iconst 0, 1) by decide +kernel)) (
  mz_cons (mz_putfield (C := RX4) (T := TX4) (N := 9) rfl mz_inX4 tyX4_ok nmX4 (by decide) mz_fit_int rfl mw_224 (show decode cX4_start 17 = .ok (.putfield 20, 3) by decide +kernel)) (
  mz_cons (mz_aload_n (k := 0) (show decode cX4_start 20 = .ok (.aload_n 0, 1) by decide +kernel)) (
  mz_cons (mz_iconst 0 (by decide) (show decode cX4_start 21 = .ok (.iconst 0, 1) by decide +kernel)) (
  mz_cons (mz_putfield (C := RX4) (T := TX4) (N := 9) rfl mz_inX4 tyX4_ok nmX4 (by decide) mz_fit_int rfl mw_225 (show decode cX4_start 22 = .ok (.putfield 23, 3) by decide +kernel)) (
  mz_cons (mz_aload_n (k := 0) (show decode cX4_start 25 = .ok (.aload_n 0, 1) by decide +kernel)) (
  mz_nil))))))))))))))))
noncomputable def ck_X4_start_1 : List (Nat × mz_O) := [(26, .inl (mz_push (.inl 0) 27)), (27, .inl (mz_pf 4 7 mz_isI 30)), (30, .inl (mz_ld mz_isR 0 31)), (31, .inl (mz_ld mz_isR 0 32)), (32, .inl (mz_gf 4 1 35)), (35, .inl (mz_ld mz_isR 0 36)), (36, .inl (mz_gf 4 4 39)), (39, .inl (mz_ld mz_isR 0 40)), (40, .inl (mz_gf 4 5 43)), (43, .inl (mz_ld mz_isR 0 44)), (44, .inl (mz_gf 4 0 47)), (47, .inl (mz_call rn_X6_hands 1 (mz_ckV 6) 50)), (50, .inl (mz_call rn_X2_leastLost 4 (mz_ckV 2) 53)), (53, .inl (mz_pf 4 8 mz_isI 56)), (56, .inl (mz_ld mz_isR 0 57)), (57, .inl (mz_gf 4 8 60))]
theorem tk_X4_start_1 (E : List mz_V) : mz_all E tM_X4_start (ck_X4_start_1) :=
  mz_cons (mz_iconst 0 (by decide) (show decode cX4_start 26 = .ok (.iconst 0, 1) by decide +kernel)) (
  mz_cons (mz_putfield (C := RX4) (T := TX4) (N := 9) rfl mz_inX4 tyX4_ok nmX4 (by decide) mz_fit_int rfl mw_226 (show decode cX4_start 27 = .ok (.putfield 26, 3) by decide +kernel)) (
  mz_cons (mz_aload_n (k := 0) (show decode cX4_start 30 = .ok (.aload_n 0, 1) by decide +kernel)) (
  mz_cons (mz_aload_n (k := 0) (show decode cX4_start 31 = .ok (.aload_n 0, 1) by decide +kernel)) (
  mz_cons (mz_getfield (C := RX4) (T := TX4) (N := 9) rfl mz_inX4 (by decide) mw_220 (show decode cX4_start 32 = .ok (.getfield 36, 3) by decide +kernel)) (
  mz_cons (mz_aload_n (k := 0) (show decode cX4_start 35 = .ok (.aload_n 0, 1) by decide +kernel)) (
  mz_cons (mz_getfield (C := RX4) (T := TX4) (N := 9) rfl mz_inX4 (by decide) mw_223 (show decode cX4_start 36 = .ok (.getfield 16, 3) by decide +kernel)) (
  mz_cons (mz_aload_n (k := 0) (show decode cX4_start 39 = .ok (.aload_n 0, 1) by decide +kernel)) (
  mz_cons (mz_getfield (C := RX4) (T := TX4) (N := 9) rfl mz_inX4 (by decide) mw_224 (show decode cX4_start 40 = .ok (.getfield 20, 3) by decide +kernel)) (
  mz_cons (mz_aload_n (k := 0) (show decode cX4_start 43 = .ok (.aload_n 0, 1) by decide +kernel)) (
  mz_cons (mz_getfield (C := RX4) (T := TX4) (N := 9) rfl mz_inX4 (by decide) mw_219 (show decode cX4_start 44 = .ok (.getfield 32, 3) by decide +kernel)) (
  mz_cons (mz_invV (n := 0) (ctr_X6_hands E) rfl ⟨by decide, by decide, by decide +kernel⟩ ⟨by decide, by decide⟩ mw_571 mw_662 mw_569 mw_570 mw_65 (show decode cX4_start 47 = .ok (.invokevirtual 40, 3) by decide +kernel)) (
  mz_cons (mz_invV (n := 3) (ctr_X2_leastLost E) rfl ⟨by decide, by decide, by decide +kernel⟩ ⟨by decide, by decide⟩ mw_575 mw_663 mw_573 mw_574 mw_67 (show decode cX4_start 50 = .ok (.invokevirtual 46, 3) by decide +kernel)) (
  mz_cons (mz_putfield (C := RX4) (T := TX4) (N := 9) rfl mz_inX4 tyX4_ok nmX4 (by decide) mz_fit_int rfl mw_227 (show decode cX4_start 53 = .ok (.putfield 29, 3) by decide +kernel)) (
  mz_cons (mz_aload_n (k := 0) (show decode cX4_start 56 = .ok (.aload_n 0, 1) by decide +kernel)) (
  mz_cons (mz_getfield (C := RX4) (T := TX4) (N := 9) rfl mz_inX4 (by decide) mw_227 (show decode cX4_start 57 = .ok (.getfield 29, 3) by decide +kernel)) (
  mz_nil))))))))))))))))
noncomputable def ck_X4_start_2 : List (Nat × mz_O) := [(60, .inr (mz_rt mz_isI))]
theorem tk_X4_start_2 (E : List mz_V) : mz_all E tM_X4_start (ck_X4_start_2) :=
  mz_consR (mz_ireturn rfl (show decode cX4_start 60 = .ok (.ireturn, 1) by decide +kernel)) (
  mz_nil)
noncomputable def tb_X4_start : List (Nat × List (Nat × mz_O)) := [(25, ck_X4_start_0), (57, ck_X4_start_1), (60, ck_X4_start_2)]
theorem tok_X4_start (E : List mz_V) : mz_tok E tM_X4_start (tb_X4_start) := mz_tcons (tk_X4_start_0 E) (mz_tcons (tk_X4_start_1 E) (mz_tcons (tk_X4_start_2 E) (mz_tnil)))
noncomputable def rn_X4_start : List mz_V → List mz_C → Option (Option mz_V × List mz_C) := mz_rn tb_X4_start 43 2
theorem ctr_X4_start (E : List mz_V) : mz_ctr E yX4_start tM_X4_start rn_X4_start := mz_ctr_of 43 (tok_X4_start E) (by decide) rfl rfl
abbrev tM_X11_begin : mz_M := (cX11_begin, 2, (some .int), RX11, "begin", 7, 159)
noncomputable def ck_X11_begin_0 : List (Nat × mz_O) := [(0, .inl (mz_ld mz_isR 0 1)), (1, .inl (mz_gf 11 0 4)), (4, .inl (mz_ld mz_isI 1 5)), (5, .inl (mz_call rn_X6_isSet 2 (mz_ckV 6) 8)), (8, .inl (mz_j1 mz_eq0 11 14)), (11, .inl (mz_push (.inl (-3)) 13)), (13, .inr (mz_rt mz_isI)), (14, .inl (mz_ld mz_isR 0 15)), (15, .inl (mz_gf 11 3 18)), (18, .inl (mz_ld mz_isI 1 19)), (19, .inl (mz_call rn_X4_start 2 (mz_ckV 4) 22)), (22, .inr (mz_rt mz_isI))]
theorem tk_X11_begin_0 (E : List mz_V) : mz_all E tM_X11_begin (ck_X11_begin_0) :=
  mz_cons (mz_aload_n (k := 0) (show decode cX11_begin 0 = .ok (.aload_n 0, 1) by decide +kernel)) (
  mz_cons (mz_getfield (C := RX11) (T := TX11) (N := 9) rfl mz_inX11 (by decide) mw_330 (show decode cX11_begin 1 = .ok (.getfield 18, 3) by decide +kernel)) (
  mz_cons (mz_iload_n (k := 1) (show decode cX11_begin 4 = .ok (.iload_n 1, 1) by decide +kernel)) (
  mz_cons (mz_invV (n := 1) (ctr_X6_isSet E) rfl ⟨by decide, by decide, by decide +kernel⟩ ⟨by decide, by decide⟩ mw_563 mw_560 mw_561 mw_562 mw_65 (show decode cX11_begin 5 = .ok (.invokevirtual 145, 3) by decide +kernel)) (
  mz_cons (mz_if_ne 14 (by decide) (show decode cX11_begin 8 = .ok (.ifCond .ne 6, 3) by decide +kernel)) (
  mz_cons (mz_bipush (-3) (by decide) (show decode cX11_begin 11 = .ok (.bipush (-3), 2) by decide +kernel)) (
  mz_consR (mz_ireturn rfl (show decode cX11_begin 13 = .ok (.ireturn, 1) by decide +kernel)) (
  mz_cons (mz_aload_n (k := 0) (show decode cX11_begin 14 = .ok (.aload_n 0, 1) by decide +kernel)) (
  mz_cons (mz_getfield (C := RX11) (T := TX11) (N := 9) rfl mz_inX11 (by decide) mw_333 (show decode cX11_begin 15 = .ok (.getfield 43, 3) by decide +kernel)) (
  mz_cons (mz_iload_n (k := 1) (show decode cX11_begin 18 = .ok (.iload_n 1, 1) by decide +kernel)) (
  mz_cons (mz_invV (n := 1) (ctr_X4_start E) rfl ⟨by decide, by decide, by decide +kernel⟩ ⟨by decide, by decide⟩ mw_661 mw_658 mw_659 mw_660 mw_68 (show decode cX11_begin 19 = .ok (.invokevirtual 161, 3) by decide +kernel)) (
  mz_consR (mz_ireturn rfl (show decode cX11_begin 22 = .ok (.ireturn, 1) by decide +kernel)) (
  mz_nil))))))))))))
noncomputable def tb_X11_begin : List (Nat × List (Nat × mz_O)) := [(22, ck_X11_begin_0)]
theorem tok_X11_begin (E : List mz_V) : mz_tok E tM_X11_begin (tb_X11_begin) := mz_tcons (tk_X11_begin_0 E) (mz_tnil)
noncomputable def rn_X11_begin : List mz_V → List mz_C → Option (Option mz_V × List mz_C) := mz_rn tb_X11_begin 20 2
theorem ctr_X11_begin (E : List mz_V) : mz_ctr E yX11_begin tM_X11_begin rn_X11_begin := mz_ctr_of 20 (tok_X11_begin E) (by decide) rfl rfl
abbrev tM_X1_commonDivisor : mz_M := (cX1_commonDivisor, 11, (some .long), RX1, "commonDivisor", 1, 22)
noncomputable def ck_X1_commonDivisor_0 : List (Nat × mz_O) := [(0, .inl (mz_ld mz_isL 0 1)), (1, .inl (mz_sto mz_isL mz_p2 4 3)), (3, .inl (mz_ld mz_isL 2 4)), (4, .inl (mz_sto mz_isL mz_p2 6 6)), (6, .inl (mz_push (.inl 0) 7)), (7, .inl (mz_sto mz_isI mz_p1 8 9)), (9, .inl (mz_ld mz_isI 8 11)), (11, .inl (mz_push (.inl 200) 14)), (14, .inl (mz_j2 mz_lt 17 45)), (17, .inl (mz_ld mz_isL 6 19)), (19, .inl (mz_push (.inr (.inl 0)) 20)), (20, .inl (mz_o2 mz_f_lcmp 21)), (21, .inl (mz_j1 mz_eq0 45 24)), (24, .inl (mz_ld mz_isL 4 26)), (26, .inl (mz_ld mz_isL 6 28)), (28, .inl (mz_o2 mz_f_lrem 29))]
theorem tk_X1_commonDivisor_0 (E : List mz_V) : mz_all E tM_X1_commonDivisor (ck_X1_commonDivisor_0) :=
  mz_cons (mz_lload_n (k := 0) (show decode cX1_commonDivisor 0 = .ok (.lload_n 0, 1) by decide +kernel)) (
  mz_cons (mz_lstore (by decide) (show decode cX1_commonDivisor 1 = .ok (.lstore 4, 2) by decide +kernel)) (
  mz_cons (mz_lload_n (k := 2) (show decode cX1_commonDivisor 3 = .ok (.lload_n 2, 1) by decide +kernel)) (
  mz_cons (mz_lstore (by decide) (show decode cX1_commonDivisor 4 = .ok (.lstore 6, 2) by decide +kernel)) (
  mz_cons (mz_iconst 0 (by decide) (show decode cX1_commonDivisor 6 = .ok (.iconst 0, 1) by decide +kernel)) (
  mz_cons (mz_istore (by decide) (show decode cX1_commonDivisor 7 = .ok (.istore 8, 2) by decide +kernel)) (
  mz_cons (mz_iload (show decode cX1_commonDivisor 9 = .ok (.iload 8, 2) by decide +kernel)) (
  mz_cons (mz_sipush 200 (by decide) (show decode cX1_commonDivisor 11 = .ok (.sipush 200, 3) by decide +kernel)) (
  mz_cons (mz_icmp_ge 45 (by decide) (show decode cX1_commonDivisor 14 = .ok (.if_icmp .ge 31, 3) by decide +kernel)) (
  mz_cons (mz_lload (show decode cX1_commonDivisor 17 = .ok (.lload 6, 2) by decide +kernel)) (
  mz_cons (mz_lconst 0 (by decide) (show decode cX1_commonDivisor 19 = .ok (.lconst 0, 1) by decide +kernel)) (
  mz_cons (mz_lcmp (show decode cX1_commonDivisor 20 = .ok (.lcmp, 1) by decide +kernel)) (
  mz_cons (mz_if_eq 45 (by decide) (show decode cX1_commonDivisor 21 = .ok (.ifCond .eq 24, 3) by decide +kernel)) (
  mz_cons (mz_lload (show decode cX1_commonDivisor 24 = .ok (.lload 4, 2) by decide +kernel)) (
  mz_cons (mz_lload (show decode cX1_commonDivisor 26 = .ok (.lload 6, 2) by decide +kernel)) (
  mz_cons (mz_lrem (show decode cX1_commonDivisor 28 = .ok (.lrem, 1) by decide +kernel)) (
  mz_nil))))))))))))))))
noncomputable def ck_X1_commonDivisor_1 : List (Nat × mz_O) := [(29, .inl (mz_sto mz_isL mz_p2 9 31)), (31, .inl (mz_ld mz_isL 6 33)), (33, .inl (mz_sto mz_isL mz_p2 4 35)), (35, .inl (mz_ld mz_isL 9 37)), (37, .inl (mz_sto mz_isL mz_p2 6 39)), (39, .inl (mz_inc 8 1 42)), (42, .inl (mz_go 9)), (45, .inl (mz_ld mz_isL 4 47)), (47, .inr (mz_rt mz_isL))]
theorem tk_X1_commonDivisor_1 (E : List mz_V) : mz_all E tM_X1_commonDivisor (ck_X1_commonDivisor_1) :=
  mz_cons (mz_lstore (by decide) (show decode cX1_commonDivisor 29 = .ok (.lstore 9, 2) by decide +kernel)) (
  mz_cons (mz_lload (show decode cX1_commonDivisor 31 = .ok (.lload 6, 2) by decide +kernel)) (
  mz_cons (mz_lstore (by decide) (show decode cX1_commonDivisor 33 = .ok (.lstore 4, 2) by decide +kernel)) (
  mz_cons (mz_lload (show decode cX1_commonDivisor 35 = .ok (.lload 9, 2) by decide +kernel)) (
  mz_cons (mz_lstore (by decide) (show decode cX1_commonDivisor 37 = .ok (.lstore 6, 2) by decide +kernel)) (
  mz_cons (mz_iinc 1 (by decide) (by decide) (show decode cX1_commonDivisor 39 = .ok (.iinc 8 1, 3) by decide +kernel)) (
  mz_cons (mz_goto 9 (by decide) (show decode cX1_commonDivisor 42 = .ok (.goto (-33), 3) by decide +kernel)) (
  mz_cons (mz_lload (show decode cX1_commonDivisor 45 = .ok (.lload 4, 2) by decide +kernel)) (
  mz_consR (mz_lreturn rfl (show decode cX1_commonDivisor 47 = .ok (.lreturn, 1) by decide +kernel)) (
  mz_nil)))))))))
noncomputable def tb_X1_commonDivisor : List (Nat × List (Nat × mz_O)) := [(28, ck_X1_commonDivisor_0), (47, ck_X1_commonDivisor_1)]
theorem tok_X1_commonDivisor (E : List mz_V) : mz_tok E tM_X1_commonDivisor (tb_X1_commonDivisor) := mz_tcons (tk_X1_commonDivisor_0 E) (mz_tcons (tk_X1_commonDivisor_1 E) (mz_tnil))
noncomputable def rn_X1_commonDivisor : List mz_V → List mz_C → Option (Option mz_V × List mz_C) := mz_rn tb_X1_commonDivisor 42 11
theorem ctr_X1_commonDivisor (E : List mz_V) : mz_ctr E yX1_commonDivisor tM_X1_commonDivisor rn_X1_commonDivisor := mz_ctr_of 42 (tok_X1_commonDivisor E) (by decide) rfl rfl
abbrev tM_X6_beside : mz_M := (cX6_beside, 2, (some .int), RX6, "beside", 1, 22)
noncomputable def ck_X6_beside_0 : List (Nat × mz_O) := [(0, .inl (mz_ld mz_isI 1 1)), (1, .inl (mz_j1 mz_lt0 21 4)), (4, .inl (mz_ld mz_isI 1 5)), (5, .inl (mz_ld mz_isR 0 6)), (6, .inl (mz_gf 6 4 9)), (9, .inl (mz_j2 mz_lt 12 21)), (12, .inl (mz_ld mz_isR 0 13)), (13, .inl (mz_gf 6 0 16)), (16, .inl (mz_ld mz_isI 1 17)), (17, .inl (mz_al false 18)), (18, .inl (mz_go 22)), (22, .inr (mz_rt mz_isI))]
theorem tk_X6_beside_0 (E : List mz_V) : mz_all E tM_X6_beside (ck_X6_beside_0) :=
  mz_cons (mz_iload_n (k := 1) (show decode cX6_beside 0 = .ok (.iload_n 1, 1) by decide +kernel)) (
  mz_cons (mz_if_lt 21 (by decide) (show decode cX6_beside 1 = .ok (.ifCond .lt 20, 3) by decide +kernel)) (
  mz_cons (mz_iload_n (k := 1) (show decode cX6_beside 4 = .ok (.iload_n 1, 1) by decide +kernel)) (
  mz_cons (mz_aload_n (k := 0) (show decode cX6_beside 5 = .ok (.aload_n 0, 1) by decide +kernel)) (
  mz_cons (mz_getfield (C := RX6) (T := TX6) (N := 7) rfl mz_inX6 (by decide) mw_145 (show decode cX6_beside 6 = .ok (.getfield 35, 3) by decide +kernel)) (
  mz_cons (mz_icmp_ge 21 (by decide) (show decode cX6_beside 9 = .ok (.if_icmp .ge 12, 3) by decide +kernel)) (
  mz_cons (mz_aload_n (k := 0) (show decode cX6_beside 12 = .ok (.aload_n 0, 1) by decide +kernel)) (
  mz_cons (mz_getfield (C := RX6) (T := TX6) (N := 7) rfl mz_inX6 (by decide) mw_141 (show decode cX6_beside 13 = .ok (.getfield 9, 3) by decide +kernel)) (
  mz_cons (mz_iload_n (k := 1) (show decode cX6_beside 16 = .ok (.iload_n 1, 1) by decide +kernel)) (
  mz_cons (mz_iaload (show decode cX6_beside 17 = .ok (.iaload, 1) by decide +kernel)) (
  mz_cons (mz_goto 22 (by decide) (show decode cX6_beside 18 = .ok (.goto 4, 3) by decide +kernel)) (
  mz_consR (mz_ireturn rfl (show decode cX6_beside 22 = .ok (.ireturn, 1) by decide +kernel)) (
  mz_nil))))))))))))
noncomputable def tb_X6_beside : List (Nat × List (Nat × mz_O)) := [(22, ck_X6_beside_0)]
theorem tok_X6_beside (E : List mz_V) : mz_tok E tM_X6_beside (tb_X6_beside) := mz_tcons (tk_X6_beside_0 E) (mz_tnil)
noncomputable def rn_X6_beside : List mz_V → List mz_C → Option (Option mz_V × List mz_C) := mz_rn tb_X6_beside 22 2
theorem ctr_X6_beside (E : List mz_V) : mz_ctr E yX6_beside tM_X6_beside rn_X6_beside := mz_ctr_of 22 (tok_X6_beside E) (by decide) rfl rfl
abbrev tM_X1_listWays : mz_M := (cX1_listWays, 3, none, RX1, "listWays", 2, 43)
noncomputable def ck_X1_listWays_0 : List (Nat × mz_O) := [(0, .inl (mz_ld mz_isR 0 1)), (1, .inl (mz_push (.inl 0) 2)), (2, .inl (mz_pf 1 3 mz_isI 5)), (5, .inl (mz_push (.inl 0) 6)), (6, .inl (mz_sto mz_isI mz_p1 1 7)), (7, .inl (mz_ld mz_isI 1 8)), (8, .inl (mz_ld mz_isR 0 9)), (9, .inl (mz_gf 1 0 12)), (12, .inl (mz_call rn_X6_howMany 1 (mz_ckV 6) 15)), (15, .inl (mz_j2 mz_lt 18 97)), (18, .inl (mz_push (.inl 0) 19)), (19, .inl (mz_sto mz_isI mz_p1 2 20)), (20, .inl (mz_ld mz_isI 2 21)), (21, .inl (mz_ld mz_isR 0 22)), (22, .inl (mz_gf 1 0 25)), (25, .inl (mz_call rn_X6_howMany 1 (mz_ckV 6) 28))]
theorem tk_X1_listWays_0 (E : List mz_V) : mz_all E tM_X1_listWays (ck_X1_listWays_0) :=
  mz_cons (mz_aload_n (k := 0) (show decode cX1_listWays 0 = .ok (.aload_n 0, 1) by decide +kernel)) (
  mz_cons (mz_iconst 0 (by decide) (show decode cX1_listWays 1 = .ok (.iconst 0, 1) by decide +kernel)) (
  mz_cons (mz_putfield (C := RX1) (T := TX1) (N := 4) rfl mz_inX1 tyX1_ok nmX1 (by decide) mz_fit_int rfl mw_307 (show decode cX1_listWays 2 = .ok (.putfield 29, 3) by decide +kernel)) (
  mz_cons (mz_iconst 0 (by decide) (show decode cX1_listWays 5 = .ok (.iconst 0, 1) by decide +kernel)) (
  mz_cons (mz_istore_n (k := 1) (by decide) (show decode cX1_listWays 6 = .ok (.istore_n 1, 1) by decide +kernel)) (
  mz_cons (mz_iload_n (k := 1) (show decode cX1_listWays 7 = .ok (.iload_n 1, 1) by decide +kernel)) (
  mz_cons (mz_aload_n (k := 0) (show decode cX1_listWays 8 = .ok (.aload_n 0, 1) by decide +kernel)) (
  mz_cons (mz_getfield (C := RX1) (T := TX1) (N := 4) rfl mz_inX1 (by decide) mw_304 (show decode cX1_listWays 9 = .ok (.getfield 18, 3) by decide +kernel)) (
  mz_cons (mz_invV (n := 0) (ctr_X6_howMany E) rfl ⟨by decide, by decide, by decide +kernel⟩ ⟨by decide, by decide⟩ mw_386 mw_877 mw_384 mw_385 mw_65 (show decode cX1_listWays 12 = .ok (.invokevirtual 43, 3) by decide +kernel)) (
  mz_cons (mz_icmp_ge 97 (by decide) (show decode cX1_listWays 15 = .ok (.if_icmp .ge 82, 3) by decide +kernel)) (
  mz_cons (mz_iconst 0 (by decide) (show decode cX1_listWays 18 = .ok (.iconst 0, 1) by decide +kernel)) (
  mz_cons (mz_istore_n (k := 2) (by decide) (show decode cX1_listWays 19 = .ok (.istore_n 2, 1) by decide +kernel)) (
  mz_cons (mz_iload_n (k := 2) (show decode cX1_listWays 20 = .ok (.iload_n 2, 1) by decide +kernel)) (
  mz_cons (mz_aload_n (k := 0) (show decode cX1_listWays 21 = .ok (.aload_n 0, 1) by decide +kernel)) (
  mz_cons (mz_getfield (C := RX1) (T := TX1) (N := 4) rfl mz_inX1 (by decide) mw_304 (show decode cX1_listWays 22 = .ok (.getfield 18, 3) by decide +kernel)) (
  mz_cons (mz_invV (n := 0) (ctr_X6_howMany E) rfl ⟨by decide, by decide, by decide +kernel⟩ ⟨by decide, by decide⟩ mw_386 mw_877 mw_384 mw_385 mw_65 (show decode cX1_listWays 25 = .ok (.invokevirtual 43, 3) by decide +kernel)) (
  mz_nil))))))))))))))))
noncomputable def ck_X1_listWays_1 : List (Nat × mz_O) := [(28, .inl (mz_j2 mz_lt 31 91)), (31, .inl (mz_ld mz_isR 0 32)), (32, .inl (mz_gf 1 0 35)), (35, .inl (mz_ld mz_isI 1 36)), (36, .inl (mz_call rn_X6_beside 2 (mz_ckV 6) 39)), (39, .inl (mz_ld mz_isI 2 40)), (40, .inl (mz_call rn_X11_has 2 mz_ckT 43)), (43, .inl (mz_j1 mz_eq0 85 46)), (85, .inl (mz_inc 2 1 88)), (88, .inl (mz_go 20)), (91, .inl (mz_inc 1 1 94)), (94, .inl (mz_go 7)), (97, .inr (mz_rv))]
theorem tk_X1_listWays_1 (E : List mz_V) : mz_all E tM_X1_listWays (ck_X1_listWays_1) :=
  mz_cons (mz_icmp_ge 91 (by decide) (show decode cX1_listWays 28 = .ok (.if_icmp .ge 63, 3) by decide +kernel)) (
  mz_cons (mz_aload_n (k := 0) (show decode cX1_listWays 31 = .ok (.aload_n 0, 1) by decide +kernel)) (
  mz_cons (mz_getfield (C := RX1) (T := TX1) (N := 4) rfl mz_inX1 (by decide) mw_304 (show decode cX1_listWays 32 = .ok (.getfield 18, 3) by decide +kernel)) (
  mz_cons (mz_iload_n (k := 1) (show decode cX1_listWays 35 = .ok (.iload_n 1, 1) by decide +kernel)) (
  mz_cons (mz_invV (n := 1) (ctr_X6_beside E) rfl ⟨by decide, by decide, by decide +kernel⟩ ⟨by decide, by decide⟩ mw_543 mw_878 mw_541 mw_542 mw_65 (show decode cX1_listWays 36 = .ok (.invokevirtual 49, 3) by decide +kernel)) (
  mz_cons (mz_iload_n (k := 2) (show decode cX1_listWays 39 = .ok (.iload_n 2, 1) by decide +kernel)) (
  mz_cons (mz_invSN (n := 2) (host := "WettedNet") (ctr_X11_has E) ⟨by decide, by decide, by decide +kernel⟩ ⟨by decide, by decide⟩ mw_604 (by decide +kernel) mw_603 mw_61 (show decode cX1_listWays 40 = .ok (.invokestatic 53, 3) by decide +kernel)) (
  mz_cons (mz_if_eq 85 (by decide) (show decode cX1_listWays 43 = .ok (.ifCond .eq 42, 3) by decide +kernel)) (
  mz_cons (mz_iinc 1 (by decide) (by decide) (show decode cX1_listWays 85 = .ok (.iinc 2 1, 3) by decide +kernel)) (
  mz_cons (mz_goto 20 (by decide) (show decode cX1_listWays 88 = .ok (.goto (-68), 3) by decide +kernel)) (
  mz_cons (mz_iinc 1 (by decide) (by decide) (show decode cX1_listWays 91 = .ok (.iinc 1 1, 3) by decide +kernel)) (
  mz_cons (mz_goto 7 (by decide) (show decode cX1_listWays 94 = .ok (.goto (-87), 3) by decide +kernel)) (
  mz_consR (mz_return rfl (show decode cX1_listWays 97 = .ok (.return_, 1) by decide +kernel)) (
  mz_nil)))))))))))))
noncomputable def tb_X1_listWays : List (Nat × List (Nat × mz_O)) := [(25, ck_X1_listWays_0), (97, ck_X1_listWays_1)]
theorem tok_X1_listWays (E : List mz_V) : mz_tok E tM_X1_listWays (tb_X1_listWays) := mz_tcons (tk_X1_listWays_0 E) (mz_tcons (tk_X1_listWays_1 E) (mz_tnil))
noncomputable def rn_X1_listWays : List mz_V → List mz_C → Option (Option mz_V × List mz_C) := mz_rn tb_X1_listWays 49 3
theorem ctr_X1_listWays (E : List mz_V) : mz_ctr E yX1_listWays tM_X1_listWays rn_X1_listWays := mz_ctr_of 49 (tok_X1_listWays E) (by decide) rfl rfl
abbrev tM_X1_openWay : mz_M := (cX1_openWay, 4, (some .int), RX1, "openWay", 1, 22)
noncomputable def ck_X1_openWay_0 : List (Nat × mz_O) := [(0, .inl (mz_push (.inl 0) 1)), (1, .inl (mz_sto mz_isI mz_p1 3 2)), (2, .inl (mz_ld mz_isI 3 3)), (3, .inl (mz_ld mz_isR 0 4)), (4, .inl (mz_gf 1 3 7)), (7, .inl (mz_j2 mz_lt 10 52)), (52, .inl (mz_push (.inl (-1)) 53)), (53, .inr (mz_rt mz_isI))]
theorem tk_X1_openWay_0 (E : List mz_V) : mz_all E tM_X1_openWay (ck_X1_openWay_0) :=
  mz_cons (mz_iconst 0 (by decide) (show decode cX1_openWay 0 = .ok (.iconst 0, 1) by decide +kernel)) (
  mz_cons (mz_istore_n (k := 3) (by decide) (show decode cX1_openWay 1 = .ok (.istore_n 3, 1) by decide +kernel)) (
  mz_cons (mz_iload_n (k := 3) (show decode cX1_openWay 2 = .ok (.iload_n 3, 1) by decide +kernel)) (
  mz_cons (mz_aload_n (k := 0) (show decode cX1_openWay 3 = .ok (.aload_n 0, 1) by decide +kernel)) (
  mz_cons (mz_getfield (C := RX1) (T := TX1) (N := 4) rfl mz_inX1 (by decide) mw_307 (show decode cX1_openWay 4 = .ok (.getfield 29, 3) by decide +kernel)) (
  mz_cons (mz_icmp_ge 52 (by decide) (show decode cX1_openWay 7 = .ok (.if_icmp .ge 45, 3) by decide +kernel)) (
  mz_cons (mz_iconst (-1) (by decide) (show decode cX1_openWay 52 = .ok (.iconst (-1), 1) by decide +kernel)) (
  mz_consR (mz_ireturn rfl (show decode cX1_openWay 53 = .ok (.ireturn, 1) by decide +kernel)) (
  mz_nil))))))))
noncomputable def tb_X1_openWay : List (Nat × List (Nat × mz_O)) := [(53, ck_X1_openWay_0)]
theorem tok_X1_openWay (E : List mz_V) : mz_tok E tM_X1_openWay (tb_X1_openWay) := mz_tcons (tk_X1_openWay_0 E) (mz_tnil)
noncomputable def rn_X1_openWay : List mz_V → List mz_C → Option (Option mz_V × List mz_C) := mz_rn tb_X1_openWay 18 4
theorem ctr_X1_openWay (E : List mz_V) : mz_ctr E yX1_openWay tM_X1_openWay rn_X1_openWay := mz_ctr_of 18 (tok_X1_openWay E) (by decide) rfl rfl
abbrev tM_X1_worth : mz_M := (cX1_worth, 3, (some .int), RX1, "worth", 3, 66)
noncomputable def ck_X1_worth_0 : List (Nat × mz_O) := [(0, .inl (mz_ld mz_isI 2 1)), (1, .inl (mz_push (.inl (-1)) 2)), (2, .inl (mz_j2 mz_eq 5 14)), (5, .inl (mz_ld mz_isR 0 6)), (6, .inl (mz_gf 1 0 9)), (9, .inl (mz_ld mz_isI 1 10)), (10, .inl (mz_call rn_X6_folkOf 2 (mz_ckV 6) 13)), (13, .inr (mz_rt mz_isI)), (14, .inl (mz_ld mz_isI 1 15)), (15, .inl (mz_ld mz_isI 2 16)), (16, .inl (mz_call rn_X11_has 2 mz_ckT 19)), (19, .inl (mz_j1 mz_eq0 26 22)), (22, .inl (mz_push (.inl 1) 23)), (23, .inl (mz_go 27)), (27, .inr (mz_rt mz_isI))]
theorem tk_X1_worth_0 (E : List mz_V) : mz_all E tM_X1_worth (ck_X1_worth_0) :=
  mz_cons (mz_iload_n (k := 2) (show decode cX1_worth 0 = .ok (.iload_n 2, 1) by decide +kernel)) (
  mz_cons (mz_iconst (-1) (by decide) (show decode cX1_worth 1 = .ok (.iconst (-1), 1) by decide +kernel)) (
  mz_cons (mz_icmp_ne 14 (by decide) (show decode cX1_worth 2 = .ok (.if_icmp .ne 12, 3) by decide +kernel)) (
  mz_cons (mz_aload_n (k := 0) (show decode cX1_worth 5 = .ok (.aload_n 0, 1) by decide +kernel)) (
  mz_cons (mz_getfield (C := RX1) (T := TX1) (N := 4) rfl mz_inX1 (by decide) mw_304 (show decode cX1_worth 6 = .ok (.getfield 18, 3) by decide +kernel)) (
  mz_cons (mz_iload_n (k := 1) (show decode cX1_worth 9 = .ok (.iload_n 1, 1) by decide +kernel)) (
  mz_cons (mz_invV (n := 1) (ctr_X6_folkOf E) rfl ⟨by decide, by decide, by decide +kernel⟩ ⟨by decide, by decide⟩ mw_608 mw_893 mw_606 mw_607 mw_65 (show decode cX1_worth 10 = .ok (.invokevirtual 67, 3) by decide +kernel)) (
  mz_consR (mz_ireturn rfl (show decode cX1_worth 13 = .ok (.ireturn, 1) by decide +kernel)) (
  mz_cons (mz_iload_n (k := 1) (show decode cX1_worth 14 = .ok (.iload_n 1, 1) by decide +kernel)) (
  mz_cons (mz_iload_n (k := 2) (show decode cX1_worth 15 = .ok (.iload_n 2, 1) by decide +kernel)) (
  mz_cons (mz_invSN (n := 2) (host := "WettedNet") (ctr_X11_has E) ⟨by decide, by decide, by decide +kernel⟩ ⟨by decide, by decide⟩ mw_604 (by decide +kernel) mw_603 mw_61 (show decode cX1_worth 16 = .ok (.invokestatic 53, 3) by decide +kernel)) (
  mz_cons (mz_if_eq 26 (by decide) (show decode cX1_worth 19 = .ok (.ifCond .eq 7, 3) by decide +kernel)) (
  mz_cons (mz_iconst 1 (by decide) (show decode cX1_worth 22 = .ok (.iconst 1, 1) by decide +kernel)) (
  mz_cons (mz_goto 27 (by decide) (show decode cX1_worth 23 = .ok (.goto 4, 3) by decide +kernel)) (
  mz_consR (mz_ireturn rfl (show decode cX1_worth 27 = .ok (.ireturn, 1) by decide +kernel)) (
  mz_nil)))))))))))))))
noncomputable def tb_X1_worth : List (Nat × List (Nat × mz_O)) := [(27, ck_X1_worth_0)]
theorem tok_X1_worth (E : List mz_V) : mz_tok E tM_X1_worth (tb_X1_worth) := mz_tcons (tk_X1_worth_0 E) (mz_tnil)
noncomputable def rn_X1_worth : List mz_V → List mz_C → Option (Option mz_V × List mz_C) := mz_rn tb_X1_worth 20 3
theorem ctr_X1_worth (E : List mz_V) : mz_ctr E yX1_worth tM_X1_worth rn_X1_worth := mz_ctr_of 20 (tok_X1_worth E) (by decide) rfl rfl
abbrev tM_X1_sumFrom_l0 : mz_M := (cX1_sumFrom, 11, (some .long), RX1, "sumFrom", 4, 88)
noncomputable def ck_X1_sumFrom_l0_0 : List (Nat × mz_O) := [(0, .inl (mz_ld mz_isL 3 1)), (1, .inl (mz_push (.inr (.inl 0)) 2)), (2, .inl (mz_o2 mz_f_lcmp 3)), (3, .inl (mz_j1 mz_eq0 6 8)), (8, .inl (mz_ld mz_isR 0 9)), (9, .inl (mz_ld mz_isI 1 10)), (10, .inl (mz_ld mz_isI 2 11)), (11, .inl (mz_call rn_X1_openWay 3 (mz_ckV 1) 14)), (14, .inl (mz_sto mz_isI mz_p1 7 16)), (16, .inl (mz_ld mz_isI 7 18)), (18, .inl (mz_push (.inl (-1)) 19)), (19, .inl (mz_j2 mz_eq 29 22)), (29, .inl (mz_ld mz_isL 3 30)), (30, .inl (mz_ld mz_isR 0 31)), (31, .inl (mz_ld mz_isI 1 32)), (32, .inl (mz_ld mz_isI 5 34))]
theorem tk_X1_sumFrom_l0_0 (E : List mz_V) : mz_all E tM_X1_sumFrom_l0 (ck_X1_sumFrom_l0_0) :=
  mz_cons (mz_lload_n (k := 3) (show decode cX1_sumFrom 0 = .ok (.lload_n 3, 1) by decide +kernel)) (
  mz_cons (mz_lconst 0 (by decide) (show decode cX1_sumFrom 1 = .ok (.lconst 0, 1) by decide +kernel)) (
  mz_cons (mz_lcmp (show decode cX1_sumFrom 2 = .ok (.lcmp, 1) by decide +kernel)) (
  mz_cons (mz_if_ne 8 (by decide) (show decode cX1_sumFrom 3 = .ok (.ifCond .ne 5, 3) by decide +kernel)) (
  mz_cons (mz_aload_n (k := 0) (show decode cX1_sumFrom 8 = .ok (.aload_n 0, 1) by decide +kernel)) (
  mz_cons (mz_iload_n (k := 1) (show decode cX1_sumFrom 9 = .ok (.iload_n 1, 1) by decide +kernel)) (
  mz_cons (mz_iload_n (k := 2) (show decode cX1_sumFrom 10 = .ok (.iload_n 2, 1) by decide +kernel)) (
  mz_cons (mz_invV (n := 2) (ctr_X1_openWay E) rfl ⟨by decide, by decide, by decide +kernel⟩ ⟨by decide, by decide⟩ mw_888 mw_885 mw_887 mw_27 mw_72 (show decode cX1_sumFrom 11 = .ok (.invokevirtual 57, 3) by decide +kernel)) (
  mz_cons (mz_istore (by decide) (show decode cX1_sumFrom 14 = .ok (.istore 7, 2) by decide +kernel)) (
  mz_cons (mz_iload (show decode cX1_sumFrom 16 = .ok (.iload 7, 2) by decide +kernel)) (
  mz_cons (mz_iconst (-1) (by decide) (show decode cX1_sumFrom 18 = .ok (.iconst (-1), 1) by decide +kernel)) (
  mz_cons (mz_icmp_eq 29 (by decide) (show decode cX1_sumFrom 19 = .ok (.if_icmp .eq 10, 3) by decide +kernel)) (
  mz_cons (mz_lload_n (k := 3) (show decode cX1_sumFrom 29 = .ok (.lload_n 3, 1) by decide +kernel)) (
  mz_cons (mz_aload_n (k := 0) (show decode cX1_sumFrom 30 = .ok (.aload_n 0, 1) by decide +kernel)) (
  mz_cons (mz_iload_n (k := 1) (show decode cX1_sumFrom 31 = .ok (.iload_n 1, 1) by decide +kernel)) (
  mz_cons (mz_iload (show decode cX1_sumFrom 32 = .ok (.iload 5, 2) by decide +kernel)) (
  mz_nil))))))))))))))))
noncomputable def ck_X1_sumFrom_l0_1 : List (Nat × mz_O) := [(34, .inl (mz_call rn_X1_worth 3 (mz_ckV 1) 37)), (37, .inl (mz_o1 mz_f_i2l 38)), (38, .inl (mz_o2 mz_f_lmul 39)), (39, .inr (mz_rt mz_isL))]
theorem tk_X1_sumFrom_l0_1 (E : List mz_V) : mz_all E tM_X1_sumFrom_l0 (ck_X1_sumFrom_l0_1) :=
  mz_cons (mz_invV (n := 2) (ctr_X1_worth E) rfl ⟨by decide, by decide, by decide +kernel⟩ ⟨by decide, by decide⟩ mw_892 mw_889 mw_891 mw_28 mw_72 (show decode cX1_sumFrom 34 = .ok (.invokevirtual 61, 3) by decide +kernel)) (
  mz_cons (mz_i2l (show decode cX1_sumFrom 37 = .ok (.i2l, 1) by decide +kernel)) (
  mz_cons (mz_lmul (show decode cX1_sumFrom 38 = .ok (.lmul, 1) by decide +kernel)) (
  mz_consR (mz_lreturn rfl (show decode cX1_sumFrom 39 = .ok (.lreturn, 1) by decide +kernel)) (
  mz_nil))))
noncomputable def tb_X1_sumFrom_l0 : List (Nat × List (Nat × mz_O)) := [(32, ck_X1_sumFrom_l0_0), (39, ck_X1_sumFrom_l0_1)]
theorem tok_X1_sumFrom_l0 (E : List mz_V) : mz_tok E tM_X1_sumFrom_l0 (tb_X1_sumFrom_l0) := mz_tcons (tk_X1_sumFrom_l0_0 E) (mz_tcons (tk_X1_sumFrom_l0_1 E) (mz_tnil))
noncomputable def rn_X1_sumFrom_l0 : List mz_V → List mz_C → Option (Option mz_V × List mz_C) := mz_rn tb_X1_sumFrom_l0 30 11
theorem ctr_X1_sumFrom_l0 (E : List mz_V) : mz_ctr E yX1_sumFrom tM_X1_sumFrom_l0 rn_X1_sumFrom_l0 := mz_ctr_of 30 (tok_X1_sumFrom_l0 E) (by decide) rfl rfl
abbrev tM_X1_partOfSum : mz_M := (cX1_partOfSum, 10, (some .long), RX1, "partOfSum", 5, 118)
noncomputable def ck_X1_partOfSum_0 : List (Nat × mz_O) := [(0, .inl (mz_ld mz_isR 0 1)), (1, .inl (mz_call rn_X1_listWays 1 (mz_ckV 1) 4)), (4, .inl (mz_push (.inr (.inl 1)) 5)), (5, .inl (mz_sto mz_isL mz_p2 4 7)), (7, .inl (mz_push (.inl 0) 8)), (8, .inl (mz_sto mz_isI mz_p1 6 10)), (10, .inl (mz_ld mz_isI 6 12)), (12, .inl (mz_ld mz_isR 0 13)), (13, .inl (mz_gf 1 3 16)), (16, .inl (mz_j2 mz_lt 19 33)), (33, .inl (mz_ld mz_isR 0 34)), (34, .inl (mz_push (.inl 1) 35)), (35, .inl (mz_ld mz_isI 1 36)), (36, .inl (mz_o2 mz_f_ishl 37)), (37, .inl (mz_push (.inl 0) 38)), (38, .inl (mz_ld mz_isL 4 40))]
theorem tk_X1_partOfSum_0 (E : List mz_V) : mz_all E tM_X1_partOfSum (ck_X1_partOfSum_0) :=
  mz_cons (mz_aload_n (k := 0) (show decode cX1_partOfSum 0 = .ok (.aload_n 0, 1) by decide +kernel)) (
  mz_cons (mz_invV (n := 0) (ctr_X1_listWays E) rfl ⟨by decide, by decide, by decide +kernel⟩ ⟨by decide, by decide⟩ mw_876 mw_873 mw_875 mw_25 mw_72 (show decode cX1_partOfSum 1 = .ok (.invokevirtual 26, 3) by decide +kernel)) (
  mz_cons (mz_lconst 1 (by decide) (show decode cX1_partOfSum 4 = .ok (.lconst 1, 1) by decide +kernel)) (
  mz_cons (mz_lstore (by decide) (show decode cX1_partOfSum 5 = .ok (.lstore 4, 2) by decide +kernel)) (
  mz_cons (mz_iconst 0 (by decide) (show decode cX1_partOfSum 7 = .ok (.iconst 0, 1) by decide +kernel)) (
  mz_cons (mz_istore (by decide) (show decode cX1_partOfSum 8 = .ok (.istore 6, 2) by decide +kernel)) (
  mz_cons (mz_iload (show decode cX1_partOfSum 10 = .ok (.iload 6, 2) by decide +kernel)) (
  mz_cons (mz_aload_n (k := 0) (show decode cX1_partOfSum 12 = .ok (.aload_n 0, 1) by decide +kernel)) (
  mz_cons (mz_getfield (C := RX1) (T := TX1) (N := 4) rfl mz_inX1 (by decide) mw_307 (show decode cX1_partOfSum 13 = .ok (.getfield 29, 3) by decide +kernel)) (
  mz_cons (mz_icmp_ge 33 (by decide) (show decode cX1_partOfSum 16 = .ok (.if_icmp .ge 17, 3) by decide +kernel)) (
  mz_cons (mz_aload_n (k := 0) (show decode cX1_partOfSum 33 = .ok (.aload_n 0, 1) by decide +kernel)) (
  mz_cons (mz_iconst 1 (by decide) (show decode cX1_partOfSum 34 = .ok (.iconst 1, 1) by decide +kernel)) (
  mz_cons (mz_iload_n (k := 1) (show decode cX1_partOfSum 35 = .ok (.iload_n 1, 1) by decide +kernel)) (
  mz_cons (mz_ishl (show decode cX1_partOfSum 36 = .ok (.ishl, 1) by decide +kernel)) (
  mz_cons (mz_iconst 0 (by decide) (show decode cX1_partOfSum 37 = .ok (.iconst 0, 1) by decide +kernel)) (
  mz_cons (mz_lload (show decode cX1_partOfSum 38 = .ok (.lload 4, 2) by decide +kernel)) (
  mz_nil))))))))))))))))
noncomputable def ck_X1_partOfSum_1 : List (Nat × mz_O) := [(40, .inl (mz_ld mz_isI 2 41)), (41, .inl (mz_push (.inl 0) 42)), (42, .inl (mz_call rn_X1_sumFrom_l0 6 (mz_ckV 1) 45)), (45, .inl (mz_sto mz_isL mz_p2 6 47)), (47, .inl (mz_ld mz_isL 4 49)), (49, .inl (mz_ld mz_isL 6 51)), (51, .inl (mz_call rn_X1_commonDivisor 2 mz_ckT 54)), (54, .inl (mz_sto mz_isL mz_p2 8 56)), (56, .inl (mz_ld mz_isL 8 58)), (58, .inl (mz_push (.inr (.inl 0)) 59)), (59, .inl (mz_o2 mz_f_lcmp 60)), (60, .inl (mz_j1 mz_eq0 63 65)), (65, .inl (mz_ld mz_isI 3 66)), (66, .inl (mz_j1 mz_eq0 69 74)), (69, .inl (mz_ld mz_isL 6 71)), (71, .inl (mz_go 76))]
theorem tk_X1_partOfSum_1 (E : List mz_V) : mz_all E tM_X1_partOfSum (ck_X1_partOfSum_1) :=
  mz_cons (mz_iload_n (k := 2) (show decode cX1_partOfSum 40 = .ok (.iload_n 2, 1) by decide +kernel)) (
  mz_cons (mz_iconst 0 (by decide) (show decode cX1_partOfSum 41 = .ok (.iconst 0, 1) by decide +kernel)) (
  mz_cons (mz_invV (n := 5) (ctr_X1_sumFrom_l0 E) rfl ⟨by decide, by decide, by decide +kernel⟩ ⟨by decide, by decide⟩ mw_884 mw_881 mw_883 mw_26 mw_72 (show decode cX1_partOfSum 42 = .ok (.invokevirtual 35, 3) by decide +kernel)) (
  mz_cons (mz_lstore (by decide) (show decode cX1_partOfSum 45 = .ok (.lstore 6, 2) by decide +kernel)) (
  mz_cons (mz_lload (show decode cX1_partOfSum 47 = .ok (.lload 4, 2) by decide +kernel)) (
  mz_cons (mz_lload (show decode cX1_partOfSum 49 = .ok (.lload 6, 2) by decide +kernel)) (
  mz_cons (mz_invS (n := 2) (ctr_X1_commonDivisor E) ⟨by decide, by decide, by decide +kernel⟩ ⟨by decide, by decide⟩ mw_900 mw_898 mw_899 mw_72 (show decode cX1_partOfSum 51 = .ok (.invokestatic 39, 3) by decide +kernel)) (
  mz_cons (mz_lstore (by decide) (show decode cX1_partOfSum 54 = .ok (.lstore 8, 2) by decide +kernel)) (
  mz_cons (mz_lload (show decode cX1_partOfSum 56 = .ok (.lload 8, 2) by decide +kernel)) (
  mz_cons (mz_lconst 0 (by decide) (show decode cX1_partOfSum 58 = .ok (.lconst 0, 1) by decide +kernel)) (
  mz_cons (mz_lcmp (show decode cX1_partOfSum 59 = .ok (.lcmp, 1) by decide +kernel)) (
  mz_cons (mz_if_ne 65 (by decide) (show decode cX1_partOfSum 60 = .ok (.ifCond .ne 5, 3) by decide +kernel)) (
  mz_cons (mz_iload_n (k := 3) (show decode cX1_partOfSum 65 = .ok (.iload_n 3, 1) by decide +kernel)) (
  mz_cons (mz_if_ne 74 (by decide) (show decode cX1_partOfSum 66 = .ok (.ifCond .ne 8, 3) by decide +kernel)) (
  mz_cons (mz_lload (show decode cX1_partOfSum 69 = .ok (.lload 6, 2) by decide +kernel)) (
  mz_cons (mz_goto 76 (by decide) (show decode cX1_partOfSum 71 = .ok (.goto 5, 3) by decide +kernel)) (
  mz_nil))))))))))))))))
noncomputable def ck_X1_partOfSum_2 : List (Nat × mz_O) := [(74, .inl (mz_ld mz_isL 4 76)), (76, .inl (mz_ld mz_isL 8 78)), (78, .inl (mz_o2 mz_f_ldiv 79)), (79, .inr (mz_rt mz_isL))]
theorem tk_X1_partOfSum_2 (E : List mz_V) : mz_all E tM_X1_partOfSum (ck_X1_partOfSum_2) :=
  mz_cons (mz_lload (show decode cX1_partOfSum 74 = .ok (.lload 4, 2) by decide +kernel)) (
  mz_cons (mz_lload (show decode cX1_partOfSum 76 = .ok (.lload 8, 2) by decide +kernel)) (
  mz_cons (mz_ldiv (show decode cX1_partOfSum 78 = .ok (.ldiv, 1) by decide +kernel)) (
  mz_consR (mz_lreturn rfl (show decode cX1_partOfSum 79 = .ok (.lreturn, 1) by decide +kernel)) (
  mz_nil))))
noncomputable def tb_X1_partOfSum : List (Nat × List (Nat × mz_O)) := [(38, ck_X1_partOfSum_0), (71, ck_X1_partOfSum_1), (79, ck_X1_partOfSum_2)]
theorem tok_X1_partOfSum (E : List mz_V) : mz_tok E tM_X1_partOfSum (tb_X1_partOfSum) := mz_tcons (tk_X1_partOfSum_0 E) (mz_tcons (tk_X1_partOfSum_1 E) (mz_tcons (tk_X1_partOfSum_2 E) (mz_tnil)))
noncomputable def rn_X1_partOfSum : List mz_V → List mz_C → Option (Option mz_V × List mz_C) := mz_rn tb_X1_partOfSum 45 10
theorem ctr_X1_partOfSum (E : List mz_V) : mz_ctr E yX1_partOfSum tM_X1_partOfSum rn_X1_partOfSum := mz_ctr_of 45 (tok_X1_partOfSum E) (by decide) rfl rfl
abbrev tM_X1_reach : mz_M := (cX1_reach, 4, (some .long), RX1, "reach", 6, 147)
noncomputable def ck_X1_reach_0 : List (Nat × mz_O) := [(0, .inl (mz_ld mz_isR 0 1)), (1, .inl (mz_ld mz_isI 1 2)), (2, .inl (mz_ld mz_isI 2 3)), (3, .inl (mz_ld mz_isI 3 4)), (4, .inl (mz_call rn_X1_partOfSum 4 (mz_ckV 1) 7)), (7, .inr (mz_rt mz_isL))]
theorem tk_X1_reach_0 (E : List mz_V) : mz_all E tM_X1_reach (ck_X1_reach_0) :=
  mz_cons (mz_aload_n (k := 0) (show decode cX1_reach 0 = .ok (.aload_n 0, 1) by decide +kernel)) (
  mz_cons (mz_iload_n (k := 1) (show decode cX1_reach 1 = .ok (.iload_n 1, 1) by decide +kernel)) (
  mz_cons (mz_iload_n (k := 2) (show decode cX1_reach 2 = .ok (.iload_n 2, 1) by decide +kernel)) (
  mz_cons (mz_iload_n (k := 3) (show decode cX1_reach 3 = .ok (.iload_n 3, 1) by decide +kernel)) (
  mz_cons (mz_invV (n := 3) (ctr_X1_partOfSum E) rfl ⟨by decide, by decide, by decide +kernel⟩ ⟨by decide, by decide⟩ mw_872 mw_869 mw_871 mw_24 mw_72 (show decode cX1_reach 4 = .ok (.invokevirtual 22, 3) by decide +kernel)) (
  mz_consR (mz_lreturn rfl (show decode cX1_reach 7 = .ok (.lreturn, 1) by decide +kernel)) (
  mz_nil))))))
noncomputable def tb_X1_reach : List (Nat × List (Nat × mz_O)) := [(7, ck_X1_reach_0)]
theorem tok_X1_reach (E : List mz_V) : mz_tok E tM_X1_reach (tb_X1_reach) := mz_tcons (tk_X1_reach_0 E) (mz_tnil)
noncomputable def rn_X1_reach : List mz_V → List mz_C → Option (Option mz_V × List mz_C) := mz_rn tb_X1_reach 16 4
theorem ctr_X1_reach (E : List mz_V) : mz_ctr E yX1_reach tM_X1_reach rn_X1_reach := mz_ctr_of 16 (tok_X1_reach E) (by decide) rfl rfl
abbrev tM_X6_isRoom : mz_M := (cX6_isRoom, 2, (some .boolean), RX6, "isRoom", 1, 22)
noncomputable def ck_X6_isRoom_0 : List (Nat × mz_O) := [(0, .inl (mz_ld mz_isI 1 1)), (1, .inl (mz_j1 mz_lt0 16 4)), (4, .inl (mz_ld mz_isI 1 5)), (5, .inl (mz_ld mz_isR 0 6)), (6, .inl (mz_gf 6 4 9)), (9, .inl (mz_j2 mz_lt 12 16)), (12, .inl (mz_push (.inl 1) 13)), (13, .inl (mz_go 17)), (16, .inl (mz_push (.inl 0) 17)), (17, .inr (mz_rt mz_is01))]
theorem tk_X6_isRoom_0 (E : List mz_V) : mz_all E tM_X6_isRoom (ck_X6_isRoom_0) :=
  mz_cons (mz_iload_n (k := 1) (show decode cX6_isRoom 0 = .ok (.iload_n 1, 1) by decide +kernel)) (
  mz_cons (mz_if_lt 16 (by decide) (show decode cX6_isRoom 1 = .ok (.ifCond .lt 15, 3) by decide +kernel)) (
  mz_cons (mz_iload_n (k := 1) (show decode cX6_isRoom 4 = .ok (.iload_n 1, 1) by decide +kernel)) (
  mz_cons (mz_aload_n (k := 0) (show decode cX6_isRoom 5 = .ok (.aload_n 0, 1) by decide +kernel)) (
  mz_cons (mz_getfield (C := RX6) (T := TX6) (N := 7) rfl mz_inX6 (by decide) mw_145 (show decode cX6_isRoom 6 = .ok (.getfield 35, 3) by decide +kernel)) (
  mz_cons (mz_icmp_ge 16 (by decide) (show decode cX6_isRoom 9 = .ok (.if_icmp .ge 7, 3) by decide +kernel)) (
  mz_cons (mz_iconst 1 (by decide) (show decode cX6_isRoom 12 = .ok (.iconst 1, 1) by decide +kernel)) (
  mz_cons (mz_goto 17 (by decide) (show decode cX6_isRoom 13 = .ok (.goto 4, 3) by decide +kernel)) (
  mz_cons (mz_iconst 0 (by decide) (show decode cX6_isRoom 16 = .ok (.iconst 0, 1) by decide +kernel)) (
  mz_consR (mz_zreturn rfl (show decode cX6_isRoom 17 = .ok (.ireturn, 1) by decide +kernel)) (
  mz_nil))))))))))
noncomputable def tb_X6_isRoom : List (Nat × List (Nat × mz_O)) := [(17, ck_X6_isRoom_0)]
theorem tok_X6_isRoom (E : List mz_V) : mz_tok E tM_X6_isRoom (tb_X6_isRoom) := mz_tcons (tk_X6_isRoom_0 E) (mz_tnil)
noncomputable def rn_X6_isRoom : List mz_V → List mz_C → Option (Option mz_V × List mz_C) := mz_rn tb_X6_isRoom 19 2
theorem ctr_X6_isRoom (E : List mz_V) : mz_ctr E yX6_isRoom tM_X6_isRoom rn_X6_isRoom := mz_ctr_of 19 (tok_X6_isRoom E) (by decide) rfl rfl
abbrev tM_X6_ways : mz_M := (cX6_ways, 3, (some .int), RX6, "ways", 2, 42)
noncomputable def ck_X6_ways_0 : List (Nat × mz_O) := [(0, .inl (mz_push (.inl 0) 1)), (1, .inl (mz_sto mz_isI mz_p1 1 2)), (2, .inl (mz_push (.inl 0) 3)), (3, .inl (mz_sto mz_isI mz_p1 2 4)), (4, .inl (mz_ld mz_isI 2 5)), (5, .inl (mz_ld mz_isR 0 6)), (6, .inl (mz_gf 6 4 9)), (9, .inl (mz_j2 mz_lt 12 30)), (12, .inl (mz_ld mz_isI 1 13)), (13, .inl (mz_ld mz_isR 0 14)), (14, .inl (mz_gf 6 0 17)), (17, .inl (mz_ld mz_isI 2 18)), (18, .inl (mz_al false 19)), (19, .inl (mz_call rn_J6_bitCount_0f7a4 1 mz_ckT 22)), (22, .inl (mz_o2 mz_f_iadd 23)), (23, .inl (mz_sto mz_isI mz_p1 1 24))]
theorem tk_X6_ways_0 (E : List mz_V) : mz_all E tM_X6_ways (ck_X6_ways_0) :=
  mz_cons (mz_iconst 0 (by decide) (show decode cX6_ways 0 = .ok (.iconst 0, 1) by decide +kernel)) (
  mz_cons (mz_istore_n (k := 1) (by decide) (show decode cX6_ways 1 = .ok (.istore_n 1, 1) by decide +kernel)) (
  mz_cons (mz_iconst 0 (by decide) (show decode cX6_ways 2 = .ok (.iconst 0, 1) by decide +kernel)) (
  mz_cons (mz_istore_n (k := 2) (by decide) (show decode cX6_ways 3 = .ok (.istore_n 2, 1) by decide +kernel)) (
  mz_cons (mz_iload_n (k := 2) (show decode cX6_ways 4 = .ok (.iload_n 2, 1) by decide +kernel)) (
  mz_cons (mz_aload_n (k := 0) (show decode cX6_ways 5 = .ok (.aload_n 0, 1) by decide +kernel)) (
  mz_cons (mz_getfield (C := RX6) (T := TX6) (N := 7) rfl mz_inX6 (by decide) mw_145 (show decode cX6_ways 6 = .ok (.getfield 35, 3) by decide +kernel)) (
  mz_cons (mz_icmp_ge 30 (by decide) (show decode cX6_ways 9 = .ok (.if_icmp .ge 21, 3) by decide +kernel)) (
  mz_cons (mz_iload_n (k := 1) (show decode cX6_ways 12 = .ok (.iload_n 1, 1) by decide +kernel)) (
  mz_cons (mz_aload_n (k := 0) (show decode cX6_ways 13 = .ok (.aload_n 0, 1) by decide +kernel)) (
  mz_cons (mz_getfield (C := RX6) (T := TX6) (N := 7) rfl mz_inX6 (by decide) mw_141 (show decode cX6_ways 14 = .ok (.getfield 9, 3) by decide +kernel)) (
  mz_cons (mz_iload_n (k := 2) (show decode cX6_ways 17 = .ok (.iload_n 2, 1) by decide +kernel)) (
  mz_cons (mz_iaload (show decode cX6_ways 18 = .ok (.iaload, 1) by decide +kernel)) (
  mz_cons (mz_invS (n := 1) (ctr_J6_bitCount_0f7a4 E) ⟨by decide, by decide, by decide +kernel⟩ ⟨by decide, by decide⟩ mw_109 mw_863 mw_108 mw_64 (show decode cX6_ways 19 = .ok (.invokestatic 50, 3) by decide +kernel)) (
  mz_cons (mz_iadd (show decode cX6_ways 22 = .ok (.iadd, 1) by decide +kernel)) (
  mz_cons (mz_istore_n (k := 1) (by decide) (show decode cX6_ways 23 = .ok (.istore_n 1, 1) by decide +kernel)) (
  mz_nil))))))))))))))))
noncomputable def ck_X6_ways_1 : List (Nat × mz_O) := [(24, .inl (mz_inc 2 1 27)), (27, .inl (mz_go 4)), (30, .inl (mz_ld mz_isI 1 31)), (31, .inr (mz_rt mz_isI))]
theorem tk_X6_ways_1 (E : List mz_V) : mz_all E tM_X6_ways (ck_X6_ways_1) :=
  mz_cons (mz_iinc 1 (by decide) (by decide) (show decode cX6_ways 24 = .ok (.iinc 2 1, 3) by decide +kernel)) (
  mz_cons (mz_goto 4 (by decide) (show decode cX6_ways 27 = .ok (.goto (-23), 3) by decide +kernel)) (
  mz_cons (mz_iload_n (k := 1) (show decode cX6_ways 30 = .ok (.iload_n 1, 1) by decide +kernel)) (
  mz_consR (mz_ireturn rfl (show decode cX6_ways 31 = .ok (.ireturn, 1) by decide +kernel)) (
  mz_nil))))
noncomputable def tb_X6_ways : List (Nat × List (Nat × mz_O)) := [(23, ck_X6_ways_0), (31, ck_X6_ways_1)]
theorem tok_X6_ways (E : List mz_V) : mz_tok E tM_X6_ways (tb_X6_ways) := mz_tcons (tk_X6_ways_0 E) (mz_tcons (tk_X6_ways_1 E) (mz_tnil))
noncomputable def rn_X6_ways : List mz_V → List mz_C → Option (Option mz_V × List mz_C) := mz_rn tb_X6_ways 34 3
theorem ctr_X6_ways (E : List mz_V) : mz_ctr E yX6_ways tM_X6_ways rn_X6_ways := mz_ctr_of 34 (tok_X6_ways E) (by decide) rfl rfl
abbrev tM_X11_carried : mz_M := (cX11_carried, 4, (some .long), RX11, "carried", 7, 170)
noncomputable def ck_X11_carried_0 : List (Nat × mz_O) := [(0, .inl (mz_ld mz_isR 0 1)), (1, .inl (mz_gf 11 0 4)), (4, .inl (mz_ld mz_isI 1 5)), (5, .inl (mz_call rn_X6_isRoom 2 (mz_ckV 6) 8)), (8, .inl (mz_j1 mz_eq0 22 11)), (11, .inl (mz_ld mz_isR 0 12)), (12, .inl (mz_gf 11 0 15)), (15, .inl (mz_ld mz_isI 2 16)), (16, .inl (mz_call rn_X6_isRoom 2 (mz_ckV 6) 19)), (19, .inl (mz_j1 mz_eq0 22 26)), (22, .inl (mz_push (.inr (.inl (-2))) 25)), (25, .inr (mz_rt mz_isL)), (26, .inl (mz_ld mz_isI 3 27)), (27, .inl (mz_push (.inl 0) 28)), (28, .inl (mz_push (.inl 1) 29)), (29, .inl (mz_call rn_X11_within 3 mz_ckT 32))]
theorem tk_X11_carried_0 (E : List mz_V) : mz_all E tM_X11_carried (ck_X11_carried_0) :=
  mz_cons (mz_aload_n (k := 0) (show decode cX11_carried 0 = .ok (.aload_n 0, 1) by decide +kernel)) (
  mz_cons (mz_getfield (C := RX11) (T := TX11) (N := 9) rfl mz_inX11 (by decide) mw_330 (show decode cX11_carried 1 = .ok (.getfield 18, 3) by decide +kernel)) (
  mz_cons (mz_iload_n (k := 1) (show decode cX11_carried 4 = .ok (.iload_n 1, 1) by decide +kernel)) (
  mz_cons (mz_invV (n := 1) (ctr_X6_isRoom E) rfl ⟨by decide, by decide, by decide +kernel⟩ ⟨by decide, by decide⟩ mw_522 mw_539 mw_520 mw_521 mw_65 (show decode cX11_carried 5 = .ok (.invokevirtual 129, 3) by decide +kernel)) (
  mz_cons (mz_if_eq 22 (by decide) (show decode cX11_carried 8 = .ok (.ifCond .eq 14, 3) by decide +kernel)) (
  mz_cons (mz_aload_n (k := 0) (show decode cX11_carried 11 = .ok (.aload_n 0, 1) by decide +kernel)) (
  mz_cons (mz_getfield (C := RX11) (T := TX11) (N := 9) rfl mz_inX11 (by decide) mw_330 (show decode cX11_carried 12 = .ok (.getfield 18, 3) by decide +kernel)) (
  mz_cons (mz_iload_n (k := 2) (show decode cX11_carried 15 = .ok (.iload_n 2, 1) by decide +kernel)) (
  mz_cons (mz_invV (n := 1) (ctr_X6_isRoom E) rfl ⟨by decide, by decide, by decide +kernel⟩ ⟨by decide, by decide⟩ mw_522 mw_539 mw_520 mw_521 mw_65 (show decode cX11_carried 16 = .ok (.invokevirtual 129, 3) by decide +kernel)) (
  mz_cons (mz_if_ne 26 (by decide) (show decode cX11_carried 19 = .ok (.ifCond .ne 7, 3) by decide +kernel)) (
  mz_cons (mz_ldc2 mw_857 (show decode cX11_carried 22 = .ok (.ldc2_w 229, 3) by decide +kernel)) (
  mz_consR (mz_lreturn rfl (show decode cX11_carried 25 = .ok (.lreturn, 1) by decide +kernel)) (
  mz_cons (mz_iload_n (k := 3) (show decode cX11_carried 26 = .ok (.iload_n 3, 1) by decide +kernel)) (
  mz_cons (mz_iconst 0 (by decide) (show decode cX11_carried 27 = .ok (.iconst 0, 1) by decide +kernel)) (
  mz_cons (mz_iconst 1 (by decide) (show decode cX11_carried 28 = .ok (.iconst 1, 1) by decide +kernel)) (
  mz_cons (mz_invS (n := 3) (ctr_X11_within E) ⟨by decide, by decide, by decide +kernel⟩ ⟨by decide, by decide⟩ mw_140 mw_362 mw_139 mw_61 (show decode cX11_carried 29 = .ok (.invokestatic 88, 3) by decide +kernel)) (
  mz_nil))))))))))))))))
noncomputable def ck_X11_carried_1 : List (Nat × mz_O) := [(32, .inl (mz_j1 mz_eq0 35 39)), (35, .inl (mz_push (.inr (.inl (-3))) 38)), (38, .inr (mz_rt mz_isL)), (39, .inl (mz_ld mz_isR 0 40)), (40, .inl (mz_gf 11 0 43)), (43, .inl (mz_call rn_X6_ways 1 (mz_ckV 6) 46)), (46, .inl (mz_push (.inl 10) 48)), (48, .inl (mz_j2 mz_gt 51 57)), (57, .inl (mz_ld mz_isR 0 58)), (58, .inl (mz_gf 11 7 61)), (61, .inl (mz_ld mz_isI 1 62)), (62, .inl (mz_ld mz_isI 2 63)), (63, .inl (mz_ld mz_isI 3 64)), (64, .inl (mz_call rn_X1_reach 4 (mz_ckV 1) 67)), (67, .inr (mz_rt mz_isL))]
theorem tk_X11_carried_1 (E : List mz_V) : mz_all E tM_X11_carried (ck_X11_carried_1) :=
  mz_cons (mz_if_ne 39 (by decide) (show decode cX11_carried 32 = .ok (.ifCond .ne 7, 3) by decide +kernel)) (
  mz_cons (mz_ldc2 mw_858 (show decode cX11_carried 35 = .ok (.ldc2_w 231, 3) by decide +kernel)) (
  mz_consR (mz_lreturn rfl (show decode cX11_carried 38 = .ok (.lreturn, 1) by decide +kernel)) (
  mz_cons (mz_aload_n (k := 0) (show decode cX11_carried 39 = .ok (.aload_n 0, 1) by decide +kernel)) (
  mz_cons (mz_getfield (C := RX11) (T := TX11) (N := 9) rfl mz_inX11 (by decide) mw_330 (show decode cX11_carried 40 = .ok (.getfield 18, 3) by decide +kernel)) (
  mz_cons (mz_invV (n := 0) (ctr_X6_ways E) rfl ⟨by decide, by decide, by decide +kernel⟩ ⟨by decide, by decide⟩ mw_862 mw_859 mw_860 mw_861 mw_65 (show decode cX11_carried 43 = .ok (.invokevirtual 233, 3) by decide +kernel)) (
  mz_cons (mz_bipush 10 (by decide) (show decode cX11_carried 46 = .ok (.bipush 10, 2) by decide +kernel)) (
  mz_cons (mz_icmp_le 57 (by decide) (show decode cX11_carried 48 = .ok (.if_icmp .le 9, 3) by decide +kernel)) (
  mz_cons (mz_aload_n (k := 0) (show decode cX11_carried 57 = .ok (.aload_n 0, 1) by decide +kernel)) (
  mz_cons (mz_getfield (C := RX11) (T := TX11) (N := 9) rfl mz_inX11 (by decide) mw_337 (show decode cX11_carried 58 = .ok (.getfield 77, 3) by decide +kernel)) (
  mz_cons (mz_iload_n (k := 1) (show decode cX11_carried 61 = .ok (.iload_n 1, 1) by decide +kernel)) (
  mz_cons (mz_iload_n (k := 2) (show decode cX11_carried 62 = .ok (.iload_n 2, 1) by decide +kernel)) (
  mz_cons (mz_iload_n (k := 3) (show decode cX11_carried 63 = .ok (.iload_n 3, 1) by decide +kernel)) (
  mz_cons (mz_invV (n := 3) (ctr_X1_reach E) rfl ⟨by decide, by decide, by decide +kernel⟩ ⟨by decide, by decide⟩ mw_868 mw_865 mw_866 mw_867 mw_72 (show decode cX11_carried 64 = .ok (.invokevirtual 238, 3) by decide +kernel)) (
  mz_consR (mz_lreturn rfl (show decode cX11_carried 67 = .ok (.lreturn, 1) by decide +kernel)) (
  mz_nil)))))))))))))))
noncomputable def tb_X11_carried : List (Nat × List (Nat × mz_O)) := [(29, ck_X11_carried_0), (67, ck_X11_carried_1)]
theorem tok_X11_carried (E : List mz_V) : mz_tok E tM_X11_carried (tb_X11_carried) := mz_tcons (tk_X11_carried_0 E) (mz_tcons (tk_X11_carried_1 E) (mz_tnil))
noncomputable def rn_X11_carried : List mz_V → List mz_C → Option (Option mz_V × List mz_C) := mz_rn tb_X11_carried 37 4
theorem ctr_X11_carried (E : List mz_V) : mz_ctr E yX11_carried tM_X11_carried rn_X11_carried := mz_ctr_of 37 (tok_X11_carried E) (by decide) rfl rfl
abbrev tM_X0_turnOf : mz_M := (cX0_turnOf, 2, (some .int), RX0, "turnOf", 2, 43)
noncomputable def ck_X0_turnOf_0 : List (Nat × mz_O) := [(0, .inl (mz_ld mz_isR 0 1)), (1, .inl (mz_gf 0 0 4)), (4, .inl (mz_ld mz_isI 1 5)), (5, .inl (mz_call rn_X6_isRoom 2 (mz_ckV 6) 8)), (8, .inl (mz_j1 mz_eq0 20 11)), (11, .inl (mz_ld mz_isR 0 12)), (12, .inl (mz_gf 0 2 15)), (15, .inl (mz_ld mz_isI 1 16)), (16, .inl (mz_al false 17)), (17, .inl (mz_go 21)), (21, .inr (mz_rt mz_isI))]
theorem tk_X0_turnOf_0 (E : List mz_V) : mz_all E tM_X0_turnOf (ck_X0_turnOf_0) :=
  mz_cons (mz_aload_n (k := 0) (show decode cX0_turnOf 0 = .ok (.aload_n 0, 1) by decide +kernel)) (
  mz_cons (mz_getfield (C := RX0) (T := TX0) (N := 3) rfl mz_inX0 (by decide) mw_266 (show decode cX0_turnOf 1 = .ok (.getfield 15, 3) by decide +kernel)) (
  mz_cons (mz_iload_n (k := 1) (show decode cX0_turnOf 4 = .ok (.iload_n 1, 1) by decide +kernel)) (
  mz_cons (mz_invV (n := 1) (ctr_X6_isRoom E) rfl ⟨by decide, by decide, by decide +kernel⟩ ⟨by decide, by decide⟩ mw_522 mw_759 mw_520 mw_521 mw_65 (show decode cX0_turnOf 5 = .ok (.invokevirtual 31, 3) by decide +kernel)) (
  mz_cons (mz_if_eq 20 (by decide) (show decode cX0_turnOf 8 = .ok (.ifCond .eq 12, 3) by decide +kernel)) (
  mz_cons (mz_aload_n (k := 0) (show decode cX0_turnOf 11 = .ok (.aload_n 0, 1) by decide +kernel)) (
  mz_cons (mz_getfield (C := RX0) (T := TX0) (N := 3) rfl mz_inX0 (by decide) mw_268 (show decode cX0_turnOf 12 = .ok (.getfield 9, 3) by decide +kernel)) (
  mz_cons (mz_iload_n (k := 1) (show decode cX0_turnOf 15 = .ok (.iload_n 1, 1) by decide +kernel)) (
  mz_cons (mz_iaload (show decode cX0_turnOf 16 = .ok (.iaload, 1) by decide +kernel)) (
  mz_cons (mz_goto 21 (by decide) (show decode cX0_turnOf 17 = .ok (.goto 4, 3) by decide +kernel)) (
  mz_consR (mz_ireturn rfl (show decode cX0_turnOf 21 = .ok (.ireturn, 1) by decide +kernel)) (
  mz_nil)))))))))))
noncomputable def tb_X0_turnOf : List (Nat × List (Nat × mz_O)) := [(21, ck_X0_turnOf_0)]
theorem tok_X0_turnOf (E : List mz_V) : mz_tok E tM_X0_turnOf (tb_X0_turnOf) := mz_tcons (tk_X0_turnOf_0 E) (mz_tnil)
noncomputable def rn_X0_turnOf : List mz_V → List mz_C → Option (Option mz_V × List mz_C) := mz_rn tb_X0_turnOf 21 2
theorem ctr_X0_turnOf (E : List mz_V) : mz_ctr E yX0_turnOf tM_X0_turnOf rn_X0_turnOf := mz_ctr_of 21 (tok_X0_turnOf E) (by decide) rfl rfl
abbrev tM_X11_caught : mz_M := (cX11_caught, 4, (some .int), RX11, "caught", 4, 94)
noncomputable def ck_X11_caught_0 : List (Nat × mz_O) := [(0, .inl (mz_ld mz_isI 2 1)), (1, .inl (mz_push (.inl (-1)) 2)), (2, .inl (mz_j2 mz_eq 19 5)), (5, .inl (mz_ld mz_isR 0 6)), (6, .inl (mz_gf 11 0 9)), (9, .inl (mz_ld mz_isI 2 10)), (10, .inl (mz_call rn_X6_isRoom 2 (mz_ckV 6) 13)), (13, .inl (mz_j1 mz_eq0 16 19)), (16, .inl (mz_push (.inl (-2)) 18)), (18, .inr (mz_rt mz_isI)), (19, .inl (mz_ld mz_isR 0 20)), (20, .inl (mz_gf 11 0 23)), (23, .inl (mz_ld mz_isI 1 24)), (24, .inl (mz_call rn_X6_isSet 2 (mz_ckV 6) 27)), (27, .inl (mz_j1 mz_eq0 30 33)), (30, .inl (mz_push (.inl (-3)) 32))]
theorem tk_X11_caught_0 (E : List mz_V) : mz_all E tM_X11_caught (ck_X11_caught_0) :=
  mz_cons (mz_iload_n (k := 2) (show decode cX11_caught 0 = .ok (.iload_n 2, 1) by decide +kernel)) (
  mz_cons (mz_iconst (-1) (by decide) (show decode cX11_caught 1 = .ok (.iconst (-1), 1) by decide +kernel)) (
  mz_cons (mz_icmp_eq 19 (by decide) (show decode cX11_caught 2 = .ok (.if_icmp .eq 17, 3) by decide +kernel)) (
  mz_cons (mz_aload_n (k := 0) (show decode cX11_caught 5 = .ok (.aload_n 0, 1) by decide +kernel)) (
  mz_cons (mz_getfield (C := RX11) (T := TX11) (N := 9) rfl mz_inX11 (by decide) mw_330 (show decode cX11_caught 6 = .ok (.getfield 18, 3) by decide +kernel)) (
  mz_cons (mz_iload_n (k := 2) (show decode cX11_caught 9 = .ok (.iload_n 2, 1) by decide +kernel)) (
  mz_cons (mz_invV (n := 1) (ctr_X6_isRoom E) rfl ⟨by decide, by decide, by decide +kernel⟩ ⟨by decide, by decide⟩ mw_522 mw_539 mw_520 mw_521 mw_65 (show decode cX11_caught 10 = .ok (.invokevirtual 129, 3) by decide +kernel)) (
  mz_cons (mz_if_ne 19 (by decide) (show decode cX11_caught 13 = .ok (.ifCond .ne 6, 3) by decide +kernel)) (
  mz_cons (mz_bipush (-2) (by decide) (show decode cX11_caught 16 = .ok (.bipush (-2), 2) by decide +kernel)) (
  mz_consR (mz_ireturn rfl (show decode cX11_caught 18 = .ok (.ireturn, 1) by decide +kernel)) (
  mz_cons (mz_aload_n (k := 0) (show decode cX11_caught 19 = .ok (.aload_n 0, 1) by decide +kernel)) (
  mz_cons (mz_getfield (C := RX11) (T := TX11) (N := 9) rfl mz_inX11 (by decide) mw_330 (show decode cX11_caught 20 = .ok (.getfield 18, 3) by decide +kernel)) (
  mz_cons (mz_iload_n (k := 1) (show decode cX11_caught 23 = .ok (.iload_n 1, 1) by decide +kernel)) (
  mz_cons (mz_invV (n := 1) (ctr_X6_isSet E) rfl ⟨by decide, by decide, by decide +kernel⟩ ⟨by decide, by decide⟩ mw_563 mw_560 mw_561 mw_562 mw_65 (show decode cX11_caught 24 = .ok (.invokevirtual 145, 3) by decide +kernel)) (
  mz_cons (mz_if_ne 33 (by decide) (show decode cX11_caught 27 = .ok (.ifCond .ne 6, 3) by decide +kernel)) (
  mz_cons (mz_bipush (-3) (by decide) (show decode cX11_caught 30 = .ok (.bipush (-3), 2) by decide +kernel)) (
  mz_nil))))))))))))))))
noncomputable def ck_X11_caught_1 : List (Nat × mz_O) := [(32, .inr (mz_rt mz_isI)), (33, .inl (mz_ld mz_isR 0 34)), (34, .inl (mz_gf 11 5 37)), (37, .inl (mz_ld mz_isI 1 38)), (38, .inl (mz_push (.inl 0) 39)), (39, .inl (mz_push (.inl 9) 41)), (41, .inl (mz_call rn_X0_burnFrom 4 (mz_ckV 0) 44)), (44, .inl (mz_sto mz_isI mz_p1 3 45)), (45, .inl (mz_ld mz_isI 2 46)), (46, .inl (mz_push (.inl (-1)) 47)), (47, .inl (mz_j2 mz_eq 50 54)), (50, .inl (mz_ld mz_isI 3 51)), (51, .inl (mz_go 62)), (54, .inl (mz_ld mz_isR 0 55)), (55, .inl (mz_gf 11 5 58)), (58, .inl (mz_ld mz_isI 2 59))]
theorem tk_X11_caught_1 (E : List mz_V) : mz_all E tM_X11_caught (ck_X11_caught_1) :=
  mz_consR (mz_ireturn rfl (show decode cX11_caught 32 = .ok (.ireturn, 1) by decide +kernel)) (
  mz_cons (mz_aload_n (k := 0) (show decode cX11_caught 33 = .ok (.aload_n 0, 1) by decide +kernel)) (
  mz_cons (mz_getfield (C := RX11) (T := TX11) (N := 9) rfl mz_inX11 (by decide) mw_335 (show decode cX11_caught 34 = .ok (.getfield 61, 3) by decide +kernel)) (
  mz_cons (mz_iload_n (k := 1) (show decode cX11_caught 37 = .ok (.iload_n 1, 1) by decide +kernel)) (
  mz_cons (mz_iconst 0 (by decide) (show decode cX11_caught 38 = .ok (.iconst 0, 1) by decide +kernel)) (
  mz_cons (mz_bipush 9 (by decide) (show decode cX11_caught 39 = .ok (.bipush 9, 2) by decide +kernel)) (
  mz_cons (mz_invV (n := 3) (ctr_X0_burnFrom E) rfl ⟨by decide, by decide, by decide +kernel⟩ ⟨by decide, by decide⟩ mw_745 mw_742 mw_743 mw_744 mw_70 (show decode cX11_caught 41 = .ok (.invokevirtual 190, 3) by decide +kernel)) (
  mz_cons (mz_istore_n (k := 3) (by decide) (show decode cX11_caught 44 = .ok (.istore_n 3, 1) by decide +kernel)) (
  mz_cons (mz_iload_n (k := 2) (show decode cX11_caught 45 = .ok (.iload_n 2, 1) by decide +kernel)) (
  mz_cons (mz_iconst (-1) (by decide) (show decode cX11_caught 46 = .ok (.iconst (-1), 1) by decide +kernel)) (
  mz_cons (mz_icmp_ne 54 (by decide) (show decode cX11_caught 47 = .ok (.if_icmp .ne 7, 3) by decide +kernel)) (
  mz_cons (mz_iload_n (k := 3) (show decode cX11_caught 50 = .ok (.iload_n 3, 1) by decide +kernel)) (
  mz_cons (mz_goto 62 (by decide) (show decode cX11_caught 51 = .ok (.goto 11, 3) by decide +kernel)) (
  mz_cons (mz_aload_n (k := 0) (show decode cX11_caught 54 = .ok (.aload_n 0, 1) by decide +kernel)) (
  mz_cons (mz_getfield (C := RX11) (T := TX11) (N := 9) rfl mz_inX11 (by decide) mw_335 (show decode cX11_caught 55 = .ok (.getfield 61, 3) by decide +kernel)) (
  mz_cons (mz_iload_n (k := 2) (show decode cX11_caught 58 = .ok (.iload_n 2, 1) by decide +kernel)) (
  mz_nil))))))))))))))))
noncomputable def ck_X11_caught_2 : List (Nat × mz_O) := [(59, .inl (mz_call rn_X0_turnOf 2 (mz_ckV 0) 62)), (62, .inr (mz_rt mz_isI))]
theorem tk_X11_caught_2 (E : List mz_V) : mz_all E tM_X11_caught (ck_X11_caught_2) :=
  mz_cons (mz_invV (n := 1) (ctr_X0_turnOf E) rfl ⟨by decide, by decide, by decide +kernel⟩ ⟨by decide, by decide⟩ mw_758 mw_755 mw_756 mw_757 mw_70 (show decode cX11_caught 59 = .ok (.invokevirtual 193, 3) by decide +kernel)) (
  mz_consR (mz_ireturn rfl (show decode cX11_caught 62 = .ok (.ireturn, 1) by decide +kernel)) (
  mz_nil))
noncomputable def tb_X11_caught : List (Nat × List (Nat × mz_O)) := [(30, ck_X11_caught_0), (58, ck_X11_caught_1), (62, ck_X11_caught_2)]
theorem tok_X11_caught (E : List mz_V) : mz_tok E tM_X11_caught (tb_X11_caught) := mz_tcons (tk_X11_caught_0 E) (mz_tcons (tk_X11_caught_1 E) (mz_tcons (tk_X11_caught_2 E) (mz_tnil)))
noncomputable def rn_X11_caught : List mz_V → List mz_C → Option (Option mz_V × List mz_C) := mz_rn tb_X11_caught 38 4
theorem ctr_X11_caught (E : List mz_V) : mz_ctr E yX11_caught tM_X11_caught rn_X11_caught := mz_ctr_of 38 (tok_X11_caught E) (by decide) rfl rfl
abbrev tM_X6_chance : mz_M := (cX6_chance, 1, (some .int), RX6, "chance", 1, 22)
noncomputable def ck_X6_chance_0 : List (Nat × mz_O) := [(0, .inl (mz_ld mz_isR 0 1)), (1, .inl (mz_gf 6 6 4)), (4, .inr (mz_rt mz_isI))]
theorem tk_X6_chance_0 (E : List mz_V) : mz_all E tM_X6_chance (ck_X6_chance_0) :=
  mz_cons (mz_aload_n (k := 0) (show decode cX6_chance 0 = .ok (.aload_n 0, 1) by decide +kernel)) (
  mz_cons (mz_getfield (C := RX6) (T := TX6) (N := 7) rfl mz_inX6 (by decide) mw_147 (show decode cX6_chance 1 = .ok (.getfield 28, 3) by decide +kernel)) (
  mz_consR (mz_ireturn rfl (show decode cX6_chance 4 = .ok (.ireturn, 1) by decide +kernel)) (
  mz_nil)))
noncomputable def tb_X6_chance : List (Nat × List (Nat × mz_O)) := [(4, ck_X6_chance_0)]
theorem tok_X6_chance (E : List mz_V) : mz_tok E tM_X6_chance (tb_X6_chance) := mz_tcons (tk_X6_chance_0 E) (mz_tnil)
noncomputable def rn_X6_chance : List mz_V → List mz_C → Option (Option mz_V × List mz_C) := mz_rn tb_X6_chance 13 1
theorem ctr_X6_chance (E : List mz_V) : mz_ctr E yX6_chance tM_X6_chance rn_X6_chance := mz_ctr_of 13 (tok_X6_chance E) (by decide) rfl rfl
abbrev tM_X6_isEven : mz_M := (cX6_isEven, 2, (some .boolean), RX6, "isEven", 1, 22)
noncomputable def ck_X6_isEven_0 : List (Nat × mz_O) := [(0, .inl (mz_push (.inl 0) 1)), (1, .inl (mz_sto mz_isI mz_p1 1 2)), (2, .inl (mz_ld mz_isI 1 3)), (3, .inl (mz_ld mz_isR 0 4)), (4, .inl (mz_gf 6 4 7)), (7, .inl (mz_j2 mz_lt 10 33)), (10, .inl (mz_ld mz_isR 0 11)), (11, .inl (mz_gf 6 0 14)), (14, .inl (mz_ld mz_isI 1 15)), (15, .inl (mz_al false 16)), (16, .inl (mz_ld mz_isR 0 17)), (17, .inl (mz_gf 6 1 20)), (20, .inl (mz_ld mz_isI 1 21)), (21, .inl (mz_al false 22)), (22, .inl (mz_j2 mz_eq 27 25)), (27, .inl (mz_inc 1 1 30))]
theorem tk_X6_isEven_0 (E : List mz_V) : mz_all E tM_X6_isEven (ck_X6_isEven_0) :=
  mz_cons (mz_iconst 0 (by decide) (show decode cX6_isEven 0 = .ok (.iconst 0, 1) by decide +kernel)) (
  mz_cons (mz_istore_n (k := 1) (by decide) (show decode cX6_isEven 1 = .ok (.istore_n 1, 1) by decide +kernel)) (
  mz_cons (mz_iload_n (k := 1) (show decode cX6_isEven 2 = .ok (.iload_n 1, 1) by decide +kernel)) (
  mz_cons (mz_aload_n (k := 0) (show decode cX6_isEven 3 = .ok (.aload_n 0, 1) by decide +kernel)) (
  mz_cons (mz_getfield (C := RX6) (T := TX6) (N := 7) rfl mz_inX6 (by decide) mw_145 (show decode cX6_isEven 4 = .ok (.getfield 35, 3) by decide +kernel)) (
  mz_cons (mz_icmp_ge 33 (by decide) (show decode cX6_isEven 7 = .ok (.if_icmp .ge 26, 3) by decide +kernel)) (
  mz_cons (mz_aload_n (k := 0) (show decode cX6_isEven 10 = .ok (.aload_n 0, 1) by decide +kernel)) (
  mz_cons (mz_getfield (C := RX6) (T := TX6) (N := 7) rfl mz_inX6 (by decide) mw_141 (show decode cX6_isEven 11 = .ok (.getfield 9, 3) by decide +kernel)) (
  mz_cons (mz_iload_n (k := 1) (show decode cX6_isEven 14 = .ok (.iload_n 1, 1) by decide +kernel)) (
  mz_cons (mz_iaload (show decode cX6_isEven 15 = .ok (.iaload, 1) by decide +kernel)) (
  mz_cons (mz_aload_n (k := 0) (show decode cX6_isEven 16 = .ok (.aload_n 0, 1) by decide +kernel)) (
  mz_cons (mz_getfield (C := RX6) (T := TX6) (N := 7) rfl mz_inX6 (by decide) mw_142 (show decode cX6_isEven 17 = .ok (.getfield 15, 3) by decide +kernel)) (
  mz_cons (mz_iload_n (k := 1) (show decode cX6_isEven 20 = .ok (.iload_n 1, 1) by decide +kernel)) (
  mz_cons (mz_iaload (show decode cX6_isEven 21 = .ok (.iaload, 1) by decide +kernel)) (
  mz_cons (mz_icmp_eq 27 (by decide) (show decode cX6_isEven 22 = .ok (.if_icmp .eq 5, 3) by decide +kernel)) (
  mz_cons (mz_iinc 1 (by decide) (by decide) (show decode cX6_isEven 27 = .ok (.iinc 1 1, 3) by decide +kernel)) (
  mz_nil))))))))))))))))
noncomputable def ck_X6_isEven_1 : List (Nat × mz_O) := [(30, .inl (mz_go 2)), (33, .inl (mz_push (.inl 1) 34)), (34, .inr (mz_rt mz_is01))]
theorem tk_X6_isEven_1 (E : List mz_V) : mz_all E tM_X6_isEven (ck_X6_isEven_1) :=
  mz_cons (mz_goto 2 (by decide) (show decode cX6_isEven 30 = .ok (.goto (-28), 3) by decide +kernel)) (
  mz_cons (mz_iconst 1 (by decide) (show decode cX6_isEven 33 = .ok (.iconst 1, 1) by decide +kernel)) (
  mz_consR (mz_zreturn rfl (show decode cX6_isEven 34 = .ok (.ireturn, 1) by decide +kernel)) (
  mz_nil)))
noncomputable def tb_X6_isEven : List (Nat × List (Nat × mz_O)) := [(27, ck_X6_isEven_0), (34, ck_X6_isEven_1)]
theorem tok_X6_isEven (E : List mz_V) : mz_tok E tM_X6_isEven (tb_X6_isEven) := mz_tcons (tk_X6_isEven_0 E) (mz_tcons (tk_X6_isEven_1 E) (mz_tnil))
noncomputable def rn_X6_isEven : List mz_V → List mz_C → Option (Option mz_V × List mz_C) := mz_rn tb_X6_isEven 33 2
theorem ctr_X6_isEven (E : List mz_V) : mz_ctr E yX6_isEven tM_X6_isEven rn_X6_isEven := mz_ctr_of 33 (tok_X6_isEven E) (by decide) rfl rfl
abbrev tM_X7_size : mz_M := (cX7_size, 1, (some .int), RX7, "size", 1, 22)
noncomputable def ck_X7_size_0 : List (Nat × mz_O) := [(0, .inl (mz_ld mz_isR 0 1)), (1, .inl (mz_gf 7 4 4)), (4, .inr (mz_rt mz_isI))]
theorem tk_X7_size_0 (E : List mz_V) : mz_all E tM_X7_size (ck_X7_size_0) :=
  mz_cons (mz_aload_n (k := 0) (show decode cX7_size 0 = .ok (.aload_n 0, 1) by decide +kernel)) (
  mz_cons (mz_getfield (C := RX7) (T := TX7) (N := 8) rfl mz_inX7 (by decide) mw_173 (show decode cX7_size 1 = .ok (.getfield 24, 3) by decide +kernel)) (
  mz_consR (mz_ireturn rfl (show decode cX7_size 4 = .ok (.ireturn, 1) by decide +kernel)) (
  mz_nil)))
noncomputable def tb_X7_size : List (Nat × List (Nat × mz_O)) := [(4, ck_X7_size_0)]
theorem tok_X7_size (E : List mz_V) : mz_tok E tM_X7_size (tb_X7_size) := mz_tcons (tk_X7_size_0 E) (mz_tnil)
noncomputable def rn_X7_size : List mz_V → List mz_C → Option (Option mz_V × List mz_C) := mz_rn tb_X7_size 13 1
theorem ctr_X7_size (E : List mz_V) : mz_ctr E yX7_size tM_X7_size rn_X7_size := mz_ctr_of 13 (tok_X7_size E) (by decide) rfl rfl
