abbrev tM_X3_leastForcerSets : mz_M := (cX3_leastForcerSets, 5, (some .int), RX3, "leastForcerSets", 6, 135)
noncomputable def ck_X3_leastForcerSets_0 : List (Nat × mz_O) := [(0, .inl (mz_ld mz_isR 0 1)), (1, .inl (mz_call rn_X3_leastForcers 1 (mz_ckV 3) 4)), (4, .inl (mz_call rn_J6_bitCount_0f7a4 1 mz_ckT 7)), (7, .inl (mz_sto mz_isI mz_p1 1 8)), (8, .inl (mz_push (.inl 0) 9)), (9, .inl (mz_sto mz_isI mz_p1 2 10)), (10, .inl (mz_ld mz_isR 0 11)), (11, .inl (mz_gf 3 1 14)), (14, .inl (mz_ld mz_isI 1 15)), (15, .inl (mz_push (.inl 1) 16)), (16, .inl (mz_o2 mz_f_iadd 17)), (17, .inl (mz_call rn_X8_startOf 2 (mz_ckV 8) 20)), (20, .inl (mz_sto mz_isI mz_p1 3 21)), (21, .inl (mz_ld mz_isR 0 22)), (22, .inl (mz_gf 3 1 25)), (25, .inl (mz_ld mz_isI 1 26))]
theorem tk_X3_leastForcerSets_0 (E : List mz_V) : mz_all E tM_X3_leastForcerSets (ck_X3_leastForcerSets_0) :=
  mz_cons (mz_aload_n (k := 0) (show decode cX3_leastForcerSets 0 = .ok (.aload_n 0, 1) by decide +kernel)) (
  mz_cons (mz_invV (n := 0) (ctr_X3_leastForcers E) rfl ⟨by decide, by decide, by decide +kernel⟩ ⟨by decide, by decide⟩ mw_828 mw_841 mw_826 mw_827 mw_71 (show decode cX3_leastForcerSets 1 = .ok (.invokevirtual 57, 3) by decide +kernel)) (
  mz_cons (mz_invS (n := 1) (ctr_J6_bitCount_0f7a4 E) ⟨by decide, by decide, by decide +kernel⟩ ⟨by decide, by decide⟩ mw_109 mw_807 mw_108 mw_64 (show decode cX3_leastForcerSets 4 = .ok (.invokestatic 60, 3) by decide +kernel)) (
  mz_cons (mz_istore_n (k := 1) (by decide) (show decode cX3_leastForcerSets 7 = .ok (.istore_n 1, 1) by decide +kernel)) (
  mz_cons (mz_iconst 0 (by decide) (show decode cX3_leastForcerSets 8 = .ok (.iconst 0, 1) by decide +kernel)) (
  mz_cons (mz_istore_n (k := 2) (by decide) (show decode cX3_leastForcerSets 9 = .ok (.istore_n 2, 1) by decide +kernel)) (
  mz_cons (mz_aload_n (k := 0) (show decode cX3_leastForcerSets 10 = .ok (.aload_n 0, 1) by decide +kernel)) (
  mz_cons (mz_getfield (C := RX3) (T := TX3) (N := 5) rfl mz_inX3 (by decide) mw_283 (show decode cX3_leastForcerSets 11 = .ok (.getfield 22, 3) by decide +kernel)) (
  mz_cons (mz_iload_n (k := 1) (show decode cX3_leastForcerSets 14 = .ok (.iload_n 1, 1) by decide +kernel)) (
  mz_cons (mz_iconst 1 (by decide) (show decode cX3_leastForcerSets 15 = .ok (.iconst 1, 1) by decide +kernel)) (
  mz_cons (mz_iadd (show decode cX3_leastForcerSets 16 = .ok (.iadd, 1) by decide +kernel)) (
  mz_cons (mz_invV (n := 1) (ctr_X8_startOf E) rfl ⟨by decide, by decide, by decide +kernel⟩ ⟨by decide, by decide⟩ mw_626 mw_842 mw_624 mw_625 mw_63 (show decode cX3_leastForcerSets 17 = .ok (.invokevirtual 65, 3) by decide +kernel)) (
  mz_cons (mz_istore_n (k := 3) (by decide) (show decode cX3_leastForcerSets 20 = .ok (.istore_n 3, 1) by decide +kernel)) (
  mz_cons (mz_aload_n (k := 0) (show decode cX3_leastForcerSets 21 = .ok (.aload_n 0, 1) by decide +kernel)) (
  mz_cons (mz_getfield (C := RX3) (T := TX3) (N := 5) rfl mz_inX3 (by decide) mw_283 (show decode cX3_leastForcerSets 22 = .ok (.getfield 22, 3) by decide +kernel)) (
  mz_cons (mz_iload_n (k := 1) (show decode cX3_leastForcerSets 25 = .ok (.iload_n 1, 1) by decide +kernel)) (
  mz_nil))))))))))))))))
noncomputable def ck_X3_leastForcerSets_1 : List (Nat × mz_O) := [(26, .inl (mz_call rn_X8_startOf 2 (mz_ckV 8) 29)), (29, .inl (mz_sto mz_isI mz_p1 4 31)), (31, .inl (mz_ld mz_isI 4 33)), (33, .inl (mz_ld mz_isI 3 34)), (34, .inl (mz_j2 mz_lt 37 62)), (37, .inl (mz_ld mz_isR 0 38)), (38, .inl (mz_ld mz_isR 0 39)), (39, .inl (mz_gf 3 1 42)), (42, .inl (mz_ld mz_isI 4 44)), (44, .inl (mz_call rn_X8_get 2 (mz_ckV 8) 47)), (47, .inl (mz_call rn_X3_forcesAll 2 (mz_ckV 3) 50)), (50, .inl (mz_j1 mz_eq0 56 53)), (53, .inl (mz_inc 2 1 56)), (56, .inl (mz_inc 4 1 59)), (59, .inl (mz_go 31)), (62, .inl (mz_ld mz_isI 2 63))]
theorem tk_X3_leastForcerSets_1 (E : List mz_V) : mz_all E tM_X3_leastForcerSets (ck_X3_leastForcerSets_1) :=
  mz_cons (mz_invV (n := 1) (ctr_X8_startOf E) rfl ⟨by decide, by decide, by decide +kernel⟩ ⟨by decide, by decide⟩ mw_626 mw_842 mw_624 mw_625 mw_63 (show decode cX3_leastForcerSets 26 = .ok (.invokevirtual 65, 3) by decide +kernel)) (
  mz_cons (mz_istore (by decide) (show decode cX3_leastForcerSets 29 = .ok (.istore 4, 2) by decide +kernel)) (
  mz_cons (mz_iload (show decode cX3_leastForcerSets 31 = .ok (.iload 4, 2) by decide +kernel)) (
  mz_cons (mz_iload_n (k := 3) (show decode cX3_leastForcerSets 33 = .ok (.iload_n 3, 1) by decide +kernel)) (
  mz_cons (mz_icmp_ge 62 (by decide) (show decode cX3_leastForcerSets 34 = .ok (.if_icmp .ge 28, 3) by decide +kernel)) (
  mz_cons (mz_aload_n (k := 0) (show decode cX3_leastForcerSets 37 = .ok (.aload_n 0, 1) by decide +kernel)) (
  mz_cons (mz_aload_n (k := 0) (show decode cX3_leastForcerSets 38 = .ok (.aload_n 0, 1) by decide +kernel)) (
  mz_cons (mz_getfield (C := RX3) (T := TX3) (N := 5) rfl mz_inX3 (by decide) mw_283 (show decode cX3_leastForcerSets 39 = .ok (.getfield 22, 3) by decide +kernel)) (
  mz_cons (mz_iload (show decode cX3_leastForcerSets 42 = .ok (.iload 4, 2) by decide +kernel)) (
  mz_cons (mz_invV (n := 1) (ctr_X8_get E) rfl ⟨by decide, by decide, by decide +kernel⟩ ⟨by decide, by decide⟩ mw_631 mw_829 mw_629 mw_630 mw_63 (show decode cX3_leastForcerSets 44 = .ok (.invokevirtual 44, 3) by decide +kernel)) (
  mz_cons (mz_invV (n := 1) (ctr_X3_forcesAll E) rfl ⟨by decide, by decide, by decide +kernel⟩ ⟨by decide, by decide⟩ mw_833 mw_830 mw_832 mw_23 mw_71 (show decode cX3_leastForcerSets 47 = .ok (.invokevirtual 50, 3) by decide +kernel)) (
  mz_cons (mz_if_eq 56 (by decide) (show decode cX3_leastForcerSets 50 = .ok (.ifCond .eq 6, 3) by decide +kernel)) (
  mz_cons (mz_iinc 1 (by decide) (by decide) (show decode cX3_leastForcerSets 53 = .ok (.iinc 2 1, 3) by decide +kernel)) (
  mz_cons (mz_iinc 1 (by decide) (by decide) (show decode cX3_leastForcerSets 56 = .ok (.iinc 4 1, 3) by decide +kernel)) (
  mz_cons (mz_goto 31 (by decide) (show decode cX3_leastForcerSets 59 = .ok (.goto (-28), 3) by decide +kernel)) (
  mz_cons (mz_iload_n (k := 2) (show decode cX3_leastForcerSets 62 = .ok (.iload_n 2, 1) by decide +kernel)) (
  mz_nil))))))))))))))))
noncomputable def ck_X3_leastForcerSets_2 : List (Nat × mz_O) := [(63, .inr (mz_rt mz_isI))]
theorem tk_X3_leastForcerSets_2 (E : List mz_V) : mz_all E tM_X3_leastForcerSets (ck_X3_leastForcerSets_2) :=
  mz_consR (mz_ireturn rfl (show decode cX3_leastForcerSets 63 = .ok (.ireturn, 1) by decide +kernel)) (
  mz_nil)
noncomputable def tb_X3_leastForcerSets : List (Nat × List (Nat × mz_O)) := [(25, ck_X3_leastForcerSets_0), (62, ck_X3_leastForcerSets_1), (63, ck_X3_leastForcerSets_2)]
theorem tok_X3_leastForcerSets (E : List mz_V) : mz_tok E tM_X3_leastForcerSets (tb_X3_leastForcerSets) := mz_tcons (tk_X3_leastForcerSets_0 E) (mz_tcons (tk_X3_leastForcerSets_1 E) (mz_tcons (tk_X3_leastForcerSets_2 E) (mz_tnil)))
noncomputable def rn_X3_leastForcerSets : List mz_V → List mz_C → Option (Option mz_V × List mz_C) := mz_rn tb_X3_leastForcerSets 142 5
theorem ctr_X3_leastForcerSets (E : List mz_V) : mz_ctr E yX3_leastForcerSets tM_X3_leastForcerSets rn_X3_leastForcerSets := mz_ctr_of 142 (tok_X3_leastForcerSets E) (by decide) rfl rfl
abbrev tM_X11_forcers : mz_M := (cX11_forcers, 2, (some .int), RX11, "forcers", 7, 159)
noncomputable def ck_X11_forcers_0 : List (Nat × mz_O) := [(0, .inl (mz_ld mz_isI 1 1)), (1, .inl (mz_ts 0 4 [36, 47, 55, 63, 78] 86)), (36, .inl (mz_ld mz_isR 0 37)), (37, .inl (mz_gf 11 6 40)), (40, .inl (mz_call rn_X3_leastForcers 1 (mz_ckV 3) 43)), (43, .inl (mz_call rn_J6_bitCount_0f7a4 1 mz_ckT 46)), (46, .inr (mz_rt mz_isI)), (47, .inl (mz_ld mz_isR 0 48)), (48, .inl (mz_gf 11 6 51)), (51, .inl (mz_call rn_X3_leastForcers 1 (mz_ckV 3) 54)), (54, .inr (mz_rt mz_isI)), (55, .inl (mz_ld mz_isR 0 56)), (56, .inl (mz_gf 11 6 59)), (59, .inl (mz_call rn_X3_leastForcerSets 1 (mz_ckV 3) 62)), (62, .inr (mz_rt mz_isI)), (63, .inl (mz_ld mz_isR 0 64))]
theorem tk_X11_forcers_0 (E : List mz_V) : mz_all E tM_X11_forcers (ck_X11_forcers_0) :=
  mz_cons (mz_iload_n (k := 1) (show decode cX11_forcers 0 = .ok (.iload_n 1, 1) by decide +kernel)) (
  mz_cons (mz_tableswitch [36, 47, 55, 63, 78] 86 (by decide) (by decide) (fun z h1 h2 => show (z - 0).toNat < 5 by omega) (show decode cX11_forcers 1 = .ok (.tableswitch 85 0 4 #[35, 46, 54, 62, 77], 35) by decide +kernel)) (
  mz_cons (mz_aload_n (k := 0) (show decode cX11_forcers 36 = .ok (.aload_n 0, 1) by decide +kernel)) (
  mz_cons (mz_getfield (C := RX11) (T := TX11) (N := 9) rfl mz_inX11 (by decide) mw_336 (show decode cX11_forcers 37 = .ok (.getfield 68, 3) by decide +kernel)) (
  mz_cons (mz_invV (n := 0) (ctr_X3_leastForcers E) rfl ⟨by decide, by decide, by decide +kernel⟩ ⟨by decide, by decide⟩ mw_828 mw_825 mw_826 mw_827 mw_71 (show decode cX11_forcers 40 = .ok (.invokevirtual 217, 3) by decide +kernel)) (
  mz_cons (mz_invS (n := 1) (ctr_J6_bitCount_0f7a4 E) ⟨by decide, by decide, by decide +kernel⟩ ⟨by decide, by decide⟩ mw_109 mw_782 mw_108 mw_64 (show decode cX11_forcers 43 = .ok (.invokestatic 201, 3) by decide +kernel)) (
  mz_consR (mz_ireturn rfl (show decode cX11_forcers 46 = .ok (.ireturn, 1) by decide +kernel)) (
  mz_cons (mz_aload_n (k := 0) (show decode cX11_forcers 47 = .ok (.aload_n 0, 1) by decide +kernel)) (
  mz_cons (mz_getfield (C := RX11) (T := TX11) (N := 9) rfl mz_inX11 (by decide) mw_336 (show decode cX11_forcers 48 = .ok (.getfield 68, 3) by decide +kernel)) (
  mz_cons (mz_invV (n := 0) (ctr_X3_leastForcers E) rfl ⟨by decide, by decide, by decide +kernel⟩ ⟨by decide, by decide⟩ mw_828 mw_825 mw_826 mw_827 mw_71 (show decode cX11_forcers 51 = .ok (.invokevirtual 217, 3) by decide +kernel)) (
  mz_consR (mz_ireturn rfl (show decode cX11_forcers 54 = .ok (.ireturn, 1) by decide +kernel)) (
  mz_cons (mz_aload_n (k := 0) (show decode cX11_forcers 55 = .ok (.aload_n 0, 1) by decide +kernel)) (
  mz_cons (mz_getfield (C := RX11) (T := TX11) (N := 9) rfl mz_inX11 (by decide) mw_336 (show decode cX11_forcers 56 = .ok (.getfield 68, 3) by decide +kernel)) (
  mz_cons (mz_invV (n := 0) (ctr_X3_leastForcerSets E) rfl ⟨by decide, by decide, by decide +kernel⟩ ⟨by decide, by decide⟩ mw_840 mw_837 mw_838 mw_839 mw_71 (show decode cX11_forcers 59 = .ok (.invokevirtual 220, 3) by decide +kernel)) (
  mz_consR (mz_ireturn rfl (show decode cX11_forcers 62 = .ok (.ireturn, 1) by decide +kernel)) (
  mz_cons (mz_aload_n (k := 0) (show decode cX11_forcers 63 = .ok (.aload_n 0, 1) by decide +kernel)) (
  mz_nil))))))))))))))))
noncomputable def ck_X11_forcers_1 : List (Nat × mz_O) := [(64, .inl (mz_gf 11 6 67)), (67, .inl (mz_ld mz_isR 0 68)), (68, .inl (mz_gf 11 6 71)), (71, .inl (mz_call rn_X3_cheapest 1 (mz_ckV 3) 74)), (74, .inl (mz_call rn_X3_costOf 2 (mz_ckV 3) 77)), (77, .inr (mz_rt mz_isI)), (78, .inl (mz_ld mz_isR 0 79)), (79, .inl (mz_gf 11 6 82)), (82, .inl (mz_call rn_X3_cheapest 1 (mz_ckV 3) 85)), (85, .inr (mz_rt mz_isI)), (86, .inl (mz_push (.inl (-3)) 88)), (88, .inr (mz_rt mz_isI))]
theorem tk_X11_forcers_1 (E : List mz_V) : mz_all E tM_X11_forcers (ck_X11_forcers_1) :=
  mz_cons (mz_getfield (C := RX11) (T := TX11) (N := 9) rfl mz_inX11 (by decide) mw_336 (show decode cX11_forcers 64 = .ok (.getfield 68, 3) by decide +kernel)) (
  mz_cons (mz_aload_n (k := 0) (show decode cX11_forcers 67 = .ok (.aload_n 0, 1) by decide +kernel)) (
  mz_cons (mz_getfield (C := RX11) (T := TX11) (N := 9) rfl mz_inX11 (by decide) mw_336 (show decode cX11_forcers 68 = .ok (.getfield 68, 3) by decide +kernel)) (
  mz_cons (mz_invV (n := 0) (ctr_X3_cheapest E) rfl ⟨by decide, by decide, by decide +kernel⟩ ⟨by decide, by decide⟩ mw_846 mw_843 mw_844 mw_845 mw_71 (show decode cX11_forcers 71 = .ok (.invokevirtual 223, 3) by decide +kernel)) (
  mz_cons (mz_invV (n := 1) (ctr_X3_costOf E) rfl ⟨by decide, by decide, by decide +kernel⟩ ⟨by decide, by decide⟩ mw_851 mw_852 mw_849 mw_850 mw_71 (show decode cX11_forcers 74 = .ok (.invokevirtual 226, 3) by decide +kernel)) (
  mz_consR (mz_ireturn rfl (show decode cX11_forcers 77 = .ok (.ireturn, 1) by decide +kernel)) (
  mz_cons (mz_aload_n (k := 0) (show decode cX11_forcers 78 = .ok (.aload_n 0, 1) by decide +kernel)) (
  mz_cons (mz_getfield (C := RX11) (T := TX11) (N := 9) rfl mz_inX11 (by decide) mw_336 (show decode cX11_forcers 79 = .ok (.getfield 68, 3) by decide +kernel)) (
  mz_cons (mz_invV (n := 0) (ctr_X3_cheapest E) rfl ⟨by decide, by decide, by decide +kernel⟩ ⟨by decide, by decide⟩ mw_846 mw_843 mw_844 mw_845 mw_71 (show decode cX11_forcers 82 = .ok (.invokevirtual 223, 3) by decide +kernel)) (
  mz_consR (mz_ireturn rfl (show decode cX11_forcers 85 = .ok (.ireturn, 1) by decide +kernel)) (
  mz_cons (mz_bipush (-3) (by decide) (show decode cX11_forcers 86 = .ok (.bipush (-3), 2) by decide +kernel)) (
  mz_consR (mz_ireturn rfl (show decode cX11_forcers 88 = .ok (.ireturn, 1) by decide +kernel)) (
  mz_nil))))))))))))
noncomputable def tb_X11_forcers : List (Nat × List (Nat × mz_O)) := [(63, ck_X11_forcers_0), (88, ck_X11_forcers_1)]
theorem tok_X11_forcers (E : List mz_V) : mz_tok E tM_X11_forcers (tb_X11_forcers) := mz_tcons (tk_X11_forcers_0 E) (mz_tcons (tk_X11_forcers_1 E) (mz_tnil))
noncomputable def rn_X11_forcers : List mz_V → List mz_C → Option (Option mz_V × List mz_C) := mz_rn tb_X11_forcers 19 2
theorem ctr_X11_forcers (E : List mz_V) : mz_ctr E yX11_forcers tM_X11_forcers rn_X11_forcers := mz_ctr_of 19 (tok_X11_forcers E) (by decide) rfl rfl
abbrev tM_X11_hold : mz_M := (cX11_hold, 4, (some .int), RX11, "hold", 6, 138)
noncomputable def ck_X11_hold_0 : List (Nat × mz_O) := [(0, .inl (mz_ld mz_isR 0 1)), (1, .inl (mz_gf 11 0 4)), (4, .inl (mz_ld mz_isI 1 5)), (5, .inl (mz_call rn_X6_isSet 2 (mz_ckV 6) 8)), (8, .inl (mz_j1 mz_eq0 22 11)), (11, .inl (mz_ld mz_isI 2 12)), (12, .inl (mz_push (.inl 0) 13)), (13, .inl (mz_push (.inl 999) 16)), (16, .inl (mz_call rn_X11_within 3 mz_ckT 19)), (19, .inl (mz_j1 mz_eq0 22 25)), (22, .inl (mz_push (.inl (-3)) 24)), (24, .inr (mz_rt mz_isI)), (25, .inl (mz_push (.inl 1) 26)), (26, .inl (mz_sto mz_isI mz_p1 3 27)), (27, .inl (mz_ld mz_isI 3 28)), (28, .inl (mz_push (.inl 9) 30))]
theorem tk_X11_hold_0 (E : List mz_V) : mz_all E tM_X11_hold (ck_X11_hold_0) :=
  mz_cons (mz_aload_n (k := 0) (show decode cX11_hold 0 = .ok (.aload_n 0, 1) by decide +kernel)) (
  mz_cons (mz_getfield (C := RX11) (T := TX11) (N := 9) rfl mz_inX11 (by decide) mw_330 (show decode cX11_hold 1 = .ok (.getfield 18, 3) by decide +kernel)) (
  mz_cons (mz_iload_n (k := 1) (show decode cX11_hold 4 = .ok (.iload_n 1, 1) by decide +kernel)) (
  mz_cons (mz_invV (n := 1) (ctr_X6_isSet E) rfl ⟨by decide, by decide, by decide +kernel⟩ ⟨by decide, by decide⟩ mw_563 mw_560 mw_561 mw_562 mw_65 (show decode cX11_hold 5 = .ok (.invokevirtual 145, 3) by decide +kernel)) (
  mz_cons (mz_if_eq 22 (by decide) (show decode cX11_hold 8 = .ok (.ifCond .eq 14, 3) by decide +kernel)) (
  mz_cons (mz_iload_n (k := 2) (show decode cX11_hold 11 = .ok (.iload_n 2, 1) by decide +kernel)) (
  mz_cons (mz_iconst 0 (by decide) (show decode cX11_hold 12 = .ok (.iconst 0, 1) by decide +kernel)) (
  mz_cons (mz_sipush 999 (by decide) (show decode cX11_hold 13 = .ok (.sipush 999, 3) by decide +kernel)) (
  mz_cons (mz_invS (n := 3) (ctr_X11_within E) ⟨by decide, by decide, by decide +kernel⟩ ⟨by decide, by decide⟩ mw_140 mw_362 mw_139 mw_61 (show decode cX11_hold 16 = .ok (.invokestatic 88, 3) by decide +kernel)) (
  mz_cons (mz_if_ne 25 (by decide) (show decode cX11_hold 19 = .ok (.ifCond .ne 6, 3) by decide +kernel)) (
  mz_cons (mz_bipush (-3) (by decide) (show decode cX11_hold 22 = .ok (.bipush (-3), 2) by decide +kernel)) (
  mz_consR (mz_ireturn rfl (show decode cX11_hold 24 = .ok (.ireturn, 1) by decide +kernel)) (
  mz_cons (mz_iconst 1 (by decide) (show decode cX11_hold 25 = .ok (.iconst 1, 1) by decide +kernel)) (
  mz_cons (mz_istore_n (k := 3) (by decide) (show decode cX11_hold 26 = .ok (.istore_n 3, 1) by decide +kernel)) (
  mz_cons (mz_iload_n (k := 3) (show decode cX11_hold 27 = .ok (.iload_n 3, 1) by decide +kernel)) (
  mz_cons (mz_bipush 9 (by decide) (show decode cX11_hold 28 = .ok (.bipush 9, 2) by decide +kernel)) (
  mz_nil))))))))))))))))
noncomputable def ck_X11_hold_1 : List (Nat × mz_O) := [(30, .inl (mz_j2 mz_gt 55 33)), (33, .inl (mz_ld mz_isR 0 34)), (34, .inl (mz_gf 11 2 37)), (37, .inl (mz_ld mz_isI 1 38)), (38, .inl (mz_push (.inl 0) 39)), (39, .inl (mz_ld mz_isI 3 40)), (40, .inl (mz_call rn_X2_leastLost 4 (mz_ckV 2) 43)), (43, .inl (mz_ld mz_isI 2 44)), (44, .inl (mz_j2 mz_gt 49 47)), (47, .inl (mz_ld mz_isI 3 48)), (48, .inr (mz_rt mz_isI)), (49, .inl (mz_inc 3 1 52)), (52, .inl (mz_go 27)), (55, .inl (mz_push (.inl (-1)) 56)), (56, .inr (mz_rt mz_isI))]
theorem tk_X11_hold_1 (E : List mz_V) : mz_all E tM_X11_hold (ck_X11_hold_1) :=
  mz_cons (mz_icmp_gt 55 (by decide) (show decode cX11_hold 30 = .ok (.if_icmp .gt 25, 3) by decide +kernel)) (
  mz_cons (mz_aload_n (k := 0) (show decode cX11_hold 33 = .ok (.aload_n 0, 1) by decide +kernel)) (
  mz_cons (mz_getfield (C := RX11) (T := TX11) (N := 9) rfl mz_inX11 (by decide) mw_332 (show decode cX11_hold 34 = .ok (.getfield 34, 3) by decide +kernel)) (
  mz_cons (mz_iload_n (k := 1) (show decode cX11_hold 37 = .ok (.iload_n 1, 1) by decide +kernel)) (
  mz_cons (mz_iconst 0 (by decide) (show decode cX11_hold 38 = .ok (.iconst 0, 1) by decide +kernel)) (
  mz_cons (mz_iload_n (k := 3) (show decode cX11_hold 39 = .ok (.iload_n 3, 1) by decide +kernel)) (
  mz_cons (mz_invV (n := 3) (ctr_X2_leastLost E) rfl ⟨by decide, by decide, by decide +kernel⟩ ⟨by decide, by decide⟩ mw_575 mw_572 mw_573 mw_574 mw_67 (show decode cX11_hold 40 = .ok (.invokevirtual 151, 3) by decide +kernel)) (
  mz_cons (mz_iload_n (k := 2) (show decode cX11_hold 43 = .ok (.iload_n 2, 1) by decide +kernel)) (
  mz_cons (mz_icmp_gt 49 (by decide) (show decode cX11_hold 44 = .ok (.if_icmp .gt 5, 3) by decide +kernel)) (
  mz_cons (mz_iload_n (k := 3) (show decode cX11_hold 47 = .ok (.iload_n 3, 1) by decide +kernel)) (
  mz_consR (mz_ireturn rfl (show decode cX11_hold 48 = .ok (.ireturn, 1) by decide +kernel)) (
  mz_cons (mz_iinc 1 (by decide) (by decide) (show decode cX11_hold 49 = .ok (.iinc 3 1, 3) by decide +kernel)) (
  mz_cons (mz_goto 27 (by decide) (show decode cX11_hold 52 = .ok (.goto (-25), 3) by decide +kernel)) (
  mz_cons (mz_iconst (-1) (by decide) (show decode cX11_hold 55 = .ok (.iconst (-1), 1) by decide +kernel)) (
  mz_consR (mz_ireturn rfl (show decode cX11_hold 56 = .ok (.ireturn, 1) by decide +kernel)) (
  mz_nil)))))))))))))))
noncomputable def tb_X11_hold : List (Nat × List (Nat × mz_O)) := [(28, ck_X11_hold_0), (56, ck_X11_hold_1)]
theorem tok_X11_hold (E : List mz_V) : mz_tok E tM_X11_hold (tb_X11_hold) := mz_tcons (tk_X11_hold_0 E) (mz_tcons (tk_X11_hold_1 E) (mz_tnil))
noncomputable def rn_X11_hold : List mz_V → List mz_C → Option (Option mz_V × List mz_C) := mz_rn tb_X11_hold 144 4
theorem ctr_X11_hold (E : List mz_V) : mz_ctr E yX11_hold tM_X11_hold rn_X11_hold := mz_ctr_of 144 (tok_X11_hold E) (by decide) rfl rfl
abbrev tM_X0_init : mz_M := (cX0_init, 3, none, RX0, "<init>", 1, 22)
noncomputable def ck_X0_init_0 : List (Nat × mz_O) := [(0, .inl (mz_ld mz_isR 0 1)), (1, .inl (mz_oi 4)), (4, .inl (mz_ld mz_isR 0 5)), (5, .inl (mz_push (.inl 9) 7)), (7, .inl (mz_na false 9)), (9, .inl (mz_pf 0 2 mz_isQ 12)), (12, .inl (mz_ld mz_isR 0 13)), (13, .inl (mz_ld mz_isR 1 14)), (14, .inl (mz_pf 0 0 mz_isQ 17)), (17, .inl (mz_ld mz_isR 0 18)), (18, .inl (mz_ld mz_isR 2 19)), (19, .inl (mz_pf 0 1 mz_isQ 22)), (22, .inr (mz_rv))]
theorem tk_X0_init_0 (E : List mz_V) : mz_all E tM_X0_init (ck_X0_init_0) :=
  mz_cons (mz_aload_n (k := 0) (show decode cX0_init 0 = .ok (.aload_n 0, 1) by decide +kernel)) (
  mz_cons (mz_objInit (by decide) (by decide) mw_265 mw_86 mw_87 (show decode cX0_init 1 = .ok (.invokespecial 3, 3) by decide +kernel)) (
  mz_cons (mz_aload_n (k := 0) (show decode cX0_init 4 = .ok (.aload_n 0, 1) by decide +kernel)) (
  mz_cons (mz_bipush 9 (by decide) (show decode cX0_init 5 = .ok (.bipush 9, 2) by decide +kernel)) (
  mz_cons (mz_newI mw_127 (show decode cX0_init 7 = .ok (.newarray .int, 2) by decide +kernel)) (
  mz_cons (mz_putfieldF (C := RX0) (T := TX0) (N := 3) rfl mz_inX0 tyX0_ok nmX0 (by decide) mz_fit_arr rfl rfl rfl mw_268 (show decode cX0_init 9 = .ok (.putfield 9, 3) by decide +kernel)) (
  mz_cons (mz_aload_n (k := 0) (show decode cX0_init 12 = .ok (.aload_n 0, 1) by decide +kernel)) (
  mz_cons (mz_aload_n (k := 1) (show decode cX0_init 13 = .ok (.aload_n 1, 1) by decide +kernel)) (
  mz_cons (mz_putfieldF (C := RX0) (T := TX0) (N := 3) rfl mz_inX0 tyX0_ok nmX0 (by decide) mz_fit_obj rfl rfl rfl mw_266 (show decode cX0_init 14 = .ok (.putfield 15, 3) by decide +kernel)) (
  mz_cons (mz_aload_n (k := 0) (show decode cX0_init 17 = .ok (.aload_n 0, 1) by decide +kernel)) (
  mz_cons (mz_aload_n (k := 2) (show decode cX0_init 18 = .ok (.aload_n 2, 1) by decide +kernel)) (
  mz_cons (mz_putfieldF (C := RX0) (T := TX0) (N := 3) rfl mz_inX0 tyX0_ok nmX0 (by decide) mz_fit_obj rfl rfl rfl mw_267 (show decode cX0_init 19 = .ok (.putfield 19, 3) by decide +kernel)) (
  mz_consR (mz_return rfl (show decode cX0_init 22 = .ok (.return_, 1) by decide +kernel)) (
  mz_nil)))))))))))))
noncomputable def tb_X0_init : List (Nat × List (Nat × mz_O)) := [(22, ck_X0_init_0)]
theorem tok_X0_init (E : List mz_V) : mz_tok E tM_X0_init (tb_X0_init) := mz_tcons (tk_X0_init_0 E) (mz_tnil)
noncomputable def rn_X0_init : List mz_V → List mz_C → Option (Option mz_V × List mz_C) := mz_rn tb_X0_init 23 3
theorem ctr_X0_init (E : List mz_V) : mz_ctr E yX0_init tM_X0_init rn_X0_init := mz_ctr_of 23 (tok_X0_init E) (by decide) rfl rfl
abbrev tM_X10_init : mz_M := (cX10_init, 3, none, RX10, "<init>", 1, 22)
noncomputable def ck_X10_init_0 : List (Nat × mz_O) := [(0, .inl (mz_ld mz_isR 0 1)), (1, .inl (mz_oi 4)), (4, .inl (mz_ld mz_isR 0 5)), (5, .inl (mz_ld mz_isR 1 6)), (6, .inl (mz_pf 10 0 mz_isQ 9)), (9, .inl (mz_ld mz_isR 0 10)), (10, .inl (mz_ld mz_isR 2 11)), (11, .inl (mz_pf 10 1 mz_isQ 14)), (14, .inr (mz_rv))]
theorem tk_X10_init_0 (E : List mz_V) : mz_all E tM_X10_init (ck_X10_init_0) :=
  mz_cons (mz_aload_n (k := 0) (show decode cX10_init 0 = .ok (.aload_n 0, 1) by decide +kernel)) (
  mz_cons (mz_objInit (by decide) (by decide) mw_322 mw_86 mw_87 (show decode cX10_init 1 = .ok (.invokespecial 3, 3) by decide +kernel)) (
  mz_cons (mz_aload_n (k := 0) (show decode cX10_init 4 = .ok (.aload_n 0, 1) by decide +kernel)) (
  mz_cons (mz_aload_n (k := 1) (show decode cX10_init 5 = .ok (.aload_n 1, 1) by decide +kernel)) (
  mz_cons (mz_putfieldF (C := RX10) (T := TX10) (N := 2) rfl mz_inX10 tyX10_ok nmX10 (by decide) mz_fit_obj rfl rfl rfl mw_323 (show decode cX10_init 6 = .ok (.putfield 9, 3) by decide +kernel)) (
  mz_cons (mz_aload_n (k := 0) (show decode cX10_init 9 = .ok (.aload_n 0, 1) by decide +kernel)) (
  mz_cons (mz_aload_n (k := 2) (show decode cX10_init 10 = .ok (.aload_n 2, 1) by decide +kernel)) (
  mz_cons (mz_putfieldF (C := RX10) (T := TX10) (N := 2) rfl mz_inX10 tyX10_ok nmX10 (by decide) mz_fit_obj rfl rfl rfl mw_324 (show decode cX10_init 11 = .ok (.putfield 15, 3) by decide +kernel)) (
  mz_consR (mz_return rfl (show decode cX10_init 14 = .ok (.return_, 1) by decide +kernel)) (
  mz_nil)))))))))
noncomputable def tb_X10_init : List (Nat × List (Nat × mz_O)) := [(14, ck_X10_init_0)]
theorem tok_X10_init (E : List mz_V) : mz_tok E tM_X10_init (tb_X10_init) := mz_tcons (tk_X10_init_0 E) (mz_tnil)
noncomputable def rn_X10_init : List mz_V → List mz_C → Option (Option mz_V × List mz_C) := mz_rn tb_X10_init 19 3
theorem ctr_X10_init (E : List mz_V) : mz_ctr E yX10_init tM_X10_init rn_X10_init := mz_ctr_of 19 (tok_X10_init E) (by decide) rfl rfl
abbrev tM_X1_init : mz_M := (cX1_init, 2, none, RX1, "<init>", 1, 22)
noncomputable def ck_X1_init_0 : List (Nat × mz_O) := [(0, .inl (mz_ld mz_isR 0 1)), (1, .inl (mz_oi 4)), (4, .inl (mz_ld mz_isR 0 5)), (5, .inl (mz_push (.inl 10) 7)), (7, .inl (mz_na false 9)), (9, .inl (mz_pf 1 1 mz_isQ 12)), (12, .inl (mz_ld mz_isR 0 13)), (13, .inl (mz_push (.inl 10) 15)), (15, .inl (mz_na false 17)), (17, .inl (mz_pf 1 2 mz_isQ 20)), (20, .inl (mz_ld mz_isR 0 21)), (21, .inl (mz_ld mz_isR 1 22)), (22, .inl (mz_pf 1 0 mz_isQ 25)), (25, .inr (mz_rv))]
theorem tk_X1_init_0 (E : List mz_V) : mz_all E tM_X1_init (ck_X1_init_0) :=
  mz_cons (mz_aload_n (k := 0) (show decode cX1_init 0 = .ok (.aload_n 0, 1) by decide +kernel)) (
  mz_cons (mz_objInit (by decide) (by decide) mw_303 mw_86 mw_87 (show decode cX1_init 1 = .ok (.invokespecial 3, 3) by decide +kernel)) (
  mz_cons (mz_aload_n (k := 0) (show decode cX1_init 4 = .ok (.aload_n 0, 1) by decide +kernel)) (
  mz_cons (mz_bipush 10 (by decide) (show decode cX1_init 5 = .ok (.bipush 10, 2) by decide +kernel)) (
  mz_cons (mz_newI mw_127 (show decode cX1_init 7 = .ok (.newarray .int, 2) by decide +kernel)) (
  mz_cons (mz_putfieldF (C := RX1) (T := TX1) (N := 4) rfl mz_inX1 tyX1_ok nmX1 (by decide) mz_fit_arr rfl rfl rfl mw_305 (show decode cX1_init 9 = .ok (.putfield 9, 3) by decide +kernel)) (
  mz_cons (mz_aload_n (k := 0) (show decode cX1_init 12 = .ok (.aload_n 0, 1) by decide +kernel)) (
  mz_cons (mz_bipush 10 (by decide) (show decode cX1_init 13 = .ok (.bipush 10, 2) by decide +kernel)) (
  mz_cons (mz_newI mw_127 (show decode cX1_init 15 = .ok (.newarray .int, 2) by decide +kernel)) (
  mz_cons (mz_putfieldF (C := RX1) (T := TX1) (N := 4) rfl mz_inX1 tyX1_ok nmX1 (by decide) mz_fit_arr rfl rfl rfl mw_306 (show decode cX1_init 17 = .ok (.putfield 15, 3) by decide +kernel)) (
  mz_cons (mz_aload_n (k := 0) (show decode cX1_init 20 = .ok (.aload_n 0, 1) by decide +kernel)) (
  mz_cons (mz_aload_n (k := 1) (show decode cX1_init 21 = .ok (.aload_n 1, 1) by decide +kernel)) (
  mz_cons (mz_putfieldF (C := RX1) (T := TX1) (N := 4) rfl mz_inX1 tyX1_ok nmX1 (by decide) mz_fit_obj rfl rfl rfl mw_304 (show decode cX1_init 22 = .ok (.putfield 18, 3) by decide +kernel)) (
  mz_consR (mz_return rfl (show decode cX1_init 25 = .ok (.return_, 1) by decide +kernel)) (
  mz_nil))))))))))))))
noncomputable def tb_X1_init : List (Nat × List (Nat × mz_O)) := [(25, ck_X1_init_0)]
theorem tok_X1_init (E : List mz_V) : mz_tok E tM_X1_init (tb_X1_init) := mz_tcons (tk_X1_init_0 E) (mz_tnil)
noncomputable def rn_X1_init : List mz_V → List mz_C → Option (Option mz_V × List mz_C) := mz_rn tb_X1_init 24 2
theorem ctr_X1_init (E : List mz_V) : mz_ctr E yX1_init tM_X1_init rn_X1_init := mz_ctr_of 24 (tok_X1_init E) (by decide) rfl rfl
abbrev tM_X2_init : mz_M := (cX2_init, 4, none, RX2, "<init>", 1, 22)
noncomputable def ck_X2_init_0 : List (Nat × mz_O) := [(0, .inl (mz_ld mz_isR 0 1)), (1, .inl (mz_oi 4)), (4, .inl (mz_ld mz_isR 0 5)), (5, .inl (mz_ld mz_isR 1 6)), (6, .inl (mz_pf 2 0 mz_isQ 9)), (9, .inl (mz_ld mz_isR 0 10)), (10, .inl (mz_ld mz_isR 2 11)), (11, .inl (mz_pf 2 1 mz_isQ 14)), (14, .inl (mz_ld mz_isR 0 15)), (15, .inl (mz_ld mz_isR 3 16)), (16, .inl (mz_pf 2 2 mz_isQ 19)), (19, .inr (mz_rv))]
theorem tk_X2_init_0 (E : List mz_V) : mz_all E tM_X2_init (ck_X2_init_0) :=
  mz_cons (mz_aload_n (k := 0) (show decode cX2_init 0 = .ok (.aload_n 0, 1) by decide +kernel)) (
  mz_cons (mz_objInit (by decide) (by decide) mw_199 mw_86 mw_87 (show decode cX2_init 1 = .ok (.invokespecial 3, 3) by decide +kernel)) (
  mz_cons (mz_aload_n (k := 0) (show decode cX2_init 4 = .ok (.aload_n 0, 1) by decide +kernel)) (
  mz_cons (mz_aload_n (k := 1) (show decode cX2_init 5 = .ok (.aload_n 1, 1) by decide +kernel)) (
  mz_cons (mz_putfieldF (C := RX2) (T := TX2) (N := 4) rfl mz_inX2 tyX2_ok nmX2 (by decide) mz_fit_obj rfl rfl rfl mw_200 (show decode cX2_init 6 = .ok (.putfield 9, 3) by decide +kernel)) (
  mz_cons (mz_aload_n (k := 0) (show decode cX2_init 9 = .ok (.aload_n 0, 1) by decide +kernel)) (
  mz_cons (mz_aload_n (k := 2) (show decode cX2_init 10 = .ok (.aload_n 2, 1) by decide +kernel)) (
  mz_cons (mz_putfieldF (C := RX2) (T := TX2) (N := 4) rfl mz_inX2 tyX2_ok nmX2 (by decide) mz_fit_obj rfl rfl rfl mw_201 (show decode cX2_init 11 = .ok (.putfield 15, 3) by decide +kernel)) (
  mz_cons (mz_aload_n (k := 0) (show decode cX2_init 14 = .ok (.aload_n 0, 1) by decide +kernel)) (
  mz_cons (mz_aload_n (k := 3) (show decode cX2_init 15 = .ok (.aload_n 3, 1) by decide +kernel)) (
  mz_cons (mz_putfieldF (C := RX2) (T := TX2) (N := 4) rfl mz_inX2 tyX2_ok nmX2 (by decide) mz_fit_obj rfl rfl rfl mw_202 (show decode cX2_init 16 = .ok (.putfield 19, 3) by decide +kernel)) (
  mz_consR (mz_return rfl (show decode cX2_init 19 = .ok (.return_, 1) by decide +kernel)) (
  mz_nil))))))))))))
noncomputable def tb_X2_init : List (Nat × List (Nat × mz_O)) := [(19, ck_X2_init_0)]
theorem tok_X2_init (E : List mz_V) : mz_tok E tM_X2_init (tb_X2_init) := mz_tcons (tk_X2_init_0 E) (mz_tnil)
noncomputable def rn_X2_init : List mz_V → List mz_C → Option (Option mz_V × List mz_C) := mz_rn tb_X2_init 22 4
theorem ctr_X2_init (E : List mz_V) : mz_ctr E yX2_init tM_X2_init rn_X2_init := mz_ctr_of 22 (tok_X2_init E) (by decide) rfl rfl
abbrev tM_X3_init : mz_M := (cX3_init, 3, none, RX3, "<init>", 1, 22)
noncomputable def ck_X3_init_0 : List (Nat × mz_O) := [(0, .inl (mz_ld mz_isR 0 1)), (1, .inl (mz_oi 4)), (4, .inl (mz_ld mz_isR 0 5)), (5, .inl (mz_push (.inl 9) 7)), (7, .inl (mz_na false 9)), (9, .inl (mz_pf 3 2 mz_isQ 12)), (12, .inl (mz_ld mz_isR 0 13)), (13, .inl (mz_push (.inl 9) 15)), (15, .inl (mz_na false 17)), (17, .inl (mz_pf 3 3 mz_isQ 20)), (20, .inl (mz_ld mz_isR 0 21)), (21, .inl (mz_ld mz_isR 1 22)), (22, .inl (mz_pf 3 0 mz_isQ 25)), (25, .inl (mz_ld mz_isR 0 26)), (26, .inl (mz_ld mz_isR 2 27)), (27, .inl (mz_pf 3 1 mz_isQ 30))]
theorem tk_X3_init_0 (E : List mz_V) : mz_all E tM_X3_init (ck_X3_init_0) :=
  mz_cons (mz_aload_n (k := 0) (show decode cX3_init 0 = .ok (.aload_n 0, 1) by decide +kernel)) (
  mz_cons (mz_objInit (by decide) (by decide) mw_281 mw_86 mw_87 (show decode cX3_init 1 = .ok (.invokespecial 3, 3) by decide +kernel)) (
  mz_cons (mz_aload_n (k := 0) (show decode cX3_init 4 = .ok (.aload_n 0, 1) by decide +kernel)) (
  mz_cons (mz_bipush 9 (by decide) (show decode cX3_init 5 = .ok (.bipush 9, 2) by decide +kernel)) (
  mz_cons (mz_newI mw_127 (show decode cX3_init 7 = .ok (.newarray .int, 2) by decide +kernel)) (
  mz_cons (mz_putfieldF (C := RX3) (T := TX3) (N := 5) rfl mz_inX3 tyX3_ok nmX3 (by decide) mz_fit_arr rfl rfl rfl mw_284 (show decode cX3_init 9 = .ok (.putfield 9, 3) by decide +kernel)) (
  mz_cons (mz_aload_n (k := 0) (show decode cX3_init 12 = .ok (.aload_n 0, 1) by decide +kernel)) (
  mz_cons (mz_bipush 9 (by decide) (show decode cX3_init 13 = .ok (.bipush 9, 2) by decide +kernel)) (
  mz_cons (mz_newI mw_127 (show decode cX3_init 15 = .ok (.newarray .int, 2) by decide +kernel)) (
  mz_cons (mz_putfieldF (C := RX3) (T := TX3) (N := 5) rfl mz_inX3 tyX3_ok nmX3 (by decide) mz_fit_arr rfl rfl rfl mw_285 (show decode cX3_init 17 = .ok (.putfield 15, 3) by decide +kernel)) (
  mz_cons (mz_aload_n (k := 0) (show decode cX3_init 20 = .ok (.aload_n 0, 1) by decide +kernel)) (
  mz_cons (mz_aload_n (k := 1) (show decode cX3_init 21 = .ok (.aload_n 1, 1) by decide +kernel)) (
  mz_cons (mz_putfieldF (C := RX3) (T := TX3) (N := 5) rfl mz_inX3 tyX3_ok nmX3 (by decide) mz_fit_obj rfl rfl rfl mw_282 (show decode cX3_init 22 = .ok (.putfield 18, 3) by decide +kernel)) (
  mz_cons (mz_aload_n (k := 0) (show decode cX3_init 25 = .ok (.aload_n 0, 1) by decide +kernel)) (
  mz_cons (mz_aload_n (k := 2) (show decode cX3_init 26 = .ok (.aload_n 2, 1) by decide +kernel)) (
  mz_cons (mz_putfieldF (C := RX3) (T := TX3) (N := 5) rfl mz_inX3 tyX3_ok nmX3 (by decide) mz_fit_obj rfl rfl rfl mw_283 (show decode cX3_init 27 = .ok (.putfield 22, 3) by decide +kernel)) (
  mz_nil))))))))))))))))
noncomputable def ck_X3_init_1 : List (Nat × mz_O) := [(30, .inr (mz_rv))]
theorem tk_X3_init_1 (E : List mz_V) : mz_all E tM_X3_init (ck_X3_init_1) :=
  mz_consR (mz_return rfl (show decode cX3_init 30 = .ok (.return_, 1) by decide +kernel)) (
  mz_nil)
noncomputable def tb_X3_init : List (Nat × List (Nat × mz_O)) := [(27, ck_X3_init_0), (30, ck_X3_init_1)]
theorem tok_X3_init (E : List mz_V) : mz_tok E tM_X3_init (tb_X3_init) := mz_tcons (tk_X3_init_0 E) (mz_tcons (tk_X3_init_1 E) (mz_tnil))
noncomputable def rn_X3_init : List mz_V → List mz_C → Option (Option mz_V × List mz_C) := mz_rn tb_X3_init 27 3
theorem ctr_X3_init (E : List mz_V) : mz_ctr E yX3_init tM_X3_init rn_X3_init := mz_ctr_of 27 (tok_X3_init E) (by decide) rfl rfl
abbrev tM_X4_init : mz_M := (cX4_init, 3, none, RX4, "<init>", 1, 22)
noncomputable def ck_X4_init_0 : List (Nat × mz_O) := [(0, .inl (mz_ld mz_isR 0 1)), (1, .inl (mz_oi 4)), (4, .inl (mz_ld mz_isR 0 5)), (5, .inl (mz_push (.inl 0) 6)), (6, .inl (mz_pf 4 2 mz_is01 9)), (9, .inl (mz_ld mz_isR 0 10)), (10, .inl (mz_push (.inl 0) 11)), (11, .inl (mz_pf 4 3 mz_is01 14)), (14, .inl (mz_ld mz_isR 0 15)), (15, .inl (mz_push (.inl 0) 16)), (16, .inl (mz_pf 4 4 mz_isI 19)), (19, .inl (mz_ld mz_isR 0 20)), (20, .inl (mz_push (.inl 0) 21)), (21, .inl (mz_pf 4 5 mz_isI 24)), (24, .inl (mz_ld mz_isR 0 25)), (25, .inl (mz_push (.inl 0) 26))]
theorem tk_X4_init_0 (E : List mz_V) : mz_all E tM_X4_init (ck_X4_init_0) :=
  mz_cons (mz_aload_n (k := 0) (show decode cX4_init 0 = .ok (.aload_n 0, 1) by decide +kernel)) (
  mz_cons (mz_objInit (by decide) (by decide) mw_218 mw_86 mw_87 (show decode cX4_init 1 = .ok (.invokespecial 1, 3) by decide +kernel)) (
  mz_cons (mz_aload_n (k := 0) (show decode cX4_init 4 = .ok (.aload_n 0, 1) by decide +kernel)) (
  mz_cons (mz_iconst 0 (by decide) (show decode cX4_init 5 = .ok (.iconst 0, 1) by decide +kernel)) (
  mz_cons (mz_putfield (C := RX4) (T := TX4) (N := 9) rfl mz_inX4 tyX4_ok nmX4 (by decide) mz_fit_bool rfl mw_221 (show decode cX4_init 6 = .ok (.putfield 7, 3) by decide +kernel)) (
  mz_cons (mz_aload_n (k := 0) (show decode cX4_init 9 = .ok (.aload_n 0, 1) by decide +kernel)) (
  mz_cons (mz_iconst 0 (by decide) (show decode cX4_init 10 = .ok (.iconst 0, 1) by decide +kernel)) (
  mz_cons (mz_putfield (C := RX4) (T := TX4) (N := 9) rfl mz_inX4 tyX4_ok nmX4 (by decide) mz_fit_bool rfl mw_222 (show decode cX4_init 11 = .ok (.putfield 13, 3) by decide +kernel)) (
  mz_cons (mz_aload_n (k := 0) (show decode cX4_init 14 = .ok (.aload_n 0, 1) by decide +kernel)) (
  mz_cons (mz_iconst 0 (by decide) (show decode cX4_init 15 = .ok (.iconst 0, 1) by decide +kernel)) (
  mz_cons (mz_putfield (C := RX4) (T := TX4) (N := 9) rfl mz_inX4 tyX4_ok nmX4 (by decide) mz_fit_int rfl mw_223 (show decode cX4_init 16 = .ok (.putfield 16, 3) by decide +kernel)) (
  mz_cons (mz_aload_n (k := 0) (show decode cX4_init 19 = .ok (.aload_n 0, 1) by decide +kernel)) (
  mz_cons (mz_iconst 0 (by decide) (show decode cX4_init 20 = .ok (.iconst 0, 1) by decide +kernel)) (
  mz_cons (mz_putfield (C := RX4) (T := TX4) (N := 9) rfl mz_inX4 tyX4_ok nmX4 (by decide) mz_fit_int rfl mw_224 (show decode cX4_init 21 = .ok (.putfield 20, 3) by decide +kernel)) (
  mz_cons (mz_aload_n (k := 0) (show decode cX4_init 24 = .ok (.aload_n 0, 1) by decide +kernel)) (
  mz_cons (mz_iconst 0 (by decide) (show decode cX4_init 25 = .ok (.iconst 0, 1) by decide +kernel)) (
  mz_nil))))))))))))))))
noncomputable def ck_X4_init_1 : List (Nat × mz_O) := [(26, .inl (mz_pf 4 6 mz_isI 29)), (29, .inl (mz_ld mz_isR 0 30)), (30, .inl (mz_push (.inl 0) 31)), (31, .inl (mz_pf 4 7 mz_isI 34)), (34, .inl (mz_ld mz_isR 0 35)), (35, .inl (mz_push (.inl 0) 36)), (36, .inl (mz_pf 4 8 mz_isI 39)), (39, .inl (mz_ld mz_isR 0 40)), (40, .inl (mz_ld mz_isR 1 41)), (41, .inl (mz_pf 4 0 mz_isQ 44)), (44, .inl (mz_ld mz_isR 0 45)), (45, .inl (mz_ld mz_isR 2 46)), (46, .inl (mz_pf 4 1 mz_isQ 49)), (49, .inr (mz_rv))]
theorem tk_X4_init_1 (E : List mz_V) : mz_all E tM_X4_init (ck_X4_init_1) :=
  mz_cons (mz_putfield (C := RX4) (T := TX4) (N := 9) rfl mz_inX4 tyX4_ok nmX4 (by decide) mz_fit_int rfl mw_225 (show decode cX4_init 26 = .ok (.putfield 23, 3) by decide +kernel)) (
  mz_cons (mz_aload_n (k := 0) (show decode cX4_init 29 = .ok (.aload_n 0, 1) by decide +kernel)) (
  mz_cons (mz_iconst 0 (by decide) (show decode cX4_init 30 = .ok (.iconst 0, 1) by decide +kernel)) (
  mz_cons (mz_putfield (C := RX4) (T := TX4) (N := 9) rfl mz_inX4 tyX4_ok nmX4 (by decide) mz_fit_int rfl mw_226 (show decode cX4_init 31 = .ok (.putfield 26, 3) by decide +kernel)) (
  mz_cons (mz_aload_n (k := 0) (show decode cX4_init 34 = .ok (.aload_n 0, 1) by decide +kernel)) (
  mz_cons (mz_iconst 0 (by decide) (show decode cX4_init 35 = .ok (.iconst 0, 1) by decide +kernel)) (
  mz_cons (mz_putfield (C := RX4) (T := TX4) (N := 9) rfl mz_inX4 tyX4_ok nmX4 (by decide) mz_fit_int rfl mw_227 (show decode cX4_init 36 = .ok (.putfield 29, 3) by decide +kernel)) (
  mz_cons (mz_aload_n (k := 0) (show decode cX4_init 39 = .ok (.aload_n 0, 1) by decide +kernel)) (
  mz_cons (mz_aload_n (k := 1) (show decode cX4_init 40 = .ok (.aload_n 1, 1) by decide +kernel)) (
  mz_cons (mz_putfieldF (C := RX4) (T := TX4) (N := 9) rfl mz_inX4 tyX4_ok nmX4 (by decide) mz_fit_obj rfl rfl rfl mw_219 (show decode cX4_init 41 = .ok (.putfield 32, 3) by decide +kernel)) (
  mz_cons (mz_aload_n (k := 0) (show decode cX4_init 44 = .ok (.aload_n 0, 1) by decide +kernel)) (
  mz_cons (mz_aload_n (k := 2) (show decode cX4_init 45 = .ok (.aload_n 2, 1) by decide +kernel)) (
  mz_cons (mz_putfieldF (C := RX4) (T := TX4) (N := 9) rfl mz_inX4 tyX4_ok nmX4 (by decide) mz_fit_obj rfl rfl rfl mw_220 (show decode cX4_init 46 = .ok (.putfield 36, 3) by decide +kernel)) (
  mz_consR (mz_return rfl (show decode cX4_init 49 = .ok (.return_, 1) by decide +kernel)) (
  mz_nil))))))))))))))
noncomputable def tb_X4_init : List (Nat × List (Nat × mz_O)) := [(25, ck_X4_init_0), (49, ck_X4_init_1)]
theorem tok_X4_init (E : List mz_V) : mz_tok E tM_X4_init (tb_X4_init) := mz_tcons (tk_X4_init_0 E) (mz_tcons (tk_X4_init_1 E) (mz_tnil))
noncomputable def rn_X4_init : List mz_V → List mz_C → Option (Option mz_V × List mz_C) := mz_rn tb_X4_init 40 3
theorem ctr_X4_init (E : List mz_V) : mz_ctr E yX4_init tM_X4_init rn_X4_init := mz_ctr_of 40 (tok_X4_init E) (by decide) rfl rfl
abbrev tM_X5_init : mz_M := (cX5_init, 1, none, RX5, "<init>", 1, 22)
noncomputable def ck_X5_init_0 : List (Nat × mz_O) := [(0, .inl (mz_ld mz_isR 0 1)), (1, .inl (mz_oi 4)), (4, .inl (mz_ld mz_isR 0 5)), (5, .inl (mz_push (.inr (.inr (.inl none))) 6)), (6, .inl (mz_pf 5 0 mz_isQ 9)), (9, .inl (mz_ld mz_isR 0 10)), (10, .inl (mz_push (.inl 0) 11)), (11, .inl (mz_pf 5 1 mz_isI 14)), (14, .inr (mz_rv))]
theorem tk_X5_init_0 (E : List mz_V) : mz_all E tM_X5_init (ck_X5_init_0) :=
  mz_cons (mz_aload_n (k := 0) (show decode cX5_init 0 = .ok (.aload_n 0, 1) by decide +kernel)) (
  mz_cons (mz_objInit (by decide) (by decide) mw_93 mw_86 mw_87 (show decode cX5_init 1 = .ok (.invokespecial 3, 3) by decide +kernel)) (
  mz_cons (mz_aload_n (k := 0) (show decode cX5_init 4 = .ok (.aload_n 0, 1) by decide +kernel)) (
  mz_cons (mz_anull (show decode cX5_init 5 = .ok (.aconst_null, 1) by decide +kernel)) (
  mz_cons (mz_putfield (C := RX5) (T := TX5) (N := 2) rfl mz_inX5 tyX5_ok nmX5 (by decide) mz_fit_arr rfl mw_94 (show decode cX5_init 6 = .ok (.putfield 9, 3) by decide +kernel)) (
  mz_cons (mz_aload_n (k := 0) (show decode cX5_init 9 = .ok (.aload_n 0, 1) by decide +kernel)) (
  mz_cons (mz_iconst 0 (by decide) (show decode cX5_init 10 = .ok (.iconst 0, 1) by decide +kernel)) (
  mz_cons (mz_putfield (C := RX5) (T := TX5) (N := 2) rfl mz_inX5 tyX5_ok nmX5 (by decide) mz_fit_int rfl mw_95 (show decode cX5_init 11 = .ok (.putfield 15, 3) by decide +kernel)) (
  mz_consR (mz_return rfl (show decode cX5_init 14 = .ok (.return_, 1) by decide +kernel)) (
  mz_nil)))))))))
noncomputable def tb_X5_init : List (Nat × List (Nat × mz_O)) := [(14, ck_X5_init_0)]
theorem tok_X5_init (E : List mz_V) : mz_tok E tM_X5_init (tb_X5_init) := mz_tcons (tk_X5_init_0 E) (mz_tnil)
noncomputable def rn_X5_init : List mz_V → List mz_C → Option (Option mz_V × List mz_C) := mz_rn tb_X5_init 19 1
theorem ctr_X5_init (E : List mz_V) : mz_ctr E yX5_init tM_X5_init rn_X5_init := mz_ctr_of 19 (tok_X5_init E) (by decide) rfl rfl
abbrev tM_X6_restart : mz_M := (cX6_restart, 3, none, RX6, "restart", 2, 44)
noncomputable def ck_X6_restart_0 : List (Nat × mz_O) := [(0, .inl (mz_ld mz_isI 1 1)), (1, .inl (mz_push (.inl 1) 2)), (2, .inl (mz_push (.inl 9) 4)), (4, .inl (mz_call rn_X11_within 3 mz_ckT 7)), (7, .inl (mz_j1 mz_eq0 10 11)), (11, .inl (mz_ld mz_isR 0 12)), (12, .inl (mz_ld mz_isI 1 13)), (13, .inl (mz_pf 6 4 mz_isI 16)), (16, .inl (mz_push (.inl 0) 17)), (17, .inl (mz_sto mz_isI mz_p1 2 18)), (18, .inl (mz_ld mz_isI 2 19)), (19, .inl (mz_push (.inl 9) 21)), (21, .inl (mz_j2 mz_lt 24 58)), (24, .inl (mz_ld mz_isR 0 25)), (25, .inl (mz_gf 6 0 28)), (28, .inl (mz_ld mz_isI 2 29))]
theorem tk_X6_restart_0 (E : List mz_V) : mz_all E tM_X6_restart (ck_X6_restart_0) :=
  mz_cons (mz_iload_n (k := 1) (show decode cX6_restart 0 = .ok (.iload_n 1, 1) by decide +kernel)) (
  mz_cons (mz_iconst 1 (by decide) (show decode cX6_restart 1 = .ok (.iconst 1, 1) by decide +kernel)) (
  mz_cons (mz_bipush 9 (by decide) (show decode cX6_restart 2 = .ok (.bipush 9, 2) by decide +kernel)) (
  mz_cons (mz_invSN (n := 3) (host := "WettedNet") (ctr_X11_within E) ⟨by decide, by decide, by decide +kernel⟩ ⟨by decide, by decide⟩ mw_140 (by decide +kernel) mw_139 mw_61 (show decode cX6_restart 4 = .ok (.invokestatic 42, 3) by decide +kernel)) (
  mz_cons (mz_if_ne 11 (by decide) (show decode cX6_restart 7 = .ok (.ifCond .ne 4, 3) by decide +kernel)) (
  mz_cons (mz_aload_n (k := 0) (show decode cX6_restart 11 = .ok (.aload_n 0, 1) by decide +kernel)) (
  mz_cons (mz_iload_n (k := 1) (show decode cX6_restart 12 = .ok (.iload_n 1, 1) by decide +kernel)) (
  mz_cons (mz_putfield (C := RX6) (T := TX6) (N := 7) rfl mz_inX6 tyX6_ok nmX6 (by decide) mz_fit_int rfl mw_145 (show decode cX6_restart 13 = .ok (.putfield 35, 3) by decide +kernel)) (
  mz_cons (mz_iconst 0 (by decide) (show decode cX6_restart 16 = .ok (.iconst 0, 1) by decide +kernel)) (
  mz_cons (mz_istore_n (k := 2) (by decide) (show decode cX6_restart 17 = .ok (.istore_n 2, 1) by decide +kernel)) (
  mz_cons (mz_iload_n (k := 2) (show decode cX6_restart 18 = .ok (.iload_n 2, 1) by decide +kernel)) (
  mz_cons (mz_bipush 9 (by decide) (show decode cX6_restart 19 = .ok (.bipush 9, 2) by decide +kernel)) (
  mz_cons (mz_icmp_ge 58 (by decide) (show decode cX6_restart 21 = .ok (.if_icmp .ge 37, 3) by decide +kernel)) (
  mz_cons (mz_aload_n (k := 0) (show decode cX6_restart 24 = .ok (.aload_n 0, 1) by decide +kernel)) (
  mz_cons (mz_getfield (C := RX6) (T := TX6) (N := 7) rfl mz_inX6 (by decide) mw_141 (show decode cX6_restart 25 = .ok (.getfield 9, 3) by decide +kernel)) (
  mz_cons (mz_iload_n (k := 2) (show decode cX6_restart 28 = .ok (.iload_n 2, 1) by decide +kernel)) (
  mz_nil))))))))))))))))
noncomputable def ck_X6_restart_1 : List (Nat × mz_O) := [(29, .inl (mz_push (.inl 0) 30)), (30, .inl (mz_ast false mz_isI 31)), (31, .inl (mz_ld mz_isR 0 32)), (32, .inl (mz_gf 6 1 35)), (35, .inl (mz_ld mz_isI 2 36)), (36, .inl (mz_push (.inl 0) 37)), (37, .inl (mz_ast false mz_isI 38)), (38, .inl (mz_ld mz_isR 0 39)), (39, .inl (mz_gf 6 2 42)), (42, .inl (mz_ld mz_isI 2 43)), (43, .inl (mz_push (.inl 1) 44)), (44, .inl (mz_ast false mz_isI 45)), (45, .inl (mz_ld mz_isR 0 46)), (46, .inl (mz_gf 6 3 49)), (49, .inl (mz_ld mz_isI 2 50)), (50, .inl (mz_push (.inl 1) 51))]
theorem tk_X6_restart_1 (E : List mz_V) : mz_all E tM_X6_restart (ck_X6_restart_1) :=
  mz_cons (mz_iconst 0 (by decide) (show decode cX6_restart 29 = .ok (.iconst 0, 1) by decide +kernel)) (
  mz_cons (mz_iastore (show decode cX6_restart 30 = .ok (.iastore, 1) by decide +kernel)) (
  mz_cons (mz_aload_n (k := 0) (show decode cX6_restart 31 = .ok (.aload_n 0, 1) by decide +kernel)) (
  mz_cons (mz_getfield (C := RX6) (T := TX6) (N := 7) rfl mz_inX6 (by decide) mw_142 (show decode cX6_restart 32 = .ok (.getfield 15, 3) by decide +kernel)) (
  mz_cons (mz_iload_n (k := 2) (show decode cX6_restart 35 = .ok (.iload_n 2, 1) by decide +kernel)) (
  mz_cons (mz_iconst 0 (by decide) (show decode cX6_restart 36 = .ok (.iconst 0, 1) by decide +kernel)) (
  mz_cons (mz_iastore (show decode cX6_restart 37 = .ok (.iastore, 1) by decide +kernel)) (
  mz_cons (mz_aload_n (k := 0) (show decode cX6_restart 38 = .ok (.aload_n 0, 1) by decide +kernel)) (
  mz_cons (mz_getfield (C := RX6) (T := TX6) (N := 7) rfl mz_inX6 (by decide) mw_143 (show decode cX6_restart 39 = .ok (.getfield 18, 3) by decide +kernel)) (
  mz_cons (mz_iload_n (k := 2) (show decode cX6_restart 42 = .ok (.iload_n 2, 1) by decide +kernel)) (
  mz_cons (mz_iconst 1 (by decide) (show decode cX6_restart 43 = .ok (.iconst 1, 1) by decide +kernel)) (
  mz_cons (mz_iastore (show decode cX6_restart 44 = .ok (.iastore, 1) by decide +kernel)) (
  mz_cons (mz_aload_n (k := 0) (show decode cX6_restart 45 = .ok (.aload_n 0, 1) by decide +kernel)) (
  mz_cons (mz_getfield (C := RX6) (T := TX6) (N := 7) rfl mz_inX6 (by decide) mw_144 (show decode cX6_restart 46 = .ok (.getfield 21, 3) by decide +kernel)) (
  mz_cons (mz_iload_n (k := 2) (show decode cX6_restart 49 = .ok (.iload_n 2, 1) by decide +kernel)) (
  mz_cons (mz_iconst 1 (by decide) (show decode cX6_restart 50 = .ok (.iconst 1, 1) by decide +kernel)) (
  mz_nil))))))))))))))))
noncomputable def ck_X6_restart_2 : List (Nat × mz_O) := [(51, .inl (mz_ast false mz_isI 52)), (52, .inl (mz_inc 2 1 55)), (55, .inl (mz_go 18)), (58, .inr (mz_rv))]
theorem tk_X6_restart_2 (E : List mz_V) : mz_all E tM_X6_restart (ck_X6_restart_2) :=
  mz_cons (mz_iastore (show decode cX6_restart 51 = .ok (.iastore, 1) by decide +kernel)) (
  mz_cons (mz_iinc 1 (by decide) (by decide) (show decode cX6_restart 52 = .ok (.iinc 2 1, 3) by decide +kernel)) (
  mz_cons (mz_goto 18 (by decide) (show decode cX6_restart 55 = .ok (.goto (-37), 3) by decide +kernel)) (
  mz_consR (mz_return rfl (show decode cX6_restart 58 = .ok (.return_, 1) by decide +kernel)) (
  mz_nil))))
noncomputable def tb_X6_restart : List (Nat × List (Nat × mz_O)) := [(28, ck_X6_restart_0), (50, ck_X6_restart_1), (58, ck_X6_restart_2)]
theorem tok_X6_restart (E : List mz_V) : mz_tok E tM_X6_restart (tb_X6_restart) := mz_tcons (tk_X6_restart_0 E) (mz_tcons (tk_X6_restart_1 E) (mz_tcons (tk_X6_restart_2 E) (mz_tnil)))
noncomputable def rn_X6_restart : List mz_V → List mz_C → Option (Option mz_V × List mz_C) := mz_rn tb_X6_restart 249 3
theorem ctr_X6_restart (E : List mz_V) : mz_ctr E yX6_restart tM_X6_restart rn_X6_restart := mz_ctr_of 249 (tok_X6_restart E) (by decide) rfl rfl
abbrev tM_X6_init : mz_M := (cX6_init, 1, none, RX6, "<init>", 3, 66)
noncomputable def ck_X6_init_0 : List (Nat × mz_O) := [(0, .inl (mz_ld mz_isR 0 1)), (1, .inl (mz_oi 4)), (4, .inl (mz_ld mz_isR 0 5)), (5, .inl (mz_push (.inl 9) 7)), (7, .inl (mz_na false 9)), (9, .inl (mz_pf 6 0 mz_isQ 12)), (12, .inl (mz_ld mz_isR 0 13)), (13, .inl (mz_push (.inl 9) 15)), (15, .inl (mz_na false 17)), (17, .inl (mz_pf 6 1 mz_isQ 20)), (20, .inl (mz_ld mz_isR 0 21)), (21, .inl (mz_push (.inl 9) 23)), (23, .inl (mz_na false 25)), (25, .inl (mz_pf 6 2 mz_isQ 28)), (28, .inl (mz_ld mz_isR 0 29)), (29, .inl (mz_push (.inl 9) 31))]
theorem tk_X6_init_0 (E : List mz_V) : mz_all E tM_X6_init (ck_X6_init_0) :=
  mz_cons (mz_aload_n (k := 0) (show decode cX6_init 0 = .ok (.aload_n 0, 1) by decide +kernel)) (
  mz_cons (mz_objInit (by decide) (by decide) mw_133 mw_86 mw_87 (show decode cX6_init 1 = .ok (.invokespecial 3, 3) by decide +kernel)) (
  mz_cons (mz_aload_n (k := 0) (show decode cX6_init 4 = .ok (.aload_n 0, 1) by decide +kernel)) (
  mz_cons (mz_bipush 9 (by decide) (show decode cX6_init 5 = .ok (.bipush 9, 2) by decide +kernel)) (
  mz_cons (mz_newI mw_127 (show decode cX6_init 7 = .ok (.newarray .int, 2) by decide +kernel)) (
  mz_cons (mz_putfieldF (C := RX6) (T := TX6) (N := 7) rfl mz_inX6 tyX6_ok nmX6 (by decide) mz_fit_arr rfl rfl rfl mw_141 (show decode cX6_init 9 = .ok (.putfield 9, 3) by decide +kernel)) (
  mz_cons (mz_aload_n (k := 0) (show decode cX6_init 12 = .ok (.aload_n 0, 1) by decide +kernel)) (
  mz_cons (mz_bipush 9 (by decide) (show decode cX6_init 13 = .ok (.bipush 9, 2) by decide +kernel)) (
  mz_cons (mz_newI mw_127 (show decode cX6_init 15 = .ok (.newarray .int, 2) by decide +kernel)) (
  mz_cons (mz_putfieldF (C := RX6) (T := TX6) (N := 7) rfl mz_inX6 tyX6_ok nmX6 (by decide) mz_fit_arr rfl rfl rfl mw_142 (show decode cX6_init 17 = .ok (.putfield 15, 3) by decide +kernel)) (
  mz_cons (mz_aload_n (k := 0) (show decode cX6_init 20 = .ok (.aload_n 0, 1) by decide +kernel)) (
  mz_cons (mz_bipush 9 (by decide) (show decode cX6_init 21 = .ok (.bipush 9, 2) by decide +kernel)) (
  mz_cons (mz_newI mw_127 (show decode cX6_init 23 = .ok (.newarray .int, 2) by decide +kernel)) (
  mz_cons (mz_putfieldF (C := RX6) (T := TX6) (N := 7) rfl mz_inX6 tyX6_ok nmX6 (by decide) mz_fit_arr rfl rfl rfl mw_143 (show decode cX6_init 25 = .ok (.putfield 18, 3) by decide +kernel)) (
  mz_cons (mz_aload_n (k := 0) (show decode cX6_init 28 = .ok (.aload_n 0, 1) by decide +kernel)) (
  mz_cons (mz_bipush 9 (by decide) (show decode cX6_init 29 = .ok (.bipush 9, 2) by decide +kernel)) (
  mz_nil))))))))))))))))
noncomputable def ck_X6_init_1 : List (Nat × mz_O) := [(31, .inl (mz_na false 33)), (33, .inl (mz_pf 6 3 mz_isQ 36)), (36, .inl (mz_ld mz_isR 0 37)), (37, .inl (mz_push (.inl 1) 38)), (38, .inl (mz_pf 6 5 mz_isI 41)), (41, .inl (mz_ld mz_isR 0 42)), (42, .inl (mz_push (.inl 10) 44)), (44, .inl (mz_pf 6 6 mz_isI 47)), (47, .inl (mz_ld mz_isR 0 48)), (48, .inl (mz_push (.inl 1) 49)), (49, .inl (mz_call rn_X6_restart 2 (mz_ckV 6) 52)), (52, .inr (mz_rv))]
theorem tk_X6_init_1 (E : List mz_V) : mz_all E tM_X6_init (ck_X6_init_1) :=
  mz_cons (mz_newI mw_127 (show decode cX6_init 31 = .ok (.newarray .int, 2) by decide +kernel)) (
  mz_cons (mz_putfieldF (C := RX6) (T := TX6) (N := 7) rfl mz_inX6 tyX6_ok nmX6 (by decide) mz_fit_arr rfl rfl rfl mw_144 (show decode cX6_init 33 = .ok (.putfield 21, 3) by decide +kernel)) (
  mz_cons (mz_aload_n (k := 0) (show decode cX6_init 36 = .ok (.aload_n 0, 1) by decide +kernel)) (
  mz_cons (mz_iconst 1 (by decide) (show decode cX6_init 37 = .ok (.iconst 1, 1) by decide +kernel)) (
  mz_cons (mz_putfield (C := RX6) (T := TX6) (N := 7) rfl mz_inX6 tyX6_ok nmX6 (by decide) mz_fit_int rfl mw_146 (show decode cX6_init 38 = .ok (.putfield 24, 3) by decide +kernel)) (
  mz_cons (mz_aload_n (k := 0) (show decode cX6_init 41 = .ok (.aload_n 0, 1) by decide +kernel)) (
  mz_cons (mz_bipush 10 (by decide) (show decode cX6_init 42 = .ok (.bipush 10, 2) by decide +kernel)) (
  mz_cons (mz_putfield (C := RX6) (T := TX6) (N := 7) rfl mz_inX6 tyX6_ok nmX6 (by decide) mz_fit_int rfl mw_147 (show decode cX6_init 44 = .ok (.putfield 28, 3) by decide +kernel)) (
  mz_cons (mz_aload_n (k := 0) (show decode cX6_init 47 = .ok (.aload_n 0, 1) by decide +kernel)) (
  mz_cons (mz_iconst 1 (by decide) (show decode cX6_init 48 = .ok (.iconst 1, 1) by decide +kernel)) (
  mz_cons (mz_invV (n := 1) (ctr_X6_restart E) rfl ⟨by decide, by decide, by decide +kernel⟩ ⟨by decide, by decide⟩ mw_137 mw_134 mw_136 mw_0 mw_65 (show decode cX6_init 49 = .ok (.invokevirtual 31, 3) by decide +kernel)) (
  mz_consR (mz_return rfl (show decode cX6_init 52 = .ok (.return_, 1) by decide +kernel)) (
  mz_nil))))))))))))
noncomputable def tb_X6_init : List (Nat × List (Nat × mz_O)) := [(29, ck_X6_init_0), (52, ck_X6_init_1)]
theorem tok_X6_init (E : List mz_V) : mz_tok E tM_X6_init (tb_X6_init) := mz_tcons (tk_X6_init_0 E) (mz_tcons (tk_X6_init_1 E) (mz_tnil))
noncomputable def rn_X6_init : List mz_V → List mz_C → Option (Option mz_V × List mz_C) := mz_rn tb_X6_init 38 1
theorem ctr_X6_init (E : List mz_V) : mz_ctr E yX6_init tM_X6_init rn_X6_init := mz_ctr_of 38 (tok_X6_init E) (by decide) rfl rfl
abbrev tM_X7_init : mz_M := (cX7_init, 1, none, RX7, "<init>", 1, 22)
noncomputable def ck_X7_init_0 : List (Nat × mz_O) := [(0, .inl (mz_ld mz_isR 0 1)), (1, .inl (mz_oi 4)), (4, .inl (mz_ld mz_isR 0 5)), (5, .inl (mz_push (.inl 200) 8)), (8, .inl (mz_na false 10)), (10, .inl (mz_pf 7 0 mz_isQ 13)), (13, .inl (mz_ld mz_isR 0 14)), (14, .inl (mz_push (.inl 12) 16)), (16, .inl (mz_na false 18)), (18, .inl (mz_pf 7 1 mz_isQ 21)), (21, .inl (mz_ld mz_isR 0 22)), (22, .inl (mz_push (.inl 12) 24)), (24, .inl (mz_na false 26)), (26, .inl (mz_pf 7 2 mz_isQ 29)), (29, .inl (mz_ld mz_isR 0 30)), (30, .inl (mz_push (.inl 12) 32))]
theorem tk_X7_init_0 (E : List mz_V) : mz_all E tM_X7_init (ck_X7_init_0) :=
  mz_cons (mz_aload_n (k := 0) (show decode cX7_init 0 = .ok (.aload_n 0, 1) by decide +kernel)) (
  mz_cons (mz_objInit (by decide) (by decide) mw_168 mw_86 mw_87 (show decode cX7_init 1 = .ok (.invokespecial 3, 3) by decide +kernel)) (
  mz_cons (mz_aload_n (k := 0) (show decode cX7_init 4 = .ok (.aload_n 0, 1) by decide +kernel)) (
  mz_cons (mz_sipush 200 (by decide) (show decode cX7_init 5 = .ok (.sipush 200, 3) by decide +kernel)) (
  mz_cons (mz_newI mw_127 (show decode cX7_init 8 = .ok (.newarray .int, 2) by decide +kernel)) (
  mz_cons (mz_putfieldF (C := RX7) (T := TX7) (N := 8) rfl mz_inX7 tyX7_ok nmX7 (by decide) mz_fit_arr rfl rfl rfl mw_169 (show decode cX7_init 10 = .ok (.putfield 9, 3) by decide +kernel)) (
  mz_cons (mz_aload_n (k := 0) (show decode cX7_init 13 = .ok (.aload_n 0, 1) by decide +kernel)) (
  mz_cons (mz_bipush 12 (by decide) (show decode cX7_init 14 = .ok (.bipush 12, 2) by decide +kernel)) (
  mz_cons (mz_newI mw_127 (show decode cX7_init 16 = .ok (.newarray .int, 2) by decide +kernel)) (
  mz_cons (mz_putfieldF (C := RX7) (T := TX7) (N := 8) rfl mz_inX7 tyX7_ok nmX7 (by decide) mz_fit_arr rfl rfl rfl mw_170 (show decode cX7_init 18 = .ok (.putfield 15, 3) by decide +kernel)) (
  mz_cons (mz_aload_n (k := 0) (show decode cX7_init 21 = .ok (.aload_n 0, 1) by decide +kernel)) (
  mz_cons (mz_bipush 12 (by decide) (show decode cX7_init 22 = .ok (.bipush 12, 2) by decide +kernel)) (
  mz_cons (mz_newI mw_127 (show decode cX7_init 24 = .ok (.newarray .int, 2) by decide +kernel)) (
  mz_cons (mz_putfieldF (C := RX7) (T := TX7) (N := 8) rfl mz_inX7 tyX7_ok nmX7 (by decide) mz_fit_arr rfl rfl rfl mw_171 (show decode cX7_init 26 = .ok (.putfield 18, 3) by decide +kernel)) (
  mz_cons (mz_aload_n (k := 0) (show decode cX7_init 29 = .ok (.aload_n 0, 1) by decide +kernel)) (
  mz_cons (mz_bipush 12 (by decide) (show decode cX7_init 30 = .ok (.bipush 12, 2) by decide +kernel)) (
  mz_nil))))))))))))))))
noncomputable def ck_X7_init_1 : List (Nat × mz_O) := [(32, .inl (mz_na false 34)), (34, .inl (mz_pf 7 3 mz_isQ 37)), (37, .inr (mz_rv))]
theorem tk_X7_init_1 (E : List mz_V) : mz_all E tM_X7_init (ck_X7_init_1) :=
  mz_cons (mz_newI mw_127 (show decode cX7_init 32 = .ok (.newarray .int, 2) by decide +kernel)) (
  mz_cons (mz_putfieldF (C := RX7) (T := TX7) (N := 8) rfl mz_inX7 tyX7_ok nmX7 (by decide) mz_fit_arr rfl rfl rfl mw_172 (show decode cX7_init 34 = .ok (.putfield 21, 3) by decide +kernel)) (
  mz_consR (mz_return rfl (show decode cX7_init 37 = .ok (.return_, 1) by decide +kernel)) (
  mz_nil)))
noncomputable def tb_X7_init : List (Nat × List (Nat × mz_O)) := [(30, ck_X7_init_0), (37, ck_X7_init_1)]
theorem tok_X7_init (E : List mz_V) : mz_tok E tM_X7_init (tb_X7_init) := mz_tcons (tk_X7_init_0 E) (mz_tcons (tk_X7_init_1 E) (mz_tnil))
noncomputable def rn_X7_init : List mz_V → List mz_C → Option (Option mz_V × List mz_C) := mz_rn tb_X7_init 29 1
theorem ctr_X7_init (E : List mz_V) : mz_ctr E yX7_init tM_X7_init rn_X7_init := mz_ctr_of 29 (tok_X7_init E) (by decide) rfl rfl
abbrev tM_X8_init : mz_M := (cX8_init, 4, none, RX8, "<init>", 2, 42)
noncomputable def ck_X8_init_0 : List (Nat × mz_O) := [(0, .inl (mz_ld mz_isR 0 1)), (1, .inl (mz_oi 4)), (4, .inl (mz_ld mz_isR 0 5)), (5, .inl (mz_push (.inl 512) 8)), (8, .inl (mz_na false 10)), (10, .inl (mz_pf 8 0 mz_isQ 13)), (13, .inl (mz_ld mz_isR 0 14)), (14, .inl (mz_push (.inl 11) 16)), (16, .inl (mz_na false 18)), (18, .inl (mz_pf 8 1 mz_isQ 21)), (21, .inl (mz_push (.inl 0) 22)), (22, .inl (mz_sto mz_isI mz_p1 1 23)), (23, .inl (mz_ld mz_isI 1 24)), (24, .inl (mz_push (.inl 512) 27)), (27, .inl (mz_j2 mz_lt 30 51)), (30, .inl (mz_ld mz_isR 0 31))]
theorem tk_X8_init_0 (E : List mz_V) : mz_all E tM_X8_init (ck_X8_init_0) :=
  mz_cons (mz_aload_n (k := 0) (show decode cX8_init 0 = .ok (.aload_n 0, 1) by decide +kernel)) (
  mz_cons (mz_objInit (by decide) (by decide) mw_106 mw_86 mw_87 (show decode cX8_init 1 = .ok (.invokespecial 3, 3) by decide +kernel)) (
  mz_cons (mz_aload_n (k := 0) (show decode cX8_init 4 = .ok (.aload_n 0, 1) by decide +kernel)) (
  mz_cons (mz_sipush 512 (by decide) (show decode cX8_init 5 = .ok (.sipush 512, 3) by decide +kernel)) (
  mz_cons (mz_newI mw_127 (show decode cX8_init 8 = .ok (.newarray .int, 2) by decide +kernel)) (
  mz_cons (mz_putfieldF (C := RX8) (T := TX8) (N := 2) rfl mz_inX8 tyX8_ok nmX8 (by decide) mz_fit_arr rfl rfl rfl mw_120 (show decode cX8_init 10 = .ok (.putfield 9, 3) by decide +kernel)) (
  mz_cons (mz_aload_n (k := 0) (show decode cX8_init 13 = .ok (.aload_n 0, 1) by decide +kernel)) (
  mz_cons (mz_bipush 11 (by decide) (show decode cX8_init 14 = .ok (.bipush 11, 2) by decide +kernel)) (
  mz_cons (mz_newI mw_127 (show decode cX8_init 16 = .ok (.newarray .int, 2) by decide +kernel)) (
  mz_cons (mz_putfieldF (C := RX8) (T := TX8) (N := 2) rfl mz_inX8 tyX8_ok nmX8 (by decide) mz_fit_arr rfl rfl rfl mw_121 (show decode cX8_init 18 = .ok (.putfield 15, 3) by decide +kernel)) (
  mz_cons (mz_iconst 0 (by decide) (show decode cX8_init 21 = .ok (.iconst 0, 1) by decide +kernel)) (
  mz_cons (mz_istore_n (k := 1) (by decide) (show decode cX8_init 22 = .ok (.istore_n 1, 1) by decide +kernel)) (
  mz_cons (mz_iload_n (k := 1) (show decode cX8_init 23 = .ok (.iload_n 1, 1) by decide +kernel)) (
  mz_cons (mz_sipush 512 (by decide) (show decode cX8_init 24 = .ok (.sipush 512, 3) by decide +kernel)) (
  mz_cons (mz_icmp_ge 51 (by decide) (show decode cX8_init 27 = .ok (.if_icmp .ge 24, 3) by decide +kernel)) (
  mz_cons (mz_aload_n (k := 0) (show decode cX8_init 30 = .ok (.aload_n 0, 1) by decide +kernel)) (
  mz_nil))))))))))))))))
noncomputable def ck_X8_init_1 : List (Nat × mz_O) := [(31, .inl (mz_gf 8 1 34)), (34, .inl (mz_ld mz_isI 1 35)), (35, .inl (mz_call rn_J6_bitCount_0f7a4 1 mz_ckT 38)), (38, .inl (mz_push (.inl 1) 39)), (39, .inl (mz_o2 mz_f_iadd 40)), (40, .inl (mz_dp2 41)), (41, .inl (mz_al false 42)), (42, .inl (mz_push (.inl 1) 43)), (43, .inl (mz_o2 mz_f_iadd 44)), (44, .inl (mz_ast false mz_isI 45)), (45, .inl (mz_inc 1 1 48)), (48, .inl (mz_go 23)), (51, .inl (mz_push (.inl 0) 52)), (52, .inl (mz_sto mz_isI mz_p1 1 53)), (53, .inl (mz_ld mz_isI 1 54)), (54, .inl (mz_push (.inl 9) 56))]
theorem tk_X8_init_1 (E : List mz_V) : mz_all E tM_X8_init (ck_X8_init_1) :=
  mz_cons (mz_getfield (C := RX8) (T := TX8) (N := 2) rfl mz_inX8 (by decide) mw_121 (show decode cX8_init 31 = .ok (.getfield 15, 3) by decide +kernel)) (
  mz_cons (mz_iload_n (k := 1) (show decode cX8_init 34 = .ok (.iload_n 1, 1) by decide +kernel)) (
  mz_cons (mz_invS (n := 1) (ctr_J6_bitCount_0f7a4 E) ⟨by decide, by decide, by decide +kernel⟩ ⟨by decide, by decide⟩ mw_109 mw_107 mw_108 mw_64 (show decode cX8_init 35 = .ok (.invokestatic 18, 3) by decide +kernel)) (
  mz_cons (mz_iconst 1 (by decide) (show decode cX8_init 38 = .ok (.iconst 1, 1) by decide +kernel)) (
  mz_cons (mz_iadd (show decode cX8_init 39 = .ok (.iadd, 1) by decide +kernel)) (
  mz_cons (mz_dup2 (show decode cX8_init 40 = .ok (.dup2, 1) by decide +kernel)) (
  mz_cons (mz_iaload (show decode cX8_init 41 = .ok (.iaload, 1) by decide +kernel)) (
  mz_cons (mz_iconst 1 (by decide) (show decode cX8_init 42 = .ok (.iconst 1, 1) by decide +kernel)) (
  mz_cons (mz_iadd (show decode cX8_init 43 = .ok (.iadd, 1) by decide +kernel)) (
  mz_cons (mz_iastore (show decode cX8_init 44 = .ok (.iastore, 1) by decide +kernel)) (
  mz_cons (mz_iinc 1 (by decide) (by decide) (show decode cX8_init 45 = .ok (.iinc 1 1, 3) by decide +kernel)) (
  mz_cons (mz_goto 23 (by decide) (show decode cX8_init 48 = .ok (.goto (-25), 3) by decide +kernel)) (
  mz_cons (mz_iconst 0 (by decide) (show decode cX8_init 51 = .ok (.iconst 0, 1) by decide +kernel)) (
  mz_cons (mz_istore_n (k := 1) (by decide) (show decode cX8_init 52 = .ok (.istore_n 1, 1) by decide +kernel)) (
  mz_cons (mz_iload_n (k := 1) (show decode cX8_init 53 = .ok (.iload_n 1, 1) by decide +kernel)) (
  mz_cons (mz_bipush 9 (by decide) (show decode cX8_init 54 = .ok (.bipush 9, 2) by decide +kernel)) (
  mz_nil))))))))))))))))
noncomputable def ck_X8_init_2 : List (Nat × mz_O) := [(56, .inl (mz_j2 mz_gt 82 59)), (59, .inl (mz_ld mz_isR 0 60)), (60, .inl (mz_gf 8 1 63)), (63, .inl (mz_ld mz_isI 1 64)), (64, .inl (mz_push (.inl 1) 65)), (65, .inl (mz_o2 mz_f_iadd 66)), (66, .inl (mz_dp2 67)), (67, .inl (mz_al false 68)), (68, .inl (mz_ld mz_isR 0 69)), (69, .inl (mz_gf 8 1 72)), (72, .inl (mz_ld mz_isI 1 73)), (73, .inl (mz_al false 74)), (74, .inl (mz_o2 mz_f_iadd 75)), (75, .inl (mz_ast false mz_isI 76)), (76, .inl (mz_inc 1 1 79)), (79, .inl (mz_go 53))]
theorem tk_X8_init_2 (E : List mz_V) : mz_all E tM_X8_init (ck_X8_init_2) :=
  mz_cons (mz_icmp_gt 82 (by decide) (show decode cX8_init 56 = .ok (.if_icmp .gt 26, 3) by decide +kernel)) (
  mz_cons (mz_aload_n (k := 0) (show decode cX8_init 59 = .ok (.aload_n 0, 1) by decide +kernel)) (
  mz_cons (mz_getfield (C := RX8) (T := TX8) (N := 2) rfl mz_inX8 (by decide) mw_121 (show decode cX8_init 60 = .ok (.getfield 15, 3) by decide +kernel)) (
  mz_cons (mz_iload_n (k := 1) (show decode cX8_init 63 = .ok (.iload_n 1, 1) by decide +kernel)) (
  mz_cons (mz_iconst 1 (by decide) (show decode cX8_init 64 = .ok (.iconst 1, 1) by decide +kernel)) (
  mz_cons (mz_iadd (show decode cX8_init 65 = .ok (.iadd, 1) by decide +kernel)) (
  mz_cons (mz_dup2 (show decode cX8_init 66 = .ok (.dup2, 1) by decide +kernel)) (
  mz_cons (mz_iaload (show decode cX8_init 67 = .ok (.iaload, 1) by decide +kernel)) (
  mz_cons (mz_aload_n (k := 0) (show decode cX8_init 68 = .ok (.aload_n 0, 1) by decide +kernel)) (
  mz_cons (mz_getfield (C := RX8) (T := TX8) (N := 2) rfl mz_inX8 (by decide) mw_121 (show decode cX8_init 69 = .ok (.getfield 15, 3) by decide +kernel)) (
  mz_cons (mz_iload_n (k := 1) (show decode cX8_init 72 = .ok (.iload_n 1, 1) by decide +kernel)) (
  mz_cons (mz_iaload (show decode cX8_init 73 = .ok (.iaload, 1) by decide +kernel)) (
  mz_cons (mz_iadd (show decode cX8_init 74 = .ok (.iadd, 1) by decide +kernel)) (
  mz_cons (mz_iastore (show decode cX8_init 75 = .ok (.iastore, 1) by decide +kernel)) (
  mz_cons (mz_iinc 1 (by decide) (by decide) (show decode cX8_init 76 = .ok (.iinc 1 1, 3) by decide +kernel)) (
  mz_cons (mz_goto 53 (by decide) (show decode cX8_init 79 = .ok (.goto (-26), 3) by decide +kernel)) (
  mz_nil))))))))))))))))
noncomputable def ck_X8_init_3 : List (Nat × mz_O) := [(82, .inl (mz_ld mz_isR 0 83)), (83, .inl (mz_gf 8 1 86)), (86, .inl (mz_cl1 89)), (89, .inl (mz_cst 92)), (92, .inl (mz_sto mz_isR mz_p1 1 93)), (93, .inl (mz_push (.inl 0) 94)), (94, .inl (mz_sto mz_isI mz_p1 2 95)), (95, .inl (mz_ld mz_isI 2 96)), (96, .inl (mz_push (.inl 512) 99)), (99, .inl (mz_j2 mz_lt 102 129)), (102, .inl (mz_ld mz_isI 2 103)), (103, .inl (mz_call rn_J6_bitCount_0f7a4 1 mz_ckT 106)), (106, .inl (mz_sto mz_isI mz_p1 3 107)), (107, .inl (mz_ld mz_isR 0 108)), (108, .inl (mz_gf 8 0 111)), (111, .inl (mz_ld mz_isR 1 112))]
theorem tk_X8_init_3 (E : List mz_V) : mz_all E tM_X8_init (ck_X8_init_3) :=
  mz_cons (mz_aload_n (k := 0) (show decode cX8_init 82 = .ok (.aload_n 0, 1) by decide +kernel)) (
  mz_cons (mz_getfield (C := RX8) (T := TX8) (N := 2) rfl mz_inX8 (by decide) mw_121 (show decode cX8_init 83 = .ok (.getfield 15, 3) by decide +kernel)) (
  mz_cons (mz_clone (by decide) (by decide) mw_113 mw_114 mw_115 mw_116 mw_117 (show decode cX8_init 86 = .ok (.invokevirtual 24, 3) by decide +kernel)) (
  mz_cons (mz_castI mw_119 (show decode cX8_init 89 = .ok (.checkcast 25, 3) by decide +kernel)) (
  mz_cons (mz_astore_n (k := 1) (by decide) (show decode cX8_init 92 = .ok (.astore_n 1, 1) by decide +kernel)) (
  mz_cons (mz_iconst 0 (by decide) (show decode cX8_init 93 = .ok (.iconst 0, 1) by decide +kernel)) (
  mz_cons (mz_istore_n (k := 2) (by decide) (show decode cX8_init 94 = .ok (.istore_n 2, 1) by decide +kernel)) (
  mz_cons (mz_iload_n (k := 2) (show decode cX8_init 95 = .ok (.iload_n 2, 1) by decide +kernel)) (
  mz_cons (mz_sipush 512 (by decide) (show decode cX8_init 96 = .ok (.sipush 512, 3) by decide +kernel)) (
  mz_cons (mz_icmp_ge 129 (by decide) (show decode cX8_init 99 = .ok (.if_icmp .ge 30, 3) by decide +kernel)) (
  mz_cons (mz_iload_n (k := 2) (show decode cX8_init 102 = .ok (.iload_n 2, 1) by decide +kernel)) (
  mz_cons (mz_invS (n := 1) (ctr_J6_bitCount_0f7a4 E) ⟨by decide, by decide, by decide +kernel⟩ ⟨by decide, by decide⟩ mw_109 mw_107 mw_108 mw_64 (show decode cX8_init 103 = .ok (.invokestatic 18, 3) by decide +kernel)) (
  mz_cons (mz_istore_n (k := 3) (by decide) (show decode cX8_init 106 = .ok (.istore_n 3, 1) by decide +kernel)) (
  mz_cons (mz_aload_n (k := 0) (show decode cX8_init 107 = .ok (.aload_n 0, 1) by decide +kernel)) (
  mz_cons (mz_getfield (C := RX8) (T := TX8) (N := 2) rfl mz_inX8 (by decide) mw_120 (show decode cX8_init 108 = .ok (.getfield 9, 3) by decide +kernel)) (
  mz_cons (mz_aload_n (k := 1) (show decode cX8_init 111 = .ok (.aload_n 1, 1) by decide +kernel)) (
  mz_nil))))))))))))))))
noncomputable def ck_X8_init_4 : List (Nat × mz_O) := [(112, .inl (mz_ld mz_isI 3 113)), (113, .inl (mz_al false 114)), (114, .inl (mz_ld mz_isI 2 115)), (115, .inl (mz_ast false mz_isI 116)), (116, .inl (mz_ld mz_isR 1 117)), (117, .inl (mz_ld mz_isI 3 118)), (118, .inl (mz_dp2 119)), (119, .inl (mz_al false 120)), (120, .inl (mz_push (.inl 1) 121)), (121, .inl (mz_o2 mz_f_iadd 122)), (122, .inl (mz_ast false mz_isI 123)), (123, .inl (mz_inc 2 1 126)), (126, .inl (mz_go 95)), (129, .inr (mz_rv))]
theorem tk_X8_init_4 (E : List mz_V) : mz_all E tM_X8_init (ck_X8_init_4) :=
  mz_cons (mz_iload_n (k := 3) (show decode cX8_init 112 = .ok (.iload_n 3, 1) by decide +kernel)) (
  mz_cons (mz_iaload (show decode cX8_init 113 = .ok (.iaload, 1) by decide +kernel)) (
  mz_cons (mz_iload_n (k := 2) (show decode cX8_init 114 = .ok (.iload_n 2, 1) by decide +kernel)) (
  mz_cons (mz_iastore (show decode cX8_init 115 = .ok (.iastore, 1) by decide +kernel)) (
  mz_cons (mz_aload_n (k := 1) (show decode cX8_init 116 = .ok (.aload_n 1, 1) by decide +kernel)) (
  mz_cons (mz_iload_n (k := 3) (show decode cX8_init 117 = .ok (.iload_n 3, 1) by decide +kernel)) (
  mz_cons (mz_dup2 (show decode cX8_init 118 = .ok (.dup2, 1) by decide +kernel)) (
  mz_cons (mz_iaload (show decode cX8_init 119 = .ok (.iaload, 1) by decide +kernel)) (
  mz_cons (mz_iconst 1 (by decide) (show decode cX8_init 120 = .ok (.iconst 1, 1) by decide +kernel)) (
  mz_cons (mz_iadd (show decode cX8_init 121 = .ok (.iadd, 1) by decide +kernel)) (
  mz_cons (mz_iastore (show decode cX8_init 122 = .ok (.iastore, 1) by decide +kernel)) (
  mz_cons (mz_iinc 1 (by decide) (by decide) (show decode cX8_init 123 = .ok (.iinc 2 1, 3) by decide +kernel)) (
  mz_cons (mz_goto 95 (by decide) (show decode cX8_init 126 = .ok (.goto (-31), 3) by decide +kernel)) (
  mz_consR (mz_return rfl (show decode cX8_init 129 = .ok (.return_, 1) by decide +kernel)) (
  mz_nil))))))))))))))
noncomputable def tb_X8_init : List (Nat × List (Nat × mz_O)) := [(30, ck_X8_init_0), (54, ck_X8_init_1), (79, ck_X8_init_2), (111, ck_X8_init_3), (129, ck_X8_init_4)]
theorem tok_X8_init (E : List mz_V) : mz_tok E tM_X8_init (tb_X8_init) := mz_tcons (tk_X8_init_0 E) (mz_tcons (tk_X8_init_1 E) (mz_tcons (tk_X8_init_2 E) (mz_tcons (tk_X8_init_3 E) (mz_tcons (tk_X8_init_4 E) (mz_tnil)))))
noncomputable def rn_X8_init : List mz_V → List mz_C → Option (Option mz_V × List mz_C) := mz_rn tb_X8_init 19677 4
theorem ctr_X8_init (E : List mz_V) : mz_ctr E yX8_init tM_X8_init rn_X8_init := mz_ctr_of 19677 (tok_X8_init E) (by decide) rfl rfl
abbrev tM_X9_init : mz_M := (cX9_init, 3, none, RX9, "<init>", 1, 22)
noncomputable def ck_X9_init_0 : List (Nat × mz_O) := [(0, .inl (mz_ld mz_isR 0 1)), (1, .inl (mz_oi 4)), (4, .inl (mz_ld mz_isR 0 5)), (5, .inl (mz_ld mz_isR 1 6)), (6, .inl (mz_pf 9 0 mz_isQ 9)), (9, .inl (mz_ld mz_isR 0 10)), (10, .inl (mz_ld mz_isR 2 11)), (11, .inl (mz_pf 9 1 mz_isQ 14)), (14, .inr (mz_rv))]
theorem tk_X9_init_0 (E : List mz_V) : mz_all E tM_X9_init (ck_X9_init_0) :=
  mz_cons (mz_aload_n (k := 0) (show decode cX9_init 0 = .ok (.aload_n 0, 1) by decide +kernel)) (
  mz_cons (mz_objInit (by decide) (by decide) mw_252 mw_86 mw_87 (show decode cX9_init 1 = .ok (.invokespecial 3, 3) by decide +kernel)) (
  mz_cons (mz_aload_n (k := 0) (show decode cX9_init 4 = .ok (.aload_n 0, 1) by decide +kernel)) (
  mz_cons (mz_aload_n (k := 1) (show decode cX9_init 5 = .ok (.aload_n 1, 1) by decide +kernel)) (
  mz_cons (mz_putfieldF (C := RX9) (T := TX9) (N := 2) rfl mz_inX9 tyX9_ok nmX9 (by decide) mz_fit_obj rfl rfl rfl mw_253 (show decode cX9_init 6 = .ok (.putfield 9, 3) by decide +kernel)) (
  mz_cons (mz_aload_n (k := 0) (show decode cX9_init 9 = .ok (.aload_n 0, 1) by decide +kernel)) (
  mz_cons (mz_aload_n (k := 2) (show decode cX9_init 10 = .ok (.aload_n 2, 1) by decide +kernel)) (
  mz_cons (mz_putfieldF (C := RX9) (T := TX9) (N := 2) rfl mz_inX9 tyX9_ok nmX9 (by decide) mz_fit_obj rfl rfl rfl mw_254 (show decode cX9_init 11 = .ok (.putfield 15, 3) by decide +kernel)) (
  mz_consR (mz_return rfl (show decode cX9_init 14 = .ok (.return_, 1) by decide +kernel)) (
  mz_nil)))))))))
noncomputable def tb_X9_init : List (Nat × List (Nat × mz_O)) := [(14, ck_X9_init_0)]
theorem tok_X9_init (E : List mz_V) : mz_tok E tM_X9_init (tb_X9_init) := mz_tcons (tk_X9_init_0 E) (mz_tnil)
noncomputable def rn_X9_init : List mz_V → List mz_C → Option (Option mz_V × List mz_C) := mz_rn tb_X9_init 19 3
theorem ctr_X9_init (E : List mz_V) : mz_ctr E yX9_init tM_X9_init rn_X9_init := mz_ctr_of 19 (tok_X9_init E) (by decide) rfl rfl
