abbrev tM_X11_token : mz_M := (cX11_token, 4, (some .int), RX11, "token", 5, 121)
noncomputable def ck_X11_token_0 : List (Nat × mz_O) := [(0, .inl (mz_ld mz_isR 0 1)), (1, .inl (mz_gf 11 0 4)), (4, .inl (mz_ld mz_isI 1 5)), (5, .inl (mz_call rn_X6_isRoom 2 (mz_ckV 6) 8)), (8, .inl (mz_j1 mz_eq0 11 14)), (11, .inl (mz_push (.inl (-2)) 13)), (13, .inr (mz_rt mz_isI)), (14, .inl (mz_ld mz_isR 0 15)), (15, .inl (mz_gf 11 0 18)), (18, .inl (mz_ld mz_isI 2 19)), (19, .inl (mz_call rn_X6_isSet 2 (mz_ckV 6) 22)), (22, .inl (mz_j1 mz_eq0 25 28)), (25, .inl (mz_push (.inl (-3)) 27)), (27, .inr (mz_rt mz_isI)), (28, .inl (mz_ld mz_isI 3 29)), (29, .inl (mz_ts 0 3 [60, 72, 82, 92] 102))]
theorem tk_X11_token_0 (E : List mz_V) : mz_all E tM_X11_token (ck_X11_token_0) :=
  mz_cons (mz_aload_n (k := 0) (show decode cX11_token 0 = .ok (.aload_n 0, 1) by decide +kernel)) (
  mz_cons (mz_getfield (C := RX11) (T := TX11) (N := 9) rfl mz_inX11 (by decide) mw_330 (show decode cX11_token 1 = .ok (.getfield 18, 3) by decide +kernel)) (
  mz_cons (mz_iload_n (k := 1) (show decode cX11_token 4 = .ok (.iload_n 1, 1) by decide +kernel)) (
  mz_cons (mz_invV (n := 1) (ctr_X6_isRoom E) rfl ⟨by decide, by decide, by decide +kernel⟩ ⟨by decide, by decide⟩ mw_522 mw_539 mw_520 mw_521 mw_65 (show decode cX11_token 5 = .ok (.invokevirtual 129, 3) by decide +kernel)) (
  mz_cons (mz_if_ne 14 (by decide) (show decode cX11_token 8 = .ok (.ifCond .ne 6, 3) by decide +kernel)) (
  mz_cons (mz_bipush (-2) (by decide) (show decode cX11_token 11 = .ok (.bipush (-2), 2) by decide +kernel)) (
  mz_consR (mz_ireturn rfl (show decode cX11_token 13 = .ok (.ireturn, 1) by decide +kernel)) (
  mz_cons (mz_aload_n (k := 0) (show decode cX11_token 14 = .ok (.aload_n 0, 1) by decide +kernel)) (
  mz_cons (mz_getfield (C := RX11) (T := TX11) (N := 9) rfl mz_inX11 (by decide) mw_330 (show decode cX11_token 15 = .ok (.getfield 18, 3) by decide +kernel)) (
  mz_cons (mz_iload_n (k := 2) (show decode cX11_token 18 = .ok (.iload_n 2, 1) by decide +kernel)) (
  mz_cons (mz_invV (n := 1) (ctr_X6_isSet E) rfl ⟨by decide, by decide, by decide +kernel⟩ ⟨by decide, by decide⟩ mw_563 mw_560 mw_561 mw_562 mw_65 (show decode cX11_token 19 = .ok (.invokevirtual 145, 3) by decide +kernel)) (
  mz_cons (mz_if_ne 28 (by decide) (show decode cX11_token 22 = .ok (.ifCond .ne 6, 3) by decide +kernel)) (
  mz_cons (mz_bipush (-3) (by decide) (show decode cX11_token 25 = .ok (.bipush (-3), 2) by decide +kernel)) (
  mz_consR (mz_ireturn rfl (show decode cX11_token 27 = .ok (.ireturn, 1) by decide +kernel)) (
  mz_cons (mz_iload_n (k := 3) (show decode cX11_token 28 = .ok (.iload_n 3, 1) by decide +kernel)) (
  mz_cons (mz_tableswitch [60, 72, 82, 92] 102 (by decide) (by decide) (fun z h1 h2 => show (z - 0).toNat < 4 by omega) (show decode cX11_token 29 = .ok (.tableswitch 73 0 3 #[31, 43, 53, 63], 31) by decide +kernel)) (
  mz_nil))))))))))))))))
noncomputable def ck_X11_token_1 : List (Nat × mz_O) := [(60, .inl (mz_ld mz_isR 0 61)), (61, .inl (mz_gf 11 8 64)), (64, .inl (mz_ld mz_isI 1 65)), (65, .inl (mz_ld mz_isI 2 66)), (66, .inl (mz_call rn_X10_length 3 (mz_ckV 10) 69)), (69, .inl (mz_push (.inl 1) 70)), (70, .inl (mz_o2 mz_f_iand 71)), (71, .inr (mz_rt mz_isI)), (72, .inl (mz_ld mz_isR 0 73)), (73, .inl (mz_gf 11 8 76)), (76, .inl (mz_ld mz_isI 1 77)), (77, .inl (mz_ld mz_isI 2 78)), (78, .inl (mz_call rn_X10_length 3 (mz_ckV 10) 81)), (81, .inr (mz_rt mz_isI)), (82, .inl (mz_ld mz_isR 0 83)), (83, .inl (mz_gf 11 8 86))]
theorem tk_X11_token_1 (E : List mz_V) : mz_all E tM_X11_token (ck_X11_token_1) :=
  mz_cons (mz_aload_n (k := 0) (show decode cX11_token 60 = .ok (.aload_n 0, 1) by decide +kernel)) (
  mz_cons (mz_getfield (C := RX11) (T := TX11) (N := 9) rfl mz_inX11 (by decide) mw_338 (show decode cX11_token 61 = .ok (.getfield 84, 3) by decide +kernel)) (
  mz_cons (mz_iload_n (k := 1) (show decode cX11_token 64 = .ok (.iload_n 1, 1) by decide +kernel)) (
  mz_cons (mz_iload_n (k := 2) (show decode cX11_token 65 = .ok (.iload_n 2, 1) by decide +kernel)) (
  mz_cons (mz_invV (n := 2) (ctr_X10_length E) rfl ⟨by decide, by decide, by decide +kernel⟩ ⟨by decide, by decide⟩ mw_916 mw_913 mw_914 mw_915 mw_73 (show decode cX11_token 66 = .ok (.invokevirtual 246, 3) by decide +kernel)) (
  mz_cons (mz_iconst 1 (by decide) (show decode cX11_token 69 = .ok (.iconst 1, 1) by decide +kernel)) (
  mz_cons (mz_iand (show decode cX11_token 70 = .ok (.iand, 1) by decide +kernel)) (
  mz_consR (mz_ireturn rfl (show decode cX11_token 71 = .ok (.ireturn, 1) by decide +kernel)) (
  mz_cons (mz_aload_n (k := 0) (show decode cX11_token 72 = .ok (.aload_n 0, 1) by decide +kernel)) (
  mz_cons (mz_getfield (C := RX11) (T := TX11) (N := 9) rfl mz_inX11 (by decide) mw_338 (show decode cX11_token 73 = .ok (.getfield 84, 3) by decide +kernel)) (
  mz_cons (mz_iload_n (k := 1) (show decode cX11_token 76 = .ok (.iload_n 1, 1) by decide +kernel)) (
  mz_cons (mz_iload_n (k := 2) (show decode cX11_token 77 = .ok (.iload_n 2, 1) by decide +kernel)) (
  mz_cons (mz_invV (n := 2) (ctr_X10_length E) rfl ⟨by decide, by decide, by decide +kernel⟩ ⟨by decide, by decide⟩ mw_916 mw_913 mw_914 mw_915 mw_73 (show decode cX11_token 78 = .ok (.invokevirtual 246, 3) by decide +kernel)) (
  mz_consR (mz_ireturn rfl (show decode cX11_token 81 = .ok (.ireturn, 1) by decide +kernel)) (
  mz_cons (mz_aload_n (k := 0) (show decode cX11_token 82 = .ok (.aload_n 0, 1) by decide +kernel)) (
  mz_cons (mz_getfield (C := RX11) (T := TX11) (N := 9) rfl mz_inX11 (by decide) mw_338 (show decode cX11_token 83 = .ok (.getfield 84, 3) by decide +kernel)) (
  mz_nil))))))))))))))))
noncomputable def ck_X11_token_2 : List (Nat × mz_O) := [(86, .inl (mz_ld mz_isI 1 87)), (87, .inl (mz_ld mz_isI 2 88)), (88, .inl (mz_call rn_X10_step 3 (mz_ckV 10) 91)), (91, .inr (mz_rt mz_isI)), (92, .inl (mz_ld mz_isR 0 93)), (93, .inl (mz_gf 11 8 96)), (96, .inl (mz_ld mz_isI 1 97)), (97, .inl (mz_ld mz_isI 2 98)), (98, .inl (mz_call rn_X10_alone 3 (mz_ckV 10) 101)), (101, .inr (mz_rt mz_isI)), (102, .inl (mz_push (.inl (-3)) 104)), (104, .inr (mz_rt mz_isI))]
theorem tk_X11_token_2 (E : List mz_V) : mz_all E tM_X11_token (ck_X11_token_2) :=
  mz_cons (mz_iload_n (k := 1) (show decode cX11_token 86 = .ok (.iload_n 1, 1) by decide +kernel)) (
  mz_cons (mz_iload_n (k := 2) (show decode cX11_token 87 = .ok (.iload_n 2, 1) by decide +kernel)) (
  mz_cons (mz_invV (n := 2) (ctr_X10_step E) rfl ⟨by decide, by decide, by decide +kernel⟩ ⟨by decide, by decide⟩ mw_935 mw_932 mw_933 mw_934 mw_73 (show decode cX11_token 88 = .ok (.invokevirtual 249, 3) by decide +kernel)) (
  mz_consR (mz_ireturn rfl (show decode cX11_token 91 = .ok (.ireturn, 1) by decide +kernel)) (
  mz_cons (mz_aload_n (k := 0) (show decode cX11_token 92 = .ok (.aload_n 0, 1) by decide +kernel)) (
  mz_cons (mz_getfield (C := RX11) (T := TX11) (N := 9) rfl mz_inX11 (by decide) mw_338 (show decode cX11_token 93 = .ok (.getfield 84, 3) by decide +kernel)) (
  mz_cons (mz_iload_n (k := 1) (show decode cX11_token 96 = .ok (.iload_n 1, 1) by decide +kernel)) (
  mz_cons (mz_iload_n (k := 2) (show decode cX11_token 97 = .ok (.iload_n 2, 1) by decide +kernel)) (
  mz_cons (mz_invV (n := 2) (ctr_X10_alone E) rfl ⟨by decide, by decide, by decide +kernel⟩ ⟨by decide, by decide⟩ mw_940 mw_937 mw_938 mw_939 mw_73 (show decode cX11_token 98 = .ok (.invokevirtual 252, 3) by decide +kernel)) (
  mz_consR (mz_ireturn rfl (show decode cX11_token 101 = .ok (.ireturn, 1) by decide +kernel)) (
  mz_cons (mz_bipush (-3) (by decide) (show decode cX11_token 102 = .ok (.bipush (-3), 2) by decide +kernel)) (
  mz_consR (mz_ireturn rfl (show decode cX11_token 104 = .ok (.ireturn, 1) by decide +kernel)) (
  mz_nil))))))))))))
noncomputable def tb_X11_token : List (Nat × List (Nat × mz_O)) := [(29, ck_X11_token_0), (83, ck_X11_token_1), (104, ck_X11_token_2)]
theorem tok_X11_token (E : List mz_V) : mz_tok E tM_X11_token (tb_X11_token) := mz_tcons (tk_X11_token_0 E) (mz_tcons (tk_X11_token_1 E) (mz_tcons (tk_X11_token_2 E) (mz_tnil)))
noncomputable def rn_X11_token : List mz_V → List mz_C → Option (Option mz_V × List mz_C) := mz_rn tb_X11_token 30 4
theorem ctr_X11_token (E : List mz_V) : mz_ctr E yX11_token tM_X11_token rn_X11_token := mz_ctr_of 30 (tok_X11_token E) (by decide) rfl rfl
abbrev tM_X4_mayWet : mz_M := (cX4_mayWet, 3, (some .boolean), RX4, "mayWet", 2, 42)
noncomputable def ck_X4_mayWet_0 : List (Nat × mz_O) := [(0, .inl (mz_ld mz_isR 0 1)), (1, .inl (mz_gf 4 0 4)), (4, .inl (mz_call rn_X6_all 1 (mz_ckV 6) 7)), (7, .inl (mz_ld mz_isR 0 8)), (8, .inl (mz_gf 4 4 11)), (11, .inl (mz_push (.inl (-1)) 12)), (12, .inl (mz_o2 mz_f_ixor 13)), (13, .inl (mz_o2 mz_f_iand 14)), (14, .inl (mz_ld mz_isR 0 15)), (15, .inl (mz_gf 4 5 18)), (18, .inl (mz_push (.inl (-1)) 19)), (19, .inl (mz_o2 mz_f_ixor 20)), (20, .inl (mz_o2 mz_f_iand 21)), (21, .inl (mz_sto mz_isI mz_p1 2 22)), (22, .inl (mz_ld mz_isR 0 23)), (23, .inl (mz_gf 4 2 26))]
theorem tk_X4_mayWet_0 (E : List mz_V) : mz_all E tM_X4_mayWet (ck_X4_mayWet_0) :=
  mz_cons (mz_aload_n (k := 0) (show decode cX4_mayWet 0 = .ok (.aload_n 0, 1) by decide +kernel)) (
  mz_cons (mz_getfield (C := RX4) (T := TX4) (N := 9) rfl mz_inX4 (by decide) mw_219 (show decode cX4_mayWet 1 = .ok (.getfield 32, 3) by decide +kernel)) (
  mz_cons (mz_invV (n := 0) (ctr_X6_all E) rfl ⟨by decide, by decide, by decide +kernel⟩ ⟨by decide, by decide⟩ mw_567 mw_672 mw_565 mw_566 mw_65 (show decode cX4_mayWet 4 = .ok (.invokevirtual 52, 3) by decide +kernel)) (
  mz_cons (mz_aload_n (k := 0) (show decode cX4_mayWet 7 = .ok (.aload_n 0, 1) by decide +kernel)) (
  mz_cons (mz_getfield (C := RX4) (T := TX4) (N := 9) rfl mz_inX4 (by decide) mw_223 (show decode cX4_mayWet 8 = .ok (.getfield 16, 3) by decide +kernel)) (
  mz_cons (mz_iconst (-1) (by decide) (show decode cX4_mayWet 11 = .ok (.iconst (-1), 1) by decide +kernel)) (
  mz_cons (mz_ixor (show decode cX4_mayWet 12 = .ok (.ixor, 1) by decide +kernel)) (
  mz_cons (mz_iand (show decode cX4_mayWet 13 = .ok (.iand, 1) by decide +kernel)) (
  mz_cons (mz_aload_n (k := 0) (show decode cX4_mayWet 14 = .ok (.aload_n 0, 1) by decide +kernel)) (
  mz_cons (mz_getfield (C := RX4) (T := TX4) (N := 9) rfl mz_inX4 (by decide) mw_224 (show decode cX4_mayWet 15 = .ok (.getfield 20, 3) by decide +kernel)) (
  mz_cons (mz_iconst (-1) (by decide) (show decode cX4_mayWet 18 = .ok (.iconst (-1), 1) by decide +kernel)) (
  mz_cons (mz_ixor (show decode cX4_mayWet 19 = .ok (.ixor, 1) by decide +kernel)) (
  mz_cons (mz_iand (show decode cX4_mayWet 20 = .ok (.iand, 1) by decide +kernel)) (
  mz_cons (mz_istore_n (k := 2) (by decide) (show decode cX4_mayWet 21 = .ok (.istore_n 2, 1) by decide +kernel)) (
  mz_cons (mz_aload_n (k := 0) (show decode cX4_mayWet 22 = .ok (.aload_n 0, 1) by decide +kernel)) (
  mz_cons (mz_getfield (C := RX4) (T := TX4) (N := 9) rfl mz_inX4 (by decide) mw_221 (show decode cX4_mayWet 23 = .ok (.getfield 7, 3) by decide +kernel)) (
  mz_nil))))))))))))))))
noncomputable def ck_X4_mayWet_1 : List (Nat × mz_O) := [(26, .inl (mz_j1 mz_eq0 69 29)), (69, .inl (mz_push (.inl 0) 70)), (70, .inr (mz_rt mz_is01))]
theorem tk_X4_mayWet_1 (E : List mz_V) : mz_all E tM_X4_mayWet (ck_X4_mayWet_1) :=
  mz_cons (mz_if_eq 69 (by decide) (show decode cX4_mayWet 26 = .ok (.ifCond .eq 43, 3) by decide +kernel)) (
  mz_cons (mz_iconst 0 (by decide) (show decode cX4_mayWet 69 = .ok (.iconst 0, 1) by decide +kernel)) (
  mz_consR (mz_zreturn rfl (show decode cX4_mayWet 70 = .ok (.ireturn, 1) by decide +kernel)) (
  mz_nil)))
noncomputable def tb_X4_mayWet : List (Nat × List (Nat × mz_O)) := [(23, ck_X4_mayWet_0), (70, ck_X4_mayWet_1)]
theorem tok_X4_mayWet (E : List mz_V) : mz_tok E tM_X4_mayWet (tb_X4_mayWet) := mz_tcons (tk_X4_mayWet_0 E) (mz_tcons (tk_X4_mayWet_1 E) (mz_tnil))
noncomputable def rn_X4_mayWet : List mz_V → List mz_C → Option (Option mz_V × List mz_C) := mz_rn tb_X4_mayWet 29 3
theorem ctr_X4_mayWet (E : List mz_V) : mz_ctr E yX4_mayWet tM_X4_mayWet rn_X4_mayWet := mz_ctr_of 29 (tok_X4_mayWet E) (by decide) rfl rfl
abbrev tM_X11_wets : mz_M := (cX11_wets, 2, (some .int), RX11, "wets", 3, 65)
noncomputable def ck_X11_wets_0 : List (Nat × mz_O) := [(0, .inl (mz_ld mz_isR 0 1)), (1, .inl (mz_gf 11 0 4)), (4, .inl (mz_ld mz_isI 1 5)), (5, .inl (mz_call rn_X6_isSet 2 (mz_ckV 6) 8)), (8, .inl (mz_j1 mz_eq0 11 14)), (11, .inl (mz_push (.inl (-3)) 13)), (13, .inr (mz_rt mz_isI)), (14, .inl (mz_ld mz_isR 0 15)), (15, .inl (mz_gf 11 3 18)), (18, .inl (mz_ld mz_isI 1 19)), (19, .inl (mz_call rn_X4_mayWet 2 (mz_ckV 4) 22)), (22, .inl (mz_j1 mz_eq0 25 28)), (25, .inl (mz_push (.inl (-4)) 27)), (27, .inr (mz_rt mz_isI))]
theorem tk_X11_wets_0 (E : List mz_V) : mz_all E tM_X11_wets (ck_X11_wets_0) :=
  mz_cons (mz_aload_n (k := 0) (show decode cX11_wets 0 = .ok (.aload_n 0, 1) by decide +kernel)) (
  mz_cons (mz_getfield (C := RX11) (T := TX11) (N := 9) rfl mz_inX11 (by decide) mw_330 (show decode cX11_wets 1 = .ok (.getfield 18, 3) by decide +kernel)) (
  mz_cons (mz_iload_n (k := 1) (show decode cX11_wets 4 = .ok (.iload_n 1, 1) by decide +kernel)) (
  mz_cons (mz_invV (n := 1) (ctr_X6_isSet E) rfl ⟨by decide, by decide, by decide +kernel⟩ ⟨by decide, by decide⟩ mw_563 mw_560 mw_561 mw_562 mw_65 (show decode cX11_wets 5 = .ok (.invokevirtual 145, 3) by decide +kernel)) (
  mz_cons (mz_if_ne 14 (by decide) (show decode cX11_wets 8 = .ok (.ifCond .ne 6, 3) by decide +kernel)) (
  mz_cons (mz_bipush (-3) (by decide) (show decode cX11_wets 11 = .ok (.bipush (-3), 2) by decide +kernel)) (
  mz_consR (mz_ireturn rfl (show decode cX11_wets 13 = .ok (.ireturn, 1) by decide +kernel)) (
  mz_cons (mz_aload_n (k := 0) (show decode cX11_wets 14 = .ok (.aload_n 0, 1) by decide +kernel)) (
  mz_cons (mz_getfield (C := RX11) (T := TX11) (N := 9) rfl mz_inX11 (by decide) mw_333 (show decode cX11_wets 15 = .ok (.getfield 43, 3) by decide +kernel)) (
  mz_cons (mz_iload_n (k := 1) (show decode cX11_wets 18 = .ok (.iload_n 1, 1) by decide +kernel)) (
  mz_cons (mz_invV (n := 1) (ctr_X4_mayWet E) rfl ⟨by decide, by decide, by decide +kernel⟩ ⟨by decide, by decide⟩ mw_671 mw_668 mw_669 mw_670 mw_68 (show decode cX11_wets 19 = .ok (.invokevirtual 164, 3) by decide +kernel)) (
  mz_cons (mz_if_ne 28 (by decide) (show decode cX11_wets 22 = .ok (.ifCond .ne 6, 3) by decide +kernel)) (
  mz_cons (mz_bipush (-4) (by decide) (show decode cX11_wets 25 = .ok (.bipush (-4), 2) by decide +kernel)) (
  mz_consR (mz_ireturn rfl (show decode cX11_wets 27 = .ok (.ireturn, 1) by decide +kernel)) (
  mz_nil))))))))))))))
noncomputable def tb_X11_wets : List (Nat × List (Nat × mz_O)) := [(27, ck_X11_wets_0)]
theorem tok_X11_wets (E : List mz_V) : mz_tok E tM_X11_wets (tb_X11_wets) := mz_tcons (tk_X11_wets_0 E) (mz_tnil)
noncomputable def rn_X11_wets : List mz_V → List mz_C → Option (Option mz_V × List mz_C) := mz_rn tb_X11_wets 22 2
theorem ctr_X11_wets (E : List mz_V) : mz_ctr E yX11_wets tM_X11_wets rn_X11_wets := mz_ctr_of 22 (tok_X11_wets E) (by decide) rfl rfl
abbrev tM_X9_told : mz_M := (cX9_told, 2, (some .int), RX9, "told", 1, 22)
noncomputable def ck_X9_told_0 : List (Nat × mz_O) := [(0, .inl (mz_ld mz_isI 0 1)), (1, .inl (mz_push (.inl 4) 2)), (2, .inl (mz_ld mz_isI 1 3)), (3, .inl (mz_o2 mz_f_imul 4)), (4, .inl (mz_o2 mz_f_ishr 5)), (5, .inl (mz_push (.inl 15) 7)), (7, .inl (mz_o2 mz_f_iand 8)), (8, .inr (mz_rt mz_isI))]
theorem tk_X9_told_0 (E : List mz_V) : mz_all E tM_X9_told (ck_X9_told_0) :=
  mz_cons (mz_iload_n (k := 0) (show decode cX9_told 0 = .ok (.iload_n 0, 1) by decide +kernel)) (
  mz_cons (mz_iconst 4 (by decide) (show decode cX9_told 1 = .ok (.iconst 4, 1) by decide +kernel)) (
  mz_cons (mz_iload_n (k := 1) (show decode cX9_told 2 = .ok (.iload_n 1, 1) by decide +kernel)) (
  mz_cons (mz_imul (show decode cX9_told 3 = .ok (.imul, 1) by decide +kernel)) (
  mz_cons (mz_ishr (show decode cX9_told 4 = .ok (.ishr, 1) by decide +kernel)) (
  mz_cons (mz_bipush 15 (by decide) (show decode cX9_told 5 = .ok (.bipush 15, 2) by decide +kernel)) (
  mz_cons (mz_iand (show decode cX9_told 7 = .ok (.iand, 1) by decide +kernel)) (
  mz_consR (mz_ireturn rfl (show decode cX9_told 8 = .ok (.ireturn, 1) by decide +kernel)) (
  mz_nil))))))))
noncomputable def tb_X9_told : List (Nat × List (Nat × mz_O)) := [(8, ck_X9_told_0)]
theorem tok_X9_told (E : List mz_V) : mz_tok E tM_X9_told (tb_X9_told) := mz_tcons (tk_X9_told_0 E) (mz_tnil)
noncomputable def rn_X9_told : List mz_V → List mz_C → Option (Option mz_V × List mz_C) := mz_rn tb_X9_told 18 2
theorem ctr_X9_told (E : List mz_V) : mz_ctr E yX9_told tM_X9_told rn_X9_told := mz_ctr_of 18 (tok_X9_told E) (by decide) rfl rfl
abbrev tM_X9_turnOf : mz_M := (cX9_turnOf, 6, (some .int), RX9, "turnOf", 3, 66)
noncomputable def ck_X9_turnOf_0 : List (Nat × mz_O) := [(0, .inl (mz_push (.inl 0) 1)), (1, .inl (mz_sto mz_isI mz_p1 4 3)), (3, .inl (mz_push (.inl 1) 4)), (4, .inl (mz_sto mz_isI mz_p1 5 6)), (6, .inl (mz_ld mz_isI 5 8)), (8, .inl (mz_push (.inl 17) 10)), (10, .inl (mz_j2 mz_gt 66 13)), (13, .inl (mz_ld mz_isI 4 15)), (15, .inl (mz_ld mz_isR 0 16)), (16, .inl (mz_gf 9 0 19)), (19, .inl (mz_ld mz_isI 4 21)), (21, .inl (mz_call rn_X6_besideAny 2 (mz_ckV 6) 24)), (24, .inl (mz_o2 mz_f_ior 25)), (25, .inl (mz_sto mz_isI mz_p1 4 27)), (27, .inl (mz_ld mz_isI 5 29)), (29, .inl (mz_ld mz_isI 2 30))]
theorem tk_X9_turnOf_0 (E : List mz_V) : mz_all E tM_X9_turnOf (ck_X9_turnOf_0) :=
  mz_cons (mz_iconst 0 (by decide) (show decode cX9_turnOf 0 = .ok (.iconst 0, 1) by decide +kernel)) (
  mz_cons (mz_istore (by decide) (show decode cX9_turnOf 1 = .ok (.istore 4, 2) by decide +kernel)) (
  mz_cons (mz_iconst 1 (by decide) (show decode cX9_turnOf 3 = .ok (.iconst 1, 1) by decide +kernel)) (
  mz_cons (mz_istore (by decide) (show decode cX9_turnOf 4 = .ok (.istore 5, 2) by decide +kernel)) (
  mz_cons (mz_iload (show decode cX9_turnOf 6 = .ok (.iload 5, 2) by decide +kernel)) (
  mz_cons (mz_bipush 17 (by decide) (show decode cX9_turnOf 8 = .ok (.bipush 17, 2) by decide +kernel)) (
  mz_cons (mz_icmp_gt 66 (by decide) (show decode cX9_turnOf 10 = .ok (.if_icmp .gt 56, 3) by decide +kernel)) (
  mz_cons (mz_iload (show decode cX9_turnOf 13 = .ok (.iload 4, 2) by decide +kernel)) (
  mz_cons (mz_aload_n (k := 0) (show decode cX9_turnOf 15 = .ok (.aload_n 0, 1) by decide +kernel)) (
  mz_cons (mz_getfield (C := RX9) (T := TX9) (N := 2) rfl mz_inX9 (by decide) mw_253 (show decode cX9_turnOf 16 = .ok (.getfield 9, 3) by decide +kernel)) (
  mz_cons (mz_iload (show decode cX9_turnOf 19 = .ok (.iload 4, 2) by decide +kernel)) (
  mz_cons (mz_invV (n := 1) (ctr_X6_besideAny E) rfl ⟨by decide, by decide, by decide +kernel⟩ ⟨by decide, by decide⟩ mw_601 mw_707 mw_599 mw_600 mw_65 (show decode cX9_turnOf 21 = .ok (.invokevirtual 32, 3) by decide +kernel)) (
  mz_cons (mz_ior (show decode cX9_turnOf 24 = .ok (.ior, 1) by decide +kernel)) (
  mz_cons (mz_istore (by decide) (show decode cX9_turnOf 25 = .ok (.istore 4, 2) by decide +kernel)) (
  mz_cons (mz_iload (show decode cX9_turnOf 27 = .ok (.iload 5, 2) by decide +kernel)) (
  mz_cons (mz_iload_n (k := 2) (show decode cX9_turnOf 29 = .ok (.iload_n 2, 1) by decide +kernel)) (
  mz_nil))))))))))))))))
noncomputable def ck_X9_turnOf_1 : List (Nat × mz_O) := [(30, .inl (mz_j2 mz_gt 48 33)), (33, .inl (mz_ld mz_isI 4 35)), (35, .inl (mz_push (.inl 1) 36)), (36, .inl (mz_ld mz_isI 1 37)), (37, .inl (mz_ld mz_isI 5 39)), (39, .inl (mz_push (.inl 1) 40)), (40, .inl (mz_o2 mz_f_isub 41)), (41, .inl (mz_call rn_X9_told 2 mz_ckT 44)), (44, .inl (mz_o2 mz_f_ishl 45)), (45, .inl (mz_o2 mz_f_ior 46)), (46, .inl (mz_sto mz_isI mz_p1 4 48)), (48, .inl (mz_ld mz_isI 4 50)), (50, .inl (mz_ld mz_isI 3 51)), (51, .inl (mz_call rn_X11_has 2 mz_ckT 54)), (54, .inl (mz_j1 mz_eq0 60 57)), (57, .inl (mz_ld mz_isI 5 59))]
theorem tk_X9_turnOf_1 (E : List mz_V) : mz_all E tM_X9_turnOf (ck_X9_turnOf_1) :=
  mz_cons (mz_icmp_gt 48 (by decide) (show decode cX9_turnOf 30 = .ok (.if_icmp .gt 18, 3) by decide +kernel)) (
  mz_cons (mz_iload (show decode cX9_turnOf 33 = .ok (.iload 4, 2) by decide +kernel)) (
  mz_cons (mz_iconst 1 (by decide) (show decode cX9_turnOf 35 = .ok (.iconst 1, 1) by decide +kernel)) (
  mz_cons (mz_iload_n (k := 1) (show decode cX9_turnOf 36 = .ok (.iload_n 1, 1) by decide +kernel)) (
  mz_cons (mz_iload (show decode cX9_turnOf 37 = .ok (.iload 5, 2) by decide +kernel)) (
  mz_cons (mz_iconst 1 (by decide) (show decode cX9_turnOf 39 = .ok (.iconst 1, 1) by decide +kernel)) (
  mz_cons (mz_isub (show decode cX9_turnOf 40 = .ok (.isub, 1) by decide +kernel)) (
  mz_cons (mz_invS (n := 2) (ctr_X9_told E) ⟨by decide, by decide, by decide +kernel⟩ ⟨by decide, by decide⟩ mw_732 mw_737 mw_731 mw_69 (show decode cX9_turnOf 41 = .ok (.invokestatic 44, 3) by decide +kernel)) (
  mz_cons (mz_ishl (show decode cX9_turnOf 44 = .ok (.ishl, 1) by decide +kernel)) (
  mz_cons (mz_ior (show decode cX9_turnOf 45 = .ok (.ior, 1) by decide +kernel)) (
  mz_cons (mz_istore (by decide) (show decode cX9_turnOf 46 = .ok (.istore 4, 2) by decide +kernel)) (
  mz_cons (mz_iload (show decode cX9_turnOf 48 = .ok (.iload 4, 2) by decide +kernel)) (
  mz_cons (mz_iload_n (k := 3) (show decode cX9_turnOf 50 = .ok (.iload_n 3, 1) by decide +kernel)) (
  mz_cons (mz_invSN (n := 2) (host := "WettedNet") (ctr_X11_has E) ⟨by decide, by decide, by decide +kernel⟩ ⟨by decide, by decide⟩ mw_604 (by decide +kernel) mw_603 mw_61 (show decode cX9_turnOf 51 = .ok (.invokestatic 47, 3) by decide +kernel)) (
  mz_cons (mz_if_eq 60 (by decide) (show decode cX9_turnOf 54 = .ok (.ifCond .eq 6, 3) by decide +kernel)) (
  mz_cons (mz_iload (show decode cX9_turnOf 57 = .ok (.iload 5, 2) by decide +kernel)) (
  mz_nil))))))))))))))))
noncomputable def ck_X9_turnOf_2 : List (Nat × mz_O) := [(59, .inr (mz_rt mz_isI))]
theorem tk_X9_turnOf_2 (E : List mz_V) : mz_all E tM_X9_turnOf (ck_X9_turnOf_2) :=
  mz_consR (mz_ireturn rfl (show decode cX9_turnOf 59 = .ok (.ireturn, 1) by decide +kernel)) (
  mz_nil)
noncomputable def tb_X9_turnOf : List (Nat × List (Nat × mz_O)) := [(29, ck_X9_turnOf_0), (57, ck_X9_turnOf_1), (59, ck_X9_turnOf_2)]
theorem tok_X9_turnOf (E : List mz_V) : mz_tok E tM_X9_turnOf (tb_X9_turnOf) := mz_tcons (tk_X9_turnOf_0 E) (mz_tcons (tk_X9_turnOf_1 E) (mz_tcons (tk_X9_turnOf_2 E) (mz_tnil)))
noncomputable def rn_X9_turnOf : List mz_V → List mz_C → Option (Option mz_V × List mz_C) := mz_rn tb_X9_turnOf 43 6
theorem ctr_X9_turnOf (E : List mz_V) : mz_ctr E yX9_turnOf tM_X9_turnOf rn_X9_turnOf := mz_ctr_of 43 (tok_X9_turnOf E) (by decide) rfl rfl
abbrev tM_X11_when : mz_M := (cX11_when, 5, (some .int), RX11, "when", 4, 91)
noncomputable def ck_X11_when_0 : List (Nat × mz_O) := [(0, .inl (mz_ld mz_isR 0 1)), (1, .inl (mz_gf 11 0 4)), (4, .inl (mz_ld mz_isI 3 5)), (5, .inl (mz_call rn_X6_isRoom 2 (mz_ckV 6) 8)), (8, .inl (mz_j1 mz_eq0 11 14)), (11, .inl (mz_push (.inl (-2)) 13)), (13, .inr (mz_rt mz_isI)), (14, .inl (mz_ld mz_isI 2 15)), (15, .inl (mz_push (.inl 1) 16)), (16, .inl (mz_push (.inl 8) 18)), (18, .inl (mz_call rn_X11_within 3 mz_ckT 21)), (21, .inl (mz_j1 mz_eq0 24 27)), (24, .inl (mz_push (.inl (-3)) 26)), (26, .inr (mz_rt mz_isI)), (27, .inl (mz_push (.inl 0) 28)), (28, .inl (mz_sto mz_isI mz_p1 4 30))]
theorem tk_X11_when_0 (E : List mz_V) : mz_all E tM_X11_when (ck_X11_when_0) :=
  mz_cons (mz_aload_n (k := 0) (show decode cX11_when 0 = .ok (.aload_n 0, 1) by decide +kernel)) (
  mz_cons (mz_getfield (C := RX11) (T := TX11) (N := 9) rfl mz_inX11 (by decide) mw_330 (show decode cX11_when 1 = .ok (.getfield 18, 3) by decide +kernel)) (
  mz_cons (mz_iload_n (k := 3) (show decode cX11_when 4 = .ok (.iload_n 3, 1) by decide +kernel)) (
  mz_cons (mz_invV (n := 1) (ctr_X6_isRoom E) rfl ⟨by decide, by decide, by decide +kernel⟩ ⟨by decide, by decide⟩ mw_522 mw_539 mw_520 mw_521 mw_65 (show decode cX11_when 5 = .ok (.invokevirtual 129, 3) by decide +kernel)) (
  mz_cons (mz_if_ne 14 (by decide) (show decode cX11_when 8 = .ok (.ifCond .ne 6, 3) by decide +kernel)) (
  mz_cons (mz_bipush (-2) (by decide) (show decode cX11_when 11 = .ok (.bipush (-2), 2) by decide +kernel)) (
  mz_consR (mz_ireturn rfl (show decode cX11_when 13 = .ok (.ireturn, 1) by decide +kernel)) (
  mz_cons (mz_iload_n (k := 2) (show decode cX11_when 14 = .ok (.iload_n 2, 1) by decide +kernel)) (
  mz_cons (mz_iconst 1 (by decide) (show decode cX11_when 15 = .ok (.iconst 1, 1) by decide +kernel)) (
  mz_cons (mz_bipush 8 (by decide) (show decode cX11_when 16 = .ok (.bipush 8, 2) by decide +kernel)) (
  mz_cons (mz_invS (n := 3) (ctr_X11_within E) ⟨by decide, by decide, by decide +kernel⟩ ⟨by decide, by decide⟩ mw_140 mw_362 mw_139 mw_61 (show decode cX11_when 18 = .ok (.invokestatic 88, 3) by decide +kernel)) (
  mz_cons (mz_if_ne 27 (by decide) (show decode cX11_when 21 = .ok (.ifCond .ne 6, 3) by decide +kernel)) (
  mz_cons (mz_bipush (-3) (by decide) (show decode cX11_when 24 = .ok (.bipush (-3), 2) by decide +kernel)) (
  mz_consR (mz_ireturn rfl (show decode cX11_when 26 = .ok (.ireturn, 1) by decide +kernel)) (
  mz_cons (mz_iconst 0 (by decide) (show decode cX11_when 27 = .ok (.iconst 0, 1) by decide +kernel)) (
  mz_cons (mz_istore (by decide) (show decode cX11_when 28 = .ok (.istore 4, 2) by decide +kernel)) (
  mz_nil))))))))))))))))
noncomputable def ck_X11_when_1 : List (Nat × mz_O) := [(30, .inl (mz_ld mz_isI 4 32)), (32, .inl (mz_ld mz_isI 2 33)), (33, .inl (mz_j2 mz_lt 36 61)), (36, .inl (mz_ld mz_isR 0 37)), (37, .inl (mz_gf 11 0 40)), (40, .inl (mz_ld mz_isI 1 41)), (41, .inl (mz_ld mz_isI 4 43)), (43, .inl (mz_call rn_X9_told 2 mz_ckT 46)), (46, .inl (mz_call rn_X6_isRoom 2 (mz_ckV 6) 49)), (49, .inl (mz_j1 mz_eq0 52 55)), (52, .inl (mz_push (.inl (-2)) 54)), (54, .inr (mz_rt mz_isI)), (55, .inl (mz_inc 4 1 58)), (58, .inl (mz_go 30)), (61, .inl (mz_ld mz_isR 0 62)), (62, .inl (mz_gf 11 4 65))]
theorem tk_X11_when_1 (E : List mz_V) : mz_all E tM_X11_when (ck_X11_when_1) :=
  mz_cons (mz_iload (show decode cX11_when 30 = .ok (.iload 4, 2) by decide +kernel)) (
  mz_cons (mz_iload_n (k := 2) (show decode cX11_when 32 = .ok (.iload_n 2, 1) by decide +kernel)) (
  mz_cons (mz_icmp_ge 61 (by decide) (show decode cX11_when 33 = .ok (.if_icmp .ge 28, 3) by decide +kernel)) (
  mz_cons (mz_aload_n (k := 0) (show decode cX11_when 36 = .ok (.aload_n 0, 1) by decide +kernel)) (
  mz_cons (mz_getfield (C := RX11) (T := TX11) (N := 9) rfl mz_inX11 (by decide) mw_330 (show decode cX11_when 37 = .ok (.getfield 18, 3) by decide +kernel)) (
  mz_cons (mz_iload_n (k := 1) (show decode cX11_when 40 = .ok (.iload_n 1, 1) by decide +kernel)) (
  mz_cons (mz_iload (show decode cX11_when 41 = .ok (.iload 4, 2) by decide +kernel)) (
  mz_cons (mz_invS (n := 2) (ctr_X9_told E) ⟨by decide, by decide, by decide +kernel⟩ ⟨by decide, by decide⟩ mw_732 mw_730 mw_731 mw_69 (show decode cX11_when 43 = .ok (.invokestatic 183, 3) by decide +kernel)) (
  mz_cons (mz_invV (n := 1) (ctr_X6_isRoom E) rfl ⟨by decide, by decide, by decide +kernel⟩ ⟨by decide, by decide⟩ mw_522 mw_539 mw_520 mw_521 mw_65 (show decode cX11_when 46 = .ok (.invokevirtual 129, 3) by decide +kernel)) (
  mz_cons (mz_if_ne 55 (by decide) (show decode cX11_when 49 = .ok (.ifCond .ne 6, 3) by decide +kernel)) (
  mz_cons (mz_bipush (-2) (by decide) (show decode cX11_when 52 = .ok (.bipush (-2), 2) by decide +kernel)) (
  mz_consR (mz_ireturn rfl (show decode cX11_when 54 = .ok (.ireturn, 1) by decide +kernel)) (
  mz_cons (mz_iinc 1 (by decide) (by decide) (show decode cX11_when 55 = .ok (.iinc 4 1, 3) by decide +kernel)) (
  mz_cons (mz_goto 30 (by decide) (show decode cX11_when 58 = .ok (.goto (-28), 3) by decide +kernel)) (
  mz_cons (mz_aload_n (k := 0) (show decode cX11_when 61 = .ok (.aload_n 0, 1) by decide +kernel)) (
  mz_cons (mz_getfield (C := RX11) (T := TX11) (N := 9) rfl mz_inX11 (by decide) mw_334 (show decode cX11_when 62 = .ok (.getfield 52, 3) by decide +kernel)) (
  mz_nil))))))))))))))))
noncomputable def ck_X11_when_2 : List (Nat × mz_O) := [(65, .inl (mz_ld mz_isI 1 66)), (66, .inl (mz_ld mz_isI 2 67)), (67, .inl (mz_ld mz_isI 3 68)), (68, .inl (mz_call rn_X9_turnOf 4 (mz_ckV 9) 71)), (71, .inr (mz_rt mz_isI))]
theorem tk_X11_when_2 (E : List mz_V) : mz_all E tM_X11_when (ck_X11_when_2) :=
  mz_cons (mz_iload_n (k := 1) (show decode cX11_when 65 = .ok (.iload_n 1, 1) by decide +kernel)) (
  mz_cons (mz_iload_n (k := 2) (show decode cX11_when 66 = .ok (.iload_n 2, 1) by decide +kernel)) (
  mz_cons (mz_iload_n (k := 3) (show decode cX11_when 67 = .ok (.iload_n 3, 1) by decide +kernel)) (
  mz_cons (mz_invV (n := 3) (ctr_X9_turnOf E) rfl ⟨by decide, by decide, by decide +kernel⟩ ⟨by decide, by decide⟩ mw_736 mw_733 mw_734 mw_735 mw_69 (show decode cX11_when 68 = .ok (.invokevirtual 187, 3) by decide +kernel)) (
  mz_consR (mz_ireturn rfl (show decode cX11_when 71 = .ok (.ireturn, 1) by decide +kernel)) (
  mz_nil)))))
noncomputable def tb_X11_when : List (Nat × List (Nat × mz_O)) := [(28, ck_X11_when_0), (62, ck_X11_when_1), (71, ck_X11_when_2)]
theorem tok_X11_when (E : List mz_V) : mz_tok E tM_X11_when (tb_X11_when) := mz_tcons (tk_X11_when_0 E) (mz_tcons (tk_X11_when_1 E) (mz_tcons (tk_X11_when_2 E) (mz_tnil)))
noncomputable def rn_X11_when : List mz_V → List mz_C → Option (Option mz_V × List mz_C) := mz_rn tb_X11_when 128 5
theorem ctr_X11_when (E : List mz_V) : mz_ctr E yX11_when tM_X11_when rn_X11_when := mz_ctr_of 128 (tok_X11_when E) (by decide) rfl rfl
abbrev tM_X7_add : mz_M := (cX7_add, 2, none, RX7, "add", 1, 22)
noncomputable def ck_X7_add_0 : List (Nat × mz_O) := [(0, .inl (mz_ld mz_isR 0 1)), (1, .inl (mz_gf 7 4 4)), (4, .inl (mz_push (.inl 200) 7)), (7, .inl (mz_j2 mz_lt 10 30)), (10, .inl (mz_ld mz_isR 0 11)), (11, .inl (mz_gf 7 0 14)), (14, .inl (mz_ld mz_isR 0 15)), (15, .inl (mz_gf 7 4 18)), (18, .inl (mz_ld mz_isI 1 19)), (19, .inl (mz_ast false mz_isI 20)), (20, .inl (mz_ld mz_isR 0 21)), (21, .inl (mz_dp 22)), (22, .inl (mz_gf 7 4 25)), (25, .inl (mz_push (.inl 1) 26)), (26, .inl (mz_o2 mz_f_iadd 27)), (27, .inl (mz_pf 7 4 mz_isI 30))]
theorem tk_X7_add_0 (E : List mz_V) : mz_all E tM_X7_add (ck_X7_add_0) :=
  mz_cons (mz_aload_n (k := 0) (show decode cX7_add 0 = .ok (.aload_n 0, 1) by decide +kernel)) (
  mz_cons (mz_getfield (C := RX7) (T := TX7) (N := 8) rfl mz_inX7 (by decide) mw_173 (show decode cX7_add 1 = .ok (.getfield 24, 3) by decide +kernel)) (
  mz_cons (mz_sipush 200 (by decide) (show decode cX7_add 4 = .ok (.sipush 200, 3) by decide +kernel)) (
  mz_cons (mz_icmp_ge 30 (by decide) (show decode cX7_add 7 = .ok (.if_icmp .ge 23, 3) by decide +kernel)) (
  mz_cons (mz_aload_n (k := 0) (show decode cX7_add 10 = .ok (.aload_n 0, 1) by decide +kernel)) (
  mz_cons (mz_getfield (C := RX7) (T := TX7) (N := 8) rfl mz_inX7 (by decide) mw_169 (show decode cX7_add 11 = .ok (.getfield 9, 3) by decide +kernel)) (
  mz_cons (mz_aload_n (k := 0) (show decode cX7_add 14 = .ok (.aload_n 0, 1) by decide +kernel)) (
  mz_cons (mz_getfield (C := RX7) (T := TX7) (N := 8) rfl mz_inX7 (by decide) mw_173 (show decode cX7_add 15 = .ok (.getfield 24, 3) by decide +kernel)) (
  mz_cons (mz_iload_n (k := 1) (show decode cX7_add 18 = .ok (.iload_n 1, 1) by decide +kernel)) (
  mz_cons (mz_iastore (show decode cX7_add 19 = .ok (.iastore, 1) by decide +kernel)) (
  mz_cons (mz_aload_n (k := 0) (show decode cX7_add 20 = .ok (.aload_n 0, 1) by decide +kernel)) (
  mz_cons (mz_dup (show decode cX7_add 21 = .ok (.dup, 1) by decide +kernel)) (
  mz_cons (mz_getfield (C := RX7) (T := TX7) (N := 8) rfl mz_inX7 (by decide) mw_173 (show decode cX7_add 22 = .ok (.getfield 24, 3) by decide +kernel)) (
  mz_cons (mz_iconst 1 (by decide) (show decode cX7_add 25 = .ok (.iconst 1, 1) by decide +kernel)) (
  mz_cons (mz_iadd (show decode cX7_add 26 = .ok (.iadd, 1) by decide +kernel)) (
  mz_cons (mz_putfield (C := RX7) (T := TX7) (N := 8) rfl mz_inX7 tyX7_ok nmX7 (by decide) mz_fit_int rfl mw_173 (show decode cX7_add 27 = .ok (.putfield 24, 3) by decide +kernel)) (
  mz_nil))))))))))))))))
noncomputable def ck_X7_add_1 : List (Nat × mz_O) := [(30, .inr (mz_rv))]
theorem tk_X7_add_1 (E : List mz_V) : mz_all E tM_X7_add (ck_X7_add_1) :=
  mz_consR (mz_return rfl (show decode cX7_add 30 = .ok (.return_, 1) by decide +kernel)) (
  mz_nil)
noncomputable def tb_X7_add : List (Nat × List (Nat × mz_O)) := [(27, ck_X7_add_0), (30, ck_X7_add_1)]
theorem tok_X7_add (E : List mz_V) : mz_tok E tM_X7_add (tb_X7_add) := mz_tcons (tk_X7_add_0 E) (mz_tcons (tk_X7_add_1 E) (mz_tnil))
noncomputable def rn_X7_add : List mz_V → List mz_C → Option (Option mz_V × List mz_C) := mz_rn tb_X7_add 27 2
theorem ctr_X7_add (E : List mz_V) : mz_ctr E yX7_add tM_X7_add rn_X7_add := mz_ctr_of 27 (tok_X7_add E) (by decide) rfl rfl
abbrev tM_X11_write : mz_M := (cX11_write, 5, (some .int), RX11, "write", 2, 44)
noncomputable def ck_X11_write_0 : List (Nat × mz_O) := [(0, .inl (mz_ld mz_isI 3 1)), (1, .inl (mz_push (.inl 1) 2)), (2, .inl (mz_push (.inl 8) 4)), (4, .inl (mz_call rn_X11_within 3 mz_ckT 7)), (7, .inl (mz_j1 mz_eq0 10 13)), (10, .inl (mz_push (.inl (-3)) 12)), (12, .inr (mz_rt mz_isI)), (13, .inl (mz_ld mz_isR 0 14)), (14, .inl (mz_gf 11 1 17)), (17, .inl (mz_call rn_X7_size 1 (mz_ckV 7) 20)), (20, .inl (mz_ld mz_isI 3 21)), (21, .inl (mz_o2 mz_f_iadd 22)), (22, .inl (mz_push (.inl 200) 25)), (25, .inl (mz_j2 mz_gt 28 31)), (31, .inl (mz_push (.inl 0) 32)), (32, .inl (mz_sto mz_isI mz_p1 4 34))]
theorem tk_X11_write_0 (E : List mz_V) : mz_all E tM_X11_write (ck_X11_write_0) :=
  mz_cons (mz_iload_n (k := 3) (show decode cX11_write 0 = .ok (.iload_n 3, 1) by decide +kernel)) (
  mz_cons (mz_iconst 1 (by decide) (show decode cX11_write 1 = .ok (.iconst 1, 1) by decide +kernel)) (
  mz_cons (mz_bipush 8 (by decide) (show decode cX11_write 2 = .ok (.bipush 8, 2) by decide +kernel)) (
  mz_cons (mz_invS (n := 3) (ctr_X11_within E) ⟨by decide, by decide, by decide +kernel⟩ ⟨by decide, by decide⟩ mw_140 mw_362 mw_139 mw_61 (show decode cX11_write 4 = .ok (.invokestatic 88, 3) by decide +kernel)) (
  mz_cons (mz_if_ne 13 (by decide) (show decode cX11_write 7 = .ok (.ifCond .ne 6, 3) by decide +kernel)) (
  mz_cons (mz_bipush (-3) (by decide) (show decode cX11_write 10 = .ok (.bipush (-3), 2) by decide +kernel)) (
  mz_consR (mz_ireturn rfl (show decode cX11_write 12 = .ok (.ireturn, 1) by decide +kernel)) (
  mz_cons (mz_aload_n (k := 0) (show decode cX11_write 13 = .ok (.aload_n 0, 1) by decide +kernel)) (
  mz_cons (mz_getfield (C := RX11) (T := TX11) (N := 9) rfl mz_inX11 (by decide) mw_331 (show decode cX11_write 14 = .ok (.getfield 25, 3) by decide +kernel)) (
  mz_cons (mz_invV (n := 0) (ctr_X7_size E) rfl ⟨by decide, by decide, by decide +kernel⟩ ⟨by decide, by decide⟩ mw_366 mw_363 mw_364 mw_365 mw_66 (show decode cX11_write 17 = .ok (.invokevirtual 92, 3) by decide +kernel)) (
  mz_cons (mz_iload_n (k := 3) (show decode cX11_write 20 = .ok (.iload_n 3, 1) by decide +kernel)) (
  mz_cons (mz_iadd (show decode cX11_write 21 = .ok (.iadd, 1) by decide +kernel)) (
  mz_cons (mz_sipush 200 (by decide) (show decode cX11_write 22 = .ok (.sipush 200, 3) by decide +kernel)) (
  mz_cons (mz_icmp_le 31 (by decide) (show decode cX11_write 25 = .ok (.if_icmp .le 6, 3) by decide +kernel)) (
  mz_cons (mz_iconst 0 (by decide) (show decode cX11_write 31 = .ok (.iconst 0, 1) by decide +kernel)) (
  mz_cons (mz_istore (by decide) (show decode cX11_write 32 = .ok (.istore 4, 2) by decide +kernel)) (
  mz_nil))))))))))))))))
noncomputable def ck_X11_write_1 : List (Nat × mz_O) := [(34, .inl (mz_ld mz_isI 4 36)), (36, .inl (mz_ld mz_isI 3 37)), (37, .inl (mz_j2 mz_lt 40 65)), (40, .inl (mz_ld mz_isR 0 41)), (41, .inl (mz_gf 11 1 44)), (44, .inl (mz_ld mz_isL 1 45)), (45, .inl (mz_push (.inl 8) 47)), (47, .inl (mz_ld mz_isI 4 49)), (49, .inl (mz_o2 mz_f_imul 50)), (50, .inl (mz_o2 mz_f_lshr 51)), (51, .inl (mz_o1 mz_f_l2i 52)), (52, .inl (mz_push (.inl 255) 55)), (55, .inl (mz_o2 mz_f_iand 56)), (56, .inl (mz_call rn_X7_add 2 (mz_ckV 7) 59)), (59, .inl (mz_inc 4 1 62)), (62, .inl (mz_go 34))]
theorem tk_X11_write_1 (E : List mz_V) : mz_all E tM_X11_write (ck_X11_write_1) :=
  mz_cons (mz_iload (show decode cX11_write 34 = .ok (.iload 4, 2) by decide +kernel)) (
  mz_cons (mz_iload_n (k := 3) (show decode cX11_write 36 = .ok (.iload_n 3, 1) by decide +kernel)) (
  mz_cons (mz_icmp_ge 65 (by decide) (show decode cX11_write 37 = .ok (.if_icmp .ge 28, 3) by decide +kernel)) (
  mz_cons (mz_aload_n (k := 0) (show decode cX11_write 40 = .ok (.aload_n 0, 1) by decide +kernel)) (
  mz_cons (mz_getfield (C := RX11) (T := TX11) (N := 9) rfl mz_inX11 (by decide) mw_331 (show decode cX11_write 41 = .ok (.getfield 25, 3) by decide +kernel)) (
  mz_cons (mz_lload_n (k := 1) (show decode cX11_write 44 = .ok (.lload_n 1, 1) by decide +kernel)) (
  mz_cons (mz_bipush 8 (by decide) (show decode cX11_write 45 = .ok (.bipush 8, 2) by decide +kernel)) (
  mz_cons (mz_iload (show decode cX11_write 47 = .ok (.iload 4, 2) by decide +kernel)) (
  mz_cons (mz_imul (show decode cX11_write 49 = .ok (.imul, 1) by decide +kernel)) (
  mz_cons (mz_lshr (show decode cX11_write 50 = .ok (.lshr, 1) by decide +kernel)) (
  mz_cons (mz_l2i (show decode cX11_write 51 = .ok (.l2i, 1) by decide +kernel)) (
  mz_cons (mz_sipush 255 (by decide) (show decode cX11_write 52 = .ok (.sipush 255, 3) by decide +kernel)) (
  mz_cons (mz_iand (show decode cX11_write 55 = .ok (.iand, 1) by decide +kernel)) (
  mz_cons (mz_invV (n := 1) (ctr_X7_add E) rfl ⟨by decide, by decide, by decide +kernel⟩ ⟨by decide, by decide⟩ mw_370 mw_367 mw_368 mw_369 mw_66 (show decode cX11_write 56 = .ok (.invokevirtual 96, 3) by decide +kernel)) (
  mz_cons (mz_iinc 1 (by decide) (by decide) (show decode cX11_write 59 = .ok (.iinc 4 1, 3) by decide +kernel)) (
  mz_cons (mz_goto 34 (by decide) (show decode cX11_write 62 = .ok (.goto (-28), 3) by decide +kernel)) (
  mz_nil))))))))))))))))
noncomputable def ck_X11_write_2 : List (Nat × mz_O) := [(65, .inl (mz_ld mz_isR 0 66)), (66, .inl (mz_gf 11 1 69)), (69, .inl (mz_call rn_X7_size 1 (mz_ckV 7) 72)), (72, .inr (mz_rt mz_isI))]
theorem tk_X11_write_2 (E : List mz_V) : mz_all E tM_X11_write (ck_X11_write_2) :=
  mz_cons (mz_aload_n (k := 0) (show decode cX11_write 65 = .ok (.aload_n 0, 1) by decide +kernel)) (
  mz_cons (mz_getfield (C := RX11) (T := TX11) (N := 9) rfl mz_inX11 (by decide) mw_331 (show decode cX11_write 66 = .ok (.getfield 25, 3) by decide +kernel)) (
  mz_cons (mz_invV (n := 0) (ctr_X7_size E) rfl ⟨by decide, by decide, by decide +kernel⟩ ⟨by decide, by decide⟩ mw_366 mw_363 mw_364 mw_365 mw_66 (show decode cX11_write 69 = .ok (.invokevirtual 92, 3) by decide +kernel)) (
  mz_consR (mz_ireturn rfl (show decode cX11_write 72 = .ok (.ireturn, 1) by decide +kernel)) (
  mz_nil))))
noncomputable def tb_X11_write : List (Nat × List (Nat × mz_O)) := [(32, ck_X11_write_0), (62, ck_X11_write_1), (72, ck_X11_write_2)]
theorem tok_X11_write (E : List mz_V) : mz_tok E tM_X11_write (tb_X11_write) := mz_tcons (tk_X11_write_0 E) (mz_tcons (tk_X11_write_1 E) (mz_tcons (tk_X11_write_2 E) (mz_tnil)))
noncomputable def rn_X11_write : List mz_V → List mz_C → Option (Option mz_V × List mz_C) := mz_rn tb_X11_write 159 5
theorem ctr_X11_write (E : List mz_V) : mz_ctr E yX11_write tM_X11_write rn_X11_write := mz_ctr_of 159 (tok_X11_write E) (by decide) rfl rfl
abbrev tM_X12_all : mz_M := (cX12_all, 1, (some .int), RX12, "all", 1, 22)
noncomputable def ck_X12_all_0 : List (Nat × mz_O) := [(0, .inl (mz_push (.inl 1) 1)), (1, .inl (mz_ld mz_isR 0 2)), (2, .inl (mz_gf 12 4 5)), (5, .inl (mz_o2 mz_f_ishl 6)), (6, .inl (mz_push (.inl 1) 7)), (7, .inl (mz_o2 mz_f_isub 8)), (8, .inr (mz_rt mz_isI))]
theorem tk_X12_all_0 (E : List mz_V) : mz_all E tM_X12_all (ck_X12_all_0) :=
  mz_cons (mz_iconst 1 (by decide) (show decode cX12_all 0 = .ok (.iconst 1, 1) by decide +kernel)) (
  mz_cons (mz_aload_n (k := 0) (show decode cX12_all 1 = .ok (.aload_n 0, 1) by decide +kernel)) (
  mz_cons (mz_getfield (C := RX12) (T := TX12) (N := 29) rfl mz_inX12 (by decide) mw_976 (show decode cX12_all 2 = .ok (.getfield 16, 3) by decide +kernel)) (
  mz_cons (mz_ishl (show decode cX12_all 5 = .ok (.ishl, 1) by decide +kernel)) (
  mz_cons (mz_iconst 1 (by decide) (show decode cX12_all 6 = .ok (.iconst 1, 1) by decide +kernel)) (
  mz_cons (mz_isub (show decode cX12_all 7 = .ok (.isub, 1) by decide +kernel)) (
  mz_consR (mz_ireturn rfl (show decode cX12_all 8 = .ok (.ireturn, 1) by decide +kernel)) (
  mz_nil)))))))
noncomputable def tb_X12_all : List (Nat × List (Nat × mz_O)) := [(8, ck_X12_all_0)]
theorem tok_X12_all (E : List mz_V) : mz_tok E tM_X12_all (tb_X12_all) := mz_tcons (tk_X12_all_0 E) (mz_tnil)
noncomputable def rn_X12_all : List mz_V → List mz_C → Option (Option mz_V × List mz_C) := mz_rn tb_X12_all 17 1
theorem ctr_X12_all (E : List mz_V) : mz_ctr E yX12_all tM_X12_all rn_X12_all := mz_ctr_of 17 (tok_X12_all E) (by decide) rfl rfl
abbrev tM_X12_has : mz_M := (cX12_has, 2, (some .boolean), RX12, "has", 1, 22)
noncomputable def ck_X12_has_0 : List (Nat × mz_O) := [(0, .inl (mz_ld mz_isI 0 1)), (1, .inl (mz_ld mz_isI 1 2)), (2, .inl (mz_o2 mz_f_ishr 3)), (3, .inl (mz_push (.inl 1) 4)), (4, .inl (mz_o2 mz_f_iand 5)), (5, .inl (mz_push (.inl 1) 6)), (6, .inl (mz_j2 mz_eq 9 13)), (9, .inl (mz_push (.inl 1) 10)), (10, .inl (mz_go 14)), (13, .inl (mz_push (.inl 0) 14)), (14, .inr (mz_rt mz_is01))]
theorem tk_X12_has_0 (E : List mz_V) : mz_all E tM_X12_has (ck_X12_has_0) :=
  mz_cons (mz_iload_n (k := 0) (show decode cX12_has 0 = .ok (.iload_n 0, 1) by decide +kernel)) (
  mz_cons (mz_iload_n (k := 1) (show decode cX12_has 1 = .ok (.iload_n 1, 1) by decide +kernel)) (
  mz_cons (mz_ishr (show decode cX12_has 2 = .ok (.ishr, 1) by decide +kernel)) (
  mz_cons (mz_iconst 1 (by decide) (show decode cX12_has 3 = .ok (.iconst 1, 1) by decide +kernel)) (
  mz_cons (mz_iand (show decode cX12_has 4 = .ok (.iand, 1) by decide +kernel)) (
  mz_cons (mz_iconst 1 (by decide) (show decode cX12_has 5 = .ok (.iconst 1, 1) by decide +kernel)) (
  mz_cons (mz_icmp_ne 13 (by decide) (show decode cX12_has 6 = .ok (.if_icmp .ne 7, 3) by decide +kernel)) (
  mz_cons (mz_iconst 1 (by decide) (show decode cX12_has 9 = .ok (.iconst 1, 1) by decide +kernel)) (
  mz_cons (mz_goto 14 (by decide) (show decode cX12_has 10 = .ok (.goto 4, 3) by decide +kernel)) (
  mz_cons (mz_iconst 0 (by decide) (show decode cX12_has 13 = .ok (.iconst 0, 1) by decide +kernel)) (
  mz_consR (mz_zreturn rfl (show decode cX12_has 14 = .ok (.ireturn, 1) by decide +kernel)) (
  mz_nil)))))))))))
noncomputable def tb_X12_has : List (Nat × List (Nat × mz_O)) := [(14, ck_X12_has_0)]
theorem tok_X12_has (E : List mz_V) : mz_tok E tM_X12_has (tb_X12_has) := mz_tcons (tk_X12_has_0 E) (mz_tnil)
noncomputable def rn_X12_has : List mz_V → List mz_C → Option (Option mz_V × List mz_C) := mz_rn tb_X12_has 20 2
theorem ctr_X12_has (E : List mz_V) : mz_ctr E yX12_has tM_X12_has rn_X12_has := mz_ctr_of 20 (tok_X12_has E) (by decide) rfl rfl
abbrev tM_X12_atOf : mz_M := (cX12_atOf, 4, (some .int), RX12, "atOf", 2, 43)
noncomputable def ck_X12_atOf_0 : List (Nat × mz_O) := [(0, .inl (mz_push (.inl 0) 1)), (1, .inl (mz_sto mz_isI mz_p1 2 2)), (2, .inl (mz_push (.inl 0) 3)), (3, .inl (mz_sto mz_isI mz_p1 3 4)), (4, .inl (mz_ld mz_isI 3 5)), (5, .inl (mz_ld mz_isR 0 6)), (6, .inl (mz_gf 12 4 9)), (9, .inl (mz_j2 mz_lt 12 41)), (12, .inl (mz_ld mz_isI 2 13)), (13, .inl (mz_ld mz_isR 0 14)), (14, .inl (mz_gf 12 5 17)), (17, .inl (mz_ld mz_isI 3 18)), (18, .inl (mz_al false 19)), (19, .inl (mz_ld mz_isI 1 20)), (20, .inl (mz_call rn_X12_has 2 mz_ckT 23)), (23, .inl (mz_j1 mz_eq0 32 26))]
theorem tk_X12_atOf_0 (E : List mz_V) : mz_all E tM_X12_atOf (ck_X12_atOf_0) :=
  mz_cons (mz_iconst 0 (by decide) (show decode cX12_atOf 0 = .ok (.iconst 0, 1) by decide +kernel)) (
  mz_cons (mz_istore_n (k := 2) (by decide) (show decode cX12_atOf 1 = .ok (.istore_n 2, 1) by decide +kernel)) (
  mz_cons (mz_iconst 0 (by decide) (show decode cX12_atOf 2 = .ok (.iconst 0, 1) by decide +kernel)) (
  mz_cons (mz_istore_n (k := 3) (by decide) (show decode cX12_atOf 3 = .ok (.istore_n 3, 1) by decide +kernel)) (
  mz_cons (mz_iload_n (k := 3) (show decode cX12_atOf 4 = .ok (.iload_n 3, 1) by decide +kernel)) (
  mz_cons (mz_aload_n (k := 0) (show decode cX12_atOf 5 = .ok (.aload_n 0, 1) by decide +kernel)) (
  mz_cons (mz_getfield (C := RX12) (T := TX12) (N := 29) rfl mz_inX12 (by decide) mw_976 (show decode cX12_atOf 6 = .ok (.getfield 16, 3) by decide +kernel)) (
  mz_cons (mz_icmp_ge 41 (by decide) (show decode cX12_atOf 9 = .ok (.if_icmp .ge 32, 3) by decide +kernel)) (
  mz_cons (mz_iload_n (k := 2) (show decode cX12_atOf 12 = .ok (.iload_n 2, 1) by decide +kernel)) (
  mz_cons (mz_aload_n (k := 0) (show decode cX12_atOf 13 = .ok (.aload_n 0, 1) by decide +kernel)) (
  mz_cons (mz_getfield (C := RX12) (T := TX12) (N := 29) rfl mz_inX12 (by decide) mw_977 (show decode cX12_atOf 14 = .ok (.getfield 20, 3) by decide +kernel)) (
  mz_cons (mz_iload_n (k := 3) (show decode cX12_atOf 17 = .ok (.iload_n 3, 1) by decide +kernel)) (
  mz_cons (mz_iaload (show decode cX12_atOf 18 = .ok (.iaload, 1) by decide +kernel)) (
  mz_cons (mz_iload_n (k := 1) (show decode cX12_atOf 19 = .ok (.iload_n 1, 1) by decide +kernel)) (
  mz_cons (mz_invS (n := 2) (ctr_X12_has E) ⟨by decide, by decide, by decide +kernel⟩ ⟨by decide, by decide⟩ mw_1131 mw_1129 mw_1130 mw_74 (show decode cX12_atOf 20 = .ok (.invokestatic 134, 3) by decide +kernel)) (
  mz_cons (mz_if_eq 32 (by decide) (show decode cX12_atOf 23 = .ok (.ifCond .eq 9, 3) by decide +kernel)) (
  mz_nil))))))))))))))))
noncomputable def ck_X12_atOf_1 : List (Nat × mz_O) := [(32, .inl (mz_push (.inl 0) 33)), (33, .inl (mz_o2 mz_f_ior 34)), (34, .inl (mz_sto mz_isI mz_p1 2 35)), (35, .inl (mz_inc 3 1 38)), (38, .inl (mz_go 4)), (41, .inl (mz_ld mz_isI 2 42)), (42, .inr (mz_rt mz_isI))]
theorem tk_X12_atOf_1 (E : List mz_V) : mz_all E tM_X12_atOf (ck_X12_atOf_1) :=
  mz_cons (mz_iconst 0 (by decide) (show decode cX12_atOf 32 = .ok (.iconst 0, 1) by decide +kernel)) (
  mz_cons (mz_ior (show decode cX12_atOf 33 = .ok (.ior, 1) by decide +kernel)) (
  mz_cons (mz_istore_n (k := 2) (by decide) (show decode cX12_atOf 34 = .ok (.istore_n 2, 1) by decide +kernel)) (
  mz_cons (mz_iinc 1 (by decide) (by decide) (show decode cX12_atOf 35 = .ok (.iinc 3 1, 3) by decide +kernel)) (
  mz_cons (mz_goto 4 (by decide) (show decode cX12_atOf 38 = .ok (.goto (-34), 3) by decide +kernel)) (
  mz_cons (mz_iload_n (k := 2) (show decode cX12_atOf 41 = .ok (.iload_n 2, 1) by decide +kernel)) (
  mz_consR (mz_ireturn rfl (show decode cX12_atOf 42 = .ok (.ireturn, 1) by decide +kernel)) (
  mz_nil)))))))
noncomputable def tb_X12_atOf : List (Nat × List (Nat × mz_O)) := [(23, ck_X12_atOf_0), (42, ck_X12_atOf_1)]
theorem tok_X12_atOf (E : List mz_V) : mz_tok E tM_X12_atOf (tb_X12_atOf) := mz_tcons (tk_X12_atOf_0 E) (mz_tcons (tk_X12_atOf_1 E) (mz_tnil))
noncomputable def rn_X12_atOf : List mz_V → List mz_C → Option (Option mz_V × List mz_C) := mz_rn tb_X12_atOf 37 4
theorem ctr_X12_atOf (E : List mz_V) : mz_ctr E yX12_atOf tM_X12_atOf rn_X12_atOf := mz_ctr_of 37 (tok_X12_atOf E) (by decide) rfl rfl
abbrev tM_X12_many : mz_M := (cX12_many, 3, (some .int), RX12, "many", 1, 22)
noncomputable def ck_X12_many_0 : List (Nat × mz_O) := [(0, .inl (mz_push (.inl 0) 1)), (1, .inl (mz_sto mz_isI mz_p1 1 2)), (2, .inl (mz_push (.inl 0) 3)), (3, .inl (mz_sto mz_isI mz_p1 2 4)), (4, .inl (mz_ld mz_isI 2 5)), (5, .inl (mz_push (.inl 9) 7)), (7, .inl (mz_j2 mz_lt 10 24)), (10, .inl (mz_ld mz_isI 1 11)), (11, .inl (mz_ld mz_isI 0 12)), (12, .inl (mz_ld mz_isI 2 13)), (13, .inl (mz_o2 mz_f_ishr 14)), (14, .inl (mz_push (.inl 1) 15)), (15, .inl (mz_o2 mz_f_iand 16)), (16, .inl (mz_o2 mz_f_iadd 17)), (17, .inl (mz_sto mz_isI mz_p1 1 18)), (18, .inl (mz_inc 2 1 21))]
theorem tk_X12_many_0 (E : List mz_V) : mz_all E tM_X12_many (ck_X12_many_0) :=
  mz_cons (mz_iconst 0 (by decide) (show decode cX12_many 0 = .ok (.iconst 0, 1) by decide +kernel)) (
  mz_cons (mz_istore_n (k := 1) (by decide) (show decode cX12_many 1 = .ok (.istore_n 1, 1) by decide +kernel)) (
  mz_cons (mz_iconst 0 (by decide) (show decode cX12_many 2 = .ok (.iconst 0, 1) by decide +kernel)) (
  mz_cons (mz_istore_n (k := 2) (by decide) (show decode cX12_many 3 = .ok (.istore_n 2, 1) by decide +kernel)) (
  mz_cons (mz_iload_n (k := 2) (show decode cX12_many 4 = .ok (.iload_n 2, 1) by decide +kernel)) (
  mz_cons (mz_bipush 9 (by decide) (show decode cX12_many 5 = .ok (.bipush 9, 2) by decide +kernel)) (
  mz_cons (mz_icmp_ge 24 (by decide) (show decode cX12_many 7 = .ok (.if_icmp .ge 17, 3) by decide +kernel)) (
  mz_cons (mz_iload_n (k := 1) (show decode cX12_many 10 = .ok (.iload_n 1, 1) by decide +kernel)) (
  mz_cons (mz_iload_n (k := 0) (show decode cX12_many 11 = .ok (.iload_n 0, 1) by decide +kernel)) (
  mz_cons (mz_iload_n (k := 2) (show decode cX12_many 12 = .ok (.iload_n 2, 1) by decide +kernel)) (
  mz_cons (mz_ishr (show decode cX12_many 13 = .ok (.ishr, 1) by decide +kernel)) (
  mz_cons (mz_iconst 1 (by decide) (show decode cX12_many 14 = .ok (.iconst 1, 1) by decide +kernel)) (
  mz_cons (mz_iand (show decode cX12_many 15 = .ok (.iand, 1) by decide +kernel)) (
  mz_cons (mz_iadd (show decode cX12_many 16 = .ok (.iadd, 1) by decide +kernel)) (
  mz_cons (mz_istore_n (k := 1) (by decide) (show decode cX12_many 17 = .ok (.istore_n 1, 1) by decide +kernel)) (
  mz_cons (mz_iinc 1 (by decide) (by decide) (show decode cX12_many 18 = .ok (.iinc 2 1, 3) by decide +kernel)) (
  mz_nil))))))))))))))))
noncomputable def ck_X12_many_1 : List (Nat × mz_O) := [(21, .inl (mz_go 4)), (24, .inl (mz_ld mz_isI 1 25)), (25, .inr (mz_rt mz_isI))]
theorem tk_X12_many_1 (E : List mz_V) : mz_all E tM_X12_many (ck_X12_many_1) :=
  mz_cons (mz_goto 4 (by decide) (show decode cX12_many 21 = .ok (.goto (-17), 3) by decide +kernel)) (
  mz_cons (mz_iload_n (k := 1) (show decode cX12_many 24 = .ok (.iload_n 1, 1) by decide +kernel)) (
  mz_consR (mz_ireturn rfl (show decode cX12_many 25 = .ok (.ireturn, 1) by decide +kernel)) (
  mz_nil)))
noncomputable def tb_X12_many : List (Nat × List (Nat × mz_O)) := [(18, ck_X12_many_0), (25, ck_X12_many_1)]
theorem tok_X12_many (E : List mz_V) : mz_tok E tM_X12_many (tb_X12_many) := mz_tcons (tk_X12_many_0 E) (mz_tcons (tk_X12_many_1 E) (mz_tnil))
noncomputable def rn_X12_many : List mz_V → List mz_C → Option (Option mz_V × List mz_C) := mz_rn tb_X12_many 136 3
theorem ctr_X12_many (E : List mz_V) : mz_ctr E yX12_many tM_X12_many rn_X12_many := mz_ctr_of 136 (tok_X12_many E) (by decide) rfl rfl
abbrev tM_X12_caughtBy : mz_M := (cX12_caughtBy, 5, (some .int), RX12, "caughtBy", 3, 66)
noncomputable def ck_X12_caughtBy_0 : List (Nat × mz_O) := [(0, .inl (mz_ld mz_isI 1 1)), (1, .inl (mz_sto mz_isI mz_p1 3 2)), (2, .inl (mz_push (.inl 0) 3)), (3, .inl (mz_sto mz_isI mz_p1 4 5)), (5, .inl (mz_ld mz_isI 4 7)), (7, .inl (mz_ld mz_isR 0 8)), (8, .inl (mz_gf 12 4 11)), (11, .inl (mz_j2 mz_lt 14 61)), (14, .inl (mz_ld mz_isI 3 15)), (15, .inl (mz_ld mz_isI 2 16)), (16, .inl (mz_ld mz_isI 4 18)), (18, .inl (mz_call rn_X12_has 2 mz_ckT 21)), (21, .inl (mz_j1 mz_eq0 24 52)), (24, .inl (mz_ld mz_isR 0 25)), (25, .inl (mz_ld mz_isI 4 27)), (27, .inl (mz_call rn_X12_atOf 2 (mz_ckV 12) 30))]
theorem tk_X12_caughtBy_0 (E : List mz_V) : mz_all E tM_X12_caughtBy (ck_X12_caughtBy_0) :=
  mz_cons (mz_iload_n (k := 1) (show decode cX12_caughtBy 0 = .ok (.iload_n 1, 1) by decide +kernel)) (
  mz_cons (mz_istore_n (k := 3) (by decide) (show decode cX12_caughtBy 1 = .ok (.istore_n 3, 1) by decide +kernel)) (
  mz_cons (mz_iconst 0 (by decide) (show decode cX12_caughtBy 2 = .ok (.iconst 0, 1) by decide +kernel)) (
  mz_cons (mz_istore (by decide) (show decode cX12_caughtBy 3 = .ok (.istore 4, 2) by decide +kernel)) (
  mz_cons (mz_iload (show decode cX12_caughtBy 5 = .ok (.iload 4, 2) by decide +kernel)) (
  mz_cons (mz_aload_n (k := 0) (show decode cX12_caughtBy 7 = .ok (.aload_n 0, 1) by decide +kernel)) (
  mz_cons (mz_getfield (C := RX12) (T := TX12) (N := 29) rfl mz_inX12 (by decide) mw_976 (show decode cX12_caughtBy 8 = .ok (.getfield 16, 3) by decide +kernel)) (
  mz_cons (mz_icmp_ge 61 (by decide) (show decode cX12_caughtBy 11 = .ok (.if_icmp .ge 50, 3) by decide +kernel)) (
  mz_cons (mz_iload_n (k := 3) (show decode cX12_caughtBy 14 = .ok (.iload_n 3, 1) by decide +kernel)) (
  mz_cons (mz_iload_n (k := 2) (show decode cX12_caughtBy 15 = .ok (.iload_n 2, 1) by decide +kernel)) (
  mz_cons (mz_iload (show decode cX12_caughtBy 16 = .ok (.iload 4, 2) by decide +kernel)) (
  mz_cons (mz_invS (n := 2) (ctr_X12_has E) ⟨by decide, by decide, by decide +kernel⟩ ⟨by decide, by decide⟩ mw_1131 mw_1129 mw_1130 mw_74 (show decode cX12_caughtBy 18 = .ok (.invokestatic 134, 3) by decide +kernel)) (
  mz_cons (mz_if_ne 52 (by decide) (show decode cX12_caughtBy 21 = .ok (.ifCond .ne 31, 3) by decide +kernel)) (
  mz_cons (mz_aload_n (k := 0) (show decode cX12_caughtBy 24 = .ok (.aload_n 0, 1) by decide +kernel)) (
  mz_cons (mz_iload (show decode cX12_caughtBy 25 = .ok (.iload 4, 2) by decide +kernel)) (
  mz_cons (mz_invV (n := 1) (ctr_X12_atOf E) rfl ⟨by decide, by decide, by decide +kernel⟩ ⟨by decide, by decide⟩ mw_1128 mw_1125 mw_1127 mw_38 mw_74 (show decode cX12_caughtBy 27 = .ok (.invokevirtual 140, 3) by decide +kernel)) (
  mz_nil))))))))))))))))
noncomputable def ck_X12_caughtBy_1 : List (Nat × mz_O) := [(30, .inl (mz_ld mz_isI 1 31)), (31, .inl (mz_o2 mz_f_iand 32)), (32, .inl (mz_call rn_X12_many 1 mz_ckT 35)), (35, .inl (mz_ld mz_isR 0 36)), (36, .inl (mz_gf 12 7 39)), (39, .inl (mz_ld mz_isI 4 41)), (41, .inl (mz_al false 42)), (42, .inl (mz_j2 mz_lt 52 45)), (52, .inl (mz_push (.inl 0) 53)), (53, .inl (mz_o2 mz_f_ior 54)), (54, .inl (mz_sto mz_isI mz_p1 3 55)), (55, .inl (mz_inc 4 1 58)), (58, .inl (mz_go 5)), (61, .inl (mz_ld mz_isI 3 62)), (62, .inr (mz_rt mz_isI))]
theorem tk_X12_caughtBy_1 (E : List mz_V) : mz_all E tM_X12_caughtBy (ck_X12_caughtBy_1) :=
  mz_cons (mz_iload_n (k := 1) (show decode cX12_caughtBy 30 = .ok (.iload_n 1, 1) by decide +kernel)) (
  mz_cons (mz_iand (show decode cX12_caughtBy 31 = .ok (.iand, 1) by decide +kernel)) (
  mz_cons (mz_invS (n := 1) (ctr_X12_many E) ⟨by decide, by decide, by decide +kernel⟩ ⟨by decide, by decide⟩ mw_1151 mw_1149 mw_1150 mw_74 (show decode cX12_caughtBy 32 = .ok (.invokestatic 143, 3) by decide +kernel)) (
  mz_cons (mz_aload_n (k := 0) (show decode cX12_caughtBy 35 = .ok (.aload_n 0, 1) by decide +kernel)) (
  mz_cons (mz_getfield (C := RX12) (T := TX12) (N := 29) rfl mz_inX12 (by decide) mw_979 (show decode cX12_caughtBy 36 = .ok (.getfield 26, 3) by decide +kernel)) (
  mz_cons (mz_iload (show decode cX12_caughtBy 39 = .ok (.iload 4, 2) by decide +kernel)) (
  mz_cons (mz_iaload (show decode cX12_caughtBy 41 = .ok (.iaload, 1) by decide +kernel)) (
  mz_cons (mz_icmp_lt 52 (by decide) (show decode cX12_caughtBy 42 = .ok (.if_icmp .lt 10, 3) by decide +kernel)) (
  mz_cons (mz_iconst 0 (by decide) (show decode cX12_caughtBy 52 = .ok (.iconst 0, 1) by decide +kernel)) (
  mz_cons (mz_ior (show decode cX12_caughtBy 53 = .ok (.ior, 1) by decide +kernel)) (
  mz_cons (mz_istore_n (k := 3) (by decide) (show decode cX12_caughtBy 54 = .ok (.istore_n 3, 1) by decide +kernel)) (
  mz_cons (mz_iinc 1 (by decide) (by decide) (show decode cX12_caughtBy 55 = .ok (.iinc 4 1, 3) by decide +kernel)) (
  mz_cons (mz_goto 5 (by decide) (show decode cX12_caughtBy 58 = .ok (.goto (-53), 3) by decide +kernel)) (
  mz_cons (mz_iload_n (k := 3) (show decode cX12_caughtBy 61 = .ok (.iload_n 3, 1) by decide +kernel)) (
  mz_consR (mz_ireturn rfl (show decode cX12_caughtBy 62 = .ok (.ireturn, 1) by decide +kernel)) (
  mz_nil)))))))))))))))
noncomputable def tb_X12_caughtBy : List (Nat × List (Nat × mz_O)) := [(27, ck_X12_caughtBy_0), (62, ck_X12_caughtBy_1)]
theorem tok_X12_caughtBy (E : List mz_V) : mz_tok E tM_X12_caughtBy (tb_X12_caughtBy) := mz_tcons (tk_X12_caughtBy_0 E) (mz_tcons (tk_X12_caughtBy_1 E) (mz_tnil))
noncomputable def rn_X12_caughtBy : List mz_V → List mz_C → Option (Option mz_V × List mz_C) := mz_rn tb_X12_caughtBy 45 5
theorem ctr_X12_caughtBy (E : List mz_V) : mz_ctr E yX12_caughtBy tM_X12_caughtBy rn_X12_caughtBy := mz_ctr_of 45 (tok_X12_caughtBy E) (by decide) rfl rfl
abbrev tM_X12_caughtEnd : mz_M := (cX12_caughtEnd, 5, (some .int), RX12, "caughtEnd", 4, 90)
noncomputable def ck_X12_caughtEnd_0 : List (Nat × mz_O) := [(0, .inl (mz_ld mz_isI 1 1)), (1, .inl (mz_sto mz_isI mz_p1 3 2)), (2, .inl (mz_push (.inl 0) 3)), (3, .inl (mz_sto mz_isI mz_p1 4 5)), (5, .inl (mz_ld mz_isI 4 7)), (7, .inl (mz_push (.inl 10) 9)), (9, .inl (mz_j2 mz_lt 12 25)), (12, .inl (mz_ld mz_isR 0 13)), (13, .inl (mz_ld mz_isI 3 14)), (14, .inl (mz_ld mz_isI 2 15)), (15, .inl (mz_call rn_X12_caughtBy 3 (mz_ckV 12) 18)), (18, .inl (mz_sto mz_isI mz_p1 3 19)), (19, .inl (mz_inc 4 1 22)), (22, .inl (mz_go 5)), (25, .inl (mz_ld mz_isI 3 26)), (26, .inr (mz_rt mz_isI))]
theorem tk_X12_caughtEnd_0 (E : List mz_V) : mz_all E tM_X12_caughtEnd (ck_X12_caughtEnd_0) :=
  mz_cons (mz_iload_n (k := 1) (show decode cX12_caughtEnd 0 = .ok (.iload_n 1, 1) by decide +kernel)) (
  mz_cons (mz_istore_n (k := 3) (by decide) (show decode cX12_caughtEnd 1 = .ok (.istore_n 3, 1) by decide +kernel)) (
  mz_cons (mz_iconst 0 (by decide) (show decode cX12_caughtEnd 2 = .ok (.iconst 0, 1) by decide +kernel)) (
  mz_cons (mz_istore (by decide) (show decode cX12_caughtEnd 3 = .ok (.istore 4, 2) by decide +kernel)) (
  mz_cons (mz_iload (show decode cX12_caughtEnd 5 = .ok (.iload 4, 2) by decide +kernel)) (
  mz_cons (mz_bipush 10 (by decide) (show decode cX12_caughtEnd 7 = .ok (.bipush 10, 2) by decide +kernel)) (
  mz_cons (mz_icmp_ge 25 (by decide) (show decode cX12_caughtEnd 9 = .ok (.if_icmp .ge 16, 3) by decide +kernel)) (
  mz_cons (mz_aload_n (k := 0) (show decode cX12_caughtEnd 12 = .ok (.aload_n 0, 1) by decide +kernel)) (
  mz_cons (mz_iload_n (k := 3) (show decode cX12_caughtEnd 13 = .ok (.iload_n 3, 1) by decide +kernel)) (
  mz_cons (mz_iload_n (k := 2) (show decode cX12_caughtEnd 14 = .ok (.iload_n 2, 1) by decide +kernel)) (
  mz_cons (mz_invV (n := 2) (ctr_X12_caughtBy E) rfl ⟨by decide, by decide, by decide +kernel⟩ ⟨by decide, by decide⟩ mw_1217 mw_1214 mw_1216 mw_49 mw_74 (show decode cX12_caughtEnd 15 = .ok (.invokevirtual 197, 3) by decide +kernel)) (
  mz_cons (mz_istore_n (k := 3) (by decide) (show decode cX12_caughtEnd 18 = .ok (.istore_n 3, 1) by decide +kernel)) (
  mz_cons (mz_iinc 1 (by decide) (by decide) (show decode cX12_caughtEnd 19 = .ok (.iinc 4 1, 3) by decide +kernel)) (
  mz_cons (mz_goto 5 (by decide) (show decode cX12_caughtEnd 22 = .ok (.goto (-17), 3) by decide +kernel)) (
  mz_cons (mz_iload_n (k := 3) (show decode cX12_caughtEnd 25 = .ok (.iload_n 3, 1) by decide +kernel)) (
  mz_consR (mz_ireturn rfl (show decode cX12_caughtEnd 26 = .ok (.ireturn, 1) by decide +kernel)) (
  mz_nil))))))))))))))))
noncomputable def tb_X12_caughtEnd : List (Nat × List (Nat × mz_O)) := [(26, ck_X12_caughtEnd_0)]
theorem tok_X12_caughtEnd (E : List mz_V) : mz_tok E tM_X12_caughtEnd (tb_X12_caughtEnd) := mz_tcons (tk_X12_caughtEnd_0 E) (mz_tnil)
noncomputable def rn_X12_caughtEnd : List mz_V → List mz_C → Option (Option mz_V × List mz_C) := mz_rn tb_X12_caughtEnd 119 5
theorem ctr_X12_caughtEnd (E : List mz_V) : mz_ctr E yX12_caughtEnd tM_X12_caughtEnd rn_X12_caughtEnd := mz_ctr_of 119 (tok_X12_caughtEnd E) (by decide) rfl rfl
abbrev tM_X12_folkOf : mz_M := (cX12_folkOf, 4, (some .int), RX12, "folkOf", 2, 43)
noncomputable def ck_X12_folkOf_0 : List (Nat × mz_O) := [(0, .inl (mz_push (.inl 0) 1)), (1, .inl (mz_sto mz_isI mz_p1 2 2)), (2, .inl (mz_push (.inl 0) 3)), (3, .inl (mz_sto mz_isI mz_p1 3 4)), (4, .inl (mz_ld mz_isI 3 5)), (5, .inl (mz_ld mz_isR 0 6)), (6, .inl (mz_gf 12 4 9)), (9, .inl (mz_j2 mz_lt 12 39)), (12, .inl (mz_ld mz_isI 2 13)), (13, .inl (mz_ld mz_isI 1 14)), (14, .inl (mz_ld mz_isI 3 15)), (15, .inl (mz_call rn_X12_has 2 mz_ckT 18)), (18, .inl (mz_j1 mz_eq0 30 21)), (21, .inl (mz_ld mz_isR 0 22)), (22, .inl (mz_gf 12 6 25)), (25, .inl (mz_ld mz_isI 3 26))]
theorem tk_X12_folkOf_0 (E : List mz_V) : mz_all E tM_X12_folkOf (ck_X12_folkOf_0) :=
  mz_cons (mz_iconst 0 (by decide) (show decode cX12_folkOf 0 = .ok (.iconst 0, 1) by decide +kernel)) (
  mz_cons (mz_istore_n (k := 2) (by decide) (show decode cX12_folkOf 1 = .ok (.istore_n 2, 1) by decide +kernel)) (
  mz_cons (mz_iconst 0 (by decide) (show decode cX12_folkOf 2 = .ok (.iconst 0, 1) by decide +kernel)) (
  mz_cons (mz_istore_n (k := 3) (by decide) (show decode cX12_folkOf 3 = .ok (.istore_n 3, 1) by decide +kernel)) (
  mz_cons (mz_iload_n (k := 3) (show decode cX12_folkOf 4 = .ok (.iload_n 3, 1) by decide +kernel)) (
  mz_cons (mz_aload_n (k := 0) (show decode cX12_folkOf 5 = .ok (.aload_n 0, 1) by decide +kernel)) (
  mz_cons (mz_getfield (C := RX12) (T := TX12) (N := 29) rfl mz_inX12 (by decide) mw_976 (show decode cX12_folkOf 6 = .ok (.getfield 16, 3) by decide +kernel)) (
  mz_cons (mz_icmp_ge 39 (by decide) (show decode cX12_folkOf 9 = .ok (.if_icmp .ge 30, 3) by decide +kernel)) (
  mz_cons (mz_iload_n (k := 2) (show decode cX12_folkOf 12 = .ok (.iload_n 2, 1) by decide +kernel)) (
  mz_cons (mz_iload_n (k := 1) (show decode cX12_folkOf 13 = .ok (.iload_n 1, 1) by decide +kernel)) (
  mz_cons (mz_iload_n (k := 3) (show decode cX12_folkOf 14 = .ok (.iload_n 3, 1) by decide +kernel)) (
  mz_cons (mz_invS (n := 2) (ctr_X12_has E) ⟨by decide, by decide, by decide +kernel⟩ ⟨by decide, by decide⟩ mw_1131 mw_1129 mw_1130 mw_74 (show decode cX12_folkOf 15 = .ok (.invokestatic 134, 3) by decide +kernel)) (
  mz_cons (mz_if_eq 30 (by decide) (show decode cX12_folkOf 18 = .ok (.ifCond .eq 12, 3) by decide +kernel)) (
  mz_cons (mz_aload_n (k := 0) (show decode cX12_folkOf 21 = .ok (.aload_n 0, 1) by decide +kernel)) (
  mz_cons (mz_getfield (C := RX12) (T := TX12) (N := 29) rfl mz_inX12 (by decide) mw_978 (show decode cX12_folkOf 22 = .ok (.getfield 23, 3) by decide +kernel)) (
  mz_cons (mz_iload_n (k := 3) (show decode cX12_folkOf 25 = .ok (.iload_n 3, 1) by decide +kernel)) (
  mz_nil))))))))))))))))
noncomputable def ck_X12_folkOf_1 : List (Nat × mz_O) := [(26, .inl (mz_al false 27)), (27, .inl (mz_go 31)), (30, .inl (mz_push (.inl 0) 31)), (31, .inl (mz_o2 mz_f_iadd 32)), (32, .inl (mz_sto mz_isI mz_p1 2 33)), (33, .inl (mz_inc 3 1 36)), (36, .inl (mz_go 4)), (39, .inl (mz_ld mz_isI 2 40)), (40, .inr (mz_rt mz_isI))]
theorem tk_X12_folkOf_1 (E : List mz_V) : mz_all E tM_X12_folkOf (ck_X12_folkOf_1) :=
  mz_cons (mz_iaload (show decode cX12_folkOf 26 = .ok (.iaload, 1) by decide +kernel)) (
  mz_cons (mz_goto 31 (by decide) (show decode cX12_folkOf 27 = .ok (.goto 4, 3) by decide +kernel)) (
  mz_cons (mz_iconst 0 (by decide) (show decode cX12_folkOf 30 = .ok (.iconst 0, 1) by decide +kernel)) (
  mz_cons (mz_iadd (show decode cX12_folkOf 31 = .ok (.iadd, 1) by decide +kernel)) (
  mz_cons (mz_istore_n (k := 2) (by decide) (show decode cX12_folkOf 32 = .ok (.istore_n 2, 1) by decide +kernel)) (
  mz_cons (mz_iinc 1 (by decide) (by decide) (show decode cX12_folkOf 33 = .ok (.iinc 3 1, 3) by decide +kernel)) (
  mz_cons (mz_goto 4 (by decide) (show decode cX12_folkOf 36 = .ok (.goto (-32), 3) by decide +kernel)) (
  mz_cons (mz_iload_n (k := 2) (show decode cX12_folkOf 39 = .ok (.iload_n 2, 1) by decide +kernel)) (
  mz_consR (mz_ireturn rfl (show decode cX12_folkOf 40 = .ok (.ireturn, 1) by decide +kernel)) (
  mz_nil)))))))))
noncomputable def tb_X12_folkOf : List (Nat × List (Nat × mz_O)) := [(25, ck_X12_folkOf_0), (40, ck_X12_folkOf_1)]
theorem tok_X12_folkOf (E : List mz_V) : mz_tok E tM_X12_folkOf (tb_X12_folkOf) := mz_tcons (tk_X12_folkOf_0 E) (mz_tcons (tk_X12_folkOf_1 E) (mz_tnil))
noncomputable def rn_X12_folkOf : List mz_V → List mz_C → Option (Option mz_V × List mz_C) := mz_rn tb_X12_folkOf 38 4
theorem ctr_X12_folkOf (E : List mz_V) : mz_ctr E yX12_folkOf tM_X12_folkOf rn_X12_folkOf := mz_ctr_of 38 (tok_X12_folkOf E) (by decide) rfl rfl
abbrev tM_X12_in : mz_M := (cX12_in, 6, (some .boolean), RX12, "in", 1, 22)
noncomputable def ck_X12_in_0 : List (Nat × mz_O) := [(0, .inl (mz_ld mz_isL 0 1)), (1, .inl (mz_ld mz_isL 2 2)), (2, .inl (mz_o2 mz_f_lcmp 3)), (3, .inl (mz_j1 mz_lt0 17 6)), (6, .inl (mz_ld mz_isL 0 7)), (7, .inl (mz_ld mz_isL 4 9)), (9, .inl (mz_o2 mz_f_lcmp 10)), (10, .inl (mz_j1 mz_gt0 17 13)), (13, .inl (mz_push (.inl 1) 14)), (14, .inl (mz_go 18)), (17, .inl (mz_push (.inl 0) 18)), (18, .inr (mz_rt mz_is01))]
theorem tk_X12_in_0 (E : List mz_V) : mz_all E tM_X12_in (ck_X12_in_0) :=
  mz_cons (mz_lload_n (k := 0) (show decode cX12_in 0 = .ok (.lload_n 0, 1) by decide +kernel)) (
  mz_cons (mz_lload_n (k := 2) (show decode cX12_in 1 = .ok (.lload_n 2, 1) by decide +kernel)) (
  mz_cons (mz_lcmp (show decode cX12_in 2 = .ok (.lcmp, 1) by decide +kernel)) (
  mz_cons (mz_if_lt 17 (by decide) (show decode cX12_in 3 = .ok (.ifCond .lt 14, 3) by decide +kernel)) (
  mz_cons (mz_lload_n (k := 0) (show decode cX12_in 6 = .ok (.lload_n 0, 1) by decide +kernel)) (
  mz_cons (mz_lload (show decode cX12_in 7 = .ok (.lload 4, 2) by decide +kernel)) (
  mz_cons (mz_lcmp (show decode cX12_in 9 = .ok (.lcmp, 1) by decide +kernel)) (
  mz_cons (mz_if_gt 17 (by decide) (show decode cX12_in 10 = .ok (.ifCond .gt 7, 3) by decide +kernel)) (
  mz_cons (mz_iconst 1 (by decide) (show decode cX12_in 13 = .ok (.iconst 1, 1) by decide +kernel)) (
  mz_cons (mz_goto 18 (by decide) (show decode cX12_in 14 = .ok (.goto 4, 3) by decide +kernel)) (
  mz_cons (mz_iconst 0 (by decide) (show decode cX12_in 17 = .ok (.iconst 0, 1) by decide +kernel)) (
  mz_consR (mz_zreturn rfl (show decode cX12_in 18 = .ok (.ireturn, 1) by decide +kernel)) (
  mz_nil))))))))))))
noncomputable def tb_X12_in : List (Nat × List (Nat × mz_O)) := [(18, ck_X12_in_0)]
theorem tok_X12_in (E : List mz_V) : mz_tok E tM_X12_in (tb_X12_in) := mz_tcons (tk_X12_in_0 E) (mz_tnil)
noncomputable def rn_X12_in : List mz_V → List mz_C → Option (Option mz_V × List mz_C) := mz_rn tb_X12_in 21 6
theorem ctr_X12_in (E : List mz_V) : mz_ctr E yX12_in tM_X12_in rn_X12_in := mz_ctr_of 21 (tok_X12_in E) (by decide) rfl rfl
abbrev tM_X12_isSetOf : mz_M := (cX12_isSetOf, 2, (some .boolean), RX12, "isSetOf", 2, 47)
noncomputable def ck_X12_isSetOf_0 : List (Nat × mz_O) := [(0, .inl (mz_ld mz_isI 1 1)), (1, .inl (mz_o1 mz_f_i2l 2)), (2, .inl (mz_push (.inr (.inl 0)) 3)), (3, .inl (mz_ld mz_isR 0 4)), (4, .inl (mz_call rn_X12_all 1 (mz_ckV 12) 7)), (7, .inl (mz_o1 mz_f_i2l 8)), (8, .inl (mz_call rn_X12_in 3 mz_ckT 11)), (11, .inr (mz_rt mz_is01))]
theorem tk_X12_isSetOf_0 (E : List mz_V) : mz_all E tM_X12_isSetOf (ck_X12_isSetOf_0) :=
  mz_cons (mz_iload_n (k := 1) (show decode cX12_isSetOf 0 = .ok (.iload_n 1, 1) by decide +kernel)) (
  mz_cons (mz_i2l (show decode cX12_isSetOf 1 = .ok (.i2l, 1) by decide +kernel)) (
  mz_cons (mz_lconst 0 (by decide) (show decode cX12_isSetOf 2 = .ok (.lconst 0, 1) by decide +kernel)) (
  mz_cons (mz_aload_n (k := 0) (show decode cX12_isSetOf 3 = .ok (.aload_n 0, 1) by decide +kernel)) (
  mz_cons (mz_invV (n := 0) (ctr_X12_all E) rfl ⟨by decide, by decide, by decide +kernel⟩ ⟨by decide, by decide⟩ mw_1143 mw_1140 mw_1142 mw_40 mw_74 (show decode cX12_isSetOf 4 = .ok (.invokevirtual 131, 3) by decide +kernel)) (
  mz_cons (mz_i2l (show decode cX12_isSetOf 7 = .ok (.i2l, 1) by decide +kernel)) (
  mz_cons (mz_invS (n := 3) (ctr_X12_in E) ⟨by decide, by decide, by decide +kernel⟩ ⟨by decide, by decide⟩ mw_1068 mw_1066 mw_1067 mw_74 (show decode cX12_isSetOf 8 = .ok (.invokestatic 65, 3) by decide +kernel)) (
  mz_consR (mz_zreturn rfl (show decode cX12_isSetOf 11 = .ok (.ireturn, 1) by decide +kernel)) (
  mz_nil))))))))
noncomputable def tb_X12_isSetOf : List (Nat × List (Nat × mz_O)) := [(11, ck_X12_isSetOf_0)]
theorem tok_X12_isSetOf (E : List mz_V) : mz_tok E tM_X12_isSetOf (tb_X12_isSetOf) := mz_tcons (tk_X12_isSetOf_0 E) (mz_tnil)
noncomputable def rn_X12_isSetOf : List mz_V → List mz_C → Option (Option mz_V × List mz_C) := mz_rn tb_X12_isSetOf 18 2
theorem ctr_X12_isSetOf (E : List mz_V) : mz_ctr E yX12_isSetOf tM_X12_isSetOf rn_X12_isSetOf := mz_ctr_of 18 (tok_X12_isSetOf E) (by decide) rfl rfl
abbrev tM_X12_ahead : mz_M := (cX12_ahead, 6, (some .int), RX12, "ahead", 5, 114)
noncomputable def ck_X12_ahead_0 : List (Nat × mz_O) := [(0, .inl (mz_ld mz_isR 0 1)), (1, .inl (mz_ld mz_isI 1 2)), (2, .inl (mz_call rn_X12_isSetOf 2 (mz_ckV 12) 5)), (5, .inl (mz_j1 mz_eq0 20 8)), (8, .inl (mz_ld mz_isI 2 9)), (9, .inl (mz_o1 mz_f_i2l 10)), (10, .inl (mz_push (.inr (.inl 0)) 11)), (11, .inl (mz_push (.inr (.inl 999)) 14)), (14, .inl (mz_call rn_X12_in 3 mz_ckT 17)), (17, .inl (mz_j1 mz_eq0 20 23)), (20, .inl (mz_push (.inl (-3)) 22)), (22, .inr (mz_rt mz_isI)), (23, .inl (mz_push (.inl (-1)) 24)), (24, .inl (mz_sto mz_isI mz_p1 3 25)), (25, .inl (mz_push (.inl 0) 26)), (26, .inl (mz_sto mz_isI mz_p1 4 28))]
theorem tk_X12_ahead_0 (E : List mz_V) : mz_all E tM_X12_ahead (ck_X12_ahead_0) :=
  mz_cons (mz_aload_n (k := 0) (show decode cX12_ahead 0 = .ok (.aload_n 0, 1) by decide +kernel)) (
  mz_cons (mz_iload_n (k := 1) (show decode cX12_ahead 1 = .ok (.iload_n 1, 1) by decide +kernel)) (
  mz_cons (mz_invV (n := 1) (ctr_X12_isSetOf E) rfl ⟨by decide, by decide, by decide +kernel⟩ ⟨by decide, by decide⟩ mw_1139 mw_1136 mw_1138 mw_39 mw_74 (show decode cX12_ahead 2 = .ok (.invokevirtual 167, 3) by decide +kernel)) (
  mz_cons (mz_if_eq 20 (by decide) (show decode cX12_ahead 5 = .ok (.ifCond .eq 15, 3) by decide +kernel)) (
  mz_cons (mz_iload_n (k := 2) (show decode cX12_ahead 8 = .ok (.iload_n 2, 1) by decide +kernel)) (
  mz_cons (mz_i2l (show decode cX12_ahead 9 = .ok (.i2l, 1) by decide +kernel)) (
  mz_cons (mz_lconst 0 (by decide) (show decode cX12_ahead 10 = .ok (.lconst 0, 1) by decide +kernel)) (
  mz_cons (mz_ldc2 mw_1180 (show decode cX12_ahead 11 = .ok (.ldc2_w 175, 3) by decide +kernel)) (
  mz_cons (mz_invS (n := 3) (ctr_X12_in E) ⟨by decide, by decide, by decide +kernel⟩ ⟨by decide, by decide⟩ mw_1068 mw_1066 mw_1067 mw_74 (show decode cX12_ahead 14 = .ok (.invokestatic 65, 3) by decide +kernel)) (
  mz_cons (mz_if_ne 23 (by decide) (show decode cX12_ahead 17 = .ok (.ifCond .ne 6, 3) by decide +kernel)) (
  mz_cons (mz_bipush (-3) (by decide) (show decode cX12_ahead 20 = .ok (.bipush (-3), 2) by decide +kernel)) (
  mz_consR (mz_ireturn rfl (show decode cX12_ahead 22 = .ok (.ireturn, 1) by decide +kernel)) (
  mz_cons (mz_iconst (-1) (by decide) (show decode cX12_ahead 23 = .ok (.iconst (-1), 1) by decide +kernel)) (
  mz_cons (mz_istore_n (k := 3) (by decide) (show decode cX12_ahead 24 = .ok (.istore_n 3, 1) by decide +kernel)) (
  mz_cons (mz_iconst 0 (by decide) (show decode cX12_ahead 25 = .ok (.iconst 0, 1) by decide +kernel)) (
  mz_cons (mz_istore (by decide) (show decode cX12_ahead 26 = .ok (.istore 4, 2) by decide +kernel)) (
  mz_nil))))))))))))))))
noncomputable def ck_X12_ahead_1 : List (Nat × mz_O) := [(28, .inl (mz_ld mz_isI 4 30)), (30, .inl (mz_ld mz_isR 0 31)), (31, .inl (mz_call rn_X12_all 1 (mz_ckV 12) 34)), (34, .inl (mz_j2 mz_gt 101 37)), (37, .inl (mz_ld mz_isI 4 39)), (39, .inl (mz_ld mz_isI 1 40)), (40, .inl (mz_o2 mz_f_iand 41)), (41, .inl (mz_j1 mz_eq0 44 65)), (44, .inl (mz_ld mz_isI 3 45)), (45, .inl (mz_push (.inl (-1)) 46)), (46, .inl (mz_j2 mz_eq 61 49)), (49, .inl (mz_ld mz_isI 4 51)), (51, .inl (mz_call rn_X12_many 1 mz_ckT 54)), (54, .inl (mz_ld mz_isI 3 55)), (55, .inl (mz_call rn_X12_many 1 mz_ckT 58)), (58, .inl (mz_j2 mz_lt 61 65))]
theorem tk_X12_ahead_1 (E : List mz_V) : mz_all E tM_X12_ahead (ck_X12_ahead_1) :=
  mz_cons (mz_iload (show decode cX12_ahead 28 = .ok (.iload 4, 2) by decide +kernel)) (
  mz_cons (mz_aload_n (k := 0) (show decode cX12_ahead 30 = .ok (.aload_n 0, 1) by decide +kernel)) (
  mz_cons (mz_invV (n := 0) (ctr_X12_all E) rfl ⟨by decide, by decide, by decide +kernel⟩ ⟨by decide, by decide⟩ mw_1143 mw_1140 mw_1142 mw_40 mw_74 (show decode cX12_ahead 31 = .ok (.invokevirtual 131, 3) by decide +kernel)) (
  mz_cons (mz_icmp_gt 101 (by decide) (show decode cX12_ahead 34 = .ok (.if_icmp .gt 67, 3) by decide +kernel)) (
  mz_cons (mz_iload (show decode cX12_ahead 37 = .ok (.iload 4, 2) by decide +kernel)) (
  mz_cons (mz_iload_n (k := 1) (show decode cX12_ahead 39 = .ok (.iload_n 1, 1) by decide +kernel)) (
  mz_cons (mz_iand (show decode cX12_ahead 40 = .ok (.iand, 1) by decide +kernel)) (
  mz_cons (mz_if_ne 65 (by decide) (show decode cX12_ahead 41 = .ok (.ifCond .ne 24, 3) by decide +kernel)) (
  mz_cons (mz_iload_n (k := 3) (show decode cX12_ahead 44 = .ok (.iload_n 3, 1) by decide +kernel)) (
  mz_cons (mz_iconst (-1) (by decide) (show decode cX12_ahead 45 = .ok (.iconst (-1), 1) by decide +kernel)) (
  mz_cons (mz_icmp_eq 61 (by decide) (show decode cX12_ahead 46 = .ok (.if_icmp .eq 15, 3) by decide +kernel)) (
  mz_cons (mz_iload (show decode cX12_ahead 49 = .ok (.iload 4, 2) by decide +kernel)) (
  mz_cons (mz_invS (n := 1) (ctr_X12_many E) ⟨by decide, by decide, by decide +kernel⟩ ⟨by decide, by decide⟩ mw_1151 mw_1149 mw_1150 mw_74 (show decode cX12_ahead 51 = .ok (.invokestatic 143, 3) by decide +kernel)) (
  mz_cons (mz_iload_n (k := 3) (show decode cX12_ahead 54 = .ok (.iload_n 3, 1) by decide +kernel)) (
  mz_cons (mz_invS (n := 1) (ctr_X12_many E) ⟨by decide, by decide, by decide +kernel⟩ ⟨by decide, by decide⟩ mw_1151 mw_1149 mw_1150 mw_74 (show decode cX12_ahead 55 = .ok (.invokestatic 143, 3) by decide +kernel)) (
  mz_cons (mz_icmp_ge 65 (by decide) (show decode cX12_ahead 58 = .ok (.if_icmp .ge 7, 3) by decide +kernel)) (
  mz_nil))))))))))))))))
noncomputable def ck_X12_ahead_2 : List (Nat × mz_O) := [(61, .inl (mz_push (.inl 1) 62)), (62, .inl (mz_go 66)), (65, .inl (mz_push (.inl 0) 66)), (66, .inl (mz_sto mz_isI mz_p1 5 68)), (68, .inl (mz_ld mz_isI 5 70)), (70, .inl (mz_j1 mz_eq0 93 73)), (73, .inl (mz_ld mz_isR 0 74)), (74, .inl (mz_ld mz_isR 0 75)), (75, .inl (mz_ld mz_isI 1 76)), (76, .inl (mz_ld mz_isI 4 78)), (78, .inl (mz_call rn_X12_caughtEnd 3 (mz_ckV 12) 81)), (81, .inl (mz_call rn_X12_folkOf 2 (mz_ckV 12) 84)), (84, .inl (mz_ld mz_isI 2 85)), (85, .inl (mz_j2 mz_gt 93 88)), (88, .inl (mz_ld mz_isI 4 90)), (90, .inl (mz_go 94))]
theorem tk_X12_ahead_2 (E : List mz_V) : mz_all E tM_X12_ahead (ck_X12_ahead_2) :=
  mz_cons (mz_iconst 1 (by decide) (show decode cX12_ahead 61 = .ok (.iconst 1, 1) by decide +kernel)) (
  mz_cons (mz_goto 66 (by decide) (show decode cX12_ahead 62 = .ok (.goto 4, 3) by decide +kernel)) (
  mz_cons (mz_iconst 0 (by decide) (show decode cX12_ahead 65 = .ok (.iconst 0, 1) by decide +kernel)) (
  mz_cons (mz_istore (by decide) (show decode cX12_ahead 66 = .ok (.istore 5, 2) by decide +kernel)) (
  mz_cons (mz_iload (show decode cX12_ahead 68 = .ok (.iload 5, 2) by decide +kernel)) (
  mz_cons (mz_if_eq 93 (by decide) (show decode cX12_ahead 70 = .ok (.ifCond .eq 23, 3) by decide +kernel)) (
  mz_cons (mz_aload_n (k := 0) (show decode cX12_ahead 73 = .ok (.aload_n 0, 1) by decide +kernel)) (
  mz_cons (mz_aload_n (k := 0) (show decode cX12_ahead 74 = .ok (.aload_n 0, 1) by decide +kernel)) (
  mz_cons (mz_iload_n (k := 1) (show decode cX12_ahead 75 = .ok (.iload_n 1, 1) by decide +kernel)) (
  mz_cons (mz_iload (show decode cX12_ahead 76 = .ok (.iload 4, 2) by decide +kernel)) (
  mz_cons (mz_invV (n := 2) (ctr_X12_caughtEnd E) rfl ⟨by decide, by decide, by decide +kernel⟩ ⟨by decide, by decide⟩ mw_1213 mw_1210 mw_1212 mw_48 mw_74 (show decode cX12_ahead 78 = .ok (.invokevirtual 200, 3) by decide +kernel)) (
  mz_cons (mz_invV (n := 1) (ctr_X12_folkOf E) rfl ⟨by decide, by decide, by decide +kernel⟩ ⟨by decide, by decide⟩ mw_1172 mw_1169 mw_1171 mw_46 mw_74 (show decode cX12_ahead 81 = .ok (.invokevirtual 153, 3) by decide +kernel)) (
  mz_cons (mz_iload_n (k := 2) (show decode cX12_ahead 84 = .ok (.iload_n 2, 1) by decide +kernel)) (
  mz_cons (mz_icmp_gt 93 (by decide) (show decode cX12_ahead 85 = .ok (.if_icmp .gt 8, 3) by decide +kernel)) (
  mz_cons (mz_iload (show decode cX12_ahead 88 = .ok (.iload 4, 2) by decide +kernel)) (
  mz_cons (mz_goto 94 (by decide) (show decode cX12_ahead 90 = .ok (.goto 4, 3) by decide +kernel)) (
  mz_nil))))))))))))))))
noncomputable def ck_X12_ahead_3 : List (Nat × mz_O) := [(93, .inl (mz_ld mz_isI 3 94)), (94, .inl (mz_sto mz_isI mz_p1 3 95)), (95, .inl (mz_inc 4 1 98)), (98, .inl (mz_go 28)), (101, .inl (mz_ld mz_isI 3 102)), (102, .inr (mz_rt mz_isI))]
theorem tk_X12_ahead_3 (E : List mz_V) : mz_all E tM_X12_ahead (ck_X12_ahead_3) :=
  mz_cons (mz_iload_n (k := 3) (show decode cX12_ahead 93 = .ok (.iload_n 3, 1) by decide +kernel)) (
  mz_cons (mz_istore_n (k := 3) (by decide) (show decode cX12_ahead 94 = .ok (.istore_n 3, 1) by decide +kernel)) (
  mz_cons (mz_iinc 1 (by decide) (by decide) (show decode cX12_ahead 95 = .ok (.iinc 4 1, 3) by decide +kernel)) (
  mz_cons (mz_goto 28 (by decide) (show decode cX12_ahead 98 = .ok (.goto (-70), 3) by decide +kernel)) (
  mz_cons (mz_iload_n (k := 3) (show decode cX12_ahead 101 = .ok (.iload_n 3, 1) by decide +kernel)) (
  mz_consR (mz_ireturn rfl (show decode cX12_ahead 102 = .ok (.ireturn, 1) by decide +kernel)) (
  mz_nil))))))
noncomputable def tb_X12_ahead : List (Nat × List (Nat × mz_O)) := [(26, ck_X12_ahead_0), (58, ck_X12_ahead_1), (90, ck_X12_ahead_2), (102, ck_X12_ahead_3)]
theorem tok_X12_ahead (E : List mz_V) : mz_tok E tM_X12_ahead (tb_X12_ahead) := mz_tcons (tk_X12_ahead_0 E) (mz_tcons (tk_X12_ahead_1 E) (mz_tcons (tk_X12_ahead_2 E) (mz_tcons (tk_X12_ahead_3 E) (mz_tnil))))
noncomputable def rn_X12_ahead : List mz_V → List mz_C → Option (Option mz_V × List mz_C) := mz_rn tb_X12_ahead 83 6
theorem ctr_X12_ahead (E : List mz_V) : mz_ctr E yX12_ahead tM_X12_ahead rn_X12_ahead := mz_ctr_of 83 (tok_X12_ahead E) (by decide) rfl rfl
