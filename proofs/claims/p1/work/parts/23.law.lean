abbrev tM_L : mz_M := (cL_law, 4, some .boolean, "WettedNetLaw", "law", 2048, 84000)
noncomputable def ck_Lp_0 : List (Nat × mz_O) := [(0, .inl (mz_nw 11 [.inr (.inr (.inl none)), .inr (.inr (.inl none)), .inr (.inr (.inl none)), .inr (.inr (.inl none)), .inr (.inr (.inl none)), .inr (.inr (.inl none)), .inr (.inr (.inl none)), .inr (.inr (.inl none)), .inr (.inr (.inl none))] 3)), (3, .inl (mz_dp 4)), (4, .inl (mz_call rn_X11_init 1 mz_ckR 7)), (7, .inl (mz_sto mz_isR mz_p1 1 8)), (8, .inl (mz_nw 12 [.inr (.inr (.inl none)), .inl 0, .inr (.inr (.inl none)), .inl 0, .inl 0, .inr (.inr (.inl none)), .inr (.inr (.inl none)), .inr (.inr (.inl none)), .inl 0, .inl 0, .inl 0, .inl 0, .inl 0, .inl 0, .inr (.inr (.inl none)), .inl 0, .inl 0, .inl 0, .inl 0, .inl 0, .inl 0, .inr (.inr (.inl none)), .inr (.inr (.inl none)), .inr (.inr (.inl none)), .inr (.inr (.inl none)), .inr (.inr (.inl none)), .inr (.inr (.inl none)), .inr (.inr (.inl none)), .inr (.inr (.inl none))] 11)), (11, .inl (mz_dp 12)), (12, .inl (mz_call rn_X12_init 1 mz_ckR 15)), (15, .inl (mz_sto mz_isR mz_p1 2 16))]
theorem tk_Lp_0 (E : List mz_V) : mz_all E tM_L (ck_Lp_0) :=
  mz_cons (mz_new [.null, .null, .null, .null, .null, .null, .null, .null, .null] rfl mz_inX11 tyX11_ok rfl (fun j hj => by match j, hj with | 0, _ => rfl | 1, _ => rfl | 2, _ => rfl | 3, _ => rfl | 4, _ => rfl | 5, _ => rfl | 6, _ => rfl | 7, _ => rfl | 8, _ => rfl | j + 9, h => exact absurd h (by omega)) (fun _ _ => ⟨_, _, rfl, rfl, ⟨_, _, rfl, rfl, ⟨_, _, rfl, rfl, ⟨_, _, rfl, rfl, ⟨_, _, rfl, rfl, ⟨_, _, rfl, rfl, ⟨_, _, rfl, rfl, ⟨_, _, rfl, rfl, ⟨_, _, rfl, rfl, rfl⟩⟩⟩⟩⟩⟩⟩⟩⟩) mw_80 mw_81 mw_61 (show decode cL_law 0 = .ok (.new 7, 3) by decide +kernel)) (
  mz_cons (mz_dup (show decode cL_law 3 = .ok (.dup, 1) by decide +kernel)) (
  mz_cons (mz_invI (n := 0) (ctr_X11_init E) ⟨by decide, by decide, by decide +kernel⟩ ⟨by decide, by decide⟩ rfl rfl mw_84 mw_82 mw_83 mw_61 (show decode cL_law 4 = .ok (.invokespecial 9, 3) by decide +kernel)) (
  mz_cons (mz_astore_n (k := 1) (by decide) (show decode cL_law 7 = .ok (.astore_n 1, 1) by decide +kernel)) (
  mz_cons (mz_new [.null, .int 0, .null, .int 0, .int 0, .null, .null, .null, .int 0, .int 0, .int 0, .int 0, .int 0, .int 0, .null, .int 0, .int 0, .int 0, .int 0, .int 0, .int 0, .null, .null, .null, .null, .null, .null, .null, .null] rfl mz_inX12 tyX12_ok rfl (fun j hj => by match j, hj with | 0, _ => rfl | 1, _ => rfl | 2, _ => rfl | 3, _ => rfl | 4, _ => rfl | 5, _ => rfl | 6, _ => rfl | 7, _ => rfl | 8, _ => rfl | 9, _ => rfl | 10, _ => rfl | 11, _ => rfl | 12, _ => rfl | 13, _ => rfl | 14, _ => rfl | 15, _ => rfl | 16, _ => rfl | 17, _ => rfl | 18, _ => rfl | 19, _ => rfl | 20, _ => rfl | 21, _ => rfl | 22, _ => rfl | 23, _ => rfl | 24, _ => rfl | 25, _ => rfl | 26, _ => rfl | 27, _ => rfl | 28, _ => rfl | j + 29, h => exact absurd h (by omega)) (fun _ _ => ⟨_, _, rfl, rfl, ⟨_, _, rfl, rfl, ⟨_, _, rfl, rfl, ⟨_, _, rfl, rfl, ⟨_, _, rfl, rfl, ⟨_, _, rfl, rfl, ⟨_, _, rfl, rfl, ⟨_, _, rfl, rfl, ⟨_, _, rfl, rfl, ⟨_, _, rfl, rfl, ⟨_, _, rfl, rfl, ⟨_, _, rfl, rfl, ⟨_, _, rfl, rfl, ⟨_, _, rfl, rfl, ⟨_, _, rfl, rfl, ⟨_, _, rfl, rfl, ⟨_, _, rfl, rfl, ⟨_, _, rfl, rfl, ⟨_, _, rfl, rfl, ⟨_, _, rfl, rfl, ⟨_, _, rfl, rfl, ⟨_, _, rfl, rfl, ⟨_, _, rfl, rfl, ⟨_, _, rfl, rfl, ⟨_, _, rfl, rfl, ⟨_, _, rfl, rfl, ⟨_, _, rfl, rfl, ⟨_, _, rfl, rfl, ⟨_, _, rfl, rfl, rfl⟩⟩⟩⟩⟩⟩⟩⟩⟩⟩⟩⟩⟩⟩⟩⟩⟩⟩⟩⟩⟩⟩⟩⟩⟩⟩⟩⟩⟩) mw_966 mw_967 mw_74 (show decode cL_law 8 = .ok (.new 10, 3) by decide +kernel)) (
  mz_cons (mz_dup (show decode cL_law 11 = .ok (.dup, 1) by decide +kernel)) (
  mz_cons (mz_invI (n := 0) (ctr_X12_init E) ⟨by decide, by decide, by decide +kernel⟩ ⟨by decide, by decide⟩ rfl rfl mw_970 mw_968 mw_969 mw_74 (show decode cL_law 12 = .ok (.invokespecial 12, 3) by decide +kernel)) (
  mz_cons (mz_astore_n (k := 2) (by decide) (show decode cL_law 15 = .ok (.astore_n 2, 1) by decide +kernel)) (
  mz_nil))))))))
noncomputable def tb_Lp : List (Nat × List (Nat × mz_O)) := [(15, ck_Lp_0)]
theorem tok_Lp (E : List mz_V) : mz_tok E tM_L (tb_Lp) := mz_tcons (tk_Lp_0 E) (mz_tnil)
noncomputable def ck_L_0 (E : List mz_V) : List (Nat × mz_O) := [(16, .inl (mz_push (.inl 0) 17)), (17, .inl (mz_sto mz_isI mz_p1 3 18)), (18, .inl (mz_ld mz_isI 3 19)), (19, .inl (mz_ld mz_isR 0 20)), (20, .inl (mz_xn 0 E.length 21)), (21, .inl (mz_push (.inl 4) 22)), (22, .inl (mz_o2 mz_f_isub 23)), (23, .inl (mz_j2 mz_gt 800 26)), (26, .inl (mz_ld mz_isR 0 27)), (27, .inl (mz_ld mz_isI 3 28)), (28, .inl (mz_xl 0 E 29)), (29, .inl (mz_push (.inl 31) 31)), (31, .inl (mz_o2 mz_f_iand 32)), (32, .inl (mz_ts 0 21 [136, 199, 212, 225, 238, 271, 304, 337, 360, 383, 406, 429, 472, 505, 538, 571, 614, 637, 681, 715, 758, 771] 794)), (136, .inl (mz_ld mz_isR 1 137)), (137, .inl (mz_ld mz_isR 0 138))]
theorem tk_L_0 (E : List mz_V) : mz_all E tM_L (ck_L_0 E) :=
  mz_cons (mz_iconst 0 (by decide) (show decode cL_law 16 = .ok (.iconst 0, 1) by decide +kernel)) (
  mz_cons (mz_istore_n (k := 3) (by decide) (show decode cL_law 17 = .ok (.istore_n 3, 1) by decide +kernel)) (
  mz_cons (mz_iload_n (k := 3) (show decode cL_law 18 = .ok (.iload_n 3, 1) by decide +kernel)) (
  mz_cons (mz_aload_n (k := 0) (show decode cL_law 19 = .ok (.aload_n 0, 1) by decide +kernel)) (
  mz_cons (mz_slen (show decode cL_law 20 = .ok (.arraylength, 1) by decide +kernel)) (
  mz_cons (mz_iconst 4 (by decide) (show decode cL_law 21 = .ok (.iconst 4, 1) by decide +kernel)) (
  mz_cons (mz_isub (show decode cL_law 22 = .ok (.isub, 1) by decide +kernel)) (
  mz_cons (mz_icmp_gt 800 (by decide) (show decode cL_law 23 = .ok (.if_icmp .gt 777, 3) by decide +kernel)) (
  mz_cons (mz_aload_n (k := 0) (show decode cL_law 26 = .ok (.aload_n 0, 1) by decide +kernel)) (
  mz_cons (mz_iload_n (k := 3) (show decode cL_law 27 = .ok (.iload_n 3, 1) by decide +kernel)) (
  mz_cons (mz_xlScr (show decode cL_law 28 = .ok (.iaload, 1) by decide +kernel)) (
  mz_cons (mz_bipush 31 (by decide) (show decode cL_law 29 = .ok (.bipush 31, 2) by decide +kernel)) (
  mz_cons (mz_iand (show decode cL_law 31 = .ok (.iand, 1) by decide +kernel)) (
  mz_cons (mz_tableswitch [136, 199, 212, 225, 238, 271, 304, 337, 360, 383, 406, 429, 472, 505, 538, 571, 614, 637, 681, 715, 758, 771] 794 (by decide) (by decide) (fun z h1 h2 => show (z - 0).toNat < 22 by omega) (show decode cL_law 32 = .ok (.tableswitch 762 0 21 #[104, 167, 180, 193, 206, 239, 272, 305, 328, 351, 374, 397, 440, 473, 506, 539, 582, 605, 649, 683, 726, 739], 104) by decide +kernel)) (
  mz_cons (mz_aload_n (k := 1) (show decode cL_law 136 = .ok (.aload_n 1, 1) by decide +kernel)) (
  mz_cons (mz_aload_n (k := 0) (show decode cL_law 137 = .ok (.aload_n 0, 1) by decide +kernel)) (
  mz_nil))))))))))))))))
noncomputable def ck_L_1 (E : List mz_V) : List (Nat × mz_O) := [(138, .inl (mz_ld mz_isI 3 139)), (139, .inl (mz_push (.inl 1) 140)), (140, .inl (mz_o2 mz_f_iadd 141)), (141, .inl (mz_xl 0 E 142)), (142, .inl (mz_o1 mz_f_i2l 143)), (143, .inl (mz_push (.inl 32) 145)), (145, .inl (mz_o2 mz_f_lshl 146)), (146, .inl (mz_ld mz_isR 0 147)), (147, .inl (mz_ld mz_isI 3 148)), (148, .inl (mz_push (.inl 2) 149)), (149, .inl (mz_o2 mz_f_iadd 150)), (150, .inl (mz_xl 0 E 151)), (151, .inl (mz_o1 mz_f_i2l 152)), (152, .inl (mz_push (.inr (.inl 4294967295)) 155)), (155, .inl (mz_o2 mz_f_land 156)), (156, .inl (mz_o2 mz_f_lor 157))]
theorem tk_L_1 (E : List mz_V) : mz_all E tM_L (ck_L_1 E) :=
  mz_cons (mz_iload_n (k := 3) (show decode cL_law 138 = .ok (.iload_n 3, 1) by decide +kernel)) (
  mz_cons (mz_iconst 1 (by decide) (show decode cL_law 139 = .ok (.iconst 1, 1) by decide +kernel)) (
  mz_cons (mz_iadd (show decode cL_law 140 = .ok (.iadd, 1) by decide +kernel)) (
  mz_cons (mz_xlScr (show decode cL_law 141 = .ok (.iaload, 1) by decide +kernel)) (
  mz_cons (mz_i2l (show decode cL_law 142 = .ok (.i2l, 1) by decide +kernel)) (
  mz_cons (mz_bipush 32 (by decide) (show decode cL_law 143 = .ok (.bipush 32, 2) by decide +kernel)) (
  mz_cons (mz_lshl (show decode cL_law 145 = .ok (.lshl, 1) by decide +kernel)) (
  mz_cons (mz_aload_n (k := 0) (show decode cL_law 146 = .ok (.aload_n 0, 1) by decide +kernel)) (
  mz_cons (mz_iload_n (k := 3) (show decode cL_law 147 = .ok (.iload_n 3, 1) by decide +kernel)) (
  mz_cons (mz_iconst 2 (by decide) (show decode cL_law 148 = .ok (.iconst 2, 1) by decide +kernel)) (
  mz_cons (mz_iadd (show decode cL_law 149 = .ok (.iadd, 1) by decide +kernel)) (
  mz_cons (mz_xlScr (show decode cL_law 150 = .ok (.iaload, 1) by decide +kernel)) (
  mz_cons (mz_i2l (show decode cL_law 151 = .ok (.i2l, 1) by decide +kernel)) (
  mz_cons (mz_ldc2 mw_1306 (show decode cL_law 152 = .ok (.ldc2_w 13, 3) by decide +kernel)) (
  mz_cons (mz_land (show decode cL_law 155 = .ok (.land, 1) by decide +kernel)) (
  mz_cons (mz_lor (show decode cL_law 156 = .ok (.lor, 1) by decide +kernel)) (
  mz_nil))))))))))))))))
noncomputable def ck_L_2 (E : List mz_V) : List (Nat × mz_O) := [(157, .inl (mz_ld mz_isR 0 158)), (158, .inl (mz_ld mz_isI 3 159)), (159, .inl (mz_push (.inl 3) 160)), (160, .inl (mz_o2 mz_f_iadd 161)), (161, .inl (mz_xl 0 E 162)), (162, .inl (mz_call rn_X11_write 3 (mz_ckV 11) 165)), (165, .inl (mz_ld mz_isR 2 166)), (166, .inl (mz_ld mz_isR 0 167)), (167, .inl (mz_ld mz_isI 3 168)), (168, .inl (mz_push (.inl 1) 169)), (169, .inl (mz_o2 mz_f_iadd 170)), (170, .inl (mz_xl 0 E 171)), (171, .inl (mz_o1 mz_f_i2l 172)), (172, .inl (mz_push (.inl 32) 174)), (174, .inl (mz_o2 mz_f_lshl 175)), (175, .inl (mz_ld mz_isR 0 176))]
theorem tk_L_2 (E : List mz_V) : mz_all E tM_L (ck_L_2 E) :=
  mz_cons (mz_aload_n (k := 0) (show decode cL_law 157 = .ok (.aload_n 0, 1) by decide +kernel)) (
  mz_cons (mz_iload_n (k := 3) (show decode cL_law 158 = .ok (.iload_n 3, 1) by decide +kernel)) (
  mz_cons (mz_iconst 3 (by decide) (show decode cL_law 159 = .ok (.iconst 3, 1) by decide +kernel)) (
  mz_cons (mz_iadd (show decode cL_law 160 = .ok (.iadd, 1) by decide +kernel)) (
  mz_cons (mz_xlScr (show decode cL_law 161 = .ok (.iaload, 1) by decide +kernel)) (
  mz_cons (mz_invV (n := 2) (ctr_X11_write E) rfl ⟨by decide, by decide, by decide +kernel⟩ ⟨by decide, by decide⟩ mw_361 mw_358 mw_359 mw_360 mw_61 (show decode cL_law 162 = .ok (.invokevirtual 15, 3) by decide +kernel)) (
  mz_cons (mz_aload_n (k := 2) (show decode cL_law 165 = .ok (.aload_n 2, 1) by decide +kernel)) (
  mz_cons (mz_aload_n (k := 0) (show decode cL_law 166 = .ok (.aload_n 0, 1) by decide +kernel)) (
  mz_cons (mz_iload_n (k := 3) (show decode cL_law 167 = .ok (.iload_n 3, 1) by decide +kernel)) (
  mz_cons (mz_iconst 1 (by decide) (show decode cL_law 168 = .ok (.iconst 1, 1) by decide +kernel)) (
  mz_cons (mz_iadd (show decode cL_law 169 = .ok (.iadd, 1) by decide +kernel)) (
  mz_cons (mz_xlScr (show decode cL_law 170 = .ok (.iaload, 1) by decide +kernel)) (
  mz_cons (mz_i2l (show decode cL_law 171 = .ok (.i2l, 1) by decide +kernel)) (
  mz_cons (mz_bipush 32 (by decide) (show decode cL_law 172 = .ok (.bipush 32, 2) by decide +kernel)) (
  mz_cons (mz_lshl (show decode cL_law 174 = .ok (.lshl, 1) by decide +kernel)) (
  mz_cons (mz_aload_n (k := 0) (show decode cL_law 175 = .ok (.aload_n 0, 1) by decide +kernel)) (
  mz_nil))))))))))))))))
noncomputable def ck_L_3 (E : List mz_V) : List (Nat × mz_O) := [(176, .inl (mz_ld mz_isI 3 177)), (177, .inl (mz_push (.inl 2) 178)), (178, .inl (mz_o2 mz_f_iadd 179)), (179, .inl (mz_xl 0 E 180)), (180, .inl (mz_o1 mz_f_i2l 181)), (181, .inl (mz_push (.inr (.inl 4294967295)) 184)), (184, .inl (mz_o2 mz_f_land 185)), (185, .inl (mz_o2 mz_f_lor 186)), (186, .inl (mz_ld mz_isR 0 187)), (187, .inl (mz_ld mz_isI 3 188)), (188, .inl (mz_push (.inl 3) 189)), (189, .inl (mz_o2 mz_f_iadd 190)), (190, .inl (mz_xl 0 E 191)), (191, .inl (mz_call rn_X12_write 3 (mz_ckV 12) 194)), (194, .inl (mz_j2 mz_eq 794 197)), (199, .inl (mz_ld mz_isR 1 200))]
theorem tk_L_3 (E : List mz_V) : mz_all E tM_L (ck_L_3 E) :=
  mz_cons (mz_iload_n (k := 3) (show decode cL_law 176 = .ok (.iload_n 3, 1) by decide +kernel)) (
  mz_cons (mz_iconst 2 (by decide) (show decode cL_law 177 = .ok (.iconst 2, 1) by decide +kernel)) (
  mz_cons (mz_iadd (show decode cL_law 178 = .ok (.iadd, 1) by decide +kernel)) (
  mz_cons (mz_xlScr (show decode cL_law 179 = .ok (.iaload, 1) by decide +kernel)) (
  mz_cons (mz_i2l (show decode cL_law 180 = .ok (.i2l, 1) by decide +kernel)) (
  mz_cons (mz_ldc2 mw_1306 (show decode cL_law 181 = .ok (.ldc2_w 13, 3) by decide +kernel)) (
  mz_cons (mz_land (show decode cL_law 184 = .ok (.land, 1) by decide +kernel)) (
  mz_cons (mz_lor (show decode cL_law 185 = .ok (.lor, 1) by decide +kernel)) (
  mz_cons (mz_aload_n (k := 0) (show decode cL_law 186 = .ok (.aload_n 0, 1) by decide +kernel)) (
  mz_cons (mz_iload_n (k := 3) (show decode cL_law 187 = .ok (.iload_n 3, 1) by decide +kernel)) (
  mz_cons (mz_iconst 3 (by decide) (show decode cL_law 188 = .ok (.iconst 3, 1) by decide +kernel)) (
  mz_cons (mz_iadd (show decode cL_law 189 = .ok (.iadd, 1) by decide +kernel)) (
  mz_cons (mz_xlScr (show decode cL_law 190 = .ok (.iaload, 1) by decide +kernel)) (
  mz_cons (mz_invV (n := 2) (ctr_X12_write E) rfl ⟨by decide, by decide, by decide +kernel⟩ ⟨by decide, by decide⟩ mw_1064 mw_1061 mw_1062 mw_1063 mw_74 (show decode cL_law 191 = .ok (.invokevirtual 19, 3) by decide +kernel)) (
  mz_cons (mz_icmp_eq 794 (by decide) (show decode cL_law 194 = .ok (.if_icmp .eq 600, 3) by decide +kernel)) (
  mz_cons (mz_aload_n (k := 1) (show decode cL_law 199 = .ok (.aload_n 1, 1) by decide +kernel)) (
  mz_nil))))))))))))))))
noncomputable def ck_L_4 (E : List mz_V) : List (Nat × mz_O) := [(200, .inl (mz_call rn_X11_erase 1 (mz_ckV 11) 203)), (203, .inl (mz_ld mz_isR 2 204)), (204, .inl (mz_call rn_X12_erase 1 (mz_ckV 12) 207)), (207, .inl (mz_j2 mz_eq 794 210)), (212, .inl (mz_ld mz_isR 1 213)), (213, .inl (mz_call rn_X11_fault 1 (mz_ckV 11) 216)), (216, .inl (mz_ld mz_isR 2 217)), (217, .inl (mz_call rn_X12_fault 1 (mz_ckV 12) 220)), (220, .inl (mz_j2 mz_eq 794 223)), (225, .inl (mz_ld mz_isR 1 226)), (226, .inl (mz_call rn_X11_net 1 (mz_ckV 11) 229)), (229, .inl (mz_ld mz_isR 2 230)), (230, .inl (mz_call rn_X12_net 1 (mz_ckV 12) 233)), (233, .inl (mz_j2 mz_eq 794 236)), (238, .inl (mz_ld mz_isR 1 239)), (239, .inl (mz_ld mz_isR 0 240))]
theorem tk_L_4 (E : List mz_V) : mz_all E tM_L (ck_L_4 E) :=
  mz_cons (mz_invV (n := 0) (ctr_X11_erase E) rfl ⟨by decide, by decide, by decide +kernel⟩ ⟨by decide, by decide⟩ mw_374 mw_371 mw_372 mw_373 mw_61 (show decode cL_law 200 = .ok (.invokevirtual 20, 3) by decide +kernel)) (
  mz_cons (mz_aload_n (k := 2) (show decode cL_law 203 = .ok (.aload_n 2, 1) by decide +kernel)) (
  mz_cons (mz_invV (n := 0) (ctr_X12_erase E) rfl ⟨by decide, by decide, by decide +kernel⟩ ⟨by decide, by decide⟩ mw_1073 mw_1070 mw_1071 mw_1072 mw_74 (show decode cL_law 204 = .ok (.invokevirtual 24, 3) by decide +kernel)) (
  mz_cons (mz_icmp_eq 794 (by decide) (show decode cL_law 207 = .ok (.if_icmp .eq 587, 3) by decide +kernel)) (
  mz_cons (mz_aload_n (k := 1) (show decode cL_law 212 = .ok (.aload_n 1, 1) by decide +kernel)) (
  mz_cons (mz_invV (n := 0) (ctr_X11_fault E) rfl ⟨by decide, by decide, by decide +kernel⟩ ⟨by decide, by decide⟩ mw_382 mw_379 mw_380 mw_381 mw_61 (show decode cL_law 213 = .ok (.invokevirtual 25, 3) by decide +kernel)) (
  mz_cons (mz_aload_n (k := 2) (show decode cL_law 216 = .ok (.aload_n 2, 1) by decide +kernel)) (
  mz_cons (mz_invV (n := 0) (ctr_X12_fault E) rfl ⟨by decide, by decide, by decide +kernel⟩ ⟨by decide, by decide⟩ mw_1077 mw_1074 mw_1075 mw_1076 mw_74 (show decode cL_law 217 = .ok (.invokevirtual 28, 3) by decide +kernel)) (
  mz_cons (mz_icmp_eq 794 (by decide) (show decode cL_law 220 = .ok (.if_icmp .eq 574, 3) by decide +kernel)) (
  mz_cons (mz_aload_n (k := 1) (show decode cL_law 225 = .ok (.aload_n 1, 1) by decide +kernel)) (
  mz_cons (mz_invV (n := 0) (ctr_X11_net E) rfl ⟨by decide, by decide, by decide +kernel⟩ ⟨by decide, by decide⟩ mw_494 mw_491 mw_492 mw_493 mw_61 (show decode cL_law 226 = .ok (.invokevirtual 29, 3) by decide +kernel)) (
  mz_cons (mz_aload_n (k := 2) (show decode cL_law 229 = .ok (.aload_n 2, 1) by decide +kernel)) (
  mz_cons (mz_invV (n := 0) (ctr_X12_net E) rfl ⟨by decide, by decide, by decide +kernel⟩ ⟨by decide, by decide⟩ mw_1111 mw_1108 mw_1109 mw_1110 mw_74 (show decode cL_law 230 = .ok (.invokevirtual 32, 3) by decide +kernel)) (
  mz_cons (mz_icmp_eq 794 (by decide) (show decode cL_law 233 = .ok (.if_icmp .eq 561, 3) by decide +kernel)) (
  mz_cons (mz_aload_n (k := 1) (show decode cL_law 238 = .ok (.aload_n 1, 1) by decide +kernel)) (
  mz_cons (mz_aload_n (k := 0) (show decode cL_law 239 = .ok (.aload_n 0, 1) by decide +kernel)) (
  mz_nil))))))))))))))))
noncomputable def ck_L_5 (E : List mz_V) : List (Nat × mz_O) := [(240, .inl (mz_ld mz_isI 3 241)), (241, .inl (mz_push (.inl 1) 242)), (242, .inl (mz_o2 mz_f_iadd 243)), (243, .inl (mz_xl 0 E 244)), (244, .inl (mz_ld mz_isR 0 245)), (245, .inl (mz_ld mz_isI 3 246)), (246, .inl (mz_push (.inl 2) 247)), (247, .inl (mz_o2 mz_f_iadd 248)), (248, .inl (mz_xl 0 E 249)), (249, .inl (mz_call rn_X11_room 3 (mz_ckV 11) 252)), (252, .inl (mz_ld mz_isR 2 253)), (253, .inl (mz_ld mz_isR 0 254)), (254, .inl (mz_ld mz_isI 3 255)), (255, .inl (mz_push (.inl 1) 256)), (256, .inl (mz_o2 mz_f_iadd 257)), (257, .inl (mz_xl 0 E 258))]
theorem tk_L_5 (E : List mz_V) : mz_all E tM_L (ck_L_5 E) :=
  mz_cons (mz_iload_n (k := 3) (show decode cL_law 240 = .ok (.iload_n 3, 1) by decide +kernel)) (
  mz_cons (mz_iconst 1 (by decide) (show decode cL_law 241 = .ok (.iconst 1, 1) by decide +kernel)) (
  mz_cons (mz_iadd (show decode cL_law 242 = .ok (.iadd, 1) by decide +kernel)) (
  mz_cons (mz_xlScr (show decode cL_law 243 = .ok (.iaload, 1) by decide +kernel)) (
  mz_cons (mz_aload_n (k := 0) (show decode cL_law 244 = .ok (.aload_n 0, 1) by decide +kernel)) (
  mz_cons (mz_iload_n (k := 3) (show decode cL_law 245 = .ok (.iload_n 3, 1) by decide +kernel)) (
  mz_cons (mz_iconst 2 (by decide) (show decode cL_law 246 = .ok (.iconst 2, 1) by decide +kernel)) (
  mz_cons (mz_iadd (show decode cL_law 247 = .ok (.iadd, 1) by decide +kernel)) (
  mz_cons (mz_xlScr (show decode cL_law 248 = .ok (.iaload, 1) by decide +kernel)) (
  mz_cons (mz_invV (n := 2) (ctr_X11_room E) rfl ⟨by decide, by decide, by decide +kernel⟩ ⟨by decide, by decide⟩ mw_538 mw_535 mw_536 mw_537 mw_61 (show decode cL_law 249 = .ok (.invokevirtual 33, 3) by decide +kernel)) (
  mz_cons (mz_aload_n (k := 2) (show decode cL_law 252 = .ok (.aload_n 2, 1) by decide +kernel)) (
  mz_cons (mz_aload_n (k := 0) (show decode cL_law 253 = .ok (.aload_n 0, 1) by decide +kernel)) (
  mz_cons (mz_iload_n (k := 3) (show decode cL_law 254 = .ok (.iload_n 3, 1) by decide +kernel)) (
  mz_cons (mz_iconst 1 (by decide) (show decode cL_law 255 = .ok (.iconst 1, 1) by decide +kernel)) (
  mz_cons (mz_iadd (show decode cL_law 256 = .ok (.iadd, 1) by decide +kernel)) (
  mz_cons (mz_xlScr (show decode cL_law 257 = .ok (.iaload, 1) by decide +kernel)) (
  mz_nil))))))))))))))))
noncomputable def ck_L_6 (E : List mz_V) : List (Nat × mz_O) := [(258, .inl (mz_ld mz_isR 0 259)), (259, .inl (mz_ld mz_isI 3 260)), (260, .inl (mz_push (.inl 2) 261)), (261, .inl (mz_o2 mz_f_iadd 262)), (262, .inl (mz_xl 0 E 263)), (263, .inl (mz_call rn_X12_room 3 (mz_ckV 12) 266)), (266, .inl (mz_j2 mz_eq 794 269)), (271, .inl (mz_ld mz_isR 1 272)), (272, .inl (mz_ld mz_isR 0 273)), (273, .inl (mz_ld mz_isI 3 274)), (274, .inl (mz_push (.inl 1) 275)), (275, .inl (mz_o2 mz_f_iadd 276)), (276, .inl (mz_xl 0 E 277)), (277, .inl (mz_ld mz_isR 0 278)), (278, .inl (mz_ld mz_isI 3 279)), (279, .inl (mz_push (.inl 2) 280))]
theorem tk_L_6 (E : List mz_V) : mz_all E tM_L (ck_L_6 E) :=
  mz_cons (mz_aload_n (k := 0) (show decode cL_law 258 = .ok (.aload_n 0, 1) by decide +kernel)) (
  mz_cons (mz_iload_n (k := 3) (show decode cL_law 259 = .ok (.iload_n 3, 1) by decide +kernel)) (
  mz_cons (mz_iconst 2 (by decide) (show decode cL_law 260 = .ok (.iconst 2, 1) by decide +kernel)) (
  mz_cons (mz_iadd (show decode cL_law 261 = .ok (.iadd, 1) by decide +kernel)) (
  mz_cons (mz_xlScr (show decode cL_law 262 = .ok (.iaload, 1) by decide +kernel)) (
  mz_cons (mz_invV (n := 2) (ctr_X12_room E) rfl ⟨by decide, by decide, by decide +kernel⟩ ⟨by decide, by decide⟩ mw_1120 mw_1117 mw_1118 mw_1119 mw_74 (show decode cL_law 263 = .ok (.invokevirtual 37, 3) by decide +kernel)) (
  mz_cons (mz_icmp_eq 794 (by decide) (show decode cL_law 266 = .ok (.if_icmp .eq 528, 3) by decide +kernel)) (
  mz_cons (mz_aload_n (k := 1) (show decode cL_law 271 = .ok (.aload_n 1, 1) by decide +kernel)) (
  mz_cons (mz_aload_n (k := 0) (show decode cL_law 272 = .ok (.aload_n 0, 1) by decide +kernel)) (
  mz_cons (mz_iload_n (k := 3) (show decode cL_law 273 = .ok (.iload_n 3, 1) by decide +kernel)) (
  mz_cons (mz_iconst 1 (by decide) (show decode cL_law 274 = .ok (.iconst 1, 1) by decide +kernel)) (
  mz_cons (mz_iadd (show decode cL_law 275 = .ok (.iadd, 1) by decide +kernel)) (
  mz_cons (mz_xlScr (show decode cL_law 276 = .ok (.iaload, 1) by decide +kernel)) (
  mz_cons (mz_aload_n (k := 0) (show decode cL_law 277 = .ok (.aload_n 0, 1) by decide +kernel)) (
  mz_cons (mz_iload_n (k := 3) (show decode cL_law 278 = .ok (.iload_n 3, 1) by decide +kernel)) (
  mz_cons (mz_iconst 2 (by decide) (show decode cL_law 279 = .ok (.iconst 2, 1) by decide +kernel)) (
  mz_nil))))))))))))))))
noncomputable def ck_L_7 (E : List mz_V) : List (Nat × mz_O) := [(280, .inl (mz_o2 mz_f_iadd 281)), (281, .inl (mz_xl 0 E 282)), (282, .inl (mz_call rn_X11_least 3 (mz_ckV 11) 285)), (285, .inl (mz_ld mz_isR 2 286)), (286, .inl (mz_ld mz_isR 0 287)), (287, .inl (mz_ld mz_isI 3 288)), (288, .inl (mz_push (.inl 1) 289)), (289, .inl (mz_o2 mz_f_iadd 290)), (290, .inl (mz_xl 0 E 291)), (291, .inl (mz_ld mz_isR 0 292)), (292, .inl (mz_ld mz_isI 3 293)), (293, .inl (mz_push (.inl 2) 294)), (294, .inl (mz_o2 mz_f_iadd 295)), (295, .inl (mz_xl 0 E 296)), (296, .inl (mz_call rn_X12_least 3 (mz_ckV 12) 299)), (299, .inl (mz_j2 mz_eq 794 302))]
theorem tk_L_7 (E : List mz_V) : mz_all E tM_L (ck_L_7 E) :=
  mz_cons (mz_iadd (show decode cL_law 280 = .ok (.iadd, 1) by decide +kernel)) (
  mz_cons (mz_xlScr (show decode cL_law 281 = .ok (.iaload, 1) by decide +kernel)) (
  mz_cons (mz_invV (n := 2) (ctr_X11_least E) rfl ⟨by decide, by decide, by decide +kernel⟩ ⟨by decide, by decide⟩ mw_559 mw_556 mw_557 mw_558 mw_61 (show decode cL_law 282 = .ok (.invokevirtual 38, 3) by decide +kernel)) (
  mz_cons (mz_aload_n (k := 2) (show decode cL_law 285 = .ok (.aload_n 2, 1) by decide +kernel)) (
  mz_cons (mz_aload_n (k := 0) (show decode cL_law 286 = .ok (.aload_n 0, 1) by decide +kernel)) (
  mz_cons (mz_iload_n (k := 3) (show decode cL_law 287 = .ok (.iload_n 3, 1) by decide +kernel)) (
  mz_cons (mz_iconst 1 (by decide) (show decode cL_law 288 = .ok (.iconst 1, 1) by decide +kernel)) (
  mz_cons (mz_iadd (show decode cL_law 289 = .ok (.iadd, 1) by decide +kernel)) (
  mz_cons (mz_xlScr (show decode cL_law 290 = .ok (.iaload, 1) by decide +kernel)) (
  mz_cons (mz_aload_n (k := 0) (show decode cL_law 291 = .ok (.aload_n 0, 1) by decide +kernel)) (
  mz_cons (mz_iload_n (k := 3) (show decode cL_law 292 = .ok (.iload_n 3, 1) by decide +kernel)) (
  mz_cons (mz_iconst 2 (by decide) (show decode cL_law 293 = .ok (.iconst 2, 1) by decide +kernel)) (
  mz_cons (mz_iadd (show decode cL_law 294 = .ok (.iadd, 1) by decide +kernel)) (
  mz_cons (mz_xlScr (show decode cL_law 295 = .ok (.iaload, 1) by decide +kernel)) (
  mz_cons (mz_invV (n := 2) (ctr_X12_least E) rfl ⟨by decide, by decide, by decide +kernel⟩ ⟨by decide, by decide⟩ mw_1135 mw_1132 mw_1133 mw_1134 mw_74 (show decode cL_law 296 = .ok (.invokevirtual 41, 3) by decide +kernel)) (
  mz_cons (mz_icmp_eq 794 (by decide) (show decode cL_law 299 = .ok (.if_icmp .eq 495, 3) by decide +kernel)) (
  mz_nil))))))))))))))))
noncomputable def ck_L_8 (E : List mz_V) : List (Nat × mz_O) := [(304, .inl (mz_ld mz_isR 1 305)), (305, .inl (mz_ld mz_isR 0 306)), (306, .inl (mz_ld mz_isI 3 307)), (307, .inl (mz_push (.inl 1) 308)), (308, .inl (mz_o2 mz_f_iadd 309)), (309, .inl (mz_xl 0 E 310)), (310, .inl (mz_ld mz_isR 0 311)), (311, .inl (mz_ld mz_isI 3 312)), (312, .inl (mz_push (.inl 2) 313)), (313, .inl (mz_o2 mz_f_iadd 314)), (314, .inl (mz_xl 0 E 315)), (315, .inl (mz_call rn_X11_hold 3 (mz_ckV 11) 318)), (318, .inl (mz_ld mz_isR 2 319)), (319, .inl (mz_ld mz_isR 0 320)), (320, .inl (mz_ld mz_isI 3 321)), (321, .inl (mz_push (.inl 1) 322))]
theorem tk_L_8 (E : List mz_V) : mz_all E tM_L (ck_L_8 E) :=
  mz_cons (mz_aload_n (k := 1) (show decode cL_law 304 = .ok (.aload_n 1, 1) by decide +kernel)) (
  mz_cons (mz_aload_n (k := 0) (show decode cL_law 305 = .ok (.aload_n 0, 1) by decide +kernel)) (
  mz_cons (mz_iload_n (k := 3) (show decode cL_law 306 = .ok (.iload_n 3, 1) by decide +kernel)) (
  mz_cons (mz_iconst 1 (by decide) (show decode cL_law 307 = .ok (.iconst 1, 1) by decide +kernel)) (
  mz_cons (mz_iadd (show decode cL_law 308 = .ok (.iadd, 1) by decide +kernel)) (
  mz_cons (mz_xlScr (show decode cL_law 309 = .ok (.iaload, 1) by decide +kernel)) (
  mz_cons (mz_aload_n (k := 0) (show decode cL_law 310 = .ok (.aload_n 0, 1) by decide +kernel)) (
  mz_cons (mz_iload_n (k := 3) (show decode cL_law 311 = .ok (.iload_n 3, 1) by decide +kernel)) (
  mz_cons (mz_iconst 2 (by decide) (show decode cL_law 312 = .ok (.iconst 2, 1) by decide +kernel)) (
  mz_cons (mz_iadd (show decode cL_law 313 = .ok (.iadd, 1) by decide +kernel)) (
  mz_cons (mz_xlScr (show decode cL_law 314 = .ok (.iaload, 1) by decide +kernel)) (
  mz_cons (mz_invV (n := 2) (ctr_X11_hold E) rfl ⟨by decide, by decide, by decide +kernel⟩ ⟨by decide, by decide⟩ mw_653 mw_650 mw_651 mw_652 mw_61 (show decode cL_law 315 = .ok (.invokevirtual 42, 3) by decide +kernel)) (
  mz_cons (mz_aload_n (k := 2) (show decode cL_law 318 = .ok (.aload_n 2, 1) by decide +kernel)) (
  mz_cons (mz_aload_n (k := 0) (show decode cL_law 319 = .ok (.aload_n 0, 1) by decide +kernel)) (
  mz_cons (mz_iload_n (k := 3) (show decode cL_law 320 = .ok (.iload_n 3, 1) by decide +kernel)) (
  mz_cons (mz_iconst 1 (by decide) (show decode cL_law 321 = .ok (.iconst 1, 1) by decide +kernel)) (
  mz_nil))))))))))))))))
noncomputable def ck_L_9 (E : List mz_V) : List (Nat × mz_O) := [(322, .inl (mz_o2 mz_f_iadd 323)), (323, .inl (mz_xl 0 E 324)), (324, .inl (mz_ld mz_isR 0 325)), (325, .inl (mz_ld mz_isI 3 326)), (326, .inl (mz_push (.inl 2) 327)), (327, .inl (mz_o2 mz_f_iadd 328)), (328, .inl (mz_xl 0 E 329)), (329, .inl (mz_call rn_X12_hold 3 (mz_ckV 12) 332)), (332, .inl (mz_j2 mz_eq 794 335)), (337, .inl (mz_ld mz_isR 1 338)), (338, .inl (mz_ld mz_isR 0 339)), (339, .inl (mz_ld mz_isI 3 340)), (340, .inl (mz_push (.inl 1) 341)), (341, .inl (mz_o2 mz_f_iadd 342)), (342, .inl (mz_xl 0 E 343)), (343, .inl (mz_call rn_X11_begin 2 (mz_ckV 11) 346))]
theorem tk_L_9 (E : List mz_V) : mz_all E tM_L (ck_L_9 E) :=
  mz_cons (mz_iadd (show decode cL_law 322 = .ok (.iadd, 1) by decide +kernel)) (
  mz_cons (mz_xlScr (show decode cL_law 323 = .ok (.iaload, 1) by decide +kernel)) (
  mz_cons (mz_aload_n (k := 0) (show decode cL_law 324 = .ok (.aload_n 0, 1) by decide +kernel)) (
  mz_cons (mz_iload_n (k := 3) (show decode cL_law 325 = .ok (.iload_n 3, 1) by decide +kernel)) (
  mz_cons (mz_iconst 2 (by decide) (show decode cL_law 326 = .ok (.iconst 2, 1) by decide +kernel)) (
  mz_cons (mz_iadd (show decode cL_law 327 = .ok (.iadd, 1) by decide +kernel)) (
  mz_cons (mz_xlScr (show decode cL_law 328 = .ok (.iaload, 1) by decide +kernel)) (
  mz_cons (mz_invV (n := 2) (ctr_X12_hold E) rfl ⟨by decide, by decide, by decide +kernel⟩ ⟨by decide, by decide⟩ mw_1179 mw_1176 mw_1177 mw_1178 mw_74 (show decode cL_law 329 = .ok (.invokevirtual 45, 3) by decide +kernel)) (
  mz_cons (mz_icmp_eq 794 (by decide) (show decode cL_law 332 = .ok (.if_icmp .eq 462, 3) by decide +kernel)) (
  mz_cons (mz_aload_n (k := 1) (show decode cL_law 337 = .ok (.aload_n 1, 1) by decide +kernel)) (
  mz_cons (mz_aload_n (k := 0) (show decode cL_law 338 = .ok (.aload_n 0, 1) by decide +kernel)) (
  mz_cons (mz_iload_n (k := 3) (show decode cL_law 339 = .ok (.iload_n 3, 1) by decide +kernel)) (
  mz_cons (mz_iconst 1 (by decide) (show decode cL_law 340 = .ok (.iconst 1, 1) by decide +kernel)) (
  mz_cons (mz_iadd (show decode cL_law 341 = .ok (.iadd, 1) by decide +kernel)) (
  mz_cons (mz_xlScr (show decode cL_law 342 = .ok (.iaload, 1) by decide +kernel)) (
  mz_cons (mz_invV (n := 1) (ctr_X11_begin E) rfl ⟨by decide, by decide, by decide +kernel⟩ ⟨by decide, by decide⟩ mw_657 mw_654 mw_655 mw_656 mw_61 (show decode cL_law 343 = .ok (.invokevirtual 46, 3) by decide +kernel)) (
  mz_nil))))))))))))))))
noncomputable def ck_L_10 (E : List mz_V) : List (Nat × mz_O) := [(346, .inl (mz_ld mz_isR 2 347)), (347, .inl (mz_ld mz_isR 0 348)), (348, .inl (mz_ld mz_isI 3 349)), (349, .inl (mz_push (.inl 1) 350)), (350, .inl (mz_o2 mz_f_iadd 351)), (351, .inl (mz_xl 0 E 352)), (352, .inl (mz_call rn_X12_begin 2 (mz_ckV 12) 355)), (355, .inl (mz_j2 mz_eq 794 358)), (360, .inl (mz_ld mz_isR 1 361)), (361, .inl (mz_ld mz_isR 0 362)), (362, .inl (mz_ld mz_isI 3 363)), (363, .inl (mz_push (.inl 1) 364)), (364, .inl (mz_o2 mz_f_iadd 365)), (365, .inl (mz_xl 0 E 366)), (366, .inl (mz_call rn_X11_wets 2 (mz_ckV 11) 369)), (369, .inl (mz_ld mz_isR 2 370))]
theorem tk_L_10 (E : List mz_V) : mz_all E tM_L (ck_L_10 E) :=
  mz_cons (mz_aload_n (k := 2) (show decode cL_law 346 = .ok (.aload_n 2, 1) by decide +kernel)) (
  mz_cons (mz_aload_n (k := 0) (show decode cL_law 347 = .ok (.aload_n 0, 1) by decide +kernel)) (
  mz_cons (mz_iload_n (k := 3) (show decode cL_law 348 = .ok (.iload_n 3, 1) by decide +kernel)) (
  mz_cons (mz_iconst 1 (by decide) (show decode cL_law 349 = .ok (.iconst 1, 1) by decide +kernel)) (
  mz_cons (mz_iadd (show decode cL_law 350 = .ok (.iadd, 1) by decide +kernel)) (
  mz_cons (mz_xlScr (show decode cL_law 351 = .ok (.iaload, 1) by decide +kernel)) (
  mz_cons (mz_invV (n := 1) (ctr_X12_begin E) rfl ⟨by decide, by decide, by decide +kernel⟩ ⟨by decide, by decide⟩ mw_1184 mw_1181 mw_1182 mw_1183 mw_74 (show decode cL_law 352 = .ok (.invokevirtual 50, 3) by decide +kernel)) (
  mz_cons (mz_icmp_eq 794 (by decide) (show decode cL_law 355 = .ok (.if_icmp .eq 439, 3) by decide +kernel)) (
  mz_cons (mz_aload_n (k := 1) (show decode cL_law 360 = .ok (.aload_n 1, 1) by decide +kernel)) (
  mz_cons (mz_aload_n (k := 0) (show decode cL_law 361 = .ok (.aload_n 0, 1) by decide +kernel)) (
  mz_cons (mz_iload_n (k := 3) (show decode cL_law 362 = .ok (.iload_n 3, 1) by decide +kernel)) (
  mz_cons (mz_iconst 1 (by decide) (show decode cL_law 363 = .ok (.iconst 1, 1) by decide +kernel)) (
  mz_cons (mz_iadd (show decode cL_law 364 = .ok (.iadd, 1) by decide +kernel)) (
  mz_cons (mz_xlScr (show decode cL_law 365 = .ok (.iaload, 1) by decide +kernel)) (
  mz_cons (mz_invV (n := 1) (ctr_X11_wets E) rfl ⟨by decide, by decide, by decide +kernel⟩ ⟨by decide, by decide⟩ mw_667 mw_664 mw_665 mw_666 mw_61 (show decode cL_law 366 = .ok (.invokevirtual 51, 3) by decide +kernel)) (
  mz_cons (mz_aload_n (k := 2) (show decode cL_law 369 = .ok (.aload_n 2, 1) by decide +kernel)) (
  mz_nil))))))))))))))))
noncomputable def ck_L_11 (E : List mz_V) : List (Nat × mz_O) := [(370, .inl (mz_ld mz_isR 0 371)), (371, .inl (mz_ld mz_isI 3 372)), (372, .inl (mz_push (.inl 1) 373)), (373, .inl (mz_o2 mz_f_iadd 374)), (374, .inl (mz_xl 0 E 375)), (375, .inl (mz_call rn_X12_wets 2 (mz_ckV 12) 378)), (378, .inl (mz_j2 mz_eq 794 381)), (383, .inl (mz_ld mz_isR 1 384)), (384, .inl (mz_ld mz_isR 0 385)), (385, .inl (mz_ld mz_isI 3 386)), (386, .inl (mz_push (.inl 1) 387)), (387, .inl (mz_o2 mz_f_iadd 388)), (388, .inl (mz_xl 0 E 389)), (389, .inl (mz_call rn_X11_play 2 (mz_ckV 11) 392)), (392, .inl (mz_ld mz_isR 2 393)), (393, .inl (mz_ld mz_isR 0 394))]
theorem tk_L_11 (E : List mz_V) : mz_all E tM_L (ck_L_11 E) :=
  mz_cons (mz_aload_n (k := 0) (show decode cL_law 370 = .ok (.aload_n 0, 1) by decide +kernel)) (
  mz_cons (mz_iload_n (k := 3) (show decode cL_law 371 = .ok (.iload_n 3, 1) by decide +kernel)) (
  mz_cons (mz_iconst 1 (by decide) (show decode cL_law 372 = .ok (.iconst 1, 1) by decide +kernel)) (
  mz_cons (mz_iadd (show decode cL_law 373 = .ok (.iadd, 1) by decide +kernel)) (
  mz_cons (mz_xlScr (show decode cL_law 374 = .ok (.iaload, 1) by decide +kernel)) (
  mz_cons (mz_invV (n := 1) (ctr_X12_wets E) rfl ⟨by decide, by decide, by decide +kernel⟩ ⟨by decide, by decide⟩ mw_1188 mw_1185 mw_1186 mw_1187 mw_74 (show decode cL_law 375 = .ok (.invokevirtual 54, 3) by decide +kernel)) (
  mz_cons (mz_icmp_eq 794 (by decide) (show decode cL_law 378 = .ok (.if_icmp .eq 416, 3) by decide +kernel)) (
  mz_cons (mz_aload_n (k := 1) (show decode cL_law 383 = .ok (.aload_n 1, 1) by decide +kernel)) (
  mz_cons (mz_aload_n (k := 0) (show decode cL_law 384 = .ok (.aload_n 0, 1) by decide +kernel)) (
  mz_cons (mz_iload_n (k := 3) (show decode cL_law 385 = .ok (.iload_n 3, 1) by decide +kernel)) (
  mz_cons (mz_iconst 1 (by decide) (show decode cL_law 386 = .ok (.iconst 1, 1) by decide +kernel)) (
  mz_cons (mz_iadd (show decode cL_law 387 = .ok (.iadd, 1) by decide +kernel)) (
  mz_cons (mz_xlScr (show decode cL_law 388 = .ok (.iaload, 1) by decide +kernel)) (
  mz_cons (mz_invV (n := 1) (ctr_X11_play E) rfl ⟨by decide, by decide, by decide +kernel⟩ ⟨by decide, by decide⟩ mw_683 mw_680 mw_681 mw_682 mw_61 (show decode cL_law 389 = .ok (.invokevirtual 55, 3) by decide +kernel)) (
  mz_cons (mz_aload_n (k := 2) (show decode cL_law 392 = .ok (.aload_n 2, 1) by decide +kernel)) (
  mz_cons (mz_aload_n (k := 0) (show decode cL_law 393 = .ok (.aload_n 0, 1) by decide +kernel)) (
  mz_nil))))))))))))))))
noncomputable def ck_L_12 (E : List mz_V) : List (Nat × mz_O) := [(394, .inl (mz_ld mz_isI 3 395)), (395, .inl (mz_push (.inl 1) 396)), (396, .inl (mz_o2 mz_f_iadd 397)), (397, .inl (mz_xl 0 E 398)), (398, .inl (mz_call rn_X12_play 2 (mz_ckV 12) 401)), (401, .inl (mz_j2 mz_eq 794 404)), (406, .inl (mz_ld mz_isR 1 407)), (407, .inl (mz_ld mz_isR 0 408)), (408, .inl (mz_ld mz_isI 3 409)), (409, .inl (mz_push (.inl 1) 410)), (410, .inl (mz_o2 mz_f_iadd 411)), (411, .inl (mz_xl 0 E 412)), (412, .inl (mz_call rn_X11_sparks 2 (mz_ckV 11) 415)), (415, .inl (mz_ld mz_isR 2 416)), (416, .inl (mz_ld mz_isR 0 417)), (417, .inl (mz_ld mz_isI 3 418))]
theorem tk_L_12 (E : List mz_V) : mz_all E tM_L (ck_L_12 E) :=
  mz_cons (mz_iload_n (k := 3) (show decode cL_law 394 = .ok (.iload_n 3, 1) by decide +kernel)) (
  mz_cons (mz_iconst 1 (by decide) (show decode cL_law 395 = .ok (.iconst 1, 1) by decide +kernel)) (
  mz_cons (mz_iadd (show decode cL_law 396 = .ok (.iadd, 1) by decide +kernel)) (
  mz_cons (mz_xlScr (show decode cL_law 397 = .ok (.iaload, 1) by decide +kernel)) (
  mz_cons (mz_invV (n := 1) (ctr_X12_play E) rfl ⟨by decide, by decide, by decide +kernel⟩ ⟨by decide, by decide⟩ mw_1192 mw_1189 mw_1190 mw_1191 mw_74 (show decode cL_law 398 = .ok (.invokevirtual 58, 3) by decide +kernel)) (
  mz_cons (mz_icmp_eq 794 (by decide) (show decode cL_law 401 = .ok (.if_icmp .eq 393, 3) by decide +kernel)) (
  mz_cons (mz_aload_n (k := 1) (show decode cL_law 406 = .ok (.aload_n 1, 1) by decide +kernel)) (
  mz_cons (mz_aload_n (k := 0) (show decode cL_law 407 = .ok (.aload_n 0, 1) by decide +kernel)) (
  mz_cons (mz_iload_n (k := 3) (show decode cL_law 408 = .ok (.iload_n 3, 1) by decide +kernel)) (
  mz_cons (mz_iconst 1 (by decide) (show decode cL_law 409 = .ok (.iconst 1, 1) by decide +kernel)) (
  mz_cons (mz_iadd (show decode cL_law 410 = .ok (.iadd, 1) by decide +kernel)) (
  mz_cons (mz_xlScr (show decode cL_law 411 = .ok (.iaload, 1) by decide +kernel)) (
  mz_cons (mz_invV (n := 1) (ctr_X11_sparks E) rfl ⟨by decide, by decide, by decide +kernel⟩ ⟨by decide, by decide⟩ mw_695 mw_692 mw_693 mw_694 mw_61 (show decode cL_law 412 = .ok (.invokevirtual 59, 3) by decide +kernel)) (
  mz_cons (mz_aload_n (k := 2) (show decode cL_law 415 = .ok (.aload_n 2, 1) by decide +kernel)) (
  mz_cons (mz_aload_n (k := 0) (show decode cL_law 416 = .ok (.aload_n 0, 1) by decide +kernel)) (
  mz_cons (mz_iload_n (k := 3) (show decode cL_law 417 = .ok (.iload_n 3, 1) by decide +kernel)) (
  mz_nil))))))))))))))))
noncomputable def ck_L_13 (E : List mz_V) : List (Nat × mz_O) := [(418, .inl (mz_push (.inl 1) 419)), (419, .inl (mz_o2 mz_f_iadd 420)), (420, .inl (mz_xl 0 E 421)), (421, .inl (mz_call rn_X12_sparks 2 (mz_ckV 12) 424)), (424, .inl (mz_j2 mz_eq 794 427)), (429, .inl (mz_ld mz_isR 1 430)), (430, .inl (mz_ld mz_isR 0 431)), (431, .inl (mz_ld mz_isI 3 432)), (432, .inl (mz_push (.inl 1) 433)), (433, .inl (mz_o2 mz_f_iadd 434)), (434, .inl (mz_xl 0 E 435)), (435, .inl (mz_ld mz_isR 0 436)), (436, .inl (mz_ld mz_isI 3 437)), (437, .inl (mz_push (.inl 2) 438)), (438, .inl (mz_o2 mz_f_iadd 439)), (439, .inl (mz_xl 0 E 440))]
theorem tk_L_13 (E : List mz_V) : mz_all E tM_L (ck_L_13 E) :=
  mz_cons (mz_iconst 1 (by decide) (show decode cL_law 418 = .ok (.iconst 1, 1) by decide +kernel)) (
  mz_cons (mz_iadd (show decode cL_law 419 = .ok (.iadd, 1) by decide +kernel)) (
  mz_cons (mz_xlScr (show decode cL_law 420 = .ok (.iaload, 1) by decide +kernel)) (
  mz_cons (mz_invV (n := 1) (ctr_X12_sparks E) rfl ⟨by decide, by decide, by decide +kernel⟩ ⟨by decide, by decide⟩ mw_1197 mw_1194 mw_1195 mw_1196 mw_74 (show decode cL_law 421 = .ok (.invokevirtual 62, 3) by decide +kernel)) (
  mz_cons (mz_icmp_eq 794 (by decide) (show decode cL_law 424 = .ok (.if_icmp .eq 370, 3) by decide +kernel)) (
  mz_cons (mz_aload_n (k := 1) (show decode cL_law 429 = .ok (.aload_n 1, 1) by decide +kernel)) (
  mz_cons (mz_aload_n (k := 0) (show decode cL_law 430 = .ok (.aload_n 0, 1) by decide +kernel)) (
  mz_cons (mz_iload_n (k := 3) (show decode cL_law 431 = .ok (.iload_n 3, 1) by decide +kernel)) (
  mz_cons (mz_iconst 1 (by decide) (show decode cL_law 432 = .ok (.iconst 1, 1) by decide +kernel)) (
  mz_cons (mz_iadd (show decode cL_law 433 = .ok (.iadd, 1) by decide +kernel)) (
  mz_cons (mz_xlScr (show decode cL_law 434 = .ok (.iaload, 1) by decide +kernel)) (
  mz_cons (mz_aload_n (k := 0) (show decode cL_law 435 = .ok (.aload_n 0, 1) by decide +kernel)) (
  mz_cons (mz_iload_n (k := 3) (show decode cL_law 436 = .ok (.iload_n 3, 1) by decide +kernel)) (
  mz_cons (mz_iconst 2 (by decide) (show decode cL_law 437 = .ok (.iconst 2, 1) by decide +kernel)) (
  mz_cons (mz_iadd (show decode cL_law 438 = .ok (.iadd, 1) by decide +kernel)) (
  mz_cons (mz_xlScr (show decode cL_law 439 = .ok (.iaload, 1) by decide +kernel)) (
  mz_nil))))))))))))))))
noncomputable def ck_L_14 (E : List mz_V) : List (Nat × mz_O) := [(440, .inl (mz_ld mz_isR 0 441)), (441, .inl (mz_ld mz_isI 3 442)), (442, .inl (mz_push (.inl 3) 443)), (443, .inl (mz_o2 mz_f_iadd 444)), (444, .inl (mz_xl 0 E 445)), (445, .inl (mz_call rn_X11_when 4 (mz_ckV 11) 448)), (448, .inl (mz_ld mz_isR 2 449)), (449, .inl (mz_ld mz_isR 0 450)), (450, .inl (mz_ld mz_isI 3 451)), (451, .inl (mz_push (.inl 1) 452)), (452, .inl (mz_o2 mz_f_iadd 453)), (453, .inl (mz_xl 0 E 454)), (454, .inl (mz_ld mz_isR 0 455)), (455, .inl (mz_ld mz_isI 3 456)), (456, .inl (mz_push (.inl 2) 457)), (457, .inl (mz_o2 mz_f_iadd 458))]
theorem tk_L_14 (E : List mz_V) : mz_all E tM_L (ck_L_14 E) :=
  mz_cons (mz_aload_n (k := 0) (show decode cL_law 440 = .ok (.aload_n 0, 1) by decide +kernel)) (
  mz_cons (mz_iload_n (k := 3) (show decode cL_law 441 = .ok (.iload_n 3, 1) by decide +kernel)) (
  mz_cons (mz_iconst 3 (by decide) (show decode cL_law 442 = .ok (.iconst 3, 1) by decide +kernel)) (
  mz_cons (mz_iadd (show decode cL_law 443 = .ok (.iadd, 1) by decide +kernel)) (
  mz_cons (mz_xlScr (show decode cL_law 444 = .ok (.iaload, 1) by decide +kernel)) (
  mz_cons (mz_invV (n := 3) (ctr_X11_when E) rfl ⟨by decide, by decide, by decide +kernel⟩ ⟨by decide, by decide⟩ mw_729 mw_726 mw_727 mw_728 mw_61 (show decode cL_law 445 = .ok (.invokevirtual 63, 3) by decide +kernel)) (
  mz_cons (mz_aload_n (k := 2) (show decode cL_law 448 = .ok (.aload_n 2, 1) by decide +kernel)) (
  mz_cons (mz_aload_n (k := 0) (show decode cL_law 449 = .ok (.aload_n 0, 1) by decide +kernel)) (
  mz_cons (mz_iload_n (k := 3) (show decode cL_law 450 = .ok (.iload_n 3, 1) by decide +kernel)) (
  mz_cons (mz_iconst 1 (by decide) (show decode cL_law 451 = .ok (.iconst 1, 1) by decide +kernel)) (
  mz_cons (mz_iadd (show decode cL_law 452 = .ok (.iadd, 1) by decide +kernel)) (
  mz_cons (mz_xlScr (show decode cL_law 453 = .ok (.iaload, 1) by decide +kernel)) (
  mz_cons (mz_aload_n (k := 0) (show decode cL_law 454 = .ok (.aload_n 0, 1) by decide +kernel)) (
  mz_cons (mz_iload_n (k := 3) (show decode cL_law 455 = .ok (.iload_n 3, 1) by decide +kernel)) (
  mz_cons (mz_iconst 2 (by decide) (show decode cL_law 456 = .ok (.iconst 2, 1) by decide +kernel)) (
  mz_cons (mz_iadd (show decode cL_law 457 = .ok (.iadd, 1) by decide +kernel)) (
  mz_nil))))))))))))))))
noncomputable def ck_L_15 (E : List mz_V) : List (Nat × mz_O) := [(458, .inl (mz_xl 0 E 459)), (459, .inl (mz_ld mz_isR 0 460)), (460, .inl (mz_ld mz_isI 3 461)), (461, .inl (mz_push (.inl 3) 462)), (462, .inl (mz_o2 mz_f_iadd 463)), (463, .inl (mz_xl 0 E 464)), (464, .inl (mz_call rn_X12_when 4 (mz_ckV 12) 467)), (467, .inl (mz_j2 mz_eq 794 470)), (472, .inl (mz_ld mz_isR 1 473)), (473, .inl (mz_ld mz_isR 0 474)), (474, .inl (mz_ld mz_isI 3 475)), (475, .inl (mz_push (.inl 1) 476)), (476, .inl (mz_o2 mz_f_iadd 477)), (477, .inl (mz_xl 0 E 478)), (478, .inl (mz_ld mz_isR 0 479)), (479, .inl (mz_ld mz_isI 3 480))]
theorem tk_L_15 (E : List mz_V) : mz_all E tM_L (ck_L_15 E) :=
  mz_cons (mz_xlScr (show decode cL_law 458 = .ok (.iaload, 1) by decide +kernel)) (
  mz_cons (mz_aload_n (k := 0) (show decode cL_law 459 = .ok (.aload_n 0, 1) by decide +kernel)) (
  mz_cons (mz_iload_n (k := 3) (show decode cL_law 460 = .ok (.iload_n 3, 1) by decide +kernel)) (
  mz_cons (mz_iconst 3 (by decide) (show decode cL_law 461 = .ok (.iconst 3, 1) by decide +kernel)) (
  mz_cons (mz_iadd (show decode cL_law 462 = .ok (.iadd, 1) by decide +kernel)) (
  mz_cons (mz_xlScr (show decode cL_law 463 = .ok (.iaload, 1) by decide +kernel)) (
  mz_cons (mz_invV (n := 3) (ctr_X12_when E) rfl ⟨by decide, by decide, by decide +kernel⟩ ⟨by decide, by decide⟩ mw_1205 mw_1202 mw_1203 mw_1204 mw_74 (show decode cL_law 464 = .ok (.invokevirtual 67, 3) by decide +kernel)) (
  mz_cons (mz_icmp_eq 794 (by decide) (show decode cL_law 467 = .ok (.if_icmp .eq 327, 3) by decide +kernel)) (
  mz_cons (mz_aload_n (k := 1) (show decode cL_law 472 = .ok (.aload_n 1, 1) by decide +kernel)) (
  mz_cons (mz_aload_n (k := 0) (show decode cL_law 473 = .ok (.aload_n 0, 1) by decide +kernel)) (
  mz_cons (mz_iload_n (k := 3) (show decode cL_law 474 = .ok (.iload_n 3, 1) by decide +kernel)) (
  mz_cons (mz_iconst 1 (by decide) (show decode cL_law 475 = .ok (.iconst 1, 1) by decide +kernel)) (
  mz_cons (mz_iadd (show decode cL_law 476 = .ok (.iadd, 1) by decide +kernel)) (
  mz_cons (mz_xlScr (show decode cL_law 477 = .ok (.iaload, 1) by decide +kernel)) (
  mz_cons (mz_aload_n (k := 0) (show decode cL_law 478 = .ok (.aload_n 0, 1) by decide +kernel)) (
  mz_cons (mz_iload_n (k := 3) (show decode cL_law 479 = .ok (.iload_n 3, 1) by decide +kernel)) (
  mz_nil))))))))))))))))
noncomputable def ck_L_16 (E : List mz_V) : List (Nat × mz_O) := [(480, .inl (mz_push (.inl 2) 481)), (481, .inl (mz_o2 mz_f_iadd 482)), (482, .inl (mz_xl 0 E 483)), (483, .inl (mz_call rn_X11_caught 3 (mz_ckV 11) 486)), (486, .inl (mz_ld mz_isR 2 487)), (487, .inl (mz_ld mz_isR 0 488)), (488, .inl (mz_ld mz_isI 3 489)), (489, .inl (mz_push (.inl 1) 490)), (490, .inl (mz_o2 mz_f_iadd 491)), (491, .inl (mz_xl 0 E 492)), (492, .inl (mz_ld mz_isR 0 493)), (493, .inl (mz_ld mz_isI 3 494)), (494, .inl (mz_push (.inl 2) 495)), (495, .inl (mz_o2 mz_f_iadd 496)), (496, .inl (mz_xl 0 E 497)), (497, .inl (mz_call rn_X12_caught 3 (mz_ckV 12) 500))]
theorem tk_L_16 (E : List mz_V) : mz_all E tM_L (ck_L_16 E) :=
  mz_cons (mz_iconst 2 (by decide) (show decode cL_law 480 = .ok (.iconst 2, 1) by decide +kernel)) (
  mz_cons (mz_iadd (show decode cL_law 481 = .ok (.iadd, 1) by decide +kernel)) (
  mz_cons (mz_xlScr (show decode cL_law 482 = .ok (.iaload, 1) by decide +kernel)) (
  mz_cons (mz_invV (n := 2) (ctr_X11_caught E) rfl ⟨by decide, by decide, by decide +kernel⟩ ⟨by decide, by decide⟩ mw_741 mw_738 mw_739 mw_740 mw_61 (show decode cL_law 483 = .ok (.invokevirtual 68, 3) by decide +kernel)) (
  mz_cons (mz_aload_n (k := 2) (show decode cL_law 486 = .ok (.aload_n 2, 1) by decide +kernel)) (
  mz_cons (mz_aload_n (k := 0) (show decode cL_law 487 = .ok (.aload_n 0, 1) by decide +kernel)) (
  mz_cons (mz_iload_n (k := 3) (show decode cL_law 488 = .ok (.iload_n 3, 1) by decide +kernel)) (
  mz_cons (mz_iconst 1 (by decide) (show decode cL_law 489 = .ok (.iconst 1, 1) by decide +kernel)) (
  mz_cons (mz_iadd (show decode cL_law 490 = .ok (.iadd, 1) by decide +kernel)) (
  mz_cons (mz_xlScr (show decode cL_law 491 = .ok (.iaload, 1) by decide +kernel)) (
  mz_cons (mz_aload_n (k := 0) (show decode cL_law 492 = .ok (.aload_n 0, 1) by decide +kernel)) (
  mz_cons (mz_iload_n (k := 3) (show decode cL_law 493 = .ok (.iload_n 3, 1) by decide +kernel)) (
  mz_cons (mz_iconst 2 (by decide) (show decode cL_law 494 = .ok (.iconst 2, 1) by decide +kernel)) (
  mz_cons (mz_iadd (show decode cL_law 495 = .ok (.iadd, 1) by decide +kernel)) (
  mz_cons (mz_xlScr (show decode cL_law 496 = .ok (.iaload, 1) by decide +kernel)) (
  mz_cons (mz_invV (n := 2) (ctr_X12_caught E) rfl ⟨by decide, by decide, by decide +kernel⟩ ⟨by decide, by decide⟩ mw_1209 mw_1206 mw_1207 mw_1208 mw_74 (show decode cL_law 497 = .ok (.invokevirtual 71, 3) by decide +kernel)) (
  mz_nil))))))))))))))))
noncomputable def ck_L_17 (E : List mz_V) : List (Nat × mz_O) := [(500, .inl (mz_j2 mz_eq 794 503)), (505, .inl (mz_ld mz_isR 1 506)), (506, .inl (mz_ld mz_isR 0 507)), (507, .inl (mz_ld mz_isI 3 508)), (508, .inl (mz_push (.inl 1) 509)), (509, .inl (mz_o2 mz_f_iadd 510)), (510, .inl (mz_xl 0 E 511)), (511, .inl (mz_ld mz_isR 0 512)), (512, .inl (mz_ld mz_isI 3 513)), (513, .inl (mz_push (.inl 2) 514)), (514, .inl (mz_o2 mz_f_iadd 515)), (515, .inl (mz_xl 0 E 516)), (516, .inl (mz_call rn_X11_seeds 3 (mz_ckV 11) 519)), (519, .inl (mz_ld mz_isR 2 520)), (520, .inl (mz_ld mz_isR 0 521)), (521, .inl (mz_ld mz_isI 3 522))]
theorem tk_L_17 (E : List mz_V) : mz_all E tM_L (ck_L_17 E) :=
  mz_cons (mz_icmp_eq 794 (by decide) (show decode cL_law 500 = .ok (.if_icmp .eq 294, 3) by decide +kernel)) (
  mz_cons (mz_aload_n (k := 1) (show decode cL_law 505 = .ok (.aload_n 1, 1) by decide +kernel)) (
  mz_cons (mz_aload_n (k := 0) (show decode cL_law 506 = .ok (.aload_n 0, 1) by decide +kernel)) (
  mz_cons (mz_iload_n (k := 3) (show decode cL_law 507 = .ok (.iload_n 3, 1) by decide +kernel)) (
  mz_cons (mz_iconst 1 (by decide) (show decode cL_law 508 = .ok (.iconst 1, 1) by decide +kernel)) (
  mz_cons (mz_iadd (show decode cL_law 509 = .ok (.iadd, 1) by decide +kernel)) (
  mz_cons (mz_xlScr (show decode cL_law 510 = .ok (.iaload, 1) by decide +kernel)) (
  mz_cons (mz_aload_n (k := 0) (show decode cL_law 511 = .ok (.aload_n 0, 1) by decide +kernel)) (
  mz_cons (mz_iload_n (k := 3) (show decode cL_law 512 = .ok (.iload_n 3, 1) by decide +kernel)) (
  mz_cons (mz_iconst 2 (by decide) (show decode cL_law 513 = .ok (.iconst 2, 1) by decide +kernel)) (
  mz_cons (mz_iadd (show decode cL_law 514 = .ok (.iadd, 1) by decide +kernel)) (
  mz_cons (mz_xlScr (show decode cL_law 515 = .ok (.iaload, 1) by decide +kernel)) (
  mz_cons (mz_invV (n := 2) (ctr_X11_seeds E) rfl ⟨by decide, by decide, by decide +kernel⟩ ⟨by decide, by decide⟩ mw_763 mw_760 mw_761 mw_762 mw_61 (show decode cL_law 516 = .ok (.invokevirtual 72, 3) by decide +kernel)) (
  mz_cons (mz_aload_n (k := 2) (show decode cL_law 519 = .ok (.aload_n 2, 1) by decide +kernel)) (
  mz_cons (mz_aload_n (k := 0) (show decode cL_law 520 = .ok (.aload_n 0, 1) by decide +kernel)) (
  mz_cons (mz_iload_n (k := 3) (show decode cL_law 521 = .ok (.iload_n 3, 1) by decide +kernel)) (
  mz_nil))))))))))))))))
noncomputable def ck_L_18 (E : List mz_V) : List (Nat × mz_O) := [(522, .inl (mz_push (.inl 1) 523)), (523, .inl (mz_o2 mz_f_iadd 524)), (524, .inl (mz_xl 0 E 525)), (525, .inl (mz_ld mz_isR 0 526)), (526, .inl (mz_ld mz_isI 3 527)), (527, .inl (mz_push (.inl 2) 528)), (528, .inl (mz_o2 mz_f_iadd 529)), (529, .inl (mz_xl 0 E 530)), (530, .inl (mz_call rn_X12_seeds 3 (mz_ckV 12) 533)), (533, .inl (mz_j2 mz_eq 794 536)), (538, .inl (mz_ld mz_isR 1 539)), (539, .inl (mz_ld mz_isR 0 540)), (540, .inl (mz_ld mz_isI 3 541)), (541, .inl (mz_push (.inl 1) 542)), (542, .inl (mz_o2 mz_f_iadd 543)), (543, .inl (mz_xl 0 E 544))]
theorem tk_L_18 (E : List mz_V) : mz_all E tM_L (ck_L_18 E) :=
  mz_cons (mz_iconst 1 (by decide) (show decode cL_law 522 = .ok (.iconst 1, 1) by decide +kernel)) (
  mz_cons (mz_iadd (show decode cL_law 523 = .ok (.iadd, 1) by decide +kernel)) (
  mz_cons (mz_xlScr (show decode cL_law 524 = .ok (.iaload, 1) by decide +kernel)) (
  mz_cons (mz_aload_n (k := 0) (show decode cL_law 525 = .ok (.aload_n 0, 1) by decide +kernel)) (
  mz_cons (mz_iload_n (k := 3) (show decode cL_law 526 = .ok (.iload_n 3, 1) by decide +kernel)) (
  mz_cons (mz_iconst 2 (by decide) (show decode cL_law 527 = .ok (.iconst 2, 1) by decide +kernel)) (
  mz_cons (mz_iadd (show decode cL_law 528 = .ok (.iadd, 1) by decide +kernel)) (
  mz_cons (mz_xlScr (show decode cL_law 529 = .ok (.iaload, 1) by decide +kernel)) (
  mz_cons (mz_invV (n := 2) (ctr_X12_seeds E) rfl ⟨by decide, by decide, by decide +kernel⟩ ⟨by decide, by decide⟩ mw_1221 mw_1218 mw_1219 mw_1220 mw_74 (show decode cL_law 530 = .ok (.invokevirtual 75, 3) by decide +kernel)) (
  mz_cons (mz_icmp_eq 794 (by decide) (show decode cL_law 533 = .ok (.if_icmp .eq 261, 3) by decide +kernel)) (
  mz_cons (mz_aload_n (k := 1) (show decode cL_law 538 = .ok (.aload_n 1, 1) by decide +kernel)) (
  mz_cons (mz_aload_n (k := 0) (show decode cL_law 539 = .ok (.aload_n 0, 1) by decide +kernel)) (
  mz_cons (mz_iload_n (k := 3) (show decode cL_law 540 = .ok (.iload_n 3, 1) by decide +kernel)) (
  mz_cons (mz_iconst 1 (by decide) (show decode cL_law 541 = .ok (.iconst 1, 1) by decide +kernel)) (
  mz_cons (mz_iadd (show decode cL_law 542 = .ok (.iadd, 1) by decide +kernel)) (
  mz_cons (mz_xlScr (show decode cL_law 543 = .ok (.iaload, 1) by decide +kernel)) (
  mz_nil))))))))))))))))
noncomputable def ck_L_19 (E : List mz_V) : List (Nat × mz_O) := [(544, .inl (mz_ld mz_isR 0 545)), (545, .inl (mz_ld mz_isI 3 546)), (546, .inl (mz_push (.inl 2) 547)), (547, .inl (mz_o2 mz_f_iadd 548)), (548, .inl (mz_xl 0 E 549)), (549, .inl (mz_call rn_X11_ahead 3 (mz_ckV 11) 552)), (552, .inl (mz_ld mz_isR 2 553)), (553, .inl (mz_ld mz_isR 0 554)), (554, .inl (mz_ld mz_isI 3 555)), (555, .inl (mz_push (.inl 1) 556)), (556, .inl (mz_o2 mz_f_iadd 557)), (557, .inl (mz_xl 0 E 558)), (558, .inl (mz_ld mz_isR 0 559)), (559, .inl (mz_ld mz_isI 3 560)), (560, .inl (mz_push (.inl 2) 561)), (561, .inl (mz_o2 mz_f_iadd 562))]
theorem tk_L_19 (E : List mz_V) : mz_all E tM_L (ck_L_19 E) :=
  mz_cons (mz_aload_n (k := 0) (show decode cL_law 544 = .ok (.aload_n 0, 1) by decide +kernel)) (
  mz_cons (mz_iload_n (k := 3) (show decode cL_law 545 = .ok (.iload_n 3, 1) by decide +kernel)) (
  mz_cons (mz_iconst 2 (by decide) (show decode cL_law 546 = .ok (.iconst 2, 1) by decide +kernel)) (
  mz_cons (mz_iadd (show decode cL_law 547 = .ok (.iadd, 1) by decide +kernel)) (
  mz_cons (mz_xlScr (show decode cL_law 548 = .ok (.iaload, 1) by decide +kernel)) (
  mz_cons (mz_invV (n := 2) (ctr_X11_ahead E) rfl ⟨by decide, by decide, by decide +kernel⟩ ⟨by decide, by decide⟩ mw_786 mw_783 mw_784 mw_785 mw_61 (show decode cL_law 549 = .ok (.invokevirtual 76, 3) by decide +kernel)) (
  mz_cons (mz_aload_n (k := 2) (show decode cL_law 552 = .ok (.aload_n 2, 1) by decide +kernel)) (
  mz_cons (mz_aload_n (k := 0) (show decode cL_law 553 = .ok (.aload_n 0, 1) by decide +kernel)) (
  mz_cons (mz_iload_n (k := 3) (show decode cL_law 554 = .ok (.iload_n 3, 1) by decide +kernel)) (
  mz_cons (mz_iconst 1 (by decide) (show decode cL_law 555 = .ok (.iconst 1, 1) by decide +kernel)) (
  mz_cons (mz_iadd (show decode cL_law 556 = .ok (.iadd, 1) by decide +kernel)) (
  mz_cons (mz_xlScr (show decode cL_law 557 = .ok (.iaload, 1) by decide +kernel)) (
  mz_cons (mz_aload_n (k := 0) (show decode cL_law 558 = .ok (.aload_n 0, 1) by decide +kernel)) (
  mz_cons (mz_iload_n (k := 3) (show decode cL_law 559 = .ok (.iload_n 3, 1) by decide +kernel)) (
  mz_cons (mz_iconst 2 (by decide) (show decode cL_law 560 = .ok (.iconst 2, 1) by decide +kernel)) (
  mz_cons (mz_iadd (show decode cL_law 561 = .ok (.iadd, 1) by decide +kernel)) (
  mz_nil))))))))))))))))
noncomputable def ck_L_20 (E : List mz_V) : List (Nat × mz_O) := [(562, .inl (mz_xl 0 E 563)), (563, .inl (mz_call rn_X12_ahead 3 (mz_ckV 12) 566)), (566, .inl (mz_j2 mz_eq 794 569)), (571, .inl (mz_ld mz_isR 1 572)), (572, .inl (mz_ld mz_isR 0 573)), (573, .inl (mz_ld mz_isI 3 574)), (574, .inl (mz_push (.inl 1) 575)), (575, .inl (mz_o2 mz_f_iadd 576)), (576, .inl (mz_xl 0 E 577)), (577, .inl (mz_ld mz_isR 0 578)), (578, .inl (mz_ld mz_isI 3 579)), (579, .inl (mz_push (.inl 2) 580)), (580, .inl (mz_o2 mz_f_iadd 581)), (581, .inl (mz_xl 0 E 582)), (582, .inl (mz_ld mz_isR 0 583)), (583, .inl (mz_ld mz_isI 3 584))]
theorem tk_L_20 (E : List mz_V) : mz_all E tM_L (ck_L_20 E) :=
  mz_cons (mz_xlScr (show decode cL_law 562 = .ok (.iaload, 1) by decide +kernel)) (
  mz_cons (mz_invV (n := 2) (ctr_X12_ahead E) rfl ⟨by decide, by decide, by decide +kernel⟩ ⟨by decide, by decide⟩ mw_1226 mw_1223 mw_1224 mw_1225 mw_74 (show decode cL_law 563 = .ok (.invokevirtual 79, 3) by decide +kernel)) (
  mz_cons (mz_icmp_eq 794 (by decide) (show decode cL_law 566 = .ok (.if_icmp .eq 228, 3) by decide +kernel)) (
  mz_cons (mz_aload_n (k := 1) (show decode cL_law 571 = .ok (.aload_n 1, 1) by decide +kernel)) (
  mz_cons (mz_aload_n (k := 0) (show decode cL_law 572 = .ok (.aload_n 0, 1) by decide +kernel)) (
  mz_cons (mz_iload_n (k := 3) (show decode cL_law 573 = .ok (.iload_n 3, 1) by decide +kernel)) (
  mz_cons (mz_iconst 1 (by decide) (show decode cL_law 574 = .ok (.iconst 1, 1) by decide +kernel)) (
  mz_cons (mz_iadd (show decode cL_law 575 = .ok (.iadd, 1) by decide +kernel)) (
  mz_cons (mz_xlScr (show decode cL_law 576 = .ok (.iaload, 1) by decide +kernel)) (
  mz_cons (mz_aload_n (k := 0) (show decode cL_law 577 = .ok (.aload_n 0, 1) by decide +kernel)) (
  mz_cons (mz_iload_n (k := 3) (show decode cL_law 578 = .ok (.iload_n 3, 1) by decide +kernel)) (
  mz_cons (mz_iconst 2 (by decide) (show decode cL_law 579 = .ok (.iconst 2, 1) by decide +kernel)) (
  mz_cons (mz_iadd (show decode cL_law 580 = .ok (.iadd, 1) by decide +kernel)) (
  mz_cons (mz_xlScr (show decode cL_law 581 = .ok (.iaload, 1) by decide +kernel)) (
  mz_cons (mz_aload_n (k := 0) (show decode cL_law 582 = .ok (.aload_n 0, 1) by decide +kernel)) (
  mz_cons (mz_iload_n (k := 3) (show decode cL_law 583 = .ok (.iload_n 3, 1) by decide +kernel)) (
  mz_nil))))))))))))))))
noncomputable def ck_L_21 (E : List mz_V) : List (Nat × mz_O) := [(584, .inl (mz_push (.inl 3) 585)), (585, .inl (mz_o2 mz_f_iadd 586)), (586, .inl (mz_xl 0 E 587)), (587, .inl (mz_call rn_X11_forced 4 (mz_ckV 11) 590)), (590, .inl (mz_ld mz_isR 2 591)), (591, .inl (mz_ld mz_isR 0 592)), (592, .inl (mz_ld mz_isI 3 593)), (593, .inl (mz_push (.inl 1) 594)), (594, .inl (mz_o2 mz_f_iadd 595)), (595, .inl (mz_xl 0 E 596)), (596, .inl (mz_ld mz_isR 0 597)), (597, .inl (mz_ld mz_isI 3 598)), (598, .inl (mz_push (.inl 2) 599)), (599, .inl (mz_o2 mz_f_iadd 600)), (600, .inl (mz_xl 0 E 601)), (601, .inl (mz_ld mz_isR 0 602))]
theorem tk_L_21 (E : List mz_V) : mz_all E tM_L (ck_L_21 E) :=
  mz_cons (mz_iconst 3 (by decide) (show decode cL_law 584 = .ok (.iconst 3, 1) by decide +kernel)) (
  mz_cons (mz_iadd (show decode cL_law 585 = .ok (.iadd, 1) by decide +kernel)) (
  mz_cons (mz_xlScr (show decode cL_law 586 = .ok (.iaload, 1) by decide +kernel)) (
  mz_cons (mz_invV (n := 3) (ctr_X11_forced E) rfl ⟨by decide, by decide, by decide +kernel⟩ ⟨by decide, by decide⟩ mw_795 mw_792 mw_793 mw_794 mw_61 (show decode cL_law 587 = .ok (.invokevirtual 80, 3) by decide +kernel)) (
  mz_cons (mz_aload_n (k := 2) (show decode cL_law 590 = .ok (.aload_n 2, 1) by decide +kernel)) (
  mz_cons (mz_aload_n (k := 0) (show decode cL_law 591 = .ok (.aload_n 0, 1) by decide +kernel)) (
  mz_cons (mz_iload_n (k := 3) (show decode cL_law 592 = .ok (.iload_n 3, 1) by decide +kernel)) (
  mz_cons (mz_iconst 1 (by decide) (show decode cL_law 593 = .ok (.iconst 1, 1) by decide +kernel)) (
  mz_cons (mz_iadd (show decode cL_law 594 = .ok (.iadd, 1) by decide +kernel)) (
  mz_cons (mz_xlScr (show decode cL_law 595 = .ok (.iaload, 1) by decide +kernel)) (
  mz_cons (mz_aload_n (k := 0) (show decode cL_law 596 = .ok (.aload_n 0, 1) by decide +kernel)) (
  mz_cons (mz_iload_n (k := 3) (show decode cL_law 597 = .ok (.iload_n 3, 1) by decide +kernel)) (
  mz_cons (mz_iconst 2 (by decide) (show decode cL_law 598 = .ok (.iconst 2, 1) by decide +kernel)) (
  mz_cons (mz_iadd (show decode cL_law 599 = .ok (.iadd, 1) by decide +kernel)) (
  mz_cons (mz_xlScr (show decode cL_law 600 = .ok (.iaload, 1) by decide +kernel)) (
  mz_cons (mz_aload_n (k := 0) (show decode cL_law 601 = .ok (.aload_n 0, 1) by decide +kernel)) (
  mz_nil))))))))))))))))
noncomputable def ck_L_22 (E : List mz_V) : List (Nat × mz_O) := [(602, .inl (mz_ld mz_isI 3 603)), (603, .inl (mz_push (.inl 3) 604)), (604, .inl (mz_o2 mz_f_iadd 605)), (605, .inl (mz_xl 0 E 606)), (606, .inl (mz_call rn_X12_forced 4 (mz_ckV 12) 609)), (609, .inl (mz_j2 mz_eq 794 612)), (614, .inl (mz_ld mz_isR 1 615)), (615, .inl (mz_ld mz_isR 0 616)), (616, .inl (mz_ld mz_isI 3 617)), (617, .inl (mz_push (.inl 1) 618)), (618, .inl (mz_o2 mz_f_iadd 619)), (619, .inl (mz_xl 0 E 620)), (620, .inl (mz_call rn_X11_forcers 2 (mz_ckV 11) 623)), (623, .inl (mz_ld mz_isR 2 624)), (624, .inl (mz_ld mz_isR 0 625)), (625, .inl (mz_ld mz_isI 3 626))]
theorem tk_L_22 (E : List mz_V) : mz_all E tM_L (ck_L_22 E) :=
  mz_cons (mz_iload_n (k := 3) (show decode cL_law 602 = .ok (.iload_n 3, 1) by decide +kernel)) (
  mz_cons (mz_iconst 3 (by decide) (show decode cL_law 603 = .ok (.iconst 3, 1) by decide +kernel)) (
  mz_cons (mz_iadd (show decode cL_law 604 = .ok (.iadd, 1) by decide +kernel)) (
  mz_cons (mz_xlScr (show decode cL_law 605 = .ok (.iaload, 1) by decide +kernel)) (
  mz_cons (mz_invV (n := 3) (ctr_X12_forced E) rfl ⟨by decide, by decide, by decide +kernel⟩ ⟨by decide, by decide⟩ mw_1230 mw_1227 mw_1228 mw_1229 mw_74 (show decode cL_law 606 = .ok (.invokevirtual 83, 3) by decide +kernel)) (
  mz_cons (mz_icmp_eq 794 (by decide) (show decode cL_law 609 = .ok (.if_icmp .eq 185, 3) by decide +kernel)) (
  mz_cons (mz_aload_n (k := 1) (show decode cL_law 614 = .ok (.aload_n 1, 1) by decide +kernel)) (
  mz_cons (mz_aload_n (k := 0) (show decode cL_law 615 = .ok (.aload_n 0, 1) by decide +kernel)) (
  mz_cons (mz_iload_n (k := 3) (show decode cL_law 616 = .ok (.iload_n 3, 1) by decide +kernel)) (
  mz_cons (mz_iconst 1 (by decide) (show decode cL_law 617 = .ok (.iconst 1, 1) by decide +kernel)) (
  mz_cons (mz_iadd (show decode cL_law 618 = .ok (.iadd, 1) by decide +kernel)) (
  mz_cons (mz_xlScr (show decode cL_law 619 = .ok (.iaload, 1) by decide +kernel)) (
  mz_cons (mz_invV (n := 1) (ctr_X11_forcers E) rfl ⟨by decide, by decide, by decide +kernel⟩ ⟨by decide, by decide⟩ mw_824 mw_821 mw_822 mw_823 mw_61 (show decode cL_law 620 = .ok (.invokevirtual 84, 3) by decide +kernel)) (
  mz_cons (mz_aload_n (k := 2) (show decode cL_law 623 = .ok (.aload_n 2, 1) by decide +kernel)) (
  mz_cons (mz_aload_n (k := 0) (show decode cL_law 624 = .ok (.aload_n 0, 1) by decide +kernel)) (
  mz_cons (mz_iload_n (k := 3) (show decode cL_law 625 = .ok (.iload_n 3, 1) by decide +kernel)) (
  mz_nil))))))))))))))))
noncomputable def ck_L_23 (E : List mz_V) : List (Nat × mz_O) := [(626, .inl (mz_push (.inl 1) 627)), (627, .inl (mz_o2 mz_f_iadd 628)), (628, .inl (mz_xl 0 E 629)), (629, .inl (mz_call rn_X12_forcers 2 (mz_ckV 12) 632)), (632, .inl (mz_j2 mz_eq 794 635)), (637, .inl (mz_ld mz_isR 1 638)), (638, .inl (mz_ld mz_isR 0 639)), (639, .inl (mz_ld mz_isI 3 640)), (640, .inl (mz_push (.inl 1) 641)), (641, .inl (mz_o2 mz_f_iadd 642)), (642, .inl (mz_xl 0 E 643)), (643, .inl (mz_ld mz_isR 0 644)), (644, .inl (mz_ld mz_isI 3 645)), (645, .inl (mz_push (.inl 2) 646)), (646, .inl (mz_o2 mz_f_iadd 647)), (647, .inl (mz_xl 0 E 648))]
theorem tk_L_23 (E : List mz_V) : mz_all E tM_L (ck_L_23 E) :=
  mz_cons (mz_iconst 1 (by decide) (show decode cL_law 626 = .ok (.iconst 1, 1) by decide +kernel)) (
  mz_cons (mz_iadd (show decode cL_law 627 = .ok (.iadd, 1) by decide +kernel)) (
  mz_cons (mz_xlScr (show decode cL_law 628 = .ok (.iaload, 1) by decide +kernel)) (
  mz_cons (mz_invV (n := 1) (ctr_X12_forcers E) rfl ⟨by decide, by decide, by decide +kernel⟩ ⟨by decide, by decide⟩ mw_1242 mw_1239 mw_1240 mw_1241 mw_74 (show decode cL_law 629 = .ok (.invokevirtual 87, 3) by decide +kernel)) (
  mz_cons (mz_icmp_eq 794 (by decide) (show decode cL_law 632 = .ok (.if_icmp .eq 162, 3) by decide +kernel)) (
  mz_cons (mz_aload_n (k := 1) (show decode cL_law 637 = .ok (.aload_n 1, 1) by decide +kernel)) (
  mz_cons (mz_aload_n (k := 0) (show decode cL_law 638 = .ok (.aload_n 0, 1) by decide +kernel)) (
  mz_cons (mz_iload_n (k := 3) (show decode cL_law 639 = .ok (.iload_n 3, 1) by decide +kernel)) (
  mz_cons (mz_iconst 1 (by decide) (show decode cL_law 640 = .ok (.iconst 1, 1) by decide +kernel)) (
  mz_cons (mz_iadd (show decode cL_law 641 = .ok (.iadd, 1) by decide +kernel)) (
  mz_cons (mz_xlScr (show decode cL_law 642 = .ok (.iaload, 1) by decide +kernel)) (
  mz_cons (mz_aload_n (k := 0) (show decode cL_law 643 = .ok (.aload_n 0, 1) by decide +kernel)) (
  mz_cons (mz_iload_n (k := 3) (show decode cL_law 644 = .ok (.iload_n 3, 1) by decide +kernel)) (
  mz_cons (mz_iconst 2 (by decide) (show decode cL_law 645 = .ok (.iconst 2, 1) by decide +kernel)) (
  mz_cons (mz_iadd (show decode cL_law 646 = .ok (.iadd, 1) by decide +kernel)) (
  mz_cons (mz_xlScr (show decode cL_law 647 = .ok (.iaload, 1) by decide +kernel)) (
  mz_nil))))))))))))))))
noncomputable def ck_L_24 (E : List mz_V) : List (Nat × mz_O) := [(648, .inl (mz_ld mz_isR 0 649)), (649, .inl (mz_ld mz_isI 3 650)), (650, .inl (mz_push (.inl 3) 651)), (651, .inl (mz_o2 mz_f_iadd 652)), (652, .inl (mz_xl 0 E 653)), (653, .inl (mz_call rn_X11_carried 4 (mz_ckV 11) 656)), (656, .inl (mz_ld mz_isR 2 657)), (657, .inl (mz_ld mz_isR 0 658)), (658, .inl (mz_ld mz_isI 3 659)), (659, .inl (mz_push (.inl 1) 660)), (660, .inl (mz_o2 mz_f_iadd 661)), (661, .inl (mz_xl 0 E 662)), (662, .inl (mz_ld mz_isR 0 663)), (663, .inl (mz_ld mz_isI 3 664)), (664, .inl (mz_push (.inl 2) 665)), (665, .inl (mz_o2 mz_f_iadd 666))]
theorem tk_L_24 (E : List mz_V) : mz_all E tM_L (ck_L_24 E) :=
  mz_cons (mz_aload_n (k := 0) (show decode cL_law 648 = .ok (.aload_n 0, 1) by decide +kernel)) (
  mz_cons (mz_iload_n (k := 3) (show decode cL_law 649 = .ok (.iload_n 3, 1) by decide +kernel)) (
  mz_cons (mz_iconst 3 (by decide) (show decode cL_law 650 = .ok (.iconst 3, 1) by decide +kernel)) (
  mz_cons (mz_iadd (show decode cL_law 651 = .ok (.iadd, 1) by decide +kernel)) (
  mz_cons (mz_xlScr (show decode cL_law 652 = .ok (.iaload, 1) by decide +kernel)) (
  mz_cons (mz_invV (n := 3) (ctr_X11_carried E) rfl ⟨by decide, by decide, by decide +kernel⟩ ⟨by decide, by decide⟩ mw_856 mw_853 mw_854 mw_855 mw_61 (show decode cL_law 653 = .ok (.invokevirtual 88, 3) by decide +kernel)) (
  mz_cons (mz_aload_n (k := 2) (show decode cL_law 656 = .ok (.aload_n 2, 1) by decide +kernel)) (
  mz_cons (mz_aload_n (k := 0) (show decode cL_law 657 = .ok (.aload_n 0, 1) by decide +kernel)) (
  mz_cons (mz_iload_n (k := 3) (show decode cL_law 658 = .ok (.iload_n 3, 1) by decide +kernel)) (
  mz_cons (mz_iconst 1 (by decide) (show decode cL_law 659 = .ok (.iconst 1, 1) by decide +kernel)) (
  mz_cons (mz_iadd (show decode cL_law 660 = .ok (.iadd, 1) by decide +kernel)) (
  mz_cons (mz_xlScr (show decode cL_law 661 = .ok (.iaload, 1) by decide +kernel)) (
  mz_cons (mz_aload_n (k := 0) (show decode cL_law 662 = .ok (.aload_n 0, 1) by decide +kernel)) (
  mz_cons (mz_iload_n (k := 3) (show decode cL_law 663 = .ok (.iload_n 3, 1) by decide +kernel)) (
  mz_cons (mz_iconst 2 (by decide) (show decode cL_law 664 = .ok (.iconst 2, 1) by decide +kernel)) (
  mz_cons (mz_iadd (show decode cL_law 665 = .ok (.iadd, 1) by decide +kernel)) (
  mz_nil))))))))))))))))
noncomputable def ck_L_25 (E : List mz_V) : List (Nat × mz_O) := [(666, .inl (mz_xl 0 E 667)), (667, .inl (mz_ld mz_isR 0 668)), (668, .inl (mz_ld mz_isI 3 669)), (669, .inl (mz_push (.inl 3) 670)), (670, .inl (mz_o2 mz_f_iadd 671)), (671, .inl (mz_xl 0 E 672)), (672, .inl (mz_call rn_X12_carried 4 (mz_ckV 12) 675)), (675, .inl (mz_o2 mz_f_lcmp 676)), (676, .inl (mz_j1 mz_eq0 794 679)), (681, .inl (mz_ld mz_isR 1 682)), (682, .inl (mz_ld mz_isR 0 683)), (683, .inl (mz_ld mz_isI 3 684)), (684, .inl (mz_push (.inl 1) 685)), (685, .inl (mz_o2 mz_f_iadd 686)), (686, .inl (mz_xl 0 E 687)), (687, .inl (mz_ld mz_isR 0 688))]
theorem tk_L_25 (E : List mz_V) : mz_all E tM_L (ck_L_25 E) :=
  mz_cons (mz_xlScr (show decode cL_law 666 = .ok (.iaload, 1) by decide +kernel)) (
  mz_cons (mz_aload_n (k := 0) (show decode cL_law 667 = .ok (.aload_n 0, 1) by decide +kernel)) (
  mz_cons (mz_iload_n (k := 3) (show decode cL_law 668 = .ok (.iload_n 3, 1) by decide +kernel)) (
  mz_cons (mz_iconst 3 (by decide) (show decode cL_law 669 = .ok (.iconst 3, 1) by decide +kernel)) (
  mz_cons (mz_iadd (show decode cL_law 670 = .ok (.iadd, 1) by decide +kernel)) (
  mz_cons (mz_xlScr (show decode cL_law 671 = .ok (.iaload, 1) by decide +kernel)) (
  mz_cons (mz_invV (n := 3) (ctr_X12_carried E) rfl ⟨by decide, by decide, by decide +kernel⟩ ⟨by decide, by decide⟩ mw_1250 mw_1247 mw_1248 mw_1249 mw_74 (show decode cL_law 672 = .ok (.invokevirtual 92, 3) by decide +kernel)) (
  mz_cons (mz_lcmp (show decode cL_law 675 = .ok (.lcmp, 1) by decide +kernel)) (
  mz_cons (mz_if_eq 794 (by decide) (show decode cL_law 676 = .ok (.ifCond .eq 118, 3) by decide +kernel)) (
  mz_cons (mz_aload_n (k := 1) (show decode cL_law 681 = .ok (.aload_n 1, 1) by decide +kernel)) (
  mz_cons (mz_aload_n (k := 0) (show decode cL_law 682 = .ok (.aload_n 0, 1) by decide +kernel)) (
  mz_cons (mz_iload_n (k := 3) (show decode cL_law 683 = .ok (.iload_n 3, 1) by decide +kernel)) (
  mz_cons (mz_iconst 1 (by decide) (show decode cL_law 684 = .ok (.iconst 1, 1) by decide +kernel)) (
  mz_cons (mz_iadd (show decode cL_law 685 = .ok (.iadd, 1) by decide +kernel)) (
  mz_cons (mz_xlScr (show decode cL_law 686 = .ok (.iaload, 1) by decide +kernel)) (
  mz_cons (mz_aload_n (k := 0) (show decode cL_law 687 = .ok (.aload_n 0, 1) by decide +kernel)) (
  mz_nil))))))))))))))))
noncomputable def ck_L_26 (E : List mz_V) : List (Nat × mz_O) := [(688, .inl (mz_ld mz_isI 3 689)), (689, .inl (mz_push (.inl 2) 690)), (690, .inl (mz_o2 mz_f_iadd 691)), (691, .inl (mz_xl 0 E 692)), (692, .inl (mz_call rn_X11_mean 3 (mz_ckV 11) 695)), (695, .inl (mz_ld mz_isR 2 696)), (696, .inl (mz_ld mz_isR 0 697)), (697, .inl (mz_ld mz_isI 3 698)), (698, .inl (mz_push (.inl 1) 699)), (699, .inl (mz_o2 mz_f_iadd 700)), (700, .inl (mz_xl 0 E 701)), (701, .inl (mz_ld mz_isR 0 702)), (702, .inl (mz_ld mz_isI 3 703)), (703, .inl (mz_push (.inl 2) 704)), (704, .inl (mz_o2 mz_f_iadd 705)), (705, .inl (mz_xl 0 E 706))]
theorem tk_L_26 (E : List mz_V) : mz_all E tM_L (ck_L_26 E) :=
  mz_cons (mz_iload_n (k := 3) (show decode cL_law 688 = .ok (.iload_n 3, 1) by decide +kernel)) (
  mz_cons (mz_iconst 2 (by decide) (show decode cL_law 689 = .ok (.iconst 2, 1) by decide +kernel)) (
  mz_cons (mz_iadd (show decode cL_law 690 = .ok (.iadd, 1) by decide +kernel)) (
  mz_cons (mz_xlScr (show decode cL_law 691 = .ok (.iaload, 1) by decide +kernel)) (
  mz_cons (mz_invV (n := 2) (ctr_X11_mean E) rfl ⟨by decide, by decide, by decide +kernel⟩ ⟨by decide, by decide⟩ mw_904 mw_901 mw_902 mw_903 mw_61 (show decode cL_law 692 = .ok (.invokevirtual 93, 3) by decide +kernel)) (
  mz_cons (mz_aload_n (k := 2) (show decode cL_law 695 = .ok (.aload_n 2, 1) by decide +kernel)) (
  mz_cons (mz_aload_n (k := 0) (show decode cL_law 696 = .ok (.aload_n 0, 1) by decide +kernel)) (
  mz_cons (mz_iload_n (k := 3) (show decode cL_law 697 = .ok (.iload_n 3, 1) by decide +kernel)) (
  mz_cons (mz_iconst 1 (by decide) (show decode cL_law 698 = .ok (.iconst 1, 1) by decide +kernel)) (
  mz_cons (mz_iadd (show decode cL_law 699 = .ok (.iadd, 1) by decide +kernel)) (
  mz_cons (mz_xlScr (show decode cL_law 700 = .ok (.iaload, 1) by decide +kernel)) (
  mz_cons (mz_aload_n (k := 0) (show decode cL_law 701 = .ok (.aload_n 0, 1) by decide +kernel)) (
  mz_cons (mz_iload_n (k := 3) (show decode cL_law 702 = .ok (.iload_n 3, 1) by decide +kernel)) (
  mz_cons (mz_iconst 2 (by decide) (show decode cL_law 703 = .ok (.iconst 2, 1) by decide +kernel)) (
  mz_cons (mz_iadd (show decode cL_law 704 = .ok (.iadd, 1) by decide +kernel)) (
  mz_cons (mz_xlScr (show decode cL_law 705 = .ok (.iaload, 1) by decide +kernel)) (
  mz_nil))))))))))))))))
noncomputable def ck_L_27 (E : List mz_V) : List (Nat × mz_O) := [(706, .inl (mz_call rn_X12_mean 3 (mz_ckV 12) 709)), (709, .inl (mz_o2 mz_f_lcmp 710)), (710, .inl (mz_j1 mz_eq0 794 713)), (715, .inl (mz_ld mz_isR 1 716)), (716, .inl (mz_ld mz_isR 0 717)), (717, .inl (mz_ld mz_isI 3 718)), (718, .inl (mz_push (.inl 1) 719)), (719, .inl (mz_o2 mz_f_iadd 720)), (720, .inl (mz_xl 0 E 721)), (721, .inl (mz_ld mz_isR 0 722)), (722, .inl (mz_ld mz_isI 3 723)), (723, .inl (mz_push (.inl 2) 724)), (724, .inl (mz_o2 mz_f_iadd 725)), (725, .inl (mz_xl 0 E 726)), (726, .inl (mz_ld mz_isR 0 727)), (727, .inl (mz_ld mz_isI 3 728))]
theorem tk_L_27 (E : List mz_V) : mz_all E tM_L (ck_L_27 E) :=
  mz_cons (mz_invV (n := 2) (ctr_X12_mean E) rfl ⟨by decide, by decide, by decide +kernel⟩ ⟨by decide, by decide⟩ mw_1284 mw_1281 mw_1282 mw_1283 mw_74 (show decode cL_law 706 = .ok (.invokevirtual 97, 3) by decide +kernel)) (
  mz_cons (mz_lcmp (show decode cL_law 709 = .ok (.lcmp, 1) by decide +kernel)) (
  mz_cons (mz_if_eq 794 (by decide) (show decode cL_law 710 = .ok (.ifCond .eq 84, 3) by decide +kernel)) (
  mz_cons (mz_aload_n (k := 1) (show decode cL_law 715 = .ok (.aload_n 1, 1) by decide +kernel)) (
  mz_cons (mz_aload_n (k := 0) (show decode cL_law 716 = .ok (.aload_n 0, 1) by decide +kernel)) (
  mz_cons (mz_iload_n (k := 3) (show decode cL_law 717 = .ok (.iload_n 3, 1) by decide +kernel)) (
  mz_cons (mz_iconst 1 (by decide) (show decode cL_law 718 = .ok (.iconst 1, 1) by decide +kernel)) (
  mz_cons (mz_iadd (show decode cL_law 719 = .ok (.iadd, 1) by decide +kernel)) (
  mz_cons (mz_xlScr (show decode cL_law 720 = .ok (.iaload, 1) by decide +kernel)) (
  mz_cons (mz_aload_n (k := 0) (show decode cL_law 721 = .ok (.aload_n 0, 1) by decide +kernel)) (
  mz_cons (mz_iload_n (k := 3) (show decode cL_law 722 = .ok (.iload_n 3, 1) by decide +kernel)) (
  mz_cons (mz_iconst 2 (by decide) (show decode cL_law 723 = .ok (.iconst 2, 1) by decide +kernel)) (
  mz_cons (mz_iadd (show decode cL_law 724 = .ok (.iadd, 1) by decide +kernel)) (
  mz_cons (mz_xlScr (show decode cL_law 725 = .ok (.iaload, 1) by decide +kernel)) (
  mz_cons (mz_aload_n (k := 0) (show decode cL_law 726 = .ok (.aload_n 0, 1) by decide +kernel)) (
  mz_cons (mz_iload_n (k := 3) (show decode cL_law 727 = .ok (.iload_n 3, 1) by decide +kernel)) (
  mz_nil))))))))))))))))
noncomputable def ck_L_28 (E : List mz_V) : List (Nat × mz_O) := [(728, .inl (mz_push (.inl 3) 729)), (729, .inl (mz_o2 mz_f_iadd 730)), (730, .inl (mz_xl 0 E 731)), (731, .inl (mz_call rn_X11_token 4 (mz_ckV 11) 734)), (734, .inl (mz_ld mz_isR 2 735)), (735, .inl (mz_ld mz_isR 0 736)), (736, .inl (mz_ld mz_isI 3 737)), (737, .inl (mz_push (.inl 1) 738)), (738, .inl (mz_o2 mz_f_iadd 739)), (739, .inl (mz_xl 0 E 740)), (740, .inl (mz_ld mz_isR 0 741)), (741, .inl (mz_ld mz_isI 3 742)), (742, .inl (mz_push (.inl 2) 743)), (743, .inl (mz_o2 mz_f_iadd 744)), (744, .inl (mz_xl 0 E 745)), (745, .inl (mz_ld mz_isR 0 746))]
theorem tk_L_28 (E : List mz_V) : mz_all E tM_L (ck_L_28 E) :=
  mz_cons (mz_iconst 3 (by decide) (show decode cL_law 728 = .ok (.iconst 3, 1) by decide +kernel)) (
  mz_cons (mz_iadd (show decode cL_law 729 = .ok (.iadd, 1) by decide +kernel)) (
  mz_cons (mz_xlScr (show decode cL_law 730 = .ok (.iaload, 1) by decide +kernel)) (
  mz_cons (mz_invV (n := 3) (ctr_X11_token E) rfl ⟨by decide, by decide, by decide +kernel⟩ ⟨by decide, by decide⟩ mw_912 mw_909 mw_910 mw_911 mw_61 (show decode cL_law 731 = .ok (.invokevirtual 98, 3) by decide +kernel)) (
  mz_cons (mz_aload_n (k := 2) (show decode cL_law 734 = .ok (.aload_n 2, 1) by decide +kernel)) (
  mz_cons (mz_aload_n (k := 0) (show decode cL_law 735 = .ok (.aload_n 0, 1) by decide +kernel)) (
  mz_cons (mz_iload_n (k := 3) (show decode cL_law 736 = .ok (.iload_n 3, 1) by decide +kernel)) (
  mz_cons (mz_iconst 1 (by decide) (show decode cL_law 737 = .ok (.iconst 1, 1) by decide +kernel)) (
  mz_cons (mz_iadd (show decode cL_law 738 = .ok (.iadd, 1) by decide +kernel)) (
  mz_cons (mz_xlScr (show decode cL_law 739 = .ok (.iaload, 1) by decide +kernel)) (
  mz_cons (mz_aload_n (k := 0) (show decode cL_law 740 = .ok (.aload_n 0, 1) by decide +kernel)) (
  mz_cons (mz_iload_n (k := 3) (show decode cL_law 741 = .ok (.iload_n 3, 1) by decide +kernel)) (
  mz_cons (mz_iconst 2 (by decide) (show decode cL_law 742 = .ok (.iconst 2, 1) by decide +kernel)) (
  mz_cons (mz_iadd (show decode cL_law 743 = .ok (.iadd, 1) by decide +kernel)) (
  mz_cons (mz_xlScr (show decode cL_law 744 = .ok (.iaload, 1) by decide +kernel)) (
  mz_cons (mz_aload_n (k := 0) (show decode cL_law 745 = .ok (.aload_n 0, 1) by decide +kernel)) (
  mz_nil))))))))))))))))
noncomputable def ck_L_29 (E : List mz_V) : List (Nat × mz_O) := [(746, .inl (mz_ld mz_isI 3 747)), (747, .inl (mz_push (.inl 3) 748)), (748, .inl (mz_o2 mz_f_iadd 749)), (749, .inl (mz_xl 0 E 750)), (750, .inl (mz_call rn_X12_token_ 4 (mz_ckV 12) 753)), (753, .inl (mz_j2 mz_eq 794 756)), (758, .inl (mz_ld mz_isR 1 759)), (759, .inl (mz_call rn_X11_pairs 1 (mz_ckV 11) 762)), (762, .inl (mz_ld mz_isR 2 763)), (763, .inl (mz_call rn_X12_pairs 1 (mz_ckV 12) 766)), (766, .inl (mz_j2 mz_eq 794 769)), (771, .inl (mz_ld mz_isR 1 772)), (772, .inl (mz_ld mz_isR 0 773)), (773, .inl (mz_ld mz_isI 3 774)), (774, .inl (mz_push (.inl 1) 775)), (775, .inl (mz_o2 mz_f_iadd 776))]
theorem tk_L_29 (E : List mz_V) : mz_all E tM_L (ck_L_29 E) :=
  mz_cons (mz_iload_n (k := 3) (show decode cL_law 746 = .ok (.iload_n 3, 1) by decide +kernel)) (
  mz_cons (mz_iconst 3 (by decide) (show decode cL_law 747 = .ok (.iconst 3, 1) by decide +kernel)) (
  mz_cons (mz_iadd (show decode cL_law 748 = .ok (.iadd, 1) by decide +kernel)) (
  mz_cons (mz_xlScr (show decode cL_law 749 = .ok (.iaload, 1) by decide +kernel)) (
  mz_cons (mz_invV (n := 3) (ctr_X12_token_ E) rfl ⟨by decide, by decide, by decide +kernel⟩ ⟨by decide, by decide⟩ mw_1288 mw_1285 mw_1286 mw_1287 mw_74 (show decode cL_law 750 = .ok (.invokevirtual 101, 3) by decide +kernel)) (
  mz_cons (mz_icmp_eq 794 (by decide) (show decode cL_law 753 = .ok (.if_icmp .eq 41, 3) by decide +kernel)) (
  mz_cons (mz_aload_n (k := 1) (show decode cL_law 758 = .ok (.aload_n 1, 1) by decide +kernel)) (
  mz_cons (mz_invV (n := 0) (ctr_X11_pairs E) rfl ⟨by decide, by decide, by decide +kernel⟩ ⟨by decide, by decide⟩ mw_944 mw_941 mw_942 mw_943 mw_61 (show decode cL_law 759 = .ok (.invokevirtual 102, 3) by decide +kernel)) (
  mz_cons (mz_aload_n (k := 2) (show decode cL_law 762 = .ok (.aload_n 2, 1) by decide +kernel)) (
  mz_cons (mz_invV (n := 0) (ctr_X12_pairs E) rfl ⟨by decide, by decide, by decide +kernel⟩ ⟨by decide, by decide⟩ mw_1297 mw_1294 mw_1295 mw_1296 mw_74 (show decode cL_law 763 = .ok (.invokevirtual 105, 3) by decide +kernel)) (
  mz_cons (mz_icmp_eq 794 (by decide) (show decode cL_law 766 = .ok (.if_icmp .eq 28, 3) by decide +kernel)) (
  mz_cons (mz_aload_n (k := 1) (show decode cL_law 771 = .ok (.aload_n 1, 1) by decide +kernel)) (
  mz_cons (mz_aload_n (k := 0) (show decode cL_law 772 = .ok (.aload_n 0, 1) by decide +kernel)) (
  mz_cons (mz_iload_n (k := 3) (show decode cL_law 773 = .ok (.iload_n 3, 1) by decide +kernel)) (
  mz_cons (mz_iconst 1 (by decide) (show decode cL_law 774 = .ok (.iconst 1, 1) by decide +kernel)) (
  mz_cons (mz_iadd (show decode cL_law 775 = .ok (.iadd, 1) by decide +kernel)) (
  mz_nil))))))))))))))))
noncomputable def ck_L_30 (E : List mz_V) : List (Nat × mz_O) := [(776, .inl (mz_xl 0 E 777)), (777, .inl (mz_call rn_X11_count 2 (mz_ckV 11) 780)), (780, .inl (mz_ld mz_isR 2 781)), (781, .inl (mz_ld mz_isR 0 782)), (782, .inl (mz_ld mz_isI 3 783)), (783, .inl (mz_push (.inl 1) 784)), (784, .inl (mz_o2 mz_f_iadd 785)), (785, .inl (mz_xl 0 E 786)), (786, .inl (mz_call rn_X12_count 2 (mz_ckV 12) 789)), (789, .inl (mz_j2 mz_eq 794 792)), (794, .inl (mz_inc 3 4 797)), (797, .inl (mz_go 18)), (800, .inl (mz_push (.inl 1) 801))]
theorem tk_L_30 (E : List mz_V) : mz_all E tM_L (ck_L_30 E) :=
  mz_cons (mz_xlScr (show decode cL_law 776 = .ok (.iaload, 1) by decide +kernel)) (
  mz_cons (mz_invV (n := 1) (ctr_X11_count E) rfl ⟨by decide, by decide, by decide +kernel⟩ ⟨by decide, by decide⟩ mw_962 mw_959 mw_960 mw_961 mw_61 (show decode cL_law 777 = .ok (.invokevirtual 106, 3) by decide +kernel)) (
  mz_cons (mz_aload_n (k := 2) (show decode cL_law 780 = .ok (.aload_n 2, 1) by decide +kernel)) (
  mz_cons (mz_aload_n (k := 0) (show decode cL_law 781 = .ok (.aload_n 0, 1) by decide +kernel)) (
  mz_cons (mz_iload_n (k := 3) (show decode cL_law 782 = .ok (.iload_n 3, 1) by decide +kernel)) (
  mz_cons (mz_iconst 1 (by decide) (show decode cL_law 783 = .ok (.iconst 1, 1) by decide +kernel)) (
  mz_cons (mz_iadd (show decode cL_law 784 = .ok (.iadd, 1) by decide +kernel)) (
  mz_cons (mz_xlScr (show decode cL_law 785 = .ok (.iaload, 1) by decide +kernel)) (
  mz_cons (mz_invV (n := 1) (ctr_X12_count E) rfl ⟨by decide, by decide, by decide +kernel⟩ ⟨by decide, by decide⟩ mw_1305 mw_1302 mw_1303 mw_1304 mw_74 (show decode cL_law 786 = .ok (.invokevirtual 109, 3) by decide +kernel)) (
  mz_cons (mz_icmp_eq 794 (by decide) (show decode cL_law 789 = .ok (.if_icmp .eq 5, 3) by decide +kernel)) (
  mz_cons (mz_iinc 4 (by decide) (by decide) (show decode cL_law 794 = .ok (.iinc 3 4, 3) by decide +kernel)) (
  mz_cons (mz_goto 18 (by decide) (show decode cL_law 797 = .ok (.goto (-779), 3) by decide +kernel)) (
  mz_cons (mz_iconst 1 (by decide) (show decode cL_law 800 = .ok (.iconst 1, 1) by decide +kernel)) (
  mz_nil)))))))))))))
noncomputable def tb_L (E : List mz_V) : List (Nat × List (Nat × mz_O)) := [(137, ck_L_0 E), (156, ck_L_1 E), (175, ck_L_2 E), (199, ck_L_3 E), (239, ck_L_4 E), (257, ck_L_5 E), (279, ck_L_6 E), (299, ck_L_7 E), (321, ck_L_8 E), (343, ck_L_9 E), (369, ck_L_10 E), (393, ck_L_11 E), (417, ck_L_12 E), (439, ck_L_13 E), (457, ck_L_14 E), (479, ck_L_15 E), (497, ck_L_16 E), (521, ck_L_17 E), (543, ck_L_18 E), (561, ck_L_19 E), (583, ck_L_20 E), (601, ck_L_21 E), (625, ck_L_22 E), (647, ck_L_23 E), (665, ck_L_24 E), (687, ck_L_25 E), (705, ck_L_26 E), (727, ck_L_27 E), (745, ck_L_28 E), (775, ck_L_29 E), (800, ck_L_30 E)]
theorem tok_L (E : List mz_V) : mz_tok E tM_L (tb_L E) := mz_tcons (tk_L_0 E) (mz_tcons (tk_L_1 E) (mz_tcons (tk_L_2 E) (mz_tcons (tk_L_3 E) (mz_tcons (tk_L_4 E) (mz_tcons (tk_L_5 E) (mz_tcons (tk_L_6 E) (mz_tcons (tk_L_7 E) (mz_tcons (tk_L_8 E) (mz_tcons (tk_L_9 E) (mz_tcons (tk_L_10 E) (mz_tcons (tk_L_11 E) (mz_tcons (tk_L_12 E) (mz_tcons (tk_L_13 E) (mz_tcons (tk_L_14 E) (mz_tcons (tk_L_15 E) (mz_tcons (tk_L_16 E) (mz_tcons (tk_L_17 E) (mz_tcons (tk_L_18 E) (mz_tcons (tk_L_19 E) (mz_tcons (tk_L_20 E) (mz_tcons (tk_L_21 E) (mz_tcons (tk_L_22 E) (mz_tcons (tk_L_23 E) (mz_tcons (tk_L_24 E) (mz_tcons (tk_L_25 E) (mz_tcons (tk_L_26 E) (mz_tcons (tk_L_27 E) (mz_tcons (tk_L_28 E) (mz_tcons (tk_L_29 E) (mz_tcons (tk_L_30 E) (mz_tnil)))))))))))))))))))))))))))))))
