abbrev tM_X12_code : mz_M := (cX12_code, 4, (some .int), RX12, "code", 1, 22)
noncomputable def ck_X12_code_0 : List (Nat × mz_O) := [(0, .inl (mz_push (.inl 0) 1)), (1, .inl (mz_sto mz_isI mz_p1 2 2)), (2, .inl (mz_push (.inl 8) 4)), (4, .inl (mz_sto mz_isI mz_p1 3 5)), (5, .inl (mz_ld mz_isI 3 6)), (6, .inl (mz_j1 mz_lt0 33 9)), (9, .inl (mz_push (.inl 3) 10)), (10, .inl (mz_ld mz_isI 2 11)), (11, .inl (mz_o2 mz_f_imul 12)), (12, .inl (mz_ld mz_isI 0 13)), (13, .inl (mz_ld mz_isI 3 14)), (14, .inl (mz_o2 mz_f_ishr 15)), (15, .inl (mz_push (.inl 1) 16)), (16, .inl (mz_o2 mz_f_iand 17)), (17, .inl (mz_o2 mz_f_iadd 18)), (18, .inl (mz_push (.inl 2) 19))]
theorem tk_X12_code_0 (E : List mz_V) : mz_all E tM_X12_code (ck_X12_code_0) :=
  mz_cons (mz_iconst 0 (by decide) (show decode cX12_code 0 = .ok (.iconst 0, 1) by decide +kernel)) (
  mz_cons (mz_istore_n (k := 2) (by decide) (show decode cX12_code 1 = .ok (.istore_n 2, 1) by decide +kernel)) (
  mz_cons (mz_bipush 8 (by decide) (show decode cX12_code 2 = .ok (.bipush 8, 2) by decide +kernel)) (
  mz_cons (mz_istore_n (k := 3) (by decide) (show decode cX12_code 4 = .ok (.istore_n 3, 1) by decide +kernel)) (
  mz_cons (mz_iload_n (k := 3) (show decode cX12_code 5 = .ok (.iload_n 3, 1) by decide +kernel)) (
  mz_cons (mz_if_lt 33 (by decide) (show decode cX12_code 6 = .ok (.ifCond .lt 27, 3) by decide +kernel)) (
  mz_cons (mz_iconst 3 (by decide) (show decode cX12_code 9 = .ok (.iconst 3, 1) by decide +kernel)) (
  mz_cons (mz_iload_n (k := 2) (show decode cX12_code 10 = .ok (.iload_n 2, 1) by decide +kernel)) (
  mz_cons (mz_imul (show decode cX12_code 11 = .ok (.imul, 1) by decide +kernel)) (
  mz_cons (mz_iload_n (k := 0) (show decode cX12_code 12 = .ok (.iload_n 0, 1) by decide +kernel)) (
  mz_cons (mz_iload_n (k := 3) (show decode cX12_code 13 = .ok (.iload_n 3, 1) by decide +kernel)) (
  mz_cons (mz_ishr (show decode cX12_code 14 = .ok (.ishr, 1) by decide +kernel)) (
  mz_cons (mz_iconst 1 (by decide) (show decode cX12_code 15 = .ok (.iconst 1, 1) by decide +kernel)) (
  mz_cons (mz_iand (show decode cX12_code 16 = .ok (.iand, 1) by decide +kernel)) (
  mz_cons (mz_iadd (show decode cX12_code 17 = .ok (.iadd, 1) by decide +kernel)) (
  mz_cons (mz_iconst 2 (by decide) (show decode cX12_code 18 = .ok (.iconst 2, 1) by decide +kernel)) (
  mz_nil))))))))))))))))
noncomputable def ck_X12_code_1 : List (Nat × mz_O) := [(19, .inl (mz_ld mz_isI 1 20)), (20, .inl (mz_ld mz_isI 3 21)), (21, .inl (mz_o2 mz_f_ishr 22)), (22, .inl (mz_push (.inl 1) 23)), (23, .inl (mz_o2 mz_f_iand 24)), (24, .inl (mz_o2 mz_f_imul 25)), (25, .inl (mz_o2 mz_f_iadd 26)), (26, .inl (mz_sto mz_isI mz_p1 2 27)), (27, .inl (mz_inc 3 (-1) 30)), (30, .inl (mz_go 5)), (33, .inl (mz_ld mz_isI 2 34)), (34, .inr (mz_rt mz_isI))]
theorem tk_X12_code_1 (E : List mz_V) : mz_all E tM_X12_code (ck_X12_code_1) :=
  mz_cons (mz_iload_n (k := 1) (show decode cX12_code 19 = .ok (.iload_n 1, 1) by decide +kernel)) (
  mz_cons (mz_iload_n (k := 3) (show decode cX12_code 20 = .ok (.iload_n 3, 1) by decide +kernel)) (
  mz_cons (mz_ishr (show decode cX12_code 21 = .ok (.ishr, 1) by decide +kernel)) (
  mz_cons (mz_iconst 1 (by decide) (show decode cX12_code 22 = .ok (.iconst 1, 1) by decide +kernel)) (
  mz_cons (mz_iand (show decode cX12_code 23 = .ok (.iand, 1) by decide +kernel)) (
  mz_cons (mz_imul (show decode cX12_code 24 = .ok (.imul, 1) by decide +kernel)) (
  mz_cons (mz_iadd (show decode cX12_code 25 = .ok (.iadd, 1) by decide +kernel)) (
  mz_cons (mz_istore_n (k := 2) (by decide) (show decode cX12_code 26 = .ok (.istore_n 2, 1) by decide +kernel)) (
  mz_cons (mz_iinc (-1) (by decide) (by decide) (show decode cX12_code 27 = .ok (.iinc 3 (-1), 3) by decide +kernel)) (
  mz_cons (mz_goto 5 (by decide) (show decode cX12_code 30 = .ok (.goto (-25), 3) by decide +kernel)) (
  mz_cons (mz_iload_n (k := 2) (show decode cX12_code 33 = .ok (.iload_n 2, 1) by decide +kernel)) (
  mz_consR (mz_ireturn rfl (show decode cX12_code 34 = .ok (.ireturn, 1) by decide +kernel)) (
  mz_nil))))))))))))
noncomputable def tb_X12_code : List (Nat × List (Nat × mz_O)) := [(18, ck_X12_code_0), (34, ck_X12_code_1)]
theorem tok_X12_code (E : List mz_V) : mz_tok E tM_X12_code (tb_X12_code) := mz_tcons (tk_X12_code_0 E) (mz_tcons (tk_X12_code_1 E) (mz_tnil))
noncomputable def rn_X12_code : List mz_V → List mz_C → Option (Option mz_V × List mz_C) := mz_rn tb_X12_code 216 4
theorem ctr_X12_code (E : List mz_V) : mz_ctr E yX12_code tM_X12_code rn_X12_code := mz_ctr_of 216 (tok_X12_code E) (by decide) rfl rfl
abbrev tM_X12_besideAll : mz_M := (cX12_besideAll, 4, (some .int), RX12, "besideAll", 2, 43)
noncomputable def ck_X12_besideAll_0 : List (Nat × mz_O) := [(0, .inl (mz_push (.inl 0) 1)), (1, .inl (mz_sto mz_isI mz_p1 2 2)), (2, .inl (mz_push (.inl 0) 3)), (3, .inl (mz_sto mz_isI mz_p1 3 4)), (4, .inl (mz_ld mz_isI 3 5)), (5, .inl (mz_ld mz_isR 0 6)), (6, .inl (mz_gf 12 4 9)), (9, .inl (mz_j2 mz_lt 12 39)), (12, .inl (mz_ld mz_isI 2 13)), (13, .inl (mz_ld mz_isI 1 14)), (14, .inl (mz_ld mz_isI 3 15)), (15, .inl (mz_call rn_X12_has 2 mz_ckT 18)), (18, .inl (mz_j1 mz_eq0 30 21)), (21, .inl (mz_ld mz_isR 0 22)), (22, .inl (mz_gf 12 5 25)), (25, .inl (mz_ld mz_isI 3 26))]
theorem tk_X12_besideAll_0 (E : List mz_V) : mz_all E tM_X12_besideAll (ck_X12_besideAll_0) :=
  mz_cons (mz_iconst 0 (by decide) (show decode cX12_besideAll 0 = .ok (.iconst 0, 1) by decide +kernel)) (
  mz_cons (mz_istore_n (k := 2) (by decide) (show decode cX12_besideAll 1 = .ok (.istore_n 2, 1) by decide +kernel)) (
  mz_cons (mz_iconst 0 (by decide) (show decode cX12_besideAll 2 = .ok (.iconst 0, 1) by decide +kernel)) (
  mz_cons (mz_istore_n (k := 3) (by decide) (show decode cX12_besideAll 3 = .ok (.istore_n 3, 1) by decide +kernel)) (
  mz_cons (mz_iload_n (k := 3) (show decode cX12_besideAll 4 = .ok (.iload_n 3, 1) by decide +kernel)) (
  mz_cons (mz_aload_n (k := 0) (show decode cX12_besideAll 5 = .ok (.aload_n 0, 1) by decide +kernel)) (
  mz_cons (mz_getfield (C := RX12) (T := TX12) (N := 29) rfl mz_inX12 (by decide) mw_976 (show decode cX12_besideAll 6 = .ok (.getfield 16, 3) by decide +kernel)) (
  mz_cons (mz_icmp_ge 39 (by decide) (show decode cX12_besideAll 9 = .ok (.if_icmp .ge 30, 3) by decide +kernel)) (
  mz_cons (mz_iload_n (k := 2) (show decode cX12_besideAll 12 = .ok (.iload_n 2, 1) by decide +kernel)) (
  mz_cons (mz_iload_n (k := 1) (show decode cX12_besideAll 13 = .ok (.iload_n 1, 1) by decide +kernel)) (
  mz_cons (mz_iload_n (k := 3) (show decode cX12_besideAll 14 = .ok (.iload_n 3, 1) by decide +kernel)) (
  mz_cons (mz_invS (n := 2) (ctr_X12_has E) ⟨by decide, by decide, by decide +kernel⟩ ⟨by decide, by decide⟩ mw_1131 mw_1129 mw_1130 mw_74 (show decode cX12_besideAll 15 = .ok (.invokestatic 134, 3) by decide +kernel)) (
  mz_cons (mz_if_eq 30 (by decide) (show decode cX12_besideAll 18 = .ok (.ifCond .eq 12, 3) by decide +kernel)) (
  mz_cons (mz_aload_n (k := 0) (show decode cX12_besideAll 21 = .ok (.aload_n 0, 1) by decide +kernel)) (
  mz_cons (mz_getfield (C := RX12) (T := TX12) (N := 29) rfl mz_inX12 (by decide) mw_977 (show decode cX12_besideAll 22 = .ok (.getfield 20, 3) by decide +kernel)) (
  mz_cons (mz_iload_n (k := 3) (show decode cX12_besideAll 25 = .ok (.iload_n 3, 1) by decide +kernel)) (
  mz_nil))))))))))))))))
noncomputable def ck_X12_besideAll_1 : List (Nat × mz_O) := [(26, .inl (mz_al false 27)), (27, .inl (mz_go 31)), (30, .inl (mz_push (.inl 0) 31)), (31, .inl (mz_o2 mz_f_ior 32)), (32, .inl (mz_sto mz_isI mz_p1 2 33)), (33, .inl (mz_inc 3 1 36)), (36, .inl (mz_go 4)), (39, .inl (mz_ld mz_isI 2 40)), (40, .inr (mz_rt mz_isI))]
theorem tk_X12_besideAll_1 (E : List mz_V) : mz_all E tM_X12_besideAll (ck_X12_besideAll_1) :=
  mz_cons (mz_iaload (show decode cX12_besideAll 26 = .ok (.iaload, 1) by decide +kernel)) (
  mz_cons (mz_goto 31 (by decide) (show decode cX12_besideAll 27 = .ok (.goto 4, 3) by decide +kernel)) (
  mz_cons (mz_iconst 0 (by decide) (show decode cX12_besideAll 30 = .ok (.iconst 0, 1) by decide +kernel)) (
  mz_cons (mz_ior (show decode cX12_besideAll 31 = .ok (.ior, 1) by decide +kernel)) (
  mz_cons (mz_istore_n (k := 2) (by decide) (show decode cX12_besideAll 32 = .ok (.istore_n 2, 1) by decide +kernel)) (
  mz_cons (mz_iinc 1 (by decide) (by decide) (show decode cX12_besideAll 33 = .ok (.iinc 3 1, 3) by decide +kernel)) (
  mz_cons (mz_goto 4 (by decide) (show decode cX12_besideAll 36 = .ok (.goto (-32), 3) by decide +kernel)) (
  mz_cons (mz_iload_n (k := 2) (show decode cX12_besideAll 39 = .ok (.iload_n 2, 1) by decide +kernel)) (
  mz_consR (mz_ireturn rfl (show decode cX12_besideAll 40 = .ok (.ireturn, 1) by decide +kernel)) (
  mz_nil)))))))))
noncomputable def tb_X12_besideAll : List (Nat × List (Nat × mz_O)) := [(25, ck_X12_besideAll_0), (40, ck_X12_besideAll_1)]
theorem tok_X12_besideAll (E : List mz_V) : mz_tok E tM_X12_besideAll (tb_X12_besideAll) := mz_tcons (tk_X12_besideAll_0 E) (mz_tcons (tk_X12_besideAll_1 E) (mz_tnil))
noncomputable def rn_X12_besideAll : List mz_V → List mz_C → Option (Option mz_V × List mz_C) := mz_rn tb_X12_besideAll 38 4
theorem ctr_X12_besideAll (E : List mz_V) : mz_ctr E yX12_besideAll tM_X12_besideAll rn_X12_besideAll := mz_ctr_of 38 (tok_X12_besideAll E) (by decide) rfl rfl
abbrev tM_X12_spread : mz_M := (cX12_spread, 3, (some .int), RX12, "spread", 3, 66)
noncomputable def ck_X12_spread_0 : List (Nat × mz_O) := [(0, .inl (mz_ld mz_isI 1 1)), (1, .inl (mz_ld mz_isR 0 2)), (2, .inl (mz_ld mz_isI 1 3)), (3, .inl (mz_call rn_X12_besideAll 2 (mz_ckV 12) 6)), (6, .inl (mz_ld mz_isI 2 7)), (7, .inl (mz_push (.inl (-1)) 8)), (8, .inl (mz_o2 mz_f_ixor 9)), (9, .inl (mz_o2 mz_f_iand 10)), (10, .inl (mz_o2 mz_f_ior 11)), (11, .inr (mz_rt mz_isI))]
theorem tk_X12_spread_0 (E : List mz_V) : mz_all E tM_X12_spread (ck_X12_spread_0) :=
  mz_cons (mz_iload_n (k := 1) (show decode cX12_spread 0 = .ok (.iload_n 1, 1) by decide +kernel)) (
  mz_cons (mz_aload_n (k := 0) (show decode cX12_spread 1 = .ok (.aload_n 0, 1) by decide +kernel)) (
  mz_cons (mz_iload_n (k := 1) (show decode cX12_spread 2 = .ok (.iload_n 1, 1) by decide +kernel)) (
  mz_cons (mz_invV (n := 1) (ctr_X12_besideAll E) rfl ⟨by decide, by decide, by decide +kernel⟩ ⟨by decide, by decide⟩ mw_1168 mw_1165 mw_1167 mw_45 mw_74 (show decode cX12_spread 3 = .ok (.invokevirtual 146, 3) by decide +kernel)) (
  mz_cons (mz_iload_n (k := 2) (show decode cX12_spread 6 = .ok (.iload_n 2, 1) by decide +kernel)) (
  mz_cons (mz_iconst (-1) (by decide) (show decode cX12_spread 7 = .ok (.iconst (-1), 1) by decide +kernel)) (
  mz_cons (mz_ixor (show decode cX12_spread 8 = .ok (.ixor, 1) by decide +kernel)) (
  mz_cons (mz_iand (show decode cX12_spread 9 = .ok (.iand, 1) by decide +kernel)) (
  mz_cons (mz_ior (show decode cX12_spread 10 = .ok (.ior, 1) by decide +kernel)) (
  mz_consR (mz_ireturn rfl (show decode cX12_spread 11 = .ok (.ireturn, 1) by decide +kernel)) (
  mz_nil))))))))))
noncomputable def tb_X12_spread : List (Nat × List (Nat × mz_O)) := [(11, ck_X12_spread_0)]
theorem tok_X12_spread (E : List mz_V) : mz_tok E tM_X12_spread (tb_X12_spread) := mz_tcons (tk_X12_spread_0 E) (mz_tnil)
noncomputable def rn_X12_spread : List mz_V → List mz_C → Option (Option mz_V × List mz_C) := mz_rn tb_X12_spread 20 3
theorem ctr_X12_spread (E : List mz_V) : mz_ctr E yX12_spread tM_X12_spread rn_X12_spread := mz_ctr_of 20 (tok_X12_spread E) (by decide) rfl rfl
abbrev tM_X12_behind : mz_M := (cX12_behind, 5, (some .int), RX12, "behind", 4, 88)
noncomputable def ck_X12_behind_0 : List (Nat × mz_O) := [(0, .inl (mz_ld mz_isR 0 1)), (1, .inl (mz_ld mz_isI 2 2)), (2, .inl (mz_ld mz_isI 3 3)), (3, .inl (mz_ld mz_isI 1 4)), (4, .inl (mz_o2 mz_f_ior 5)), (5, .inl (mz_call rn_X12_spread 3 (mz_ckV 12) 8)), (8, .inl (mz_sto mz_isI mz_p1 4 10)), (10, .inl (mz_ld mz_isI 4 12)), (12, .inl (mz_ld mz_isI 2 13)), (13, .inl (mz_j2 mz_eq 16 24)), (16, .inl (mz_ld mz_isR 0 17)), (17, .inl (mz_ld mz_isI 2 18)), (18, .inl (mz_call rn_X12_folkOf 2 (mz_ckV 12) 21)), (21, .inl (mz_go 37)), (37, .inr (mz_rt mz_isI))]
theorem tk_X12_behind_0 (E : List mz_V) : mz_all E tM_X12_behind (ck_X12_behind_0) :=
  mz_cons (mz_aload_n (k := 0) (show decode cX12_behind 0 = .ok (.aload_n 0, 1) by decide +kernel)) (
  mz_cons (mz_iload_n (k := 2) (show decode cX12_behind 1 = .ok (.iload_n 2, 1) by decide +kernel)) (
  mz_cons (mz_iload_n (k := 3) (show decode cX12_behind 2 = .ok (.iload_n 3, 1) by decide +kernel)) (
  mz_cons (mz_iload_n (k := 1) (show decode cX12_behind 3 = .ok (.iload_n 1, 1) by decide +kernel)) (
  mz_cons (mz_ior (show decode cX12_behind 4 = .ok (.ior, 1) by decide +kernel)) (
  mz_cons (mz_invV (n := 2) (ctr_X12_spread E) rfl ⟨by decide, by decide, by decide +kernel⟩ ⟨by decide, by decide⟩ mw_1164 mw_1161 mw_1163 mw_44 mw_74 (show decode cX12_behind 5 = .ok (.invokevirtual 149, 3) by decide +kernel)) (
  mz_cons (mz_istore (by decide) (show decode cX12_behind 8 = .ok (.istore 4, 2) by decide +kernel)) (
  mz_cons (mz_iload (show decode cX12_behind 10 = .ok (.iload 4, 2) by decide +kernel)) (
  mz_cons (mz_iload_n (k := 2) (show decode cX12_behind 12 = .ok (.iload_n 2, 1) by decide +kernel)) (
  mz_cons (mz_icmp_ne 24 (by decide) (show decode cX12_behind 13 = .ok (.if_icmp .ne 11, 3) by decide +kernel)) (
  mz_cons (mz_aload_n (k := 0) (show decode cX12_behind 16 = .ok (.aload_n 0, 1) by decide +kernel)) (
  mz_cons (mz_iload_n (k := 2) (show decode cX12_behind 17 = .ok (.iload_n 2, 1) by decide +kernel)) (
  mz_cons (mz_invV (n := 1) (ctr_X12_folkOf E) rfl ⟨by decide, by decide, by decide +kernel⟩ ⟨by decide, by decide⟩ mw_1172 mw_1169 mw_1171 mw_46 mw_74 (show decode cX12_behind 18 = .ok (.invokevirtual 153, 3) by decide +kernel)) (
  mz_cons (mz_goto 37 (by decide) (show decode cX12_behind 21 = .ok (.goto 16, 3) by decide +kernel)) (
  mz_consR (mz_ireturn rfl (show decode cX12_behind 37 = .ok (.ireturn, 1) by decide +kernel)) (
  mz_nil)))))))))))))))
noncomputable def tb_X12_behind : List (Nat × List (Nat × mz_O)) := [(37, ck_X12_behind_0)]
theorem tok_X12_behind (E : List mz_V) : mz_tok E tM_X12_behind (tb_X12_behind) := mz_tcons (tk_X12_behind_0 E) (mz_tnil)
noncomputable def rn_X12_behind : List mz_V → List mz_C → Option (Option mz_V × List mz_C) := mz_rn tb_X12_behind 25 5
theorem ctr_X12_behind (E : List mz_V) : mz_ctr E yX12_behind tM_X12_behind rn_X12_behind := mz_ctr_of 25 (tok_X12_behind E) (by decide) rfl rfl
abbrev tM_X12_mayWet : mz_M := (cX12_mayWet, 7, (some .boolean), RX12, "mayWet", 2, 44)
noncomputable def ck_X12_mayWet_0 : List (Nat × mz_O) := [(0, .inl (mz_ld mz_isR 0 1)), (1, .inl (mz_call rn_X12_all 1 (mz_ckV 12) 4)), (4, .inl (mz_ld mz_isI 2 5)), (5, .inl (mz_push (.inl (-1)) 6)), (6, .inl (mz_o2 mz_f_ixor 7)), (7, .inl (mz_o2 mz_f_iand 8)), (8, .inl (mz_ld mz_isI 3 9)), (9, .inl (mz_push (.inl (-1)) 10)), (10, .inl (mz_o2 mz_f_ixor 11)), (11, .inl (mz_o2 mz_f_iand 12)), (12, .inl (mz_sto mz_isI mz_p1 5 14)), (14, .inl (mz_ld mz_isI 5 16)), (16, .inl (mz_call rn_X12_many 1 mz_ckT 19)), (19, .inl (mz_sto mz_isI mz_p1 6 21)), (21, .inl (mz_ld mz_isI 1 22)), (22, .inl (mz_ld mz_isI 5 24))]
theorem tk_X12_mayWet_0 (E : List mz_V) : mz_all E tM_X12_mayWet (ck_X12_mayWet_0) :=
  mz_cons (mz_aload_n (k := 0) (show decode cX12_mayWet 0 = .ok (.aload_n 0, 1) by decide +kernel)) (
  mz_cons (mz_invV (n := 0) (ctr_X12_all E) rfl ⟨by decide, by decide, by decide +kernel⟩ ⟨by decide, by decide⟩ mw_1143 mw_1140 mw_1142 mw_40 mw_74 (show decode cX12_mayWet 1 = .ok (.invokevirtual 131, 3) by decide +kernel)) (
  mz_cons (mz_iload_n (k := 2) (show decode cX12_mayWet 4 = .ok (.iload_n 2, 1) by decide +kernel)) (
  mz_cons (mz_iconst (-1) (by decide) (show decode cX12_mayWet 5 = .ok (.iconst (-1), 1) by decide +kernel)) (
  mz_cons (mz_ixor (show decode cX12_mayWet 6 = .ok (.ixor, 1) by decide +kernel)) (
  mz_cons (mz_iand (show decode cX12_mayWet 7 = .ok (.iand, 1) by decide +kernel)) (
  mz_cons (mz_iload_n (k := 3) (show decode cX12_mayWet 8 = .ok (.iload_n 3, 1) by decide +kernel)) (
  mz_cons (mz_iconst (-1) (by decide) (show decode cX12_mayWet 9 = .ok (.iconst (-1), 1) by decide +kernel)) (
  mz_cons (mz_ixor (show decode cX12_mayWet 10 = .ok (.ixor, 1) by decide +kernel)) (
  mz_cons (mz_iand (show decode cX12_mayWet 11 = .ok (.iand, 1) by decide +kernel)) (
  mz_cons (mz_istore (by decide) (show decode cX12_mayWet 12 = .ok (.istore 5, 2) by decide +kernel)) (
  mz_cons (mz_iload (show decode cX12_mayWet 14 = .ok (.iload 5, 2) by decide +kernel)) (
  mz_cons (mz_invS (n := 1) (ctr_X12_many E) ⟨by decide, by decide, by decide +kernel⟩ ⟨by decide, by decide⟩ mw_1151 mw_1149 mw_1150 mw_74 (show decode cX12_mayWet 16 = .ok (.invokestatic 143, 3) by decide +kernel)) (
  mz_cons (mz_istore (by decide) (show decode cX12_mayWet 19 = .ok (.istore 6, 2) by decide +kernel)) (
  mz_cons (mz_iload_n (k := 1) (show decode cX12_mayWet 21 = .ok (.iload_n 1, 1) by decide +kernel)) (
  mz_cons (mz_iload (show decode cX12_mayWet 22 = .ok (.iload 5, 2) by decide +kernel)) (
  mz_nil))))))))))))))))
noncomputable def ck_X12_mayWet_1 : List (Nat × mz_O) := [(24, .inl (mz_push (.inl (-1)) 25)), (25, .inl (mz_o2 mz_f_ixor 26)), (26, .inl (mz_o2 mz_f_iand 27)), (27, .inl (mz_j1 mz_eq0 30 55)), (30, .inl (mz_ld mz_isI 1 31)), (31, .inl (mz_call rn_X12_many 1 mz_ckT 34)), (34, .inl (mz_ld mz_isI 6 36)), (36, .inl (mz_ld mz_isI 4 38)), (38, .inl (mz_j2 mz_lt 41 46)), (41, .inl (mz_ld mz_isI 6 43)), (43, .inl (mz_go 48)), (46, .inl (mz_ld mz_isI 4 48)), (48, .inl (mz_j2 mz_eq 51 55)), (51, .inl (mz_push (.inl 1) 52)), (52, .inl (mz_go 56)), (55, .inl (mz_push (.inl 0) 56))]
theorem tk_X12_mayWet_1 (E : List mz_V) : mz_all E tM_X12_mayWet (ck_X12_mayWet_1) :=
  mz_cons (mz_iconst (-1) (by decide) (show decode cX12_mayWet 24 = .ok (.iconst (-1), 1) by decide +kernel)) (
  mz_cons (mz_ixor (show decode cX12_mayWet 25 = .ok (.ixor, 1) by decide +kernel)) (
  mz_cons (mz_iand (show decode cX12_mayWet 26 = .ok (.iand, 1) by decide +kernel)) (
  mz_cons (mz_if_ne 55 (by decide) (show decode cX12_mayWet 27 = .ok (.ifCond .ne 28, 3) by decide +kernel)) (
  mz_cons (mz_iload_n (k := 1) (show decode cX12_mayWet 30 = .ok (.iload_n 1, 1) by decide +kernel)) (
  mz_cons (mz_invS (n := 1) (ctr_X12_many E) ⟨by decide, by decide, by decide +kernel⟩ ⟨by decide, by decide⟩ mw_1151 mw_1149 mw_1150 mw_74 (show decode cX12_mayWet 31 = .ok (.invokestatic 143, 3) by decide +kernel)) (
  mz_cons (mz_iload (show decode cX12_mayWet 34 = .ok (.iload 6, 2) by decide +kernel)) (
  mz_cons (mz_iload (show decode cX12_mayWet 36 = .ok (.iload 4, 2) by decide +kernel)) (
  mz_cons (mz_icmp_ge 46 (by decide) (show decode cX12_mayWet 38 = .ok (.if_icmp .ge 8, 3) by decide +kernel)) (
  mz_cons (mz_iload (show decode cX12_mayWet 41 = .ok (.iload 6, 2) by decide +kernel)) (
  mz_cons (mz_goto 48 (by decide) (show decode cX12_mayWet 43 = .ok (.goto 5, 3) by decide +kernel)) (
  mz_cons (mz_iload (show decode cX12_mayWet 46 = .ok (.iload 4, 2) by decide +kernel)) (
  mz_cons (mz_icmp_ne 55 (by decide) (show decode cX12_mayWet 48 = .ok (.if_icmp .ne 7, 3) by decide +kernel)) (
  mz_cons (mz_iconst 1 (by decide) (show decode cX12_mayWet 51 = .ok (.iconst 1, 1) by decide +kernel)) (
  mz_cons (mz_goto 56 (by decide) (show decode cX12_mayWet 52 = .ok (.goto 4, 3) by decide +kernel)) (
  mz_cons (mz_iconst 0 (by decide) (show decode cX12_mayWet 55 = .ok (.iconst 0, 1) by decide +kernel)) (
  mz_nil))))))))))))))))
noncomputable def ck_X12_mayWet_2 : List (Nat × mz_O) := [(56, .inr (mz_rt mz_is01))]
theorem tk_X12_mayWet_2 (E : List mz_V) : mz_all E tM_X12_mayWet (ck_X12_mayWet_2) :=
  mz_consR (mz_zreturn rfl (show decode cX12_mayWet 56 = .ok (.ireturn, 1) by decide +kernel)) (
  mz_nil)
noncomputable def tb_X12_mayWet : List (Nat × List (Nat × mz_O)) := [(22, ck_X12_mayWet_0), (55, ck_X12_mayWet_1), (56, ck_X12_mayWet_2)]
theorem tok_X12_mayWet (E : List mz_V) : mz_tok E tM_X12_mayWet (tb_X12_mayWet) := mz_tcons (tk_X12_mayWet_0 E) (mz_tcons (tk_X12_mayWet_1 E) (mz_tcons (tk_X12_mayWet_2 E) (mz_tnil)))
noncomputable def rn_X12_mayWet : List mz_V → List mz_C → Option (Option mz_V × List mz_C) := mz_rn tb_X12_mayWet 41 7
theorem ctr_X12_mayWet (E : List mz_V) : mz_ctr E yX12_mayWet tM_X12_mayWet rn_X12_mayWet := mz_ctr_of 41 (tok_X12_mayWet E) (by decide) rfl rfl
abbrev tM_X12_layLost : mz_M := (cX12_layLost, 10, none, RX12, "layLost", 5, 112)
noncomputable def ck_X12_layLost_0 : List (Nat × mz_O) := [(0, .inl (mz_push (.inl 0) 1)), (1, .inl (mz_sto mz_isI mz_p1 2 2)), (2, .inl (mz_ld mz_isI 2 3)), (3, .inl (mz_ld mz_isR 0 4)), (4, .inl (mz_gf 12 4 7)), (7, .inl (mz_j2 mz_gt 181 10)), (10, .inl (mz_push (.inl 0) 11)), (11, .inl (mz_sto mz_isI mz_p1 3 12)), (12, .inl (mz_ld mz_isI 3 13)), (13, .inl (mz_ld mz_isR 0 14)), (14, .inl (mz_call rn_X12_all 1 (mz_ckV 12) 17)), (17, .inl (mz_j2 mz_gt 175 20)), (20, .inl (mz_ld mz_isI 3 21)), (21, .inl (mz_call rn_X12_many 1 mz_ckT 24)), (24, .inl (mz_ld mz_isR 0 25)), (25, .inl (mz_gf 12 4 28))]
theorem tk_X12_layLost_0 (E : List mz_V) : mz_all E tM_X12_layLost (ck_X12_layLost_0) :=
  mz_cons (mz_iconst 0 (by decide) (show decode cX12_layLost 0 = .ok (.iconst 0, 1) by decide +kernel)) (
  mz_cons (mz_istore_n (k := 2) (by decide) (show decode cX12_layLost 1 = .ok (.istore_n 2, 1) by decide +kernel)) (
  mz_cons (mz_iload_n (k := 2) (show decode cX12_layLost 2 = .ok (.iload_n 2, 1) by decide +kernel)) (
  mz_cons (mz_aload_n (k := 0) (show decode cX12_layLost 3 = .ok (.aload_n 0, 1) by decide +kernel)) (
  mz_cons (mz_getfield (C := RX12) (T := TX12) (N := 29) rfl mz_inX12 (by decide) mw_976 (show decode cX12_layLost 4 = .ok (.getfield 16, 3) by decide +kernel)) (
  mz_cons (mz_icmp_gt 181 (by decide) (show decode cX12_layLost 7 = .ok (.if_icmp .gt 174, 3) by decide +kernel)) (
  mz_cons (mz_iconst 0 (by decide) (show decode cX12_layLost 10 = .ok (.iconst 0, 1) by decide +kernel)) (
  mz_cons (mz_istore_n (k := 3) (by decide) (show decode cX12_layLost 11 = .ok (.istore_n 3, 1) by decide +kernel)) (
  mz_cons (mz_iload_n (k := 3) (show decode cX12_layLost 12 = .ok (.iload_n 3, 1) by decide +kernel)) (
  mz_cons (mz_aload_n (k := 0) (show decode cX12_layLost 13 = .ok (.aload_n 0, 1) by decide +kernel)) (
  mz_cons (mz_invV (n := 0) (ctr_X12_all E) rfl ⟨by decide, by decide, by decide +kernel⟩ ⟨by decide, by decide⟩ mw_1143 mw_1140 mw_1142 mw_40 mw_74 (show decode cX12_layLost 14 = .ok (.invokevirtual 131, 3) by decide +kernel)) (
  mz_cons (mz_icmp_gt 175 (by decide) (show decode cX12_layLost 17 = .ok (.if_icmp .gt 158, 3) by decide +kernel)) (
  mz_cons (mz_iload_n (k := 3) (show decode cX12_layLost 20 = .ok (.iload_n 3, 1) by decide +kernel)) (
  mz_cons (mz_invS (n := 1) (ctr_X12_many E) ⟨by decide, by decide, by decide +kernel⟩ ⟨by decide, by decide⟩ mw_1151 mw_1149 mw_1150 mw_74 (show decode cX12_layLost 21 = .ok (.invokestatic 143, 3) by decide +kernel)) (
  mz_cons (mz_aload_n (k := 0) (show decode cX12_layLost 24 = .ok (.aload_n 0, 1) by decide +kernel)) (
  mz_cons (mz_getfield (C := RX12) (T := TX12) (N := 29) rfl mz_inX12 (by decide) mw_976 (show decode cX12_layLost 25 = .ok (.getfield 16, 3) by decide +kernel)) (
  mz_nil))))))))))))))))
noncomputable def ck_X12_layLost_1 : List (Nat × mz_O) := [(28, .inl (mz_ld mz_isI 2 29)), (29, .inl (mz_o2 mz_f_isub 30)), (30, .inl (mz_j2 mz_eq 33 169)), (33, .inl (mz_ld mz_isI 3 34)), (34, .inl (mz_sto mz_isI mz_p1 4 36)), (36, .inl (mz_ld mz_isI 4 38)), (38, .inl (mz_j1 mz_lt0 169 41)), (41, .inl (mz_ld mz_isI 3 42)), (42, .inl (mz_ld mz_isI 4 44)), (44, .inl (mz_push (.inl (-1)) 45)), (45, .inl (mz_o2 mz_f_ixor 46)), (46, .inl (mz_o2 mz_f_iand 47)), (47, .inl (mz_sto mz_isI mz_p1 5 49)), (49, .inl (mz_ld mz_isR 0 50)), (50, .inl (mz_call rn_X12_all 1 (mz_ckV 12) 53)), (53, .inl (mz_ld mz_isI 3 54))]
theorem tk_X12_layLost_1 (E : List mz_V) : mz_all E tM_X12_layLost (ck_X12_layLost_1) :=
  mz_cons (mz_iload_n (k := 2) (show decode cX12_layLost 28 = .ok (.iload_n 2, 1) by decide +kernel)) (
  mz_cons (mz_isub (show decode cX12_layLost 29 = .ok (.isub, 1) by decide +kernel)) (
  mz_cons (mz_icmp_ne 169 (by decide) (show decode cX12_layLost 30 = .ok (.if_icmp .ne 139, 3) by decide +kernel)) (
  mz_cons (mz_iload_n (k := 3) (show decode cX12_layLost 33 = .ok (.iload_n 3, 1) by decide +kernel)) (
  mz_cons (mz_istore (by decide) (show decode cX12_layLost 34 = .ok (.istore 4, 2) by decide +kernel)) (
  mz_cons (mz_iload (show decode cX12_layLost 36 = .ok (.iload 4, 2) by decide +kernel)) (
  mz_cons (mz_if_lt 169 (by decide) (show decode cX12_layLost 38 = .ok (.ifCond .lt 131, 3) by decide +kernel)) (
  mz_cons (mz_iload_n (k := 3) (show decode cX12_layLost 41 = .ok (.iload_n 3, 1) by decide +kernel)) (
  mz_cons (mz_iload (show decode cX12_layLost 42 = .ok (.iload 4, 2) by decide +kernel)) (
  mz_cons (mz_iconst (-1) (by decide) (show decode cX12_layLost 44 = .ok (.iconst (-1), 1) by decide +kernel)) (
  mz_cons (mz_ixor (show decode cX12_layLost 45 = .ok (.ixor, 1) by decide +kernel)) (
  mz_cons (mz_iand (show decode cX12_layLost 46 = .ok (.iand, 1) by decide +kernel)) (
  mz_cons (mz_istore (by decide) (show decode cX12_layLost 47 = .ok (.istore 5, 2) by decide +kernel)) (
  mz_cons (mz_aload_n (k := 0) (show decode cX12_layLost 49 = .ok (.aload_n 0, 1) by decide +kernel)) (
  mz_cons (mz_invV (n := 0) (ctr_X12_all E) rfl ⟨by decide, by decide, by decide +kernel⟩ ⟨by decide, by decide⟩ mw_1143 mw_1140 mw_1142 mw_40 mw_74 (show decode cX12_layLost 50 = .ok (.invokevirtual 131, 3) by decide +kernel)) (
  mz_cons (mz_iload_n (k := 3) (show decode cX12_layLost 53 = .ok (.iload_n 3, 1) by decide +kernel)) (
  mz_nil))))))))))))))))
noncomputable def ck_X12_layLost_2 : List (Nat × mz_O) := [(54, .inl (mz_push (.inl (-1)) 55)), (55, .inl (mz_o2 mz_f_ixor 56)), (56, .inl (mz_o2 mz_f_iand 57)), (57, .inl (mz_sto mz_isI mz_p1 6 59)), (59, .inl (mz_push (.inl 268435456) 61)), (61, .inl (mz_sto mz_isI mz_p1 7 63)), (63, .inl (mz_ld mz_isI 6 65)), (65, .inl (mz_sto mz_isI mz_p1 8 67)), (67, .inl (mz_ld mz_isI 8 69)), (69, .inl (mz_j1 mz_lt0 135 72)), (72, .inl (mz_ld mz_isR 0 73)), (73, .inl (mz_ld mz_isI 8 75)), (75, .inl (mz_ld mz_isI 4 77)), (77, .inl (mz_ld mz_isI 5 79)), (79, .inl (mz_ld mz_isI 1 80)), (80, .inl (mz_call rn_X12_mayWet 5 (mz_ckV 12) 83))]
theorem tk_X12_layLost_2 (E : List mz_V) : mz_all E tM_X12_layLost (ck_X12_layLost_2) :=
  mz_cons (mz_iconst (-1) (by decide) (show decode cX12_layLost 54 = .ok (.iconst (-1), 1) by decide +kernel)) (
  mz_cons (mz_ixor (show decode cX12_layLost 55 = .ok (.ixor, 1) by decide +kernel)) (
  mz_cons (mz_iand (show decode cX12_layLost 56 = .ok (.iand, 1) by decide +kernel)) (
  mz_cons (mz_istore (by decide) (show decode cX12_layLost 57 = .ok (.istore 6, 2) by decide +kernel)) (
  mz_cons (mz_ldc mw_1152 (show decode cX12_layLost 59 = .ok (.ldc 159, 2) by decide +kernel)) (
  mz_cons (mz_istore (by decide) (show decode cX12_layLost 61 = .ok (.istore 7, 2) by decide +kernel)) (
  mz_cons (mz_iload (show decode cX12_layLost 63 = .ok (.iload 6, 2) by decide +kernel)) (
  mz_cons (mz_istore (by decide) (show decode cX12_layLost 65 = .ok (.istore 8, 2) by decide +kernel)) (
  mz_cons (mz_iload (show decode cX12_layLost 67 = .ok (.iload 8, 2) by decide +kernel)) (
  mz_cons (mz_if_lt 135 (by decide) (show decode cX12_layLost 69 = .ok (.ifCond .lt 66, 3) by decide +kernel)) (
  mz_cons (mz_aload_n (k := 0) (show decode cX12_layLost 72 = .ok (.aload_n 0, 1) by decide +kernel)) (
  mz_cons (mz_iload (show decode cX12_layLost 73 = .ok (.iload 8, 2) by decide +kernel)) (
  mz_cons (mz_iload (show decode cX12_layLost 75 = .ok (.iload 4, 2) by decide +kernel)) (
  mz_cons (mz_iload (show decode cX12_layLost 77 = .ok (.iload 5, 2) by decide +kernel)) (
  mz_cons (mz_iload_n (k := 1) (show decode cX12_layLost 79 = .ok (.iload_n 1, 1) by decide +kernel)) (
  mz_cons (mz_invV (n := 4) (ctr_X12_mayWet E) rfl ⟨by decide, by decide, by decide +kernel⟩ ⟨by decide, by decide⟩ mw_1156 mw_1153 mw_1155 mw_42 mw_74 (show decode cX12_layLost 80 = .ok (.invokevirtual 160, 3) by decide +kernel)) (
  mz_nil))))))))))))))))
noncomputable def ck_X12_layLost_3 : List (Nat × mz_O) := [(83, .inl (mz_j1 mz_eq0 114 86)), (86, .inl (mz_ld mz_isR 0 87)), (87, .inl (mz_ld mz_isI 8 89)), (89, .inl (mz_ld mz_isI 4 91)), (91, .inl (mz_ld mz_isI 5 93)), (93, .inl (mz_call rn_X12_behind 4 (mz_ckV 12) 96)), (96, .inl (mz_sto mz_isI mz_p1 9 98)), (98, .inl (mz_ld mz_isI 9 100)), (100, .inl (mz_ld mz_isI 7 102)), (102, .inl (mz_j2 mz_lt 105 110)), (105, .inl (mz_ld mz_isI 9 107)), (107, .inl (mz_go 112)), (112, .inl (mz_sto mz_isI mz_p1 7 114)), (114, .inl (mz_ld mz_isI 8 116)), (116, .inl (mz_j1 mz_eq0 119 123)), (119, .inl (mz_push (.inl (-1)) 120))]
theorem tk_X12_layLost_3 (E : List mz_V) : mz_all E tM_X12_layLost (ck_X12_layLost_3) :=
  mz_cons (mz_if_eq 114 (by decide) (show decode cX12_layLost 83 = .ok (.ifCond .eq 31, 3) by decide +kernel)) (
  mz_cons (mz_aload_n (k := 0) (show decode cX12_layLost 86 = .ok (.aload_n 0, 1) by decide +kernel)) (
  mz_cons (mz_iload (show decode cX12_layLost 87 = .ok (.iload 8, 2) by decide +kernel)) (
  mz_cons (mz_iload (show decode cX12_layLost 89 = .ok (.iload 4, 2) by decide +kernel)) (
  mz_cons (mz_iload (show decode cX12_layLost 91 = .ok (.iload 5, 2) by decide +kernel)) (
  mz_cons (mz_invV (n := 3) (ctr_X12_behind E) rfl ⟨by decide, by decide, by decide +kernel⟩ ⟨by decide, by decide⟩ mw_1160 mw_1157 mw_1159 mw_43 mw_74 (show decode cX12_layLost 93 = .ok (.invokevirtual 163, 3) by decide +kernel)) (
  mz_cons (mz_istore (by decide) (show decode cX12_layLost 96 = .ok (.istore 9, 2) by decide +kernel)) (
  mz_cons (mz_iload (show decode cX12_layLost 98 = .ok (.iload 9, 2) by decide +kernel)) (
  mz_cons (mz_iload (show decode cX12_layLost 100 = .ok (.iload 7, 2) by decide +kernel)) (
  mz_cons (mz_icmp_ge 110 (by decide) (show decode cX12_layLost 102 = .ok (.if_icmp .ge 8, 3) by decide +kernel)) (
  mz_cons (mz_iload (show decode cX12_layLost 105 = .ok (.iload 9, 2) by decide +kernel)) (
  mz_cons (mz_goto 112 (by decide) (show decode cX12_layLost 107 = .ok (.goto 5, 3) by decide +kernel)) (
  mz_cons (mz_istore (by decide) (show decode cX12_layLost 112 = .ok (.istore 7, 2) by decide +kernel)) (
  mz_cons (mz_iload (show decode cX12_layLost 114 = .ok (.iload 8, 2) by decide +kernel)) (
  mz_cons (mz_if_ne 123 (by decide) (show decode cX12_layLost 116 = .ok (.ifCond .ne 7, 3) by decide +kernel)) (
  mz_cons (mz_iconst (-1) (by decide) (show decode cX12_layLost 119 = .ok (.iconst (-1), 1) by decide +kernel)) (
  mz_nil))))))))))))))))
noncomputable def ck_X12_layLost_4 : List (Nat × mz_O) := [(120, .inl (mz_go 130)), (123, .inl (mz_ld mz_isI 8 125)), (125, .inl (mz_push (.inl 1) 126)), (126, .inl (mz_o2 mz_f_isub 127)), (127, .inl (mz_ld mz_isI 6 129)), (129, .inl (mz_o2 mz_f_iand 130)), (130, .inl (mz_sto mz_isI mz_p1 8 132)), (132, .inl (mz_go 67)), (135, .inl (mz_ld mz_isR 0 136)), (136, .inl (mz_gf 12 14 139)), (139, .inl (mz_ld mz_isI 4 141)), (141, .inl (mz_ld mz_isI 5 143)), (143, .inl (mz_call rn_X12_code 2 mz_ckT 146)), (146, .inl (mz_ld mz_isI 7 148)), (148, .inl (mz_ast false mz_isI 149)), (149, .inl (mz_ld mz_isI 4 151))]
theorem tk_X12_layLost_4 (E : List mz_V) : mz_all E tM_X12_layLost (ck_X12_layLost_4) :=
  mz_cons (mz_goto 130 (by decide) (show decode cX12_layLost 120 = .ok (.goto 10, 3) by decide +kernel)) (
  mz_cons (mz_iload (show decode cX12_layLost 123 = .ok (.iload 8, 2) by decide +kernel)) (
  mz_cons (mz_iconst 1 (by decide) (show decode cX12_layLost 125 = .ok (.iconst 1, 1) by decide +kernel)) (
  mz_cons (mz_isub (show decode cX12_layLost 126 = .ok (.isub, 1) by decide +kernel)) (
  mz_cons (mz_iload (show decode cX12_layLost 127 = .ok (.iload 6, 2) by decide +kernel)) (
  mz_cons (mz_iand (show decode cX12_layLost 129 = .ok (.iand, 1) by decide +kernel)) (
  mz_cons (mz_istore (by decide) (show decode cX12_layLost 130 = .ok (.istore 8, 2) by decide +kernel)) (
  mz_cons (mz_goto 67 (by decide) (show decode cX12_layLost 132 = .ok (.goto (-65), 3) by decide +kernel)) (
  mz_cons (mz_aload_n (k := 0) (show decode cX12_layLost 135 = .ok (.aload_n 0, 1) by decide +kernel)) (
  mz_cons (mz_getfield (C := RX12) (T := TX12) (N := 29) rfl mz_inX12 (by decide) mw_986 (show decode cX12_layLost 136 = .ok (.getfield 35, 3) by decide +kernel)) (
  mz_cons (mz_iload (show decode cX12_layLost 139 = .ok (.iload 4, 2) by decide +kernel)) (
  mz_cons (mz_iload (show decode cX12_layLost 141 = .ok (.iload 5, 2) by decide +kernel)) (
  mz_cons (mz_invS (n := 2) (ctr_X12_code E) ⟨by decide, by decide, by decide +kernel⟩ ⟨by decide, by decide⟩ mw_1175 mw_1173 mw_1174 mw_74 (show decode cX12_layLost 143 = .ok (.invokestatic 156, 3) by decide +kernel)) (
  mz_cons (mz_iload (show decode cX12_layLost 146 = .ok (.iload 7, 2) by decide +kernel)) (
  mz_cons (mz_iastore (show decode cX12_layLost 148 = .ok (.iastore, 1) by decide +kernel)) (
  mz_cons (mz_iload (show decode cX12_layLost 149 = .ok (.iload 4, 2) by decide +kernel)) (
  mz_nil))))))))))))))))
noncomputable def ck_X12_layLost_5 : List (Nat × mz_O) := [(151, .inl (mz_j1 mz_eq0 154 158)), (154, .inl (mz_push (.inl (-1)) 155)), (155, .inl (mz_go 164)), (158, .inl (mz_ld mz_isI 4 160)), (160, .inl (mz_push (.inl 1) 161)), (161, .inl (mz_o2 mz_f_isub 162)), (162, .inl (mz_ld mz_isI 3 163)), (163, .inl (mz_o2 mz_f_iand 164)), (164, .inl (mz_sto mz_isI mz_p1 4 166)), (166, .inl (mz_go 36)), (169, .inl (mz_inc 3 1 172)), (172, .inl (mz_go 12)), (175, .inl (mz_inc 2 1 178)), (178, .inl (mz_go 2)), (181, .inr (mz_rv))]
theorem tk_X12_layLost_5 (E : List mz_V) : mz_all E tM_X12_layLost (ck_X12_layLost_5) :=
  mz_cons (mz_if_ne 158 (by decide) (show decode cX12_layLost 151 = .ok (.ifCond .ne 7, 3) by decide +kernel)) (
  mz_cons (mz_iconst (-1) (by decide) (show decode cX12_layLost 154 = .ok (.iconst (-1), 1) by decide +kernel)) (
  mz_cons (mz_goto 164 (by decide) (show decode cX12_layLost 155 = .ok (.goto 9, 3) by decide +kernel)) (
  mz_cons (mz_iload (show decode cX12_layLost 158 = .ok (.iload 4, 2) by decide +kernel)) (
  mz_cons (mz_iconst 1 (by decide) (show decode cX12_layLost 160 = .ok (.iconst 1, 1) by decide +kernel)) (
  mz_cons (mz_isub (show decode cX12_layLost 161 = .ok (.isub, 1) by decide +kernel)) (
  mz_cons (mz_iload_n (k := 3) (show decode cX12_layLost 162 = .ok (.iload_n 3, 1) by decide +kernel)) (
  mz_cons (mz_iand (show decode cX12_layLost 163 = .ok (.iand, 1) by decide +kernel)) (
  mz_cons (mz_istore (by decide) (show decode cX12_layLost 164 = .ok (.istore 4, 2) by decide +kernel)) (
  mz_cons (mz_goto 36 (by decide) (show decode cX12_layLost 166 = .ok (.goto (-130), 3) by decide +kernel)) (
  mz_cons (mz_iinc 1 (by decide) (by decide) (show decode cX12_layLost 169 = .ok (.iinc 3 1, 3) by decide +kernel)) (
  mz_cons (mz_goto 12 (by decide) (show decode cX12_layLost 172 = .ok (.goto (-160), 3) by decide +kernel)) (
  mz_cons (mz_iinc 1 (by decide) (by decide) (show decode cX12_layLost 175 = .ok (.iinc 2 1, 3) by decide +kernel)) (
  mz_cons (mz_goto 2 (by decide) (show decode cX12_layLost 178 = .ok (.goto (-176), 3) by decide +kernel)) (
  mz_consR (mz_return rfl (show decode cX12_layLost 181 = .ok (.return_, 1) by decide +kernel)) (
  mz_nil)))))))))))))))
noncomputable def tb_X12_layLost : List (Nat × List (Nat × mz_O)) := [(25, ck_X12_layLost_0), (53, ck_X12_layLost_1), (80, ck_X12_layLost_2), (119, ck_X12_layLost_3), (149, ck_X12_layLost_4), (181, ck_X12_layLost_5)]
theorem tok_X12_layLost (E : List mz_V) : mz_tok E tM_X12_layLost (tb_X12_layLost) := mz_tcons (tk_X12_layLost_0 E) (mz_tcons (tk_X12_layLost_1 E) (mz_tcons (tk_X12_layLost_2 E) (mz_tcons (tk_X12_layLost_3 E) (mz_tcons (tk_X12_layLost_4 E) (mz_tcons (tk_X12_layLost_5 E) (mz_tnil))))))
noncomputable def rn_X12_layLost : List mz_V → List mz_C → Option (Option mz_V × List mz_C) := mz_rn tb_X12_layLost 305 10
theorem ctr_X12_layLost (E : List mz_V) : mz_ctr E yX12_layLost tM_X12_layLost rn_X12_layLost := mz_ctr_of 305 (tok_X12_layLost E) (by decide) rfl rfl
abbrev tM_X12_begin : mz_M := (cX12_begin, 2, (some .int), RX12, "begin", 6, 141)
noncomputable def ck_X12_begin_0 : List (Nat × mz_O) := [(0, .inl (mz_ld mz_isR 0 1)), (1, .inl (mz_ld mz_isI 1 2)), (2, .inl (mz_call rn_X12_isSetOf 2 (mz_ckV 12) 5)), (5, .inl (mz_j1 mz_eq0 8 11)), (8, .inl (mz_push (.inl (-3)) 10)), (10, .inr (mz_rt mz_isI)), (11, .inl (mz_ld mz_isR 0 12)), (12, .inl (mz_push (.inl 1) 13)), (13, .inl (mz_pf 12 15 mz_is01 16)), (16, .inl (mz_ld mz_isR 0 17)), (17, .inl (mz_ld mz_isI 1 18)), (18, .inl (mz_pf 12 16 mz_isI 21)), (21, .inl (mz_ld mz_isR 0 22)), (22, .inl (mz_push (.inl 0) 23)), (23, .inl (mz_pf 12 17 mz_isI 26)), (26, .inl (mz_ld mz_isR 0 27))]
theorem tk_X12_begin_0 (E : List mz_V) : mz_all E tM_X12_begin (ck_X12_begin_0) :=
  mz_cons (mz_aload_n (k := 0) (show decode cX12_begin 0 = .ok (.aload_n 0, 1) by decide +kernel)) (
  mz_cons (mz_iload_n (k := 1) (show decode cX12_begin 1 = .ok (.iload_n 1, 1) by decide +kernel)) (
  mz_cons (mz_invV (n := 1) (ctr_X12_isSetOf E) rfl ⟨by decide, by decide, by decide +kernel⟩ ⟨by decide, by decide⟩ mw_1139 mw_1136 mw_1138 mw_39 mw_74 (show decode cX12_begin 2 = .ok (.invokevirtual 167, 3) by decide +kernel)) (
  mz_cons (mz_if_ne 11 (by decide) (show decode cX12_begin 5 = .ok (.ifCond .ne 6, 3) by decide +kernel)) (
  mz_cons (mz_bipush (-3) (by decide) (show decode cX12_begin 8 = .ok (.bipush (-3), 2) by decide +kernel)) (
  mz_consR (mz_ireturn rfl (show decode cX12_begin 10 = .ok (.ireturn, 1) by decide +kernel)) (
  mz_cons (mz_aload_n (k := 0) (show decode cX12_begin 11 = .ok (.aload_n 0, 1) by decide +kernel)) (
  mz_cons (mz_iconst 1 (by decide) (show decode cX12_begin 12 = .ok (.iconst 1, 1) by decide +kernel)) (
  mz_cons (mz_putfield (C := RX12) (T := TX12) (N := 29) rfl mz_inX12 tyX12_ok nmX12 (by decide) mz_fit_bool rfl mw_987 (show decode cX12_begin 13 = .ok (.putfield 127, 3) by decide +kernel)) (
  mz_cons (mz_aload_n (k := 0) (show decode cX12_begin 16 = .ok (.aload_n 0, 1) by decide +kernel)) (
  mz_cons (mz_iload_n (k := 1) (show decode cX12_begin 17 = .ok (.iload_n 1, 1) by decide +kernel)) (
  mz_cons (mz_putfield (C := RX12) (T := TX12) (N := 29) rfl mz_inX12 tyX12_ok nmX12 (by decide) mz_fit_int rfl mw_988 (show decode cX12_begin 18 = .ok (.putfield 177, 3) by decide +kernel)) (
  mz_cons (mz_aload_n (k := 0) (show decode cX12_begin 21 = .ok (.aload_n 0, 1) by decide +kernel)) (
  mz_cons (mz_iconst 0 (by decide) (show decode cX12_begin 22 = .ok (.iconst 0, 1) by decide +kernel)) (
  mz_cons (mz_putfield (C := RX12) (T := TX12) (N := 29) rfl mz_inX12 tyX12_ok nmX12 (by decide) mz_fit_int rfl mw_989 (show decode cX12_begin 23 = .ok (.putfield 180, 3) by decide +kernel)) (
  mz_cons (mz_aload_n (k := 0) (show decode cX12_begin 26 = .ok (.aload_n 0, 1) by decide +kernel)) (
  mz_nil))))))))))))))))
noncomputable def ck_X12_begin_1 : List (Nat × mz_O) := [(27, .inl (mz_push (.inl 0) 28)), (28, .inl (mz_pf 12 18 mz_isI 31)), (31, .inl (mz_ld mz_isR 0 32)), (32, .inl (mz_push (.inl 0) 33)), (33, .inl (mz_pf 12 19 mz_is01 36)), (36, .inl (mz_ld mz_isR 0 37)), (37, .inl (mz_push (.inl 0) 38)), (38, .inl (mz_pf 12 20 mz_isI 41)), (41, .inl (mz_ld mz_isR 0 42)), (42, .inl (mz_ld mz_isR 0 43)), (43, .inl (mz_gf 12 8 46)), (46, .inl (mz_call rn_X12_layLost 2 (mz_ckV 12) 49)), (49, .inl (mz_ld mz_isR 0 50)), (50, .inl (mz_gf 12 14 53)), (53, .inl (mz_ld mz_isI 1 54)), (54, .inl (mz_push (.inl 0) 55))]
theorem tk_X12_begin_1 (E : List mz_V) : mz_all E tM_X12_begin (ck_X12_begin_1) :=
  mz_cons (mz_iconst 0 (by decide) (show decode cX12_begin 27 = .ok (.iconst 0, 1) by decide +kernel)) (
  mz_cons (mz_putfield (C := RX12) (T := TX12) (N := 29) rfl mz_inX12 tyX12_ok nmX12 (by decide) mz_fit_int rfl mw_990 (show decode cX12_begin 28 = .ok (.putfield 183, 3) by decide +kernel)) (
  mz_cons (mz_aload_n (k := 0) (show decode cX12_begin 31 = .ok (.aload_n 0, 1) by decide +kernel)) (
  mz_cons (mz_iconst 0 (by decide) (show decode cX12_begin 32 = .ok (.iconst 0, 1) by decide +kernel)) (
  mz_cons (mz_putfield (C := RX12) (T := TX12) (N := 29) rfl mz_inX12 tyX12_ok nmX12 (by decide) mz_fit_bool rfl mw_991 (show decode cX12_begin 33 = .ok (.putfield 186, 3) by decide +kernel)) (
  mz_cons (mz_aload_n (k := 0) (show decode cX12_begin 36 = .ok (.aload_n 0, 1) by decide +kernel)) (
  mz_cons (mz_iconst 0 (by decide) (show decode cX12_begin 37 = .ok (.iconst 0, 1) by decide +kernel)) (
  mz_cons (mz_putfield (C := RX12) (T := TX12) (N := 29) rfl mz_inX12 tyX12_ok nmX12 (by decide) mz_fit_int rfl mw_992 (show decode cX12_begin 38 = .ok (.putfield 189, 3) by decide +kernel)) (
  mz_cons (mz_aload_n (k := 0) (show decode cX12_begin 41 = .ok (.aload_n 0, 1) by decide +kernel)) (
  mz_cons (mz_aload_n (k := 0) (show decode cX12_begin 42 = .ok (.aload_n 0, 1) by decide +kernel)) (
  mz_cons (mz_getfield (C := RX12) (T := TX12) (N := 29) rfl mz_inX12 (by decide) mw_980 (show decode cX12_begin 43 = .ok (.getfield 29, 3) by decide +kernel)) (
  mz_cons (mz_invV (n := 1) (ctr_X12_layLost E) rfl ⟨by decide, by decide, by decide +kernel⟩ ⟨by decide, by decide⟩ mw_1148 mw_1145 mw_1147 mw_41 mw_74 (show decode cX12_begin 46 = .ok (.invokevirtual 172, 3) by decide +kernel)) (
  mz_cons (mz_aload_n (k := 0) (show decode cX12_begin 49 = .ok (.aload_n 0, 1) by decide +kernel)) (
  mz_cons (mz_getfield (C := RX12) (T := TX12) (N := 29) rfl mz_inX12 (by decide) mw_986 (show decode cX12_begin 50 = .ok (.getfield 35, 3) by decide +kernel)) (
  mz_cons (mz_iload_n (k := 1) (show decode cX12_begin 53 = .ok (.iload_n 1, 1) by decide +kernel)) (
  mz_cons (mz_iconst 0 (by decide) (show decode cX12_begin 54 = .ok (.iconst 0, 1) by decide +kernel)) (
  mz_nil))))))))))))))))
noncomputable def ck_X12_begin_2 : List (Nat × mz_O) := [(55, .inl (mz_call rn_X12_code 2 mz_ckT 58)), (58, .inl (mz_al false 59)), (59, .inr (mz_rt mz_isI))]
theorem tk_X12_begin_2 (E : List mz_V) : mz_all E tM_X12_begin (ck_X12_begin_2) :=
  mz_cons (mz_invS (n := 2) (ctr_X12_code E) ⟨by decide, by decide, by decide +kernel⟩ ⟨by decide, by decide⟩ mw_1175 mw_1173 mw_1174 mw_74 (show decode cX12_begin 55 = .ok (.invokestatic 156, 3) by decide +kernel)) (
  mz_cons (mz_iaload (show decode cX12_begin 58 = .ok (.iaload, 1) by decide +kernel)) (
  mz_consR (mz_ireturn rfl (show decode cX12_begin 59 = .ok (.ireturn, 1) by decide +kernel)) (
  mz_nil)))
noncomputable def tb_X12_begin : List (Nat × List (Nat × mz_O)) := [(26, ck_X12_begin_0), (54, ck_X12_begin_1), (59, ck_X12_begin_2)]
theorem tok_X12_begin (E : List mz_V) : mz_tok E tM_X12_begin (tb_X12_begin) := mz_tcons (tk_X12_begin_0 E) (mz_tcons (tk_X12_begin_1 E) (mz_tcons (tk_X12_begin_2 E) (mz_tnil)))
noncomputable def rn_X12_begin : List mz_V → List mz_C → Option (Option mz_V × List mz_C) := mz_rn tb_X12_begin 43 2
theorem ctr_X12_begin (E : List mz_V) : mz_ctr E yX12_begin tM_X12_begin rn_X12_begin := mz_ctr_of 43 (tok_X12_begin E) (by decide) rfl rfl
abbrev tM_X12_layWays : mz_M := (cX12_layWays, 3, none, RX12, "layWays", 2, 43)
noncomputable def ck_X12_layWays_0 : List (Nat × mz_O) := [(0, .inl (mz_push (.inl 0) 1)), (1, .inl (mz_sto mz_isI mz_p1 1 2)), (2, .inl (mz_push (.inl 0) 3)), (3, .inl (mz_sto mz_isI mz_p1 2 4)), (4, .inl (mz_ld mz_isI 2 5)), (5, .inl (mz_push (.inl 81) 7)), (7, .inl (mz_j2 mz_lt 10 69)), (10, .inl (mz_ld mz_isI 2 11)), (11, .inl (mz_push (.inl 9) 13)), (13, .inl (mz_o2 mz_f_idiv 14)), (14, .inl (mz_ld mz_isR 0 15)), (15, .inl (mz_gf 12 4 18)), (18, .inl (mz_j2 mz_lt 21 63)), (21, .inl (mz_ld mz_isR 0 22)), (22, .inl (mz_gf 12 5 25)), (25, .inl (mz_ld mz_isI 2 26))]
theorem tk_X12_layWays_0 (E : List mz_V) : mz_all E tM_X12_layWays (ck_X12_layWays_0) :=
  mz_cons (mz_iconst 0 (by decide) (show decode cX12_layWays 0 = .ok (.iconst 0, 1) by decide +kernel)) (
  mz_cons (mz_istore_n (k := 1) (by decide) (show decode cX12_layWays 1 = .ok (.istore_n 1, 1) by decide +kernel)) (
  mz_cons (mz_iconst 0 (by decide) (show decode cX12_layWays 2 = .ok (.iconst 0, 1) by decide +kernel)) (
  mz_cons (mz_istore_n (k := 2) (by decide) (show decode cX12_layWays 3 = .ok (.istore_n 2, 1) by decide +kernel)) (
  mz_cons (mz_iload_n (k := 2) (show decode cX12_layWays 4 = .ok (.iload_n 2, 1) by decide +kernel)) (
  mz_cons (mz_bipush 81 (by decide) (show decode cX12_layWays 5 = .ok (.bipush 81, 2) by decide +kernel)) (
  mz_cons (mz_icmp_ge 69 (by decide) (show decode cX12_layWays 7 = .ok (.if_icmp .ge 62, 3) by decide +kernel)) (
  mz_cons (mz_iload_n (k := 2) (show decode cX12_layWays 10 = .ok (.iload_n 2, 1) by decide +kernel)) (
  mz_cons (mz_bipush 9 (by decide) (show decode cX12_layWays 11 = .ok (.bipush 9, 2) by decide +kernel)) (
  mz_cons (mz_idiv (show decode cX12_layWays 13 = .ok (.idiv, 1) by decide +kernel)) (
  mz_cons (mz_aload_n (k := 0) (show decode cX12_layWays 14 = .ok (.aload_n 0, 1) by decide +kernel)) (
  mz_cons (mz_getfield (C := RX12) (T := TX12) (N := 29) rfl mz_inX12 (by decide) mw_976 (show decode cX12_layWays 15 = .ok (.getfield 16, 3) by decide +kernel)) (
  mz_cons (mz_icmp_ge 63 (by decide) (show decode cX12_layWays 18 = .ok (.if_icmp .ge 45, 3) by decide +kernel)) (
  mz_cons (mz_aload_n (k := 0) (show decode cX12_layWays 21 = .ok (.aload_n 0, 1) by decide +kernel)) (
  mz_cons (mz_getfield (C := RX12) (T := TX12) (N := 29) rfl mz_inX12 (by decide) mw_977 (show decode cX12_layWays 22 = .ok (.getfield 20, 3) by decide +kernel)) (
  mz_cons (mz_iload_n (k := 2) (show decode cX12_layWays 25 = .ok (.iload_n 2, 1) by decide +kernel)) (
  mz_nil))))))))))))))))
noncomputable def ck_X12_layWays_1 : List (Nat × mz_O) := [(26, .inl (mz_push (.inl 9) 28)), (28, .inl (mz_o2 mz_f_idiv 29)), (29, .inl (mz_al false 30)), (30, .inl (mz_ld mz_isI 2 31)), (31, .inl (mz_push (.inl 9) 33)), (33, .inl (mz_o2 mz_f_irem 34)), (34, .inl (mz_call rn_X12_has 2 mz_ckT 37)), (37, .inl (mz_j1 mz_eq0 63 40)), (63, .inl (mz_inc 2 1 66)), (66, .inl (mz_go 4)), (69, .inr (mz_rv))]
theorem tk_X12_layWays_1 (E : List mz_V) : mz_all E tM_X12_layWays (ck_X12_layWays_1) :=
  mz_cons (mz_bipush 9 (by decide) (show decode cX12_layWays 26 = .ok (.bipush 9, 2) by decide +kernel)) (
  mz_cons (mz_idiv (show decode cX12_layWays 28 = .ok (.idiv, 1) by decide +kernel)) (
  mz_cons (mz_iaload (show decode cX12_layWays 29 = .ok (.iaload, 1) by decide +kernel)) (
  mz_cons (mz_iload_n (k := 2) (show decode cX12_layWays 30 = .ok (.iload_n 2, 1) by decide +kernel)) (
  mz_cons (mz_bipush 9 (by decide) (show decode cX12_layWays 31 = .ok (.bipush 9, 2) by decide +kernel)) (
  mz_cons (mz_irem (show decode cX12_layWays 33 = .ok (.irem, 1) by decide +kernel)) (
  mz_cons (mz_invS (n := 2) (ctr_X12_has E) ⟨by decide, by decide, by decide +kernel⟩ ⟨by decide, by decide⟩ mw_1131 mw_1129 mw_1130 mw_74 (show decode cX12_layWays 34 = .ok (.invokestatic 134, 3) by decide +kernel)) (
  mz_cons (mz_if_eq 63 (by decide) (show decode cX12_layWays 37 = .ok (.ifCond .eq 26, 3) by decide +kernel)) (
  mz_cons (mz_iinc 1 (by decide) (by decide) (show decode cX12_layWays 63 = .ok (.iinc 2 1, 3) by decide +kernel)) (
  mz_cons (mz_goto 4 (by decide) (show decode cX12_layWays 66 = .ok (.goto (-62), 3) by decide +kernel)) (
  mz_consR (mz_return rfl (show decode cX12_layWays 69 = .ok (.return_, 1) by decide +kernel)) (
  mz_nil)))))))))))
noncomputable def tb_X12_layWays : List (Nat × List (Nat × mz_O)) := [(25, ck_X12_layWays_0), (69, ck_X12_layWays_1)]
theorem tok_X12_layWays (E : List mz_V) : mz_tok E tM_X12_layWays (tb_X12_layWays) := mz_tcons (tk_X12_layWays_0 E) (mz_tcons (tk_X12_layWays_1 E) (mz_tnil))
noncomputable def rn_X12_layWays : List mz_V → List mz_C → Option (Option mz_V × List mz_C) := mz_rn tb_X12_layWays 1008 3
theorem ctr_X12_layWays (E : List mz_V) : mz_ctr E yX12_layWays tM_X12_layWays rn_X12_layWays := mz_ctr_of 1008 (tok_X12_layWays E) (by decide) rfl rfl
abbrev tM_X12_reached : mz_M := (cX12_reached, 7, (some .int), RX12, "reached", 1, 22)
noncomputable def ck_X12_reached_0 : List (Nat × mz_O) := [(0, .inl (mz_push (.inl 1) 1)), (1, .inl (mz_ld mz_isI 1 2)), (2, .inl (mz_o2 mz_f_ishl 3)), (3, .inl (mz_sto mz_isI mz_p1 4 5)), (5, .inl (mz_push (.inl 0) 6)), (6, .inl (mz_sto mz_isI mz_p1 5 8)), (8, .inl (mz_ld mz_isI 5 10)), (10, .inl (mz_push (.inl 9) 12)), (12, .inl (mz_j2 mz_lt 15 79)), (15, .inl (mz_push (.inl 0) 16)), (16, .inl (mz_sto mz_isI mz_p1 6 18)), (18, .inl (mz_ld mz_isI 6 20)), (20, .inl (mz_ld mz_isI 3 21)), (21, .inl (mz_j2 mz_lt 24 73)), (73, .inl (mz_inc 5 1 76)), (76, .inl (mz_go 8))]
theorem tk_X12_reached_0 (E : List mz_V) : mz_all E tM_X12_reached (ck_X12_reached_0) :=
  mz_cons (mz_iconst 1 (by decide) (show decode cX12_reached 0 = .ok (.iconst 1, 1) by decide +kernel)) (
  mz_cons (mz_iload_n (k := 1) (show decode cX12_reached 1 = .ok (.iload_n 1, 1) by decide +kernel)) (
  mz_cons (mz_ishl (show decode cX12_reached 2 = .ok (.ishl, 1) by decide +kernel)) (
  mz_cons (mz_istore (by decide) (show decode cX12_reached 3 = .ok (.istore 4, 2) by decide +kernel)) (
  mz_cons (mz_iconst 0 (by decide) (show decode cX12_reached 5 = .ok (.iconst 0, 1) by decide +kernel)) (
  mz_cons (mz_istore (by decide) (show decode cX12_reached 6 = .ok (.istore 5, 2) by decide +kernel)) (
  mz_cons (mz_iload (show decode cX12_reached 8 = .ok (.iload 5, 2) by decide +kernel)) (
  mz_cons (mz_bipush 9 (by decide) (show decode cX12_reached 10 = .ok (.bipush 9, 2) by decide +kernel)) (
  mz_cons (mz_icmp_ge 79 (by decide) (show decode cX12_reached 12 = .ok (.if_icmp .ge 67, 3) by decide +kernel)) (
  mz_cons (mz_iconst 0 (by decide) (show decode cX12_reached 15 = .ok (.iconst 0, 1) by decide +kernel)) (
  mz_cons (mz_istore (by decide) (show decode cX12_reached 16 = .ok (.istore 6, 2) by decide +kernel)) (
  mz_cons (mz_iload (show decode cX12_reached 18 = .ok (.iload 6, 2) by decide +kernel)) (
  mz_cons (mz_iload_n (k := 3) (show decode cX12_reached 20 = .ok (.iload_n 3, 1) by decide +kernel)) (
  mz_cons (mz_icmp_ge 73 (by decide) (show decode cX12_reached 21 = .ok (.if_icmp .ge 52, 3) by decide +kernel)) (
  mz_cons (mz_iinc 1 (by decide) (by decide) (show decode cX12_reached 73 = .ok (.iinc 5 1, 3) by decide +kernel)) (
  mz_cons (mz_goto 8 (by decide) (show decode cX12_reached 76 = .ok (.goto (-68), 3) by decide +kernel)) (
  mz_nil))))))))))))))))
noncomputable def ck_X12_reached_1 : List (Nat × mz_O) := [(79, .inl (mz_ld mz_isI 4 81)), (81, .inr (mz_rt mz_isI))]
theorem tk_X12_reached_1 (E : List mz_V) : mz_all E tM_X12_reached (ck_X12_reached_1) :=
  mz_cons (mz_iload (show decode cX12_reached 79 = .ok (.iload 4, 2) by decide +kernel)) (
  mz_consR (mz_ireturn rfl (show decode cX12_reached 81 = .ok (.ireturn, 1) by decide +kernel)) (
  mz_nil))
noncomputable def tb_X12_reached : List (Nat × List (Nat × mz_O)) := [(76, ck_X12_reached_0), (81, ck_X12_reached_1)]
theorem tok_X12_reached (E : List mz_V) : mz_tok E tM_X12_reached (tb_X12_reached) := mz_tcons (tk_X12_reached_0 E) (mz_tcons (tk_X12_reached_1 E) (mz_tnil))
noncomputable def rn_X12_reached : List mz_V → List mz_C → Option (Option mz_V × List mz_C) := mz_rn tb_X12_reached 111 7
theorem ctr_X12_reached (E : List mz_V) : mz_ctr E yX12_reached tM_X12_reached rn_X12_reached := mz_ctr_of 111 (tok_X12_reached E) (by decide) rfl rfl
abbrev tM_X12_wayMany : mz_M := (cX12_wayMany, 3, (some .int), RX12, "wayMany", 2, 44)
noncomputable def ck_X12_wayMany_0 : List (Nat × mz_O) := [(0, .inl (mz_push (.inl 0) 1)), (1, .inl (mz_sto mz_isI mz_p1 1 2)), (2, .inl (mz_push (.inl 0) 3)), (3, .inl (mz_sto mz_isI mz_p1 2 4)), (4, .inl (mz_ld mz_isI 2 5)), (5, .inl (mz_ld mz_isR 0 6)), (6, .inl (mz_gf 12 4 9)), (9, .inl (mz_j2 mz_lt 12 30)), (12, .inl (mz_ld mz_isI 1 13)), (13, .inl (mz_ld mz_isR 0 14)), (14, .inl (mz_gf 12 5 17)), (17, .inl (mz_ld mz_isI 2 18)), (18, .inl (mz_al false 19)), (19, .inl (mz_call rn_X12_many 1 mz_ckT 22)), (22, .inl (mz_o2 mz_f_iadd 23)), (23, .inl (mz_sto mz_isI mz_p1 1 24))]
theorem tk_X12_wayMany_0 (E : List mz_V) : mz_all E tM_X12_wayMany (ck_X12_wayMany_0) :=
  mz_cons (mz_iconst 0 (by decide) (show decode cX12_wayMany 0 = .ok (.iconst 0, 1) by decide +kernel)) (
  mz_cons (mz_istore_n (k := 1) (by decide) (show decode cX12_wayMany 1 = .ok (.istore_n 1, 1) by decide +kernel)) (
  mz_cons (mz_iconst 0 (by decide) (show decode cX12_wayMany 2 = .ok (.iconst 0, 1) by decide +kernel)) (
  mz_cons (mz_istore_n (k := 2) (by decide) (show decode cX12_wayMany 3 = .ok (.istore_n 2, 1) by decide +kernel)) (
  mz_cons (mz_iload_n (k := 2) (show decode cX12_wayMany 4 = .ok (.iload_n 2, 1) by decide +kernel)) (
  mz_cons (mz_aload_n (k := 0) (show decode cX12_wayMany 5 = .ok (.aload_n 0, 1) by decide +kernel)) (
  mz_cons (mz_getfield (C := RX12) (T := TX12) (N := 29) rfl mz_inX12 (by decide) mw_976 (show decode cX12_wayMany 6 = .ok (.getfield 16, 3) by decide +kernel)) (
  mz_cons (mz_icmp_ge 30 (by decide) (show decode cX12_wayMany 9 = .ok (.if_icmp .ge 21, 3) by decide +kernel)) (
  mz_cons (mz_iload_n (k := 1) (show decode cX12_wayMany 12 = .ok (.iload_n 1, 1) by decide +kernel)) (
  mz_cons (mz_aload_n (k := 0) (show decode cX12_wayMany 13 = .ok (.aload_n 0, 1) by decide +kernel)) (
  mz_cons (mz_getfield (C := RX12) (T := TX12) (N := 29) rfl mz_inX12 (by decide) mw_977 (show decode cX12_wayMany 14 = .ok (.getfield 20, 3) by decide +kernel)) (
  mz_cons (mz_iload_n (k := 2) (show decode cX12_wayMany 17 = .ok (.iload_n 2, 1) by decide +kernel)) (
  mz_cons (mz_iaload (show decode cX12_wayMany 18 = .ok (.iaload, 1) by decide +kernel)) (
  mz_cons (mz_invS (n := 1) (ctr_X12_many E) ⟨by decide, by decide, by decide +kernel⟩ ⟨by decide, by decide⟩ mw_1151 mw_1149 mw_1150 mw_74 (show decode cX12_wayMany 19 = .ok (.invokestatic 143, 3) by decide +kernel)) (
  mz_cons (mz_iadd (show decode cX12_wayMany 22 = .ok (.iadd, 1) by decide +kernel)) (
  mz_cons (mz_istore_n (k := 1) (by decide) (show decode cX12_wayMany 23 = .ok (.istore_n 1, 1) by decide +kernel)) (
  mz_nil))))))))))))))))
noncomputable def ck_X12_wayMany_1 : List (Nat × mz_O) := [(24, .inl (mz_inc 2 1 27)), (27, .inl (mz_go 4)), (30, .inl (mz_ld mz_isI 1 31)), (31, .inr (mz_rt mz_isI))]
theorem tk_X12_wayMany_1 (E : List mz_V) : mz_all E tM_X12_wayMany (ck_X12_wayMany_1) :=
  mz_cons (mz_iinc 1 (by decide) (by decide) (show decode cX12_wayMany 24 = .ok (.iinc 2 1, 3) by decide +kernel)) (
  mz_cons (mz_goto 4 (by decide) (show decode cX12_wayMany 27 = .ok (.goto (-23), 3) by decide +kernel)) (
  mz_cons (mz_iload_n (k := 1) (show decode cX12_wayMany 30 = .ok (.iload_n 1, 1) by decide +kernel)) (
  mz_consR (mz_ireturn rfl (show decode cX12_wayMany 31 = .ok (.ireturn, 1) by decide +kernel)) (
  mz_nil))))
noncomputable def tb_X12_wayMany : List (Nat × List (Nat × mz_O)) := [(23, ck_X12_wayMany_0), (31, ck_X12_wayMany_1)]
theorem tok_X12_wayMany (E : List mz_V) : mz_tok E tM_X12_wayMany (tb_X12_wayMany) := mz_tcons (tk_X12_wayMany_0 E) (mz_tcons (tk_X12_wayMany_1 E) (mz_tnil))
noncomputable def rn_X12_wayMany : List mz_V → List mz_C → Option (Option mz_V × List mz_C) := mz_rn tb_X12_wayMany 34 3
theorem ctr_X12_wayMany (E : List mz_V) : mz_ctr E yX12_wayMany tM_X12_wayMany rn_X12_wayMany := mz_ctr_of 34 (tok_X12_wayMany E) (by decide) rfl rfl
abbrev tM_X12_carriedBy : mz_M := (cX12_carriedBy, 10, (some .long), RX12, "carriedBy", 3, 66)
noncomputable def ck_X12_carriedBy_0 : List (Nat × mz_O) := [(0, .inl (mz_ld mz_isR 0 1)), (1, .inl (mz_call rn_X12_wayMany 1 (mz_ckV 12) 4)), (4, .inl (mz_sto mz_isI mz_p1 3 5)), (5, .inl (mz_ld mz_isR 0 6)), (6, .inl (mz_call rn_X12_layWays 1 (mz_ckV 12) 9)), (9, .inl (mz_push (.inr (.inl 0)) 10)), (10, .inl (mz_sto mz_isL mz_p2 4 12)), (12, .inl (mz_push (.inl 0) 13)), (13, .inl (mz_sto mz_isI mz_p1 6 15)), (15, .inl (mz_ld mz_isI 6 17)), (17, .inl (mz_push (.inl 1) 18)), (18, .inl (mz_ld mz_isI 3 19)), (19, .inl (mz_o2 mz_f_ishl 20)), (20, .inl (mz_j2 mz_lt 23 118)), (23, .inl (mz_push (.inr (.inl 1)) 24)), (24, .inl (mz_sto mz_isL mz_p2 7 26))]
theorem tk_X12_carriedBy_0 (E : List mz_V) : mz_all E tM_X12_carriedBy (ck_X12_carriedBy_0) :=
  mz_cons (mz_aload_n (k := 0) (show decode cX12_carriedBy 0 = .ok (.aload_n 0, 1) by decide +kernel)) (
  mz_cons (mz_invV (n := 0) (ctr_X12_wayMany E) rfl ⟨by decide, by decide, by decide +kernel⟩ ⟨by decide, by decide⟩ mw_1256 mw_1253 mw_1255 mw_53 mw_74 (show decode cX12_carriedBy 1 = .ok (.invokevirtual 214, 3) by decide +kernel)) (
  mz_cons (mz_istore_n (k := 3) (by decide) (show decode cX12_carriedBy 4 = .ok (.istore_n 3, 1) by decide +kernel)) (
  mz_cons (mz_aload_n (k := 0) (show decode cX12_carriedBy 5 = .ok (.aload_n 0, 1) by decide +kernel)) (
  mz_cons (mz_invV (n := 0) (ctr_X12_layWays E) rfl ⟨by decide, by decide, by decide +kernel⟩ ⟨by decide, by decide⟩ mw_1265 mw_1262 mw_1264 mw_55 mw_74 (show decode cX12_carriedBy 6 = .ok (.invokevirtual 217, 3) by decide +kernel)) (
  mz_cons (mz_lconst 0 (by decide) (show decode cX12_carriedBy 9 = .ok (.lconst 0, 1) by decide +kernel)) (
  mz_cons (mz_lstore (by decide) (show decode cX12_carriedBy 10 = .ok (.lstore 4, 2) by decide +kernel)) (
  mz_cons (mz_iconst 0 (by decide) (show decode cX12_carriedBy 12 = .ok (.iconst 0, 1) by decide +kernel)) (
  mz_cons (mz_istore (by decide) (show decode cX12_carriedBy 13 = .ok (.istore 6, 2) by decide +kernel)) (
  mz_cons (mz_iload (show decode cX12_carriedBy 15 = .ok (.iload 6, 2) by decide +kernel)) (
  mz_cons (mz_iconst 1 (by decide) (show decode cX12_carriedBy 17 = .ok (.iconst 1, 1) by decide +kernel)) (
  mz_cons (mz_iload_n (k := 3) (show decode cX12_carriedBy 18 = .ok (.iload_n 3, 1) by decide +kernel)) (
  mz_cons (mz_ishl (show decode cX12_carriedBy 19 = .ok (.ishl, 1) by decide +kernel)) (
  mz_cons (mz_icmp_ge 118 (by decide) (show decode cX12_carriedBy 20 = .ok (.if_icmp .ge 98, 3) by decide +kernel)) (
  mz_cons (mz_lconst 1 (by decide) (show decode cX12_carriedBy 23 = .ok (.lconst 1, 1) by decide +kernel)) (
  mz_cons (mz_lstore (by decide) (show decode cX12_carriedBy 24 = .ok (.lstore 7, 2) by decide +kernel)) (
  mz_nil))))))))))))))))
noncomputable def ck_X12_carriedBy_1 : List (Nat × mz_O) := [(26, .inl (mz_push (.inl 0) 27)), (27, .inl (mz_sto mz_isI mz_p1 9 29)), (29, .inl (mz_ld mz_isI 9 31)), (31, .inl (mz_ld mz_isI 3 32)), (32, .inl (mz_j2 mz_lt 35 73)), (73, .inl (mz_ld mz_isR 0 74)), (74, .inl (mz_ld mz_isI 1 75)), (75, .inl (mz_ld mz_isI 6 77)), (77, .inl (mz_ld mz_isI 3 78)), (78, .inl (mz_call rn_X12_reached 4 (mz_ckV 12) 81)), (81, .inl (mz_sto mz_isI mz_p1 9 83)), (83, .inl (mz_ld mz_isL 4 85)), (85, .inl (mz_ld mz_isL 7 87)), (87, .inl (mz_ld mz_isI 2 88)), (88, .inl (mz_push (.inl (-1)) 89)), (89, .inl (mz_j2 mz_eq 92 101))]
theorem tk_X12_carriedBy_1 (E : List mz_V) : mz_all E tM_X12_carriedBy (ck_X12_carriedBy_1) :=
  mz_cons (mz_iconst 0 (by decide) (show decode cX12_carriedBy 26 = .ok (.iconst 0, 1) by decide +kernel)) (
  mz_cons (mz_istore (by decide) (show decode cX12_carriedBy 27 = .ok (.istore 9, 2) by decide +kernel)) (
  mz_cons (mz_iload (show decode cX12_carriedBy 29 = .ok (.iload 9, 2) by decide +kernel)) (
  mz_cons (mz_iload_n (k := 3) (show decode cX12_carriedBy 31 = .ok (.iload_n 3, 1) by decide +kernel)) (
  mz_cons (mz_icmp_ge 73 (by decide) (show decode cX12_carriedBy 32 = .ok (.if_icmp .ge 41, 3) by decide +kernel)) (
  mz_cons (mz_aload_n (k := 0) (show decode cX12_carriedBy 73 = .ok (.aload_n 0, 1) by decide +kernel)) (
  mz_cons (mz_iload_n (k := 1) (show decode cX12_carriedBy 74 = .ok (.iload_n 1, 1) by decide +kernel)) (
  mz_cons (mz_iload (show decode cX12_carriedBy 75 = .ok (.iload 6, 2) by decide +kernel)) (
  mz_cons (mz_iload_n (k := 3) (show decode cX12_carriedBy 77 = .ok (.iload_n 3, 1) by decide +kernel)) (
  mz_cons (mz_invV (n := 3) (ctr_X12_reached E) rfl ⟨by decide, by decide, by decide +kernel⟩ ⟨by decide, by decide⟩ mw_1269 mw_1266 mw_1268 mw_56 mw_74 (show decode cX12_carriedBy 78 = .ok (.invokevirtual 220, 3) by decide +kernel)) (
  mz_cons (mz_istore (by decide) (show decode cX12_carriedBy 81 = .ok (.istore 9, 2) by decide +kernel)) (
  mz_cons (mz_lload (show decode cX12_carriedBy 83 = .ok (.lload 4, 2) by decide +kernel)) (
  mz_cons (mz_lload (show decode cX12_carriedBy 85 = .ok (.lload 7, 2) by decide +kernel)) (
  mz_cons (mz_iload_n (k := 2) (show decode cX12_carriedBy 87 = .ok (.iload_n 2, 1) by decide +kernel)) (
  mz_cons (mz_iconst (-1) (by decide) (show decode cX12_carriedBy 88 = .ok (.iconst (-1), 1) by decide +kernel)) (
  mz_cons (mz_icmp_ne 101 (by decide) (show decode cX12_carriedBy 89 = .ok (.if_icmp .ne 12, 3) by decide +kernel)) (
  mz_nil))))))))))))))))
noncomputable def ck_X12_carriedBy_2 : List (Nat × mz_O) := [(92, .inl (mz_ld mz_isR 0 93)), (93, .inl (mz_ld mz_isI 9 95)), (95, .inl (mz_call rn_X12_folkOf 2 (mz_ckV 12) 98)), (98, .inl (mz_go 107)), (101, .inl (mz_ld mz_isI 9 103)), (103, .inl (mz_ld mz_isI 2 104)), (104, .inl (mz_o2 mz_f_ishr 105)), (105, .inl (mz_push (.inl 1) 106)), (106, .inl (mz_o2 mz_f_iand 107)), (107, .inl (mz_o1 mz_f_i2l 108)), (108, .inl (mz_o2 mz_f_lmul 109)), (109, .inl (mz_o2 mz_f_ladd 110)), (110, .inl (mz_sto mz_isL mz_p2 4 112)), (112, .inl (mz_inc 6 1 115)), (115, .inl (mz_go 15)), (118, .inl (mz_ld mz_isL 4 120))]
theorem tk_X12_carriedBy_2 (E : List mz_V) : mz_all E tM_X12_carriedBy (ck_X12_carriedBy_2) :=
  mz_cons (mz_aload_n (k := 0) (show decode cX12_carriedBy 92 = .ok (.aload_n 0, 1) by decide +kernel)) (
  mz_cons (mz_iload (show decode cX12_carriedBy 93 = .ok (.iload 9, 2) by decide +kernel)) (
  mz_cons (mz_invV (n := 1) (ctr_X12_folkOf E) rfl ⟨by decide, by decide, by decide +kernel⟩ ⟨by decide, by decide⟩ mw_1172 mw_1169 mw_1171 mw_46 mw_74 (show decode cX12_carriedBy 95 = .ok (.invokevirtual 153, 3) by decide +kernel)) (
  mz_cons (mz_goto 107 (by decide) (show decode cX12_carriedBy 98 = .ok (.goto 9, 3) by decide +kernel)) (
  mz_cons (mz_iload (show decode cX12_carriedBy 101 = .ok (.iload 9, 2) by decide +kernel)) (
  mz_cons (mz_iload_n (k := 2) (show decode cX12_carriedBy 103 = .ok (.iload_n 2, 1) by decide +kernel)) (
  mz_cons (mz_ishr (show decode cX12_carriedBy 104 = .ok (.ishr, 1) by decide +kernel)) (
  mz_cons (mz_iconst 1 (by decide) (show decode cX12_carriedBy 105 = .ok (.iconst 1, 1) by decide +kernel)) (
  mz_cons (mz_iand (show decode cX12_carriedBy 106 = .ok (.iand, 1) by decide +kernel)) (
  mz_cons (mz_i2l (show decode cX12_carriedBy 107 = .ok (.i2l, 1) by decide +kernel)) (
  mz_cons (mz_lmul (show decode cX12_carriedBy 108 = .ok (.lmul, 1) by decide +kernel)) (
  mz_cons (mz_ladd (show decode cX12_carriedBy 109 = .ok (.ladd, 1) by decide +kernel)) (
  mz_cons (mz_lstore (by decide) (show decode cX12_carriedBy 110 = .ok (.lstore 4, 2) by decide +kernel)) (
  mz_cons (mz_iinc 1 (by decide) (by decide) (show decode cX12_carriedBy 112 = .ok (.iinc 6 1, 3) by decide +kernel)) (
  mz_cons (mz_goto 15 (by decide) (show decode cX12_carriedBy 115 = .ok (.goto (-100), 3) by decide +kernel)) (
  mz_cons (mz_lload (show decode cX12_carriedBy 118 = .ok (.lload 4, 2) by decide +kernel)) (
  mz_nil))))))))))))))))
noncomputable def ck_X12_carriedBy_3 : List (Nat × mz_O) := [(120, .inr (mz_rt mz_isL))]
theorem tk_X12_carriedBy_3 (E : List mz_V) : mz_all E tM_X12_carriedBy (ck_X12_carriedBy_3) :=
  mz_consR (mz_lreturn rfl (show decode cX12_carriedBy 120 = .ok (.lreturn, 1) by decide +kernel)) (
  mz_nil)
noncomputable def tb_X12_carriedBy : List (Nat × List (Nat × mz_O)) := [(24, ck_X12_carriedBy_0), (89, ck_X12_carriedBy_1), (118, ck_X12_carriedBy_2), (120, ck_X12_carriedBy_3)]
theorem tok_X12_carriedBy (E : List mz_V) : mz_tok E tM_X12_carriedBy (tb_X12_carriedBy) := mz_tcons (tk_X12_carriedBy_0 E) (mz_tcons (tk_X12_carriedBy_1 E) (mz_tcons (tk_X12_carriedBy_2 E) (mz_tcons (tk_X12_carriedBy_3 E) (mz_tnil))))
noncomputable def rn_X12_carriedBy : List mz_V → List mz_C → Option (Option mz_V × List mz_C) := mz_rn tb_X12_carriedBy 60 10
theorem ctr_X12_carriedBy (E : List mz_V) : mz_ctr E yX12_carriedBy tM_X12_carriedBy rn_X12_carriedBy := mz_ctr_of 60 (tok_X12_carriedBy E) (by decide) rfl rfl
abbrev tM_X12_isRoom : mz_M := (cX12_isRoom, 2, (some .boolean), RX12, "isRoom", 2, 47)
noncomputable def ck_X12_isRoom_0 : List (Nat × mz_O) := [(0, .inl (mz_ld mz_isI 1 1)), (1, .inl (mz_o1 mz_f_i2l 2)), (2, .inl (mz_push (.inr (.inl 0)) 3)), (3, .inl (mz_ld mz_isR 0 4)), (4, .inl (mz_gf 12 4 7)), (7, .inl (mz_push (.inl 1) 8)), (8, .inl (mz_o2 mz_f_isub 9)), (9, .inl (mz_o1 mz_f_i2l 10)), (10, .inl (mz_call rn_X12_in 3 mz_ckT 13)), (13, .inr (mz_rt mz_is01))]
theorem tk_X12_isRoom_0 (E : List mz_V) : mz_all E tM_X12_isRoom (ck_X12_isRoom_0) :=
  mz_cons (mz_iload_n (k := 1) (show decode cX12_isRoom 0 = .ok (.iload_n 1, 1) by decide +kernel)) (
  mz_cons (mz_i2l (show decode cX12_isRoom 1 = .ok (.i2l, 1) by decide +kernel)) (
  mz_cons (mz_lconst 0 (by decide) (show decode cX12_isRoom 2 = .ok (.lconst 0, 1) by decide +kernel)) (
  mz_cons (mz_aload_n (k := 0) (show decode cX12_isRoom 3 = .ok (.aload_n 0, 1) by decide +kernel)) (
  mz_cons (mz_getfield (C := RX12) (T := TX12) (N := 29) rfl mz_inX12 (by decide) mw_976 (show decode cX12_isRoom 4 = .ok (.getfield 16, 3) by decide +kernel)) (
  mz_cons (mz_iconst 1 (by decide) (show decode cX12_isRoom 7 = .ok (.iconst 1, 1) by decide +kernel)) (
  mz_cons (mz_isub (show decode cX12_isRoom 8 = .ok (.isub, 1) by decide +kernel)) (
  mz_cons (mz_i2l (show decode cX12_isRoom 9 = .ok (.i2l, 1) by decide +kernel)) (
  mz_cons (mz_invS (n := 3) (ctr_X12_in E) ⟨by decide, by decide, by decide +kernel⟩ ⟨by decide, by decide⟩ mw_1068 mw_1066 mw_1067 mw_74 (show decode cX12_isRoom 10 = .ok (.invokestatic 65, 3) by decide +kernel)) (
  mz_consR (mz_zreturn rfl (show decode cX12_isRoom 13 = .ok (.ireturn, 1) by decide +kernel)) (
  mz_nil))))))))))
noncomputable def tb_X12_isRoom : List (Nat × List (Nat × mz_O)) := [(13, ck_X12_isRoom_0)]
theorem tok_X12_isRoom (E : List mz_V) : mz_tok E tM_X12_isRoom (tb_X12_isRoom) := mz_tcons (tk_X12_isRoom_0 E) (mz_tnil)
noncomputable def rn_X12_isRoom : List mz_V → List mz_C → Option (Option mz_V × List mz_C) := mz_rn tb_X12_isRoom 20 2
theorem ctr_X12_isRoom (E : List mz_V) : mz_ctr E yX12_isRoom tM_X12_isRoom rn_X12_isRoom := mz_ctr_of 20 (tok_X12_isRoom E) (by decide) rfl rfl
abbrev tM_X12_divisor : mz_M := (cX12_divisor, 10, (some .long), RX12, "divisor", 1, 22)
noncomputable def ck_X12_divisor_0 : List (Nat × mz_O) := [(0, .inl (mz_ld mz_isL 0 1)), (1, .inl (mz_sto mz_isL mz_p2 4 3)), (3, .inl (mz_ld mz_isL 2 4)), (4, .inl (mz_sto mz_isL mz_p2 6 6)), (6, .inl (mz_ld mz_isL 6 8)), (8, .inl (mz_push (.inr (.inl 0)) 9)), (9, .inl (mz_o2 mz_f_lcmp 10)), (10, .inl (mz_j1 mz_eq0 31 13)), (13, .inl (mz_ld mz_isL 4 15)), (15, .inl (mz_ld mz_isL 6 17)), (17, .inl (mz_o2 mz_f_lrem 18)), (18, .inl (mz_sto mz_isL mz_p2 8 20)), (20, .inl (mz_ld mz_isL 6 22)), (22, .inl (mz_sto mz_isL mz_p2 4 24)), (24, .inl (mz_ld mz_isL 8 26)), (26, .inl (mz_sto mz_isL mz_p2 6 28))]
theorem tk_X12_divisor_0 (E : List mz_V) : mz_all E tM_X12_divisor (ck_X12_divisor_0) :=
  mz_cons (mz_lload_n (k := 0) (show decode cX12_divisor 0 = .ok (.lload_n 0, 1) by decide +kernel)) (
  mz_cons (mz_lstore (by decide) (show decode cX12_divisor 1 = .ok (.lstore 4, 2) by decide +kernel)) (
  mz_cons (mz_lload_n (k := 2) (show decode cX12_divisor 3 = .ok (.lload_n 2, 1) by decide +kernel)) (
  mz_cons (mz_lstore (by decide) (show decode cX12_divisor 4 = .ok (.lstore 6, 2) by decide +kernel)) (
  mz_cons (mz_lload (show decode cX12_divisor 6 = .ok (.lload 6, 2) by decide +kernel)) (
  mz_cons (mz_lconst 0 (by decide) (show decode cX12_divisor 8 = .ok (.lconst 0, 1) by decide +kernel)) (
  mz_cons (mz_lcmp (show decode cX12_divisor 9 = .ok (.lcmp, 1) by decide +kernel)) (
  mz_cons (mz_if_eq 31 (by decide) (show decode cX12_divisor 10 = .ok (.ifCond .eq 21, 3) by decide +kernel)) (
  mz_cons (mz_lload (show decode cX12_divisor 13 = .ok (.lload 4, 2) by decide +kernel)) (
  mz_cons (mz_lload (show decode cX12_divisor 15 = .ok (.lload 6, 2) by decide +kernel)) (
  mz_cons (mz_lrem (show decode cX12_divisor 17 = .ok (.lrem, 1) by decide +kernel)) (
  mz_cons (mz_lstore (by decide) (show decode cX12_divisor 18 = .ok (.lstore 8, 2) by decide +kernel)) (
  mz_cons (mz_lload (show decode cX12_divisor 20 = .ok (.lload 6, 2) by decide +kernel)) (
  mz_cons (mz_lstore (by decide) (show decode cX12_divisor 22 = .ok (.lstore 4, 2) by decide +kernel)) (
  mz_cons (mz_lload (show decode cX12_divisor 24 = .ok (.lload 8, 2) by decide +kernel)) (
  mz_cons (mz_lstore (by decide) (show decode cX12_divisor 26 = .ok (.lstore 6, 2) by decide +kernel)) (
  mz_nil))))))))))))))))
noncomputable def ck_X12_divisor_1 : List (Nat × mz_O) := [(28, .inl (mz_go 6)), (31, .inl (mz_ld mz_isL 4 33)), (33, .inr (mz_rt mz_isL))]
theorem tk_X12_divisor_1 (E : List mz_V) : mz_all E tM_X12_divisor (ck_X12_divisor_1) :=
  mz_cons (mz_goto 6 (by decide) (show decode cX12_divisor 28 = .ok (.goto (-22), 3) by decide +kernel)) (
  mz_cons (mz_lload (show decode cX12_divisor 31 = .ok (.lload 4, 2) by decide +kernel)) (
  mz_consR (mz_lreturn rfl (show decode cX12_divisor 33 = .ok (.lreturn, 1) by decide +kernel)) (
  mz_nil)))
noncomputable def tb_X12_divisor : List (Nat × List (Nat × mz_O)) := [(26, ck_X12_divisor_0), (33, ck_X12_divisor_1)]
theorem tok_X12_divisor (E : List mz_V) : mz_tok E tM_X12_divisor (tb_X12_divisor) := mz_tcons (tk_X12_divisor_0 E) (mz_tcons (tk_X12_divisor_1 E) (mz_tnil))
noncomputable def rn_X12_divisor : List mz_V → List mz_C → Option (Option mz_V × List mz_C) := mz_rn tb_X12_divisor 33 10
theorem ctr_X12_divisor (E : List mz_V) : mz_ctr E yX12_divisor tM_X12_divisor rn_X12_divisor := mz_ctr_of 33 (tok_X12_divisor E) (by decide) rfl rfl
abbrev tM_X12_power : mz_M := (cX12_power, 4, (some .long), RX12, "power", 1, 22)
noncomputable def ck_X12_power_0 : List (Nat × mz_O) := [(0, .inl (mz_push (.inr (.inl 1)) 1)), (1, .inl (mz_sto mz_isL mz_p2 1 2)), (2, .inl (mz_push (.inl 0) 3)), (3, .inl (mz_sto mz_isI mz_p1 3 4)), (4, .inl (mz_ld mz_isI 3 5)), (5, .inl (mz_ld mz_isI 0 6)), (6, .inl (mz_j2 mz_lt 9 21)), (21, .inl (mz_ld mz_isL 1 22)), (22, .inr (mz_rt mz_isL))]
theorem tk_X12_power_0 (E : List mz_V) : mz_all E tM_X12_power (ck_X12_power_0) :=
  mz_cons (mz_lconst 1 (by decide) (show decode cX12_power 0 = .ok (.lconst 1, 1) by decide +kernel)) (
  mz_cons (mz_lstore_n (k := 1) (by decide) (show decode cX12_power 1 = .ok (.lstore_n 1, 1) by decide +kernel)) (
  mz_cons (mz_iconst 0 (by decide) (show decode cX12_power 2 = .ok (.iconst 0, 1) by decide +kernel)) (
  mz_cons (mz_istore_n (k := 3) (by decide) (show decode cX12_power 3 = .ok (.istore_n 3, 1) by decide +kernel)) (
  mz_cons (mz_iload_n (k := 3) (show decode cX12_power 4 = .ok (.iload_n 3, 1) by decide +kernel)) (
  mz_cons (mz_iload_n (k := 0) (show decode cX12_power 5 = .ok (.iload_n 0, 1) by decide +kernel)) (
  mz_cons (mz_icmp_ge 21 (by decide) (show decode cX12_power 6 = .ok (.if_icmp .ge 15, 3) by decide +kernel)) (
  mz_cons (mz_lload_n (k := 1) (show decode cX12_power 21 = .ok (.lload_n 1, 1) by decide +kernel)) (
  mz_consR (mz_lreturn rfl (show decode cX12_power 22 = .ok (.lreturn, 1) by decide +kernel)) (
  mz_nil)))))))))
noncomputable def tb_X12_power : List (Nat × List (Nat × mz_O)) := [(22, ck_X12_power_0)]
theorem tok_X12_power (E : List mz_V) : mz_tok E tM_X12_power (tb_X12_power) := mz_tcons (tk_X12_power_0 E) (mz_tnil)
noncomputable def rn_X12_power : List mz_V → List mz_C → Option (Option mz_V × List mz_C) := mz_rn tb_X12_power 19 4
theorem ctr_X12_power (E : List mz_V) : mz_ctr E yX12_power tM_X12_power rn_X12_power := mz_ctr_of 19 (tok_X12_power E) (by decide) rfl rfl
abbrev tM_X12_part : mz_M := (cX12_part, 8, (some .long), RX12, "part", 3, 66)
noncomputable def ck_X12_part_0 : List (Nat × mz_O) := [(0, .inl (mz_ld mz_isR 0 1)), (1, .inl (mz_call rn_X12_wayMany 1 (mz_ckV 12) 4)), (4, .inl (mz_call rn_X12_power 1 mz_ckT 7)), (7, .inl (mz_sto mz_isL mz_p2 4 9)), (9, .inl (mz_ld mz_isL 1 10)), (10, .inl (mz_ld mz_isL 4 12)), (12, .inl (mz_call rn_X12_divisor 2 mz_ckT 15)), (15, .inl (mz_sto mz_isL mz_p2 6 17)), (17, .inl (mz_ld mz_isI 3 18)), (18, .inl (mz_j1 mz_eq0 21 28)), (21, .inl (mz_ld mz_isL 1 22)), (22, .inl (mz_ld mz_isL 6 24)), (24, .inl (mz_o2 mz_f_ldiv 25)), (25, .inl (mz_go 33)), (28, .inl (mz_ld mz_isL 4 30)), (30, .inl (mz_ld mz_isL 6 32))]
theorem tk_X12_part_0 (E : List mz_V) : mz_all E tM_X12_part (ck_X12_part_0) :=
  mz_cons (mz_aload_n (k := 0) (show decode cX12_part 0 = .ok (.aload_n 0, 1) by decide +kernel)) (
  mz_cons (mz_invV (n := 0) (ctr_X12_wayMany E) rfl ⟨by decide, by decide, by decide +kernel⟩ ⟨by decide, by decide⟩ mw_1256 mw_1253 mw_1255 mw_53 mw_74 (show decode cX12_part 1 = .ok (.invokevirtual 214, 3) by decide +kernel)) (
  mz_cons (mz_invS (n := 1) (ctr_X12_power E) ⟨by decide, by decide, by decide +kernel⟩ ⟨by decide, by decide⟩ mw_1276 mw_1274 mw_1275 mw_74 (show decode cX12_part 4 = .ok (.invokestatic 225, 3) by decide +kernel)) (
  mz_cons (mz_lstore (by decide) (show decode cX12_part 7 = .ok (.lstore 4, 2) by decide +kernel)) (
  mz_cons (mz_lload_n (k := 1) (show decode cX12_part 9 = .ok (.lload_n 1, 1) by decide +kernel)) (
  mz_cons (mz_lload (show decode cX12_part 10 = .ok (.lload 4, 2) by decide +kernel)) (
  mz_cons (mz_invS (n := 2) (ctr_X12_divisor E) ⟨by decide, by decide, by decide +kernel⟩ ⟨by decide, by decide⟩ mw_1280 mw_1278 mw_1279 mw_74 (show decode cX12_part 12 = .ok (.invokestatic 229, 3) by decide +kernel)) (
  mz_cons (mz_lstore (by decide) (show decode cX12_part 15 = .ok (.lstore 6, 2) by decide +kernel)) (
  mz_cons (mz_iload_n (k := 3) (show decode cX12_part 17 = .ok (.iload_n 3, 1) by decide +kernel)) (
  mz_cons (mz_if_ne 28 (by decide) (show decode cX12_part 18 = .ok (.ifCond .ne 10, 3) by decide +kernel)) (
  mz_cons (mz_lload_n (k := 1) (show decode cX12_part 21 = .ok (.lload_n 1, 1) by decide +kernel)) (
  mz_cons (mz_lload (show decode cX12_part 22 = .ok (.lload 6, 2) by decide +kernel)) (
  mz_cons (mz_ldiv (show decode cX12_part 24 = .ok (.ldiv, 1) by decide +kernel)) (
  mz_cons (mz_goto 33 (by decide) (show decode cX12_part 25 = .ok (.goto 8, 3) by decide +kernel)) (
  mz_cons (mz_lload (show decode cX12_part 28 = .ok (.lload 4, 2) by decide +kernel)) (
  mz_cons (mz_lload (show decode cX12_part 30 = .ok (.lload 6, 2) by decide +kernel)) (
  mz_nil))))))))))))))))
noncomputable def ck_X12_part_1 : List (Nat × mz_O) := [(32, .inl (mz_o2 mz_f_ldiv 33)), (33, .inr (mz_rt mz_isL))]
theorem tk_X12_part_1 (E : List mz_V) : mz_all E tM_X12_part (ck_X12_part_1) :=
  mz_cons (mz_ldiv (show decode cX12_part 32 = .ok (.ldiv, 1) by decide +kernel)) (
  mz_consR (mz_lreturn rfl (show decode cX12_part 33 = .ok (.lreturn, 1) by decide +kernel)) (
  mz_nil))
noncomputable def tb_X12_part : List (Nat × List (Nat × mz_O)) := [(30, ck_X12_part_0), (33, ck_X12_part_1)]
theorem tok_X12_part (E : List mz_V) : mz_tok E tM_X12_part (tb_X12_part) := mz_tcons (tk_X12_part_0 E) (mz_tcons (tk_X12_part_1 E) (mz_tnil))
noncomputable def rn_X12_part : List mz_V → List mz_C → Option (Option mz_V × List mz_C) := mz_rn tb_X12_part 25 8
theorem ctr_X12_part (E : List mz_V) : mz_ctr E yX12_part tM_X12_part rn_X12_part := mz_ctr_of 25 (tok_X12_part E) (by decide) rfl rfl
