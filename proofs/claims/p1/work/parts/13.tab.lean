abbrev tM_X11_count : mz_M := (cX11_count, 2, (some .int), RX11, "count", 3, 66)
noncomputable def ck_X11_count_0 : List (Nat × mz_O) := [(0, .inl (mz_ld mz_isI 1 1)), (1, .inl (mz_ts 0 6 [44, 52, 60, 68, 76, 84, 99] 115)), (44, .inl (mz_ld mz_isR 0 45)), (45, .inl (mz_gf 11 0 48)), (48, .inl (mz_call rn_X6_howMany 1 (mz_ckV 6) 51)), (51, .inr (mz_rt mz_isI)), (52, .inl (mz_ld mz_isR 0 53)), (53, .inl (mz_gf 11 0 56)), (56, .inl (mz_call rn_X6_ways 1 (mz_ckV 6) 59)), (59, .inr (mz_rt mz_isI)), (60, .inl (mz_ld mz_isR 0 61)), (61, .inl (mz_gf 11 1 64)), (64, .inl (mz_call rn_X7_size 1 (mz_ckV 7) 67)), (67, .inr (mz_rt mz_isI)), (68, .inl (mz_ld mz_isR 0 69)), (69, .inl (mz_gf 11 0 72))]
theorem tk_X11_count_0 (E : List mz_V) : mz_all E tM_X11_count (ck_X11_count_0) :=
  mz_cons (mz_iload_n (k := 1) (show decode cX11_count 0 = .ok (.iload_n 1, 1) by decide +kernel)) (
  mz_cons (mz_tableswitch [44, 52, 60, 68, 76, 84, 99] 115 (by decide) (by decide) (fun z h1 h2 => show (z - 0).toNat < 7 by omega) (show decode cX11_count 1 = .ok (.tableswitch 114 0 6 #[43, 51, 59, 67, 75, 83, 98], 43) by decide +kernel)) (
  mz_cons (mz_aload_n (k := 0) (show decode cX11_count 44 = .ok (.aload_n 0, 1) by decide +kernel)) (
  mz_cons (mz_getfield (C := RX11) (T := TX11) (N := 9) rfl mz_inX11 (by decide) mw_330 (show decode cX11_count 45 = .ok (.getfield 18, 3) by decide +kernel)) (
  mz_cons (mz_invV (n := 0) (ctr_X6_howMany E) rfl ⟨by decide, by decide, by decide +kernel⟩ ⟨by decide, by decide⟩ mw_386 mw_383 mw_384 mw_385 mw_65 (show decode cX11_count 48 = .ok (.invokevirtual 103, 3) by decide +kernel)) (
  mz_consR (mz_ireturn rfl (show decode cX11_count 51 = .ok (.ireturn, 1) by decide +kernel)) (
  mz_cons (mz_aload_n (k := 0) (show decode cX11_count 52 = .ok (.aload_n 0, 1) by decide +kernel)) (
  mz_cons (mz_getfield (C := RX11) (T := TX11) (N := 9) rfl mz_inX11 (by decide) mw_330 (show decode cX11_count 53 = .ok (.getfield 18, 3) by decide +kernel)) (
  mz_cons (mz_invV (n := 0) (ctr_X6_ways E) rfl ⟨by decide, by decide, by decide +kernel⟩ ⟨by decide, by decide⟩ mw_862 mw_859 mw_860 mw_861 mw_65 (show decode cX11_count 56 = .ok (.invokevirtual 233, 3) by decide +kernel)) (
  mz_consR (mz_ireturn rfl (show decode cX11_count 59 = .ok (.ireturn, 1) by decide +kernel)) (
  mz_cons (mz_aload_n (k := 0) (show decode cX11_count 60 = .ok (.aload_n 0, 1) by decide +kernel)) (
  mz_cons (mz_getfield (C := RX11) (T := TX11) (N := 9) rfl mz_inX11 (by decide) mw_331 (show decode cX11_count 61 = .ok (.getfield 25, 3) by decide +kernel)) (
  mz_cons (mz_invV (n := 0) (ctr_X7_size E) rfl ⟨by decide, by decide, by decide +kernel⟩ ⟨by decide, by decide⟩ mw_366 mw_363 mw_364 mw_365 mw_66 (show decode cX11_count 64 = .ok (.invokevirtual 92, 3) by decide +kernel)) (
  mz_consR (mz_ireturn rfl (show decode cX11_count 67 = .ok (.ireturn, 1) by decide +kernel)) (
  mz_cons (mz_aload_n (k := 0) (show decode cX11_count 68 = .ok (.aload_n 0, 1) by decide +kernel)) (
  mz_cons (mz_getfield (C := RX11) (T := TX11) (N := 9) rfl mz_inX11 (by decide) mw_330 (show decode cX11_count 69 = .ok (.getfield 18, 3) by decide +kernel)) (
  mz_nil))))))))))))))))
noncomputable def ck_X11_count_1 : List (Nat × mz_O) := [(72, .inl (mz_call rn_X6_hands 1 (mz_ckV 6) 75)), (75, .inr (mz_rt mz_isI)), (76, .inl (mz_ld mz_isR 0 77)), (77, .inl (mz_gf 11 0 80)), (80, .inl (mz_call rn_X6_chance 1 (mz_ckV 6) 83)), (83, .inr (mz_rt mz_isI)), (84, .inl (mz_ld mz_isR 0 85)), (85, .inl (mz_gf 11 0 88)), (88, .inl (mz_ld mz_isR 0 89)), (89, .inl (mz_gf 11 0 92)), (92, .inl (mz_call rn_X6_all 1 (mz_ckV 6) 95)), (95, .inl (mz_call rn_X6_folkOf 2 (mz_ckV 6) 98)), (98, .inr (mz_rt mz_isI)), (99, .inl (mz_ld mz_isR 0 100)), (100, .inl (mz_gf 11 0 103)), (103, .inl (mz_call rn_X6_isEven 1 (mz_ckV 6) 106))]
theorem tk_X11_count_1 (E : List mz_V) : mz_all E tM_X11_count (ck_X11_count_1) :=
  mz_cons (mz_invV (n := 0) (ctr_X6_hands E) rfl ⟨by decide, by decide, by decide +kernel⟩ ⟨by decide, by decide⟩ mw_571 mw_568 mw_569 mw_570 mw_65 (show decode cX11_count 72 = .ok (.invokevirtual 148, 3) by decide +kernel)) (
  mz_consR (mz_ireturn rfl (show decode cX11_count 75 = .ok (.ireturn, 1) by decide +kernel)) (
  mz_cons (mz_aload_n (k := 0) (show decode cX11_count 76 = .ok (.aload_n 0, 1) by decide +kernel)) (
  mz_cons (mz_getfield (C := RX11) (T := TX11) (N := 9) rfl mz_inX11 (by decide) mw_330 (show decode cX11_count 77 = .ok (.getfield 18, 3) by decide +kernel)) (
  mz_cons (mz_invV (n := 0) (ctr_X6_chance E) rfl ⟨by decide, by decide, by decide +kernel⟩ ⟨by decide, by decide⟩ mw_897 mw_963 mw_895 mw_896 mw_65 (show decode cX11_count 80 = .ok (.invokevirtual 261, 3) by decide +kernel)) (
  mz_consR (mz_ireturn rfl (show decode cX11_count 83 = .ok (.ireturn, 1) by decide +kernel)) (
  mz_cons (mz_aload_n (k := 0) (show decode cX11_count 84 = .ok (.aload_n 0, 1) by decide +kernel)) (
  mz_cons (mz_getfield (C := RX11) (T := TX11) (N := 9) rfl mz_inX11 (by decide) mw_330 (show decode cX11_count 85 = .ok (.getfield 18, 3) by decide +kernel)) (
  mz_cons (mz_aload_n (k := 0) (show decode cX11_count 88 = .ok (.aload_n 0, 1) by decide +kernel)) (
  mz_cons (mz_getfield (C := RX11) (T := TX11) (N := 9) rfl mz_inX11 (by decide) mw_330 (show decode cX11_count 89 = .ok (.getfield 18, 3) by decide +kernel)) (
  mz_cons (mz_invV (n := 0) (ctr_X6_all E) rfl ⟨by decide, by decide, by decide +kernel⟩ ⟨by decide, by decide⟩ mw_567 mw_964 mw_565 mw_566 mw_65 (show decode cX11_count 92 = .ok (.invokevirtual 264, 3) by decide +kernel)) (
  mz_cons (mz_invV (n := 1) (ctr_X6_folkOf E) rfl ⟨by decide, by decide, by decide +kernel⟩ ⟨by decide, by decide⟩ mw_608 mw_965 mw_606 mw_607 mw_65 (show decode cX11_count 95 = .ok (.invokevirtual 267, 3) by decide +kernel)) (
  mz_consR (mz_ireturn rfl (show decode cX11_count 98 = .ok (.ireturn, 1) by decide +kernel)) (
  mz_cons (mz_aload_n (k := 0) (show decode cX11_count 99 = .ok (.aload_n 0, 1) by decide +kernel)) (
  mz_cons (mz_getfield (C := RX11) (T := TX11) (N := 9) rfl mz_inX11 (by decide) mw_330 (show decode cX11_count 100 = .ok (.getfield 18, 3) by decide +kernel)) (
  mz_cons (mz_invV (n := 0) (ctr_X6_isEven E) rfl ⟨by decide, by decide, by decide +kernel⟩ ⟨by decide, by decide⟩ mw_948 mw_945 mw_946 mw_947 mw_65 (show decode cX11_count 103 = .ok (.invokevirtual 255, 3) by decide +kernel)) (
  mz_nil))))))))))))))))
noncomputable def ck_X11_count_2 : List (Nat × mz_O) := [(106, .inl (mz_j1 mz_eq0 113 109)), (109, .inl (mz_push (.inl 1) 110)), (110, .inl (mz_go 114)), (114, .inr (mz_rt mz_isI)), (115, .inl (mz_push (.inl (-3)) 117)), (117, .inr (mz_rt mz_isI))]
theorem tk_X11_count_2 (E : List mz_V) : mz_all E tM_X11_count (ck_X11_count_2) :=
  mz_cons (mz_if_eq 113 (by decide) (show decode cX11_count 106 = .ok (.ifCond .eq 7, 3) by decide +kernel)) (
  mz_cons (mz_iconst 1 (by decide) (show decode cX11_count 109 = .ok (.iconst 1, 1) by decide +kernel)) (
  mz_cons (mz_goto 114 (by decide) (show decode cX11_count 110 = .ok (.goto 4, 3) by decide +kernel)) (
  mz_consR (mz_ireturn rfl (show decode cX11_count 114 = .ok (.ireturn, 1) by decide +kernel)) (
  mz_cons (mz_bipush (-3) (by decide) (show decode cX11_count 115 = .ok (.bipush (-3), 2) by decide +kernel)) (
  mz_consR (mz_ireturn rfl (show decode cX11_count 117 = .ok (.ireturn, 1) by decide +kernel)) (
  mz_nil))))))
noncomputable def tb_X11_count : List (Nat × List (Nat × mz_O)) := [(69, ck_X11_count_0), (103, ck_X11_count_1), (117, ck_X11_count_2)]
theorem tok_X11_count (E : List mz_V) : mz_tok E tM_X11_count (tb_X11_count) := mz_tcons (tk_X11_count_0 E) (mz_tcons (tk_X11_count_1 E) (mz_tcons (tk_X11_count_2 E) (mz_tnil)))
noncomputable def rn_X11_count : List mz_V → List mz_C → Option (Option mz_V × List mz_C) := mz_rn tb_X11_count 19 2
theorem ctr_X11_count (E : List mz_V) : mz_ctr E yX11_count tM_X11_count rn_X11_count := mz_ctr_of 19 (tok_X11_count E) (by decide) rfl rfl
abbrev tM_X7_empty : mz_M := (cX7_empty, 1, none, RX7, "empty", 1, 22)
noncomputable def ck_X7_empty_0 : List (Nat × mz_O) := [(0, .inl (mz_ld mz_isR 0 1)), (1, .inl (mz_push (.inl 0) 2)), (2, .inl (mz_pf 7 4 mz_isI 5)), (5, .inl (mz_ld mz_isR 0 6)), (6, .inl (mz_push (.inl 0) 7)), (7, .inl (mz_pf 7 5 mz_isI 10)), (10, .inr (mz_rv))]
theorem tk_X7_empty_0 (E : List mz_V) : mz_all E tM_X7_empty (ck_X7_empty_0) :=
  mz_cons (mz_aload_n (k := 0) (show decode cX7_empty 0 = .ok (.aload_n 0, 1) by decide +kernel)) (
  mz_cons (mz_iconst 0 (by decide) (show decode cX7_empty 1 = .ok (.iconst 0, 1) by decide +kernel)) (
  mz_cons (mz_putfield (C := RX7) (T := TX7) (N := 8) rfl mz_inX7 tyX7_ok nmX7 (by decide) mz_fit_int rfl mw_173 (show decode cX7_empty 2 = .ok (.putfield 24, 3) by decide +kernel)) (
  mz_cons (mz_aload_n (k := 0) (show decode cX7_empty 5 = .ok (.aload_n 0, 1) by decide +kernel)) (
  mz_cons (mz_iconst 0 (by decide) (show decode cX7_empty 6 = .ok (.iconst 0, 1) by decide +kernel)) (
  mz_cons (mz_putfield (C := RX7) (T := TX7) (N := 8) rfl mz_inX7 tyX7_ok nmX7 (by decide) mz_fit_int rfl mw_174 (show decode cX7_empty 7 = .ok (.putfield 28, 3) by decide +kernel)) (
  mz_consR (mz_return rfl (show decode cX7_empty 10 = .ok (.return_, 1) by decide +kernel)) (
  mz_nil)))))))
noncomputable def tb_X7_empty : List (Nat × List (Nat × mz_O)) := [(10, ck_X7_empty_0)]
theorem tok_X7_empty (E : List mz_V) : mz_tok E tM_X7_empty (tb_X7_empty) := mz_tcons (tk_X7_empty_0 E) (mz_tnil)
noncomputable def rn_X7_empty : List mz_V → List mz_C → Option (Option mz_V × List mz_C) := mz_rn tb_X7_empty 17 1
theorem ctr_X7_empty (E : List mz_V) : mz_ctr E yX7_empty tM_X7_empty rn_X7_empty := mz_ctr_of 17 (tok_X7_empty E) (by decide) rfl rfl
abbrev tM_X11_erase : mz_M := (cX11_erase, 2, (some .int), RX11, "erase", 2, 42)
noncomputable def ck_X11_erase_0 : List (Nat × mz_O) := [(0, .inl (mz_ld mz_isR 0 1)), (1, .inl (mz_gf 11 1 4)), (4, .inl (mz_call rn_X7_size 1 (mz_ckV 7) 7)), (7, .inl (mz_sto mz_isI mz_p1 1 8)), (8, .inl (mz_ld mz_isR 0 9)), (9, .inl (mz_gf 11 1 12)), (12, .inl (mz_call rn_X7_empty 1 (mz_ckV 7) 15)), (15, .inl (mz_ld mz_isI 1 16)), (16, .inr (mz_rt mz_isI))]
theorem tk_X11_erase_0 (E : List mz_V) : mz_all E tM_X11_erase (ck_X11_erase_0) :=
  mz_cons (mz_aload_n (k := 0) (show decode cX11_erase 0 = .ok (.aload_n 0, 1) by decide +kernel)) (
  mz_cons (mz_getfield (C := RX11) (T := TX11) (N := 9) rfl mz_inX11 (by decide) mw_331 (show decode cX11_erase 1 = .ok (.getfield 25, 3) by decide +kernel)) (
  mz_cons (mz_invV (n := 0) (ctr_X7_size E) rfl ⟨by decide, by decide, by decide +kernel⟩ ⟨by decide, by decide⟩ mw_366 mw_363 mw_364 mw_365 mw_66 (show decode cX11_erase 4 = .ok (.invokevirtual 92, 3) by decide +kernel)) (
  mz_cons (mz_istore_n (k := 1) (by decide) (show decode cX11_erase 7 = .ok (.istore_n 1, 1) by decide +kernel)) (
  mz_cons (mz_aload_n (k := 0) (show decode cX11_erase 8 = .ok (.aload_n 0, 1) by decide +kernel)) (
  mz_cons (mz_getfield (C := RX11) (T := TX11) (N := 9) rfl mz_inX11 (by decide) mw_331 (show decode cX11_erase 9 = .ok (.getfield 25, 3) by decide +kernel)) (
  mz_cons (mz_invV (n := 0) (ctr_X7_empty E) rfl ⟨by decide, by decide, by decide +kernel⟩ ⟨by decide, by decide⟩ mw_378 mw_375 mw_376 mw_377 mw_66 (show decode cX11_erase 12 = .ok (.invokevirtual 100, 3) by decide +kernel)) (
  mz_cons (mz_iload_n (k := 1) (show decode cX11_erase 15 = .ok (.iload_n 1, 1) by decide +kernel)) (
  mz_consR (mz_ireturn rfl (show decode cX11_erase 16 = .ok (.ireturn, 1) by decide +kernel)) (
  mz_nil)))))))))
noncomputable def tb_X11_erase : List (Nat × List (Nat × mz_O)) := [(16, ck_X11_erase_0)]
theorem tok_X11_erase (E : List mz_V) : mz_tok E tM_X11_erase (tb_X11_erase) := mz_tcons (tk_X11_erase_0 E) (mz_tnil)
noncomputable def rn_X11_erase : List mz_V → List mz_C → Option (Option mz_V × List mz_C) := mz_rn tb_X11_erase 19 2
theorem ctr_X11_erase (E : List mz_V) : mz_ctr E yX11_erase tM_X11_erase rn_X11_erase := mz_ctr_of 19 (tok_X11_erase E) (by decide) rfl rfl
abbrev tM_X7_endOfRow : mz_M := (cX7_endOfRow, 4, (some .int), RX7, "endOfRow", 1, 22)
noncomputable def ck_X7_endOfRow_0 : List (Nat × mz_O) := [(0, .inl (mz_ld mz_isR 0 1)), (1, .inl (mz_gf 7 6 4)), (4, .inl (mz_sto mz_isI mz_p1 3 5)), (5, .inl (mz_ld mz_isI 3 6)), (6, .inl (mz_ld mz_isR 0 7)), (7, .inl (mz_gf 7 4 10)), (10, .inl (mz_j2 mz_lt 13 41)), (41, .inl (mz_ld mz_isR 0 42)), (42, .inl (mz_gf 7 4 45)), (45, .inr (mz_rt mz_isI))]
theorem tk_X7_endOfRow_0 (E : List mz_V) : mz_all E tM_X7_endOfRow (ck_X7_endOfRow_0) :=
  mz_cons (mz_aload_n (k := 0) (show decode cX7_endOfRow 0 = .ok (.aload_n 0, 1) by decide +kernel)) (
  mz_cons (mz_getfield (C := RX7) (T := TX7) (N := 8) rfl mz_inX7 (by decide) mw_175 (show decode cX7_endOfRow 1 = .ok (.getfield 35, 3) by decide +kernel)) (
  mz_cons (mz_istore_n (k := 3) (by decide) (show decode cX7_endOfRow 4 = .ok (.istore_n 3, 1) by decide +kernel)) (
  mz_cons (mz_iload_n (k := 3) (show decode cX7_endOfRow 5 = .ok (.iload_n 3, 1) by decide +kernel)) (
  mz_cons (mz_aload_n (k := 0) (show decode cX7_endOfRow 6 = .ok (.aload_n 0, 1) by decide +kernel)) (
  mz_cons (mz_getfield (C := RX7) (T := TX7) (N := 8) rfl mz_inX7 (by decide) mw_173 (show decode cX7_endOfRow 7 = .ok (.getfield 24, 3) by decide +kernel)) (
  mz_cons (mz_icmp_ge 41 (by decide) (show decode cX7_endOfRow 10 = .ok (.if_icmp .ge 31, 3) by decide +kernel)) (
  mz_cons (mz_aload_n (k := 0) (show decode cX7_endOfRow 41 = .ok (.aload_n 0, 1) by decide +kernel)) (
  mz_cons (mz_getfield (C := RX7) (T := TX7) (N := 8) rfl mz_inX7 (by decide) mw_173 (show decode cX7_endOfRow 42 = .ok (.getfield 24, 3) by decide +kernel)) (
  mz_consR (mz_ireturn rfl (show decode cX7_endOfRow 45 = .ok (.ireturn, 1) by decide +kernel)) (
  mz_nil))))))))))
noncomputable def tb_X7_endOfRow : List (Nat × List (Nat × mz_O)) := [(45, ck_X7_endOfRow_0)]
theorem tok_X7_endOfRow (E : List mz_V) : mz_tok E tM_X7_endOfRow (tb_X7_endOfRow) := mz_tcons (tk_X7_endOfRow_0 E) (mz_tnil)
noncomputable def rn_X7_endOfRow : List mz_V → List mz_C → Option (Option mz_V × List mz_C) := mz_rn tb_X7_endOfRow 20 4
theorem ctr_X7_endOfRow (E : List mz_V) : mz_ctr E yX7_endOfRow tM_X7_endOfRow rn_X7_endOfRow := mz_ctr_of 20 (tok_X7_endOfRow E) (by decide) rfl rfl
abbrev tM_X7_spells : mz_M := (cX7_spells, 4, (some .boolean), RX7, "spells", 3, 62)
noncomputable def ck_X7_spells_0 : List (Nat × mz_O) := [(0, .inl (mz_ld mz_isI 2 1)), (1, .inl (mz_ld mz_isR 0 2)), (2, .inl (mz_gf 7 6 5)), (5, .inl (mz_o2 mz_f_isub 6)), (6, .inl (mz_ld mz_isR 1 7)), (7, .inl (mz_call rn_J0_length_8abf5 1 mz_ckX 10)), (10, .inl (mz_j2 mz_eq 15 13)), (13, .inl (mz_push (.inl 0) 14)), (14, .inr (mz_rt mz_is01))]
theorem tk_X7_spells_0 (E : List mz_V) : mz_all E tM_X7_spells (ck_X7_spells_0) :=
  mz_cons (mz_iload_n (k := 2) (show decode cX7_spells 0 = .ok (.iload_n 2, 1) by decide +kernel)) (
  mz_cons (mz_aload_n (k := 0) (show decode cX7_spells 1 = .ok (.aload_n 0, 1) by decide +kernel)) (
  mz_cons (mz_getfield (C := RX7) (T := TX7) (N := 8) rfl mz_inX7 (by decide) mw_175 (show decode cX7_spells 2 = .ok (.getfield 35, 3) by decide +kernel)) (
  mz_cons (mz_isub (show decode cX7_spells 5 = .ok (.isub, 1) by decide +kernel)) (
  mz_cons (mz_aload_n (k := 1) (show decode cX7_spells 6 = .ok (.aload_n 1, 1) by decide +kernel)) (
  mz_cons (mz_invX (n := 0) (ctr_J0_length_8abf5 E) rfl ⟨by decide, by decide, by decide +kernel⟩ ⟨by decide, by decide⟩ mw_425 mw_422 mw_423 mw_424 mw_75 (show decode cX7_spells 7 = .ok (.invokevirtual 80, 3) by decide +kernel)) (
  mz_cons (mz_icmp_eq 15 (by decide) (show decode cX7_spells 10 = .ok (.if_icmp .eq 5, 3) by decide +kernel)) (
  mz_cons (mz_iconst 0 (by decide) (show decode cX7_spells 13 = .ok (.iconst 0, 1) by decide +kernel)) (
  mz_consR (mz_zreturn rfl (show decode cX7_spells 14 = .ok (.ireturn, 1) by decide +kernel)) (
  mz_nil)))))))))
noncomputable def tb_X7_spells : List (Nat × List (Nat × mz_O)) := [(14, ck_X7_spells_0)]
theorem tok_X7_spells (E : List mz_V) : mz_tok E tM_X7_spells (tb_X7_spells) := mz_tcons (tk_X7_spells_0 E) (mz_tnil)
noncomputable def rn_X7_spells : List mz_V → List mz_C → Option (Option mz_V × List mz_C) := mz_rn tb_X7_spells 19 4
theorem ctr_X7_spells (E : List mz_V) : mz_ctr E yX7_spells tM_X7_spells rn_X7_spells := mz_ctr_of 19 (tok_X7_spells E) (by decide) rfl rfl
abbrev tM_X7_wordOf : mz_M := (cX7_wordOf, 1, (some (.object "java/lang/String")), RX7, "wordOf", 1, 22)
noncomputable def ck_X7_wordOf_0 : List (Nat × mz_O) := [(0, .inl (mz_ld mz_isI 0 1)), (1, .inl (mz_ts 0 6 [44, 47, 50, 53, 56, 59, 62] 65)), (44, .inl (mz_push (.inr (.inr (.inr (.inr (.inr (.inr 2)))))) 46)), (46, .inr (mz_rt mz_isQ)), (47, .inl (mz_push (.inr (.inr (.inr (.inr (.inr (.inr 3)))))) 49)), (49, .inr (mz_rt mz_isQ)), (50, .inl (mz_push (.inr (.inr (.inr (.inr (.inr (.inr 4)))))) 52)), (52, .inr (mz_rt mz_isQ)), (53, .inl (mz_push (.inr (.inr (.inr (.inr (.inr (.inr 5)))))) 55)), (55, .inr (mz_rt mz_isQ)), (56, .inl (mz_push (.inr (.inr (.inr (.inr (.inr (.inr 6)))))) 58)), (58, .inr (mz_rt mz_isQ)), (59, .inl (mz_push (.inr (.inr (.inr (.inr (.inr (.inr 7)))))) 61)), (61, .inr (mz_rt mz_isQ)), (62, .inl (mz_push (.inr (.inr (.inr (.inr (.inr (.inr 8)))))) 64)), (64, .inr (mz_rt mz_isQ))]
theorem tk_X7_wordOf_0 (E : List mz_V) : mz_all E tM_X7_wordOf (ck_X7_wordOf_0) :=
  mz_cons (mz_iload_n (k := 0) (show decode cX7_wordOf 0 = .ok (.iload_n 0, 1) by decide +kernel)) (
  mz_cons (mz_tableswitch [44, 47, 50, 53, 56, 59, 62] 65 (by decide) (by decide) (fun z h1 h2 => show (z - 0).toNat < 7 by omega) (show decode cX7_wordOf 1 = .ok (.tableswitch 64 0 6 #[43, 46, 49, 52, 55, 58, 61], 43) by decide +kernel)) (
  mz_cons (mz_ldcS (k := 0) (q := ("WettedNet$Script", 89, "rooms")) rfl rfl (show decode cX7_wordOf 44 = .ok (.ldc 89, 2) by decide +kernel)) (
  mz_consR (mz_areturn rfl (show decode cX7_wordOf 46 = .ok (.areturn, 1) by decide +kernel)) (
  mz_cons (mz_ldcS (k := 1) (q := ("WettedNet$Script", 91, "door")) rfl rfl (show decode cX7_wordOf 47 = .ok (.ldc 91, 2) by decide +kernel)) (
  mz_consR (mz_areturn rfl (show decode cX7_wordOf 49 = .ok (.areturn, 1) by decide +kernel)) (
  mz_cons (mz_ldcS (k := 2) (q := ("WettedNet$Script", 93, "way")) rfl rfl (show decode cX7_wordOf 50 = .ok (.ldc 93, 2) by decide +kernel)) (
  mz_consR (mz_areturn rfl (show decode cX7_wordOf 52 = .ok (.areturn, 1) by decide +kernel)) (
  mz_cons (mz_ldcS (k := 3) (q := ("WettedNet$Script", 95, "shut")) rfl rfl (show decode cX7_wordOf 53 = .ok (.ldc 95, 2) by decide +kernel)) (
  mz_consR (mz_areturn rfl (show decode cX7_wordOf 55 = .ok (.areturn, 1) by decide +kernel)) (
  mz_cons (mz_ldcS (k := 4) (q := ("WettedNet$Script", 97, "folk")) rfl rfl (show decode cX7_wordOf 56 = .ok (.ldc 97, 2) by decide +kernel)) (
  mz_consR (mz_areturn rfl (show decode cX7_wordOf 58 = .ok (.areturn, 1) by decide +kernel)) (
  mz_cons (mz_ldcS (k := 5) (q := ("WettedNet$Script", 99, "thick")) rfl rfl (show decode cX7_wordOf 59 = .ok (.ldc 99, 2) by decide +kernel)) (
  mz_consR (mz_areturn rfl (show decode cX7_wordOf 61 = .ok (.areturn, 1) by decide +kernel)) (
  mz_cons (mz_ldcS (k := 6) (q := ("WettedNet$Script", 101, "hands")) rfl rfl (show decode cX7_wordOf 62 = .ok (.ldc 101, 2) by decide +kernel)) (
  mz_consR (mz_areturn rfl (show decode cX7_wordOf 64 = .ok (.areturn, 1) by decide +kernel)) (
  mz_nil))))))))))))))))
noncomputable def ck_X7_wordOf_1 : List (Nat × mz_O) := [(65, .inl (mz_push (.inr (.inr (.inr (.inr (.inr (.inr 9)))))) 67)), (67, .inr (mz_rt mz_isQ))]
theorem tk_X7_wordOf_1 (E : List mz_V) : mz_all E tM_X7_wordOf (ck_X7_wordOf_1) :=
  mz_cons (mz_ldcS (k := 7) (q := ("WettedNet$Script", 103, "chance")) rfl rfl (show decode cX7_wordOf 65 = .ok (.ldc 103, 2) by decide +kernel)) (
  mz_consR (mz_areturn rfl (show decode cX7_wordOf 67 = .ok (.areturn, 1) by decide +kernel)) (
  mz_nil))
noncomputable def tb_X7_wordOf : List (Nat × List (Nat × mz_O)) := [(64, ck_X7_wordOf_0), (67, ck_X7_wordOf_1)]
theorem tok_X7_wordOf (E : List mz_V) : mz_tok E tM_X7_wordOf (tb_X7_wordOf) := mz_tcons (tk_X7_wordOf_0 E) (mz_tcons (tk_X7_wordOf_1 E) (mz_tnil))
noncomputable def rn_X7_wordOf : List mz_V → List mz_C → Option (Option mz_V × List mz_C) := mz_rn tb_X7_wordOf 14 1
theorem ctr_X7_wordOf (E : List mz_V) : mz_ctr E yX7_wordOf tM_X7_wordOf rn_X7_wordOf := mz_ctr_of 14 (tok_X7_wordOf E) (by decide) rfl rfl
abbrev tM_X7_kindOf : mz_M := (cX7_kindOf, 3, (some .int), RX7, "kindOf", 4, 85)
noncomputable def ck_X7_kindOf_0 : List (Nat × mz_O) := [(0, .inl (mz_push (.inl 0) 1)), (1, .inl (mz_sto mz_isI mz_p1 2 2)), (2, .inl (mz_ld mz_isI 2 3)), (3, .inl (mz_push (.inl 8) 5)), (5, .inl (mz_j2 mz_lt 8 28)), (8, .inl (mz_ld mz_isR 0 9)), (9, .inl (mz_ld mz_isI 2 10)), (10, .inl (mz_call rn_X7_wordOf 1 mz_ckT 13)), (13, .inl (mz_ld mz_isI 1 14)), (14, .inl (mz_call rn_X7_spells 3 (mz_ckV 7) 17)), (17, .inl (mz_j1 mz_eq0 22 20)), (22, .inl (mz_inc 2 1 25)), (25, .inl (mz_go 2)), (28, .inl (mz_push (.inl (-1)) 29)), (29, .inr (mz_rt mz_isI))]
theorem tk_X7_kindOf_0 (E : List mz_V) : mz_all E tM_X7_kindOf (ck_X7_kindOf_0) :=
  mz_cons (mz_iconst 0 (by decide) (show decode cX7_kindOf 0 = .ok (.iconst 0, 1) by decide +kernel)) (
  mz_cons (mz_istore_n (k := 2) (by decide) (show decode cX7_kindOf 1 = .ok (.istore_n 2, 1) by decide +kernel)) (
  mz_cons (mz_iload_n (k := 2) (show decode cX7_kindOf 2 = .ok (.iload_n 2, 1) by decide +kernel)) (
  mz_cons (mz_bipush 8 (by decide) (show decode cX7_kindOf 3 = .ok (.bipush 8, 2) by decide +kernel)) (
  mz_cons (mz_icmp_ge 28 (by decide) (show decode cX7_kindOf 5 = .ok (.if_icmp .ge 23, 3) by decide +kernel)) (
  mz_cons (mz_aload_n (k := 0) (show decode cX7_kindOf 8 = .ok (.aload_n 0, 1) by decide +kernel)) (
  mz_cons (mz_iload_n (k := 2) (show decode cX7_kindOf 9 = .ok (.iload_n 2, 1) by decide +kernel)) (
  mz_cons (mz_invS (n := 1) (ctr_X7_wordOf E) ⟨by decide, by decide, by decide +kernel⟩ ⟨by decide, by decide⟩ mw_409 mw_407 mw_408 mw_66 (show decode cX7_kindOf 10 = .ok (.invokestatic 72, 3) by decide +kernel)) (
  mz_cons (mz_iload_n (k := 1) (show decode cX7_kindOf 13 = .ok (.iload_n 1, 1) by decide +kernel)) (
  mz_cons (mz_invV (n := 2) (ctr_X7_spells E) rfl ⟨by decide, by decide, by decide +kernel⟩ ⟨by decide, by decide⟩ mw_421 mw_418 mw_420 mw_5 mw_66 (show decode cX7_kindOf 14 = .ok (.invokevirtual 76, 3) by decide +kernel)) (
  mz_cons (mz_if_eq 22 (by decide) (show decode cX7_kindOf 17 = .ok (.ifCond .eq 5, 3) by decide +kernel)) (
  mz_cons (mz_iinc 1 (by decide) (by decide) (show decode cX7_kindOf 22 = .ok (.iinc 2 1, 3) by decide +kernel)) (
  mz_cons (mz_goto 2 (by decide) (show decode cX7_kindOf 25 = .ok (.goto (-23), 3) by decide +kernel)) (
  mz_cons (mz_iconst (-1) (by decide) (show decode cX7_kindOf 28 = .ok (.iconst (-1), 1) by decide +kernel)) (
  mz_consR (mz_ireturn rfl (show decode cX7_kindOf 29 = .ok (.ireturn, 1) by decide +kernel)) (
  mz_nil)))))))))))))))
noncomputable def tb_X7_kindOf : List (Nat × List (Nat × mz_O)) := [(29, ck_X7_kindOf_0)]
theorem tok_X7_kindOf (E : List mz_V) : mz_tok E tM_X7_kindOf (tb_X7_kindOf) := mz_tcons (tk_X7_kindOf_0 E) (mz_tnil)
noncomputable def rn_X7_kindOf : List mz_V → List mz_C → Option (Option mz_V × List mz_C) := mz_rn tb_X7_kindOf 105 3
theorem ctr_X7_kindOf (E : List mz_V) : mz_ctr E yX7_kindOf tM_X7_kindOf rn_X7_kindOf := mz_ctr_of 105 (tok_X7_kindOf E) (by decide) rfl rfl
abbrev tM_X7_skipBlanks : mz_M := (cX7_skipBlanks, 1, none, RX7, "skipBlanks", 2, 45)
noncomputable def ck_X7_skipBlanks_0 : List (Nat × mz_O) := [(0, .inl (mz_ld mz_isR 0 1)), (1, .inl (mz_ld mz_isR 0 2)), (2, .inl (mz_push (.inl 32) 4)), (4, .inl (mz_push (.inl 32) 6)), (6, .inl (mz_call rn_X7_endOfRow 3 (mz_ckV 7) 9)), (9, .inl (mz_pf 7 6 mz_isI 12)), (12, .inr (mz_rv))]
theorem tk_X7_skipBlanks_0 (E : List mz_V) : mz_all E tM_X7_skipBlanks (ck_X7_skipBlanks_0) :=
  mz_cons (mz_aload_n (k := 0) (show decode cX7_skipBlanks 0 = .ok (.aload_n 0, 1) by decide +kernel)) (
  mz_cons (mz_aload_n (k := 0) (show decode cX7_skipBlanks 1 = .ok (.aload_n 0, 1) by decide +kernel)) (
  mz_cons (mz_bipush 32 (by decide) (show decode cX7_skipBlanks 2 = .ok (.bipush 32, 2) by decide +kernel)) (
  mz_cons (mz_bipush 32 (by decide) (show decode cX7_skipBlanks 4 = .ok (.bipush 32, 2) by decide +kernel)) (
  mz_cons (mz_invV (n := 2) (ctr_X7_endOfRow E) rfl ⟨by decide, by decide, by decide +kernel⟩ ⟨by decide, by decide⟩ mw_402 mw_399 mw_401 mw_3 mw_66 (show decode cX7_skipBlanks 6 = .ok (.invokevirtual 52, 3) by decide +kernel)) (
  mz_cons (mz_putfield (C := RX7) (T := TX7) (N := 8) rfl mz_inX7 tyX7_ok nmX7 (by decide) mz_fit_int rfl mw_175 (show decode cX7_skipBlanks 9 = .ok (.putfield 35, 3) by decide +kernel)) (
  mz_consR (mz_return rfl (show decode cX7_skipBlanks 12 = .ok (.return_, 1) by decide +kernel)) (
  mz_nil)))))))
noncomputable def tb_X7_skipBlanks : List (Nat × List (Nat × mz_O)) := [(12, ck_X7_skipBlanks_0)]
theorem tok_X7_skipBlanks (E : List mz_V) : mz_tok E tM_X7_skipBlanks (tb_X7_skipBlanks) := mz_tcons (tk_X7_skipBlanks_0 E) (mz_tnil)
noncomputable def rn_X7_skipBlanks : List mz_V → List mz_C → Option (Option mz_V × List mz_C) := mz_rn tb_X7_skipBlanks 17 1
theorem ctr_X7_skipBlanks (E : List mz_V) : mz_ctr E yX7_skipBlanks tM_X7_skipBlanks rn_X7_skipBlanks := mz_ctr_of 17 (tok_X7_skipBlanks E) (by decide) rfl rfl
abbrev tM_X7_readLine : mz_M := (cX7_readLine, 6, (some .boolean), RX7, "readLine", 5, 107)
noncomputable def ck_X7_readLine_0 : List (Nat × mz_O) := [(0, .inl (mz_ld mz_isR 0 1)), (1, .inl (mz_call rn_X7_skipBlanks 1 (mz_ckV 7) 4)), (4, .inl (mz_ld mz_isR 0 5)), (5, .inl (mz_push (.inl 97) 7)), (7, .inl (mz_push (.inl 122) 9)), (9, .inl (mz_call rn_X7_endOfRow 3 (mz_ckV 7) 12)), (12, .inl (mz_sto mz_isI mz_p1 2 13)), (13, .inl (mz_ld mz_isR 0 14)), (14, .inl (mz_ld mz_isI 2 15)), (15, .inl (mz_call rn_X7_kindOf 2 (mz_ckV 7) 18)), (18, .inl (mz_sto mz_isI mz_p1 3 19)), (19, .inl (mz_ld mz_isI 3 20)), (20, .inl (mz_push (.inl (-1)) 21)), (21, .inl (mz_j2 mz_eq 24 26)), (24, .inl (mz_push (.inl 0) 25)), (25, .inr (mz_rt mz_is01))]
theorem tk_X7_readLine_0 (E : List mz_V) : mz_all E tM_X7_readLine (ck_X7_readLine_0) :=
  mz_cons (mz_aload_n (k := 0) (show decode cX7_readLine 0 = .ok (.aload_n 0, 1) by decide +kernel)) (
  mz_cons (mz_invV (n := 0) (ctr_X7_skipBlanks E) rfl ⟨by decide, by decide, by decide +kernel⟩ ⟨by decide, by decide⟩ mw_398 mw_395 mw_397 mw_2 mw_66 (show decode cX7_readLine 1 = .ok (.invokevirtual 45, 3) by decide +kernel)) (
  mz_cons (mz_aload_n (k := 0) (show decode cX7_readLine 4 = .ok (.aload_n 0, 1) by decide +kernel)) (
  mz_cons (mz_bipush 97 (by decide) (show decode cX7_readLine 5 = .ok (.bipush 97, 2) by decide +kernel)) (
  mz_cons (mz_bipush 122 (by decide) (show decode cX7_readLine 7 = .ok (.bipush 122, 2) by decide +kernel)) (
  mz_cons (mz_invV (n := 2) (ctr_X7_endOfRow E) rfl ⟨by decide, by decide, by decide +kernel⟩ ⟨by decide, by decide⟩ mw_402 mw_399 mw_401 mw_3 mw_66 (show decode cX7_readLine 9 = .ok (.invokevirtual 52, 3) by decide +kernel)) (
  mz_cons (mz_istore_n (k := 2) (by decide) (show decode cX7_readLine 12 = .ok (.istore_n 2, 1) by decide +kernel)) (
  mz_cons (mz_aload_n (k := 0) (show decode cX7_readLine 13 = .ok (.aload_n 0, 1) by decide +kernel)) (
  mz_cons (mz_iload_n (k := 2) (show decode cX7_readLine 14 = .ok (.iload_n 2, 1) by decide +kernel)) (
  mz_cons (mz_invV (n := 1) (ctr_X7_kindOf E) rfl ⟨by decide, by decide, by decide +kernel⟩ ⟨by decide, by decide⟩ mw_406 mw_403 mw_405 mw_4 mw_66 (show decode cX7_readLine 15 = .ok (.invokevirtual 56, 3) by decide +kernel)) (
  mz_cons (mz_istore_n (k := 3) (by decide) (show decode cX7_readLine 18 = .ok (.istore_n 3, 1) by decide +kernel)) (
  mz_cons (mz_iload_n (k := 3) (show decode cX7_readLine 19 = .ok (.iload_n 3, 1) by decide +kernel)) (
  mz_cons (mz_iconst (-1) (by decide) (show decode cX7_readLine 20 = .ok (.iconst (-1), 1) by decide +kernel)) (
  mz_cons (mz_icmp_ne 26 (by decide) (show decode cX7_readLine 21 = .ok (.if_icmp .ne 5, 3) by decide +kernel)) (
  mz_cons (mz_iconst 0 (by decide) (show decode cX7_readLine 24 = .ok (.iconst 0, 1) by decide +kernel)) (
  mz_consR (mz_zreturn rfl (show decode cX7_readLine 25 = .ok (.ireturn, 1) by decide +kernel)) (
  mz_nil))))))))))))))))
noncomputable def tb_X7_readLine : List (Nat × List (Nat × mz_O)) := [(25, ck_X7_readLine_0)]
theorem tok_X7_readLine (E : List mz_V) : mz_tok E tM_X7_readLine (tb_X7_readLine) := mz_tcons (tk_X7_readLine_0 E) (mz_tnil)
noncomputable def rn_X7_readLine : List mz_V → List mz_C → Option (Option mz_V × List mz_C) := mz_rn tb_X7_readLine 26 6
theorem ctr_X7_readLine (E : List mz_V) : mz_ctr E yX7_readLine tM_X7_readLine rn_X7_readLine := mz_ctr_of 26 (tok_X7_readLine E) (by decide) rfl rfl
abbrev tM_X7_firstFault : mz_M := (cX7_firstFault, 3, (some .int), RX7, "firstFault", 6, 132)
noncomputable def ck_X7_firstFault_0 : List (Nat × mz_O) := [(0, .inl (mz_ld mz_isR 0 1)), (1, .inl (mz_push (.inl 0) 2)), (2, .inl (mz_pf 7 6 mz_isI 5)), (5, .inl (mz_ld mz_isR 0 6)), (6, .inl (mz_push (.inl 0) 7)), (7, .inl (mz_pf 7 5 mz_isI 10)), (10, .inl (mz_ld mz_isR 0 11)), (11, .inl (mz_ld mz_isI 1 12)), (12, .inl (mz_pf 7 7 mz_isI 15)), (15, .inl (mz_push (.inl 0) 16)), (16, .inl (mz_sto mz_isI mz_p1 2 17)), (17, .inl (mz_ld mz_isI 2 18)), (18, .inl (mz_push (.inl 12) 20)), (20, .inl (mz_j2 mz_lt 23 103)), (23, .inl (mz_ld mz_isR 0 24)), (24, .inl (mz_ld mz_isI 2 25))]
theorem tk_X7_firstFault_0 (E : List mz_V) : mz_all E tM_X7_firstFault (ck_X7_firstFault_0) :=
  mz_cons (mz_aload_n (k := 0) (show decode cX7_firstFault 0 = .ok (.aload_n 0, 1) by decide +kernel)) (
  mz_cons (mz_iconst 0 (by decide) (show decode cX7_firstFault 1 = .ok (.iconst 0, 1) by decide +kernel)) (
  mz_cons (mz_putfield (C := RX7) (T := TX7) (N := 8) rfl mz_inX7 tyX7_ok nmX7 (by decide) mz_fit_int rfl mw_175 (show decode cX7_firstFault 2 = .ok (.putfield 35, 3) by decide +kernel)) (
  mz_cons (mz_aload_n (k := 0) (show decode cX7_firstFault 5 = .ok (.aload_n 0, 1) by decide +kernel)) (
  mz_cons (mz_iconst 0 (by decide) (show decode cX7_firstFault 6 = .ok (.iconst 0, 1) by decide +kernel)) (
  mz_cons (mz_putfield (C := RX7) (T := TX7) (N := 8) rfl mz_inX7 tyX7_ok nmX7 (by decide) mz_fit_int rfl mw_174 (show decode cX7_firstFault 7 = .ok (.putfield 28, 3) by decide +kernel)) (
  mz_cons (mz_aload_n (k := 0) (show decode cX7_firstFault 10 = .ok (.aload_n 0, 1) by decide +kernel)) (
  mz_cons (mz_iload_n (k := 1) (show decode cX7_firstFault 11 = .ok (.iload_n 1, 1) by decide +kernel)) (
  mz_cons (mz_putfield (C := RX7) (T := TX7) (N := 8) rfl mz_inX7 tyX7_ok nmX7 (by decide) mz_fit_int rfl mw_176 (show decode cX7_firstFault 12 = .ok (.putfield 38, 3) by decide +kernel)) (
  mz_cons (mz_iconst 0 (by decide) (show decode cX7_firstFault 15 = .ok (.iconst 0, 1) by decide +kernel)) (
  mz_cons (mz_istore_n (k := 2) (by decide) (show decode cX7_firstFault 16 = .ok (.istore_n 2, 1) by decide +kernel)) (
  mz_cons (mz_iload_n (k := 2) (show decode cX7_firstFault 17 = .ok (.iload_n 2, 1) by decide +kernel)) (
  mz_cons (mz_bipush 12 (by decide) (show decode cX7_firstFault 18 = .ok (.bipush 12, 2) by decide +kernel)) (
  mz_cons (mz_icmp_ge 103 (by decide) (show decode cX7_firstFault 20 = .ok (.if_icmp .ge 83, 3) by decide +kernel)) (
  mz_cons (mz_aload_n (k := 0) (show decode cX7_firstFault 23 = .ok (.aload_n 0, 1) by decide +kernel)) (
  mz_cons (mz_iload_n (k := 2) (show decode cX7_firstFault 24 = .ok (.iload_n 2, 1) by decide +kernel)) (
  mz_nil))))))))))))))))
noncomputable def ck_X7_firstFault_1 : List (Nat × mz_O) := [(25, .inl (mz_call rn_X7_readLine 2 (mz_ckV 7) 28)), (28, .inl (mz_j1 mz_eq0 31 36)), (31, .inl (mz_ld mz_isR 0 32)), (32, .inl (mz_gf 7 6 35)), (35, .inr (mz_rt mz_isI))]
theorem tk_X7_firstFault_1 (E : List mz_V) : mz_all E tM_X7_firstFault (ck_X7_firstFault_1) :=
  mz_cons (mz_invV (n := 1) (ctr_X7_readLine E) rfl ⟨by decide, by decide, by decide +kernel⟩ ⟨by decide, by decide⟩ mw_394 mw_391 mw_393 mw_1 mw_66 (show decode cX7_firstFault 25 = .ok (.invokevirtual 41, 3) by decide +kernel)) (
  mz_cons (mz_if_ne 36 (by decide) (show decode cX7_firstFault 28 = .ok (.ifCond .ne 8, 3) by decide +kernel)) (
  mz_cons (mz_aload_n (k := 0) (show decode cX7_firstFault 31 = .ok (.aload_n 0, 1) by decide +kernel)) (
  mz_cons (mz_getfield (C := RX7) (T := TX7) (N := 8) rfl mz_inX7 (by decide) mw_175 (show decode cX7_firstFault 32 = .ok (.getfield 35, 3) by decide +kernel)) (
  mz_consR (mz_ireturn rfl (show decode cX7_firstFault 35 = .ok (.ireturn, 1) by decide +kernel)) (
  mz_nil)))))
noncomputable def tb_X7_firstFault : List (Nat × List (Nat × mz_O)) := [(24, ck_X7_firstFault_0), (35, ck_X7_firstFault_1)]
theorem tok_X7_firstFault (E : List mz_V) : mz_tok E tM_X7_firstFault (tb_X7_firstFault) := mz_tcons (tk_X7_firstFault_0 E) (mz_tcons (tk_X7_firstFault_1 E) (mz_tnil))
noncomputable def rn_X7_firstFault : List mz_V → List mz_C → Option (Option mz_V × List mz_C) := mz_rn tb_X7_firstFault 31 3
theorem ctr_X7_firstFault (E : List mz_V) : mz_ctr E yX7_firstFault tM_X7_firstFault rn_X7_firstFault := mz_ctr_of 31 (tok_X7_firstFault E) (by decide) rfl rfl
abbrev tM_X11_fault : mz_M := (cX11_fault, 1, (some .int), RX11, "fault", 7, 154)
noncomputable def ck_X11_fault_0 : List (Nat × mz_O) := [(0, .inl (mz_ld mz_isR 0 1)), (1, .inl (mz_gf 11 1 4)), (4, .inl (mz_ld mz_isR 0 5)), (5, .inl (mz_gf 11 0 8)), (8, .inl (mz_call rn_X6_howMany 1 (mz_ckV 6) 11)), (11, .inl (mz_call rn_X7_firstFault 2 (mz_ckV 7) 14)), (14, .inr (mz_rt mz_isI))]
theorem tk_X11_fault_0 (E : List mz_V) : mz_all E tM_X11_fault (ck_X11_fault_0) :=
  mz_cons (mz_aload_n (k := 0) (show decode cX11_fault 0 = .ok (.aload_n 0, 1) by decide +kernel)) (
  mz_cons (mz_getfield (C := RX11) (T := TX11) (N := 9) rfl mz_inX11 (by decide) mw_331 (show decode cX11_fault 1 = .ok (.getfield 25, 3) by decide +kernel)) (
  mz_cons (mz_aload_n (k := 0) (show decode cX11_fault 4 = .ok (.aload_n 0, 1) by decide +kernel)) (
  mz_cons (mz_getfield (C := RX11) (T := TX11) (N := 9) rfl mz_inX11 (by decide) mw_330 (show decode cX11_fault 5 = .ok (.getfield 18, 3) by decide +kernel)) (
  mz_cons (mz_invV (n := 0) (ctr_X6_howMany E) rfl ⟨by decide, by decide, by decide +kernel⟩ ⟨by decide, by decide⟩ mw_386 mw_383 mw_384 mw_385 mw_65 (show decode cX11_fault 8 = .ok (.invokevirtual 103, 3) by decide +kernel)) (
  mz_cons (mz_invV (n := 1) (ctr_X7_firstFault E) rfl ⟨by decide, by decide, by decide +kernel⟩ ⟨by decide, by decide⟩ mw_390 mw_387 mw_388 mw_389 mw_66 (show decode cX11_fault 11 = .ok (.invokevirtual 106, 3) by decide +kernel)) (
  mz_consR (mz_ireturn rfl (show decode cX11_fault 14 = .ok (.ireturn, 1) by decide +kernel)) (
  mz_nil)))))))
noncomputable def tb_X11_fault : List (Nat × List (Nat × mz_O)) := [(14, ck_X11_fault_0)]
theorem tok_X11_fault (E : List mz_V) : mz_tok E tM_X11_fault (tb_X11_fault) := mz_tcons (tk_X11_fault_0 E) (mz_tnil)
noncomputable def rn_X11_fault : List mz_V → List mz_C → Option (Option mz_V × List mz_C) := mz_rn tb_X11_fault 17 1
theorem ctr_X11_fault (E : List mz_V) : mz_ctr E yX11_fault tM_X11_fault rn_X11_fault := mz_ctr_of 17 (tok_X11_fault E) (by decide) rfl rfl
abbrev tM_X3_forceOnce : mz_M := (cX3_forceOnce, 7, (some .int), RX3, "forceOnce", 2, 43)
noncomputable def ck_X3_forceOnce_0 : List (Nat × mz_O) := [(0, .inl (mz_ld mz_isI 1 1)), (1, .inl (mz_sto mz_isI mz_p1 3 2)), (2, .inl (mz_push (.inl 0) 3)), (3, .inl (mz_sto mz_isI mz_p1 4 5)), (5, .inl (mz_ld mz_isI 4 7)), (7, .inl (mz_ld mz_isR 0 8)), (8, .inl (mz_gf 3 0 11)), (11, .inl (mz_call rn_X6_howMany 1 (mz_ckV 6) 14)), (14, .inl (mz_j2 mz_lt 17 108)), (17, .inl (mz_ld mz_isI 1 18)), (18, .inl (mz_ld mz_isI 4 20)), (20, .inl (mz_call rn_X11_has 2 mz_ckT 23)), (23, .inl (mz_j1 mz_eq0 42 26)), (26, .inl (mz_ld mz_isR 0 27)), (27, .inl (mz_gf 3 0 30)), (30, .inl (mz_ld mz_isI 4 32))]
theorem tk_X3_forceOnce_0 (E : List mz_V) : mz_all E tM_X3_forceOnce (ck_X3_forceOnce_0) :=
  mz_cons (mz_iload_n (k := 1) (show decode cX3_forceOnce 0 = .ok (.iload_n 1, 1) by decide +kernel)) (
  mz_cons (mz_istore_n (k := 3) (by decide) (show decode cX3_forceOnce 1 = .ok (.istore_n 3, 1) by decide +kernel)) (
  mz_cons (mz_iconst 0 (by decide) (show decode cX3_forceOnce 2 = .ok (.iconst 0, 1) by decide +kernel)) (
  mz_cons (mz_istore (by decide) (show decode cX3_forceOnce 3 = .ok (.istore 4, 2) by decide +kernel)) (
  mz_cons (mz_iload (show decode cX3_forceOnce 5 = .ok (.iload 4, 2) by decide +kernel)) (
  mz_cons (mz_aload_n (k := 0) (show decode cX3_forceOnce 7 = .ok (.aload_n 0, 1) by decide +kernel)) (
  mz_cons (mz_getfield (C := RX3) (T := TX3) (N := 5) rfl mz_inX3 (by decide) mw_282 (show decode cX3_forceOnce 8 = .ok (.getfield 18, 3) by decide +kernel)) (
  mz_cons (mz_invV (n := 0) (ctr_X6_howMany E) rfl ⟨by decide, by decide, by decide +kernel⟩ ⟨by decide, by decide⟩ mw_386 mw_805 mw_384 mw_385 mw_65 (show decode cX3_forceOnce 11 = .ok (.invokevirtual 78, 3) by decide +kernel)) (
  mz_cons (mz_icmp_ge 108 (by decide) (show decode cX3_forceOnce 14 = .ok (.if_icmp .ge 94, 3) by decide +kernel)) (
  mz_cons (mz_iload_n (k := 1) (show decode cX3_forceOnce 17 = .ok (.iload_n 1, 1) by decide +kernel)) (
  mz_cons (mz_iload (show decode cX3_forceOnce 18 = .ok (.iload 4, 2) by decide +kernel)) (
  mz_cons (mz_invSN (n := 2) (host := "WettedNet") (ctr_X11_has E) ⟨by decide, by decide, by decide +kernel⟩ ⟨by decide, by decide⟩ mw_604 (by decide +kernel) mw_603 mw_61 (show decode cX3_forceOnce 20 = .ok (.invokestatic 26, 3) by decide +kernel)) (
  mz_cons (mz_if_eq 42 (by decide) (show decode cX3_forceOnce 23 = .ok (.ifCond .eq 19, 3) by decide +kernel)) (
  mz_cons (mz_aload_n (k := 0) (show decode cX3_forceOnce 26 = .ok (.aload_n 0, 1) by decide +kernel)) (
  mz_cons (mz_getfield (C := RX3) (T := TX3) (N := 5) rfl mz_inX3 (by decide) mw_282 (show decode cX3_forceOnce 27 = .ok (.getfield 18, 3) by decide +kernel)) (
  mz_cons (mz_iload (show decode cX3_forceOnce 30 = .ok (.iload 4, 2) by decide +kernel)) (
  mz_nil))))))))))))))))
noncomputable def ck_X3_forceOnce_1 : List (Nat × mz_O) := [(32, .inl (mz_call rn_X6_beside 2 (mz_ckV 6) 35)), (35, .inl (mz_ld mz_isI 1 36)), (36, .inl (mz_push (.inl (-1)) 37)), (37, .inl (mz_o2 mz_f_ixor 38)), (38, .inl (mz_o2 mz_f_iand 39)), (39, .inl (mz_go 43)), (42, .inl (mz_push (.inl 0) 43)), (43, .inl (mz_sto mz_isI mz_p1 5 45)), (45, .inl (mz_ld mz_isI 5 47)), (47, .inl (mz_call rn_J6_bitCount_0f7a4 1 mz_ckT 50)), (50, .inl (mz_push (.inl 1) 51)), (51, .inl (mz_j2 mz_eq 54 102)), (102, .inl (mz_inc 4 1 105)), (105, .inl (mz_go 5)), (108, .inl (mz_ld mz_isI 3 109)), (109, .inr (mz_rt mz_isI))]
theorem tk_X3_forceOnce_1 (E : List mz_V) : mz_all E tM_X3_forceOnce (ck_X3_forceOnce_1) :=
  mz_cons (mz_invV (n := 1) (ctr_X6_beside E) rfl ⟨by decide, by decide, by decide +kernel⟩ ⟨by decide, by decide⟩ mw_543 mw_806 mw_541 mw_542 mw_65 (show decode cX3_forceOnce 32 = .ok (.invokevirtual 81, 3) by decide +kernel)) (
  mz_cons (mz_iload_n (k := 1) (show decode cX3_forceOnce 35 = .ok (.iload_n 1, 1) by decide +kernel)) (
  mz_cons (mz_iconst (-1) (by decide) (show decode cX3_forceOnce 36 = .ok (.iconst (-1), 1) by decide +kernel)) (
  mz_cons (mz_ixor (show decode cX3_forceOnce 37 = .ok (.ixor, 1) by decide +kernel)) (
  mz_cons (mz_iand (show decode cX3_forceOnce 38 = .ok (.iand, 1) by decide +kernel)) (
  mz_cons (mz_goto 43 (by decide) (show decode cX3_forceOnce 39 = .ok (.goto 4, 3) by decide +kernel)) (
  mz_cons (mz_iconst 0 (by decide) (show decode cX3_forceOnce 42 = .ok (.iconst 0, 1) by decide +kernel)) (
  mz_cons (mz_istore (by decide) (show decode cX3_forceOnce 43 = .ok (.istore 5, 2) by decide +kernel)) (
  mz_cons (mz_iload (show decode cX3_forceOnce 45 = .ok (.iload 5, 2) by decide +kernel)) (
  mz_cons (mz_invS (n := 1) (ctr_J6_bitCount_0f7a4 E) ⟨by decide, by decide, by decide +kernel⟩ ⟨by decide, by decide⟩ mw_109 mw_807 mw_108 mw_64 (show decode cX3_forceOnce 47 = .ok (.invokestatic 60, 3) by decide +kernel)) (
  mz_cons (mz_iconst 1 (by decide) (show decode cX3_forceOnce 50 = .ok (.iconst 1, 1) by decide +kernel)) (
  mz_cons (mz_icmp_ne 102 (by decide) (show decode cX3_forceOnce 51 = .ok (.if_icmp .ne 51, 3) by decide +kernel)) (
  mz_cons (mz_iinc 1 (by decide) (by decide) (show decode cX3_forceOnce 102 = .ok (.iinc 4 1, 3) by decide +kernel)) (
  mz_cons (mz_goto 5 (by decide) (show decode cX3_forceOnce 105 = .ok (.goto (-100), 3) by decide +kernel)) (
  mz_cons (mz_iload_n (k := 3) (show decode cX3_forceOnce 108 = .ok (.iload_n 3, 1) by decide +kernel)) (
  mz_consR (mz_ireturn rfl (show decode cX3_forceOnce 109 = .ok (.ireturn, 1) by decide +kernel)) (
  mz_nil))))))))))))))))
noncomputable def tb_X3_forceOnce : List (Nat × List (Nat × mz_O)) := [(30, ck_X3_forceOnce_0), (109, ck_X3_forceOnce_1)]
theorem tok_X3_forceOnce (E : List mz_V) : mz_tok E tM_X3_forceOnce (tb_X3_forceOnce) := mz_tcons (tk_X3_forceOnce_0 E) (mz_tcons (tk_X3_forceOnce_1 E) (mz_tnil))
noncomputable def rn_X3_forceOnce : List mz_V → List mz_C → Option (Option mz_V × List mz_C) := mz_rn tb_X3_forceOnce 46 7
theorem ctr_X3_forceOnce (E : List mz_V) : mz_ctr E yX3_forceOnce tM_X3_forceOnce rn_X3_forceOnce := mz_ctr_of 46 (tok_X3_forceOnce E) (by decide) rfl rfl
abbrev tM_X3_burnFrom : mz_M := (cX3_burnFrom, 5, (some .int), RX3, "burnFrom", 3, 69)
noncomputable def ck_X3_burnFrom_0 : List (Nat × mz_O) := [(0, .inl (mz_push (.inl 0) 1)), (1, .inl (mz_sto mz_isI mz_p1 2 2)), (2, .inl (mz_ld mz_isI 2 3)), (3, .inl (mz_push (.inl 9) 5)), (5, .inl (mz_j2 mz_lt 8 40)), (8, .inl (mz_ld mz_isR 0 9)), (9, .inl (mz_gf 3 2 12)), (12, .inl (mz_ld mz_isI 2 13)), (13, .inl (mz_ld mz_isI 1 14)), (14, .inl (mz_ld mz_isI 2 15)), (15, .inl (mz_call rn_X11_has 2 mz_ckT 18)), (18, .inl (mz_j1 mz_eq0 25 21)), (21, .inl (mz_push (.inl 0) 22)), (22, .inl (mz_go 26)), (25, .inl (mz_push (.inl (-1)) 26)), (26, .inl (mz_ast false mz_isI 27))]
theorem tk_X3_burnFrom_0 (E : List mz_V) : mz_all E tM_X3_burnFrom (ck_X3_burnFrom_0) :=
  mz_cons (mz_iconst 0 (by decide) (show decode cX3_burnFrom 0 = .ok (.iconst 0, 1) by decide +kernel)) (
  mz_cons (mz_istore_n (k := 2) (by decide) (show decode cX3_burnFrom 1 = .ok (.istore_n 2, 1) by decide +kernel)) (
  mz_cons (mz_iload_n (k := 2) (show decode cX3_burnFrom 2 = .ok (.iload_n 2, 1) by decide +kernel)) (
  mz_cons (mz_bipush 9 (by decide) (show decode cX3_burnFrom 3 = .ok (.bipush 9, 2) by decide +kernel)) (
  mz_cons (mz_icmp_ge 40 (by decide) (show decode cX3_burnFrom 5 = .ok (.if_icmp .ge 35, 3) by decide +kernel)) (
  mz_cons (mz_aload_n (k := 0) (show decode cX3_burnFrom 8 = .ok (.aload_n 0, 1) by decide +kernel)) (
  mz_cons (mz_getfield (C := RX3) (T := TX3) (N := 5) rfl mz_inX3 (by decide) mw_284 (show decode cX3_burnFrom 9 = .ok (.getfield 9, 3) by decide +kernel)) (
  mz_cons (mz_iload_n (k := 2) (show decode cX3_burnFrom 12 = .ok (.iload_n 2, 1) by decide +kernel)) (
  mz_cons (mz_iload_n (k := 1) (show decode cX3_burnFrom 13 = .ok (.iload_n 1, 1) by decide +kernel)) (
  mz_cons (mz_iload_n (k := 2) (show decode cX3_burnFrom 14 = .ok (.iload_n 2, 1) by decide +kernel)) (
  mz_cons (mz_invSN (n := 2) (host := "WettedNet") (ctr_X11_has E) ⟨by decide, by decide, by decide +kernel⟩ ⟨by decide, by decide⟩ mw_604 (by decide +kernel) mw_603 mw_61 (show decode cX3_burnFrom 15 = .ok (.invokestatic 26, 3) by decide +kernel)) (
  mz_cons (mz_if_eq 25 (by decide) (show decode cX3_burnFrom 18 = .ok (.ifCond .eq 7, 3) by decide +kernel)) (
  mz_cons (mz_iconst 0 (by decide) (show decode cX3_burnFrom 21 = .ok (.iconst 0, 1) by decide +kernel)) (
  mz_cons (mz_goto 26 (by decide) (show decode cX3_burnFrom 22 = .ok (.goto 4, 3) by decide +kernel)) (
  mz_cons (mz_iconst (-1) (by decide) (show decode cX3_burnFrom 25 = .ok (.iconst (-1), 1) by decide +kernel)) (
  mz_cons (mz_iastore (show decode cX3_burnFrom 26 = .ok (.iastore, 1) by decide +kernel)) (
  mz_nil))))))))))))))))
noncomputable def ck_X3_burnFrom_1 : List (Nat × mz_O) := [(27, .inl (mz_ld mz_isR 0 28)), (28, .inl (mz_gf 3 3 31)), (31, .inl (mz_ld mz_isI 2 32)), (32, .inl (mz_push (.inl (-1)) 33)), (33, .inl (mz_ast false mz_isI 34)), (34, .inl (mz_inc 2 1 37)), (37, .inl (mz_go 2)), (40, .inl (mz_ld mz_isR 0 41)), (41, .inl (mz_push (.inl 0) 42)), (42, .inl (mz_pf 3 4 mz_isI 45)), (45, .inl (mz_ld mz_isI 1 46)), (46, .inl (mz_sto mz_isI mz_p1 2 47)), (47, .inl (mz_push (.inl 1) 48)), (48, .inl (mz_sto mz_isI mz_p1 3 49)), (49, .inl (mz_ld mz_isI 3 50)), (50, .inl (mz_push (.inl 9) 52))]
theorem tk_X3_burnFrom_1 (E : List mz_V) : mz_all E tM_X3_burnFrom (ck_X3_burnFrom_1) :=
  mz_cons (mz_aload_n (k := 0) (show decode cX3_burnFrom 27 = .ok (.aload_n 0, 1) by decide +kernel)) (
  mz_cons (mz_getfield (C := RX3) (T := TX3) (N := 5) rfl mz_inX3 (by decide) mw_285 (show decode cX3_burnFrom 28 = .ok (.getfield 15, 3) by decide +kernel)) (
  mz_cons (mz_iload_n (k := 2) (show decode cX3_burnFrom 31 = .ok (.iload_n 2, 1) by decide +kernel)) (
  mz_cons (mz_iconst (-1) (by decide) (show decode cX3_burnFrom 32 = .ok (.iconst (-1), 1) by decide +kernel)) (
  mz_cons (mz_iastore (show decode cX3_burnFrom 33 = .ok (.iastore, 1) by decide +kernel)) (
  mz_cons (mz_iinc 1 (by decide) (by decide) (show decode cX3_burnFrom 34 = .ok (.iinc 2 1, 3) by decide +kernel)) (
  mz_cons (mz_goto 2 (by decide) (show decode cX3_burnFrom 37 = .ok (.goto (-35), 3) by decide +kernel)) (
  mz_cons (mz_aload_n (k := 0) (show decode cX3_burnFrom 40 = .ok (.aload_n 0, 1) by decide +kernel)) (
  mz_cons (mz_iconst 0 (by decide) (show decode cX3_burnFrom 41 = .ok (.iconst 0, 1) by decide +kernel)) (
  mz_cons (mz_putfield (C := RX3) (T := TX3) (N := 5) rfl mz_inX3 tyX3_ok nmX3 (by decide) mz_fit_int rfl mw_286 (show decode cX3_burnFrom 42 = .ok (.putfield 30, 3) by decide +kernel)) (
  mz_cons (mz_iload_n (k := 1) (show decode cX3_burnFrom 45 = .ok (.iload_n 1, 1) by decide +kernel)) (
  mz_cons (mz_istore_n (k := 2) (by decide) (show decode cX3_burnFrom 46 = .ok (.istore_n 2, 1) by decide +kernel)) (
  mz_cons (mz_iconst 1 (by decide) (show decode cX3_burnFrom 47 = .ok (.iconst 1, 1) by decide +kernel)) (
  mz_cons (mz_istore_n (k := 3) (by decide) (show decode cX3_burnFrom 48 = .ok (.istore_n 3, 1) by decide +kernel)) (
  mz_cons (mz_iload_n (k := 3) (show decode cX3_burnFrom 49 = .ok (.iload_n 3, 1) by decide +kernel)) (
  mz_cons (mz_bipush 9 (by decide) (show decode cX3_burnFrom 50 = .ok (.bipush 9, 2) by decide +kernel)) (
  mz_nil))))))))))))))))
noncomputable def ck_X3_burnFrom_2 : List (Nat × mz_O) := [(52, .inl (mz_j2 mz_gt 85 55)), (55, .inl (mz_ld mz_isR 0 56)), (56, .inl (mz_ld mz_isI 2 57)), (57, .inl (mz_ld mz_isI 3 58)), (58, .inl (mz_call rn_X3_forceOnce 3 (mz_ckV 3) 61)), (61, .inl (mz_sto mz_isI mz_p1 4 63)), (63, .inl (mz_ld mz_isI 4 65)), (65, .inl (mz_ld mz_isI 2 66)), (66, .inl (mz_j2 mz_eq 69 71)), (69, .inl (mz_ld mz_isI 2 70)), (70, .inr (mz_rt mz_isI))]
theorem tk_X3_burnFrom_2 (E : List mz_V) : mz_all E tM_X3_burnFrom (ck_X3_burnFrom_2) :=
  mz_cons (mz_icmp_gt 85 (by decide) (show decode cX3_burnFrom 52 = .ok (.if_icmp .gt 33, 3) by decide +kernel)) (
  mz_cons (mz_aload_n (k := 0) (show decode cX3_burnFrom 55 = .ok (.aload_n 0, 1) by decide +kernel)) (
  mz_cons (mz_iload_n (k := 2) (show decode cX3_burnFrom 56 = .ok (.iload_n 2, 1) by decide +kernel)) (
  mz_cons (mz_iload_n (k := 3) (show decode cX3_burnFrom 57 = .ok (.iload_n 3, 1) by decide +kernel)) (
  mz_cons (mz_invV (n := 2) (ctr_X3_forceOnce E) rfl ⟨by decide, by decide, by decide +kernel⟩ ⟨by decide, by decide⟩ mw_804 mw_801 mw_803 mw_22 mw_71 (show decode cX3_burnFrom 58 = .ok (.invokevirtual 34, 3) by decide +kernel)) (
  mz_cons (mz_istore (by decide) (show decode cX3_burnFrom 61 = .ok (.istore 4, 2) by decide +kernel)) (
  mz_cons (mz_iload (show decode cX3_burnFrom 63 = .ok (.iload 4, 2) by decide +kernel)) (
  mz_cons (mz_iload_n (k := 2) (show decode cX3_burnFrom 65 = .ok (.iload_n 2, 1) by decide +kernel)) (
  mz_cons (mz_icmp_ne 71 (by decide) (show decode cX3_burnFrom 66 = .ok (.if_icmp .ne 5, 3) by decide +kernel)) (
  mz_cons (mz_iload_n (k := 2) (show decode cX3_burnFrom 69 = .ok (.iload_n 2, 1) by decide +kernel)) (
  mz_consR (mz_ireturn rfl (show decode cX3_burnFrom 70 = .ok (.ireturn, 1) by decide +kernel)) (
  mz_nil)))))))))))
noncomputable def tb_X3_burnFrom : List (Nat × List (Nat × mz_O)) := [(26, ck_X3_burnFrom_0), (50, ck_X3_burnFrom_1), (70, ck_X3_burnFrom_2)]
theorem tok_X3_burnFrom (E : List mz_V) : mz_tok E tM_X3_burnFrom (tb_X3_burnFrom) := mz_tcons (tk_X3_burnFrom_0 E) (mz_tcons (tk_X3_burnFrom_1 E) (mz_tcons (tk_X3_burnFrom_2 E) (mz_tnil)))
noncomputable def rn_X3_burnFrom : List mz_V → List mz_C → Option (Option mz_V × List mz_C) := mz_rn tb_X3_burnFrom 207 5
theorem ctr_X3_burnFrom (E : List mz_V) : mz_ctr E yX3_burnFrom tM_X3_burnFrom rn_X3_burnFrom := mz_ctr_of 207 (tok_X3_burnFrom E) (by decide) rfl rfl
abbrev tM_X3_forcerOf : mz_M := (cX3_forcerOf, 2, (some .int), RX3, "forcerOf", 2, 43)
noncomputable def ck_X3_forcerOf_0 : List (Nat × mz_O) := [(0, .inl (mz_ld mz_isR 0 1)), (1, .inl (mz_gf 3 0 4)), (4, .inl (mz_ld mz_isI 1 5)), (5, .inl (mz_call rn_X6_isRoom 2 (mz_ckV 6) 8)), (8, .inl (mz_j1 mz_eq0 20 11)), (11, .inl (mz_ld mz_isR 0 12)), (12, .inl (mz_gf 3 3 15)), (15, .inl (mz_ld mz_isI 1 16)), (16, .inl (mz_al false 17)), (17, .inl (mz_go 21)), (21, .inr (mz_rt mz_isI))]
theorem tk_X3_forcerOf_0 (E : List mz_V) : mz_all E tM_X3_forcerOf (ck_X3_forcerOf_0) :=
  mz_cons (mz_aload_n (k := 0) (show decode cX3_forcerOf 0 = .ok (.aload_n 0, 1) by decide +kernel)) (
  mz_cons (mz_getfield (C := RX3) (T := TX3) (N := 5) rfl mz_inX3 (by decide) mw_282 (show decode cX3_forcerOf 1 = .ok (.getfield 18, 3) by decide +kernel)) (
  mz_cons (mz_iload_n (k := 1) (show decode cX3_forcerOf 4 = .ok (.iload_n 1, 1) by decide +kernel)) (
  mz_cons (mz_invV (n := 1) (ctr_X6_isRoom E) rfl ⟨by decide, by decide, by decide +kernel⟩ ⟨by decide, by decide⟩ mw_522 mw_812 mw_520 mw_521 mw_65 (show decode cX3_forcerOf 5 = .ok (.invokevirtual 38, 3) by decide +kernel)) (
  mz_cons (mz_if_eq 20 (by decide) (show decode cX3_forcerOf 8 = .ok (.ifCond .eq 12, 3) by decide +kernel)) (
  mz_cons (mz_aload_n (k := 0) (show decode cX3_forcerOf 11 = .ok (.aload_n 0, 1) by decide +kernel)) (
  mz_cons (mz_getfield (C := RX3) (T := TX3) (N := 5) rfl mz_inX3 (by decide) mw_285 (show decode cX3_forcerOf 12 = .ok (.getfield 15, 3) by decide +kernel)) (
  mz_cons (mz_iload_n (k := 1) (show decode cX3_forcerOf 15 = .ok (.iload_n 1, 1) by decide +kernel)) (
  mz_cons (mz_iaload (show decode cX3_forcerOf 16 = .ok (.iaload, 1) by decide +kernel)) (
  mz_cons (mz_goto 21 (by decide) (show decode cX3_forcerOf 17 = .ok (.goto 4, 3) by decide +kernel)) (
  mz_consR (mz_ireturn rfl (show decode cX3_forcerOf 21 = .ok (.ireturn, 1) by decide +kernel)) (
  mz_nil)))))))))))
noncomputable def tb_X3_forcerOf : List (Nat × List (Nat × mz_O)) := [(21, ck_X3_forcerOf_0)]
theorem tok_X3_forcerOf (E : List mz_V) : mz_tok E tM_X3_forcerOf (tb_X3_forcerOf) := mz_tcons (tk_X3_forcerOf_0 E) (mz_tnil)
noncomputable def rn_X3_forcerOf : List mz_V → List mz_C → Option (Option mz_V × List mz_C) := mz_rn tb_X3_forcerOf 21 2
theorem ctr_X3_forcerOf (E : List mz_V) : mz_ctr E yX3_forcerOf tM_X3_forcerOf rn_X3_forcerOf := mz_ctr_of 21 (tok_X3_forcerOf E) (by decide) rfl rfl
abbrev tM_X3_roundOf : mz_M := (cX3_roundOf, 2, (some .int), RX3, "roundOf", 2, 43)
noncomputable def ck_X3_roundOf_0 : List (Nat × mz_O) := [(0, .inl (mz_ld mz_isR 0 1)), (1, .inl (mz_gf 3 0 4)), (4, .inl (mz_ld mz_isI 1 5)), (5, .inl (mz_call rn_X6_isRoom 2 (mz_ckV 6) 8)), (8, .inl (mz_j1 mz_eq0 20 11)), (11, .inl (mz_ld mz_isR 0 12)), (12, .inl (mz_gf 3 2 15)), (15, .inl (mz_ld mz_isI 1 16)), (16, .inl (mz_al false 17)), (17, .inl (mz_go 21)), (21, .inr (mz_rt mz_isI))]
theorem tk_X3_roundOf_0 (E : List mz_V) : mz_all E tM_X3_roundOf (ck_X3_roundOf_0) :=
  mz_cons (mz_aload_n (k := 0) (show decode cX3_roundOf 0 = .ok (.aload_n 0, 1) by decide +kernel)) (
  mz_cons (mz_getfield (C := RX3) (T := TX3) (N := 5) rfl mz_inX3 (by decide) mw_282 (show decode cX3_roundOf 1 = .ok (.getfield 18, 3) by decide +kernel)) (
  mz_cons (mz_iload_n (k := 1) (show decode cX3_roundOf 4 = .ok (.iload_n 1, 1) by decide +kernel)) (
  mz_cons (mz_invV (n := 1) (ctr_X6_isRoom E) rfl ⟨by decide, by decide, by decide +kernel⟩ ⟨by decide, by decide⟩ mw_522 mw_812 mw_520 mw_521 mw_65 (show decode cX3_roundOf 5 = .ok (.invokevirtual 38, 3) by decide +kernel)) (
  mz_cons (mz_if_eq 20 (by decide) (show decode cX3_roundOf 8 = .ok (.ifCond .eq 12, 3) by decide +kernel)) (
  mz_cons (mz_aload_n (k := 0) (show decode cX3_roundOf 11 = .ok (.aload_n 0, 1) by decide +kernel)) (
  mz_cons (mz_getfield (C := RX3) (T := TX3) (N := 5) rfl mz_inX3 (by decide) mw_284 (show decode cX3_roundOf 12 = .ok (.getfield 9, 3) by decide +kernel)) (
  mz_cons (mz_iload_n (k := 1) (show decode cX3_roundOf 15 = .ok (.iload_n 1, 1) by decide +kernel)) (
  mz_cons (mz_iaload (show decode cX3_roundOf 16 = .ok (.iaload, 1) by decide +kernel)) (
  mz_cons (mz_goto 21 (by decide) (show decode cX3_roundOf 17 = .ok (.goto 4, 3) by decide +kernel)) (
  mz_consR (mz_ireturn rfl (show decode cX3_roundOf 21 = .ok (.ireturn, 1) by decide +kernel)) (
  mz_nil)))))))))))
noncomputable def tb_X3_roundOf : List (Nat × List (Nat × mz_O)) := [(21, ck_X3_roundOf_0)]
theorem tok_X3_roundOf (E : List mz_V) : mz_tok E tM_X3_roundOf (tb_X3_roundOf) := mz_tcons (tk_X3_roundOf_0 E) (mz_tnil)
noncomputable def rn_X3_roundOf : List mz_V → List mz_C → Option (Option mz_V × List mz_C) := mz_rn tb_X3_roundOf 21 2
theorem ctr_X3_roundOf (E : List mz_V) : mz_ctr E yX3_roundOf tM_X3_roundOf rn_X3_roundOf := mz_ctr_of 21 (tok_X3_roundOf E) (by decide) rfl rfl
abbrev tM_X11_forced : mz_M := (cX11_forced, 5, (some .int), RX11, "forced", 4, 93)
noncomputable def ck_X11_forced_0 : List (Nat × mz_O) := [(0, .inl (mz_ld mz_isI 2 1)), (1, .inl (mz_push (.inl (-1)) 2)), (2, .inl (mz_j2 mz_eq 19 5)), (5, .inl (mz_ld mz_isR 0 6)), (6, .inl (mz_gf 11 0 9)), (9, .inl (mz_ld mz_isI 2 10)), (10, .inl (mz_call rn_X6_isRoom 2 (mz_ckV 6) 13)), (13, .inl (mz_j1 mz_eq0 16 19)), (16, .inl (mz_push (.inl (-2)) 18)), (18, .inr (mz_rt mz_isI)), (19, .inl (mz_ld mz_isR 0 20)), (20, .inl (mz_gf 11 0 23)), (23, .inl (mz_ld mz_isI 1 24)), (24, .inl (mz_call rn_X6_isSet 2 (mz_ckV 6) 27)), (27, .inl (mz_j1 mz_eq0 44 30)), (30, .inl (mz_ld mz_isI 2 31))]
theorem tk_X11_forced_0 (E : List mz_V) : mz_all E tM_X11_forced (ck_X11_forced_0) :=
  mz_cons (mz_iload_n (k := 2) (show decode cX11_forced 0 = .ok (.iload_n 2, 1) by decide +kernel)) (
  mz_cons (mz_iconst (-1) (by decide) (show decode cX11_forced 1 = .ok (.iconst (-1), 1) by decide +kernel)) (
  mz_cons (mz_icmp_eq 19 (by decide) (show decode cX11_forced 2 = .ok (.if_icmp .eq 17, 3) by decide +kernel)) (
  mz_cons (mz_aload_n (k := 0) (show decode cX11_forced 5 = .ok (.aload_n 0, 1) by decide +kernel)) (
  mz_cons (mz_getfield (C := RX11) (T := TX11) (N := 9) rfl mz_inX11 (by decide) mw_330 (show decode cX11_forced 6 = .ok (.getfield 18, 3) by decide +kernel)) (
  mz_cons (mz_iload_n (k := 2) (show decode cX11_forced 9 = .ok (.iload_n 2, 1) by decide +kernel)) (
  mz_cons (mz_invV (n := 1) (ctr_X6_isRoom E) rfl ⟨by decide, by decide, by decide +kernel⟩ ⟨by decide, by decide⟩ mw_522 mw_539 mw_520 mw_521 mw_65 (show decode cX11_forced 10 = .ok (.invokevirtual 129, 3) by decide +kernel)) (
  mz_cons (mz_if_ne 19 (by decide) (show decode cX11_forced 13 = .ok (.ifCond .ne 6, 3) by decide +kernel)) (
  mz_cons (mz_bipush (-2) (by decide) (show decode cX11_forced 16 = .ok (.bipush (-2), 2) by decide +kernel)) (
  mz_consR (mz_ireturn rfl (show decode cX11_forced 18 = .ok (.ireturn, 1) by decide +kernel)) (
  mz_cons (mz_aload_n (k := 0) (show decode cX11_forced 19 = .ok (.aload_n 0, 1) by decide +kernel)) (
  mz_cons (mz_getfield (C := RX11) (T := TX11) (N := 9) rfl mz_inX11 (by decide) mw_330 (show decode cX11_forced 20 = .ok (.getfield 18, 3) by decide +kernel)) (
  mz_cons (mz_iload_n (k := 1) (show decode cX11_forced 23 = .ok (.iload_n 1, 1) by decide +kernel)) (
  mz_cons (mz_invV (n := 1) (ctr_X6_isSet E) rfl ⟨by decide, by decide, by decide +kernel⟩ ⟨by decide, by decide⟩ mw_563 mw_560 mw_561 mw_562 mw_65 (show decode cX11_forced 24 = .ok (.invokevirtual 145, 3) by decide +kernel)) (
  mz_cons (mz_if_eq 44 (by decide) (show decode cX11_forced 27 = .ok (.ifCond .eq 17, 3) by decide +kernel)) (
  mz_cons (mz_iload_n (k := 2) (show decode cX11_forced 30 = .ok (.iload_n 2, 1) by decide +kernel)) (
  mz_nil))))))))))))))))
noncomputable def ck_X11_forced_1 : List (Nat × mz_O) := [(31, .inl (mz_push (.inl (-1)) 32)), (32, .inl (mz_j2 mz_eq 47 35)), (35, .inl (mz_ld mz_isI 3 36)), (36, .inl (mz_push (.inl 0) 37)), (37, .inl (mz_push (.inl 1) 38)), (38, .inl (mz_call rn_X11_within 3 mz_ckT 41)), (41, .inl (mz_j1 mz_eq0 44 47)), (44, .inl (mz_push (.inl (-3)) 46)), (46, .inr (mz_rt mz_isI)), (47, .inl (mz_ld mz_isR 0 48)), (48, .inl (mz_gf 11 6 51)), (51, .inl (mz_ld mz_isI 1 52)), (52, .inl (mz_call rn_X3_burnFrom 2 (mz_ckV 3) 55)), (55, .inl (mz_sto mz_isI mz_p1 4 57)), (57, .inl (mz_ld mz_isI 2 58)), (58, .inl (mz_push (.inl (-1)) 59))]
theorem tk_X11_forced_1 (E : List mz_V) : mz_all E tM_X11_forced (ck_X11_forced_1) :=
  mz_cons (mz_iconst (-1) (by decide) (show decode cX11_forced 31 = .ok (.iconst (-1), 1) by decide +kernel)) (
  mz_cons (mz_icmp_eq 47 (by decide) (show decode cX11_forced 32 = .ok (.if_icmp .eq 15, 3) by decide +kernel)) (
  mz_cons (mz_iload_n (k := 3) (show decode cX11_forced 35 = .ok (.iload_n 3, 1) by decide +kernel)) (
  mz_cons (mz_iconst 0 (by decide) (show decode cX11_forced 36 = .ok (.iconst 0, 1) by decide +kernel)) (
  mz_cons (mz_iconst 1 (by decide) (show decode cX11_forced 37 = .ok (.iconst 1, 1) by decide +kernel)) (
  mz_cons (mz_invS (n := 3) (ctr_X11_within E) ⟨by decide, by decide, by decide +kernel⟩ ⟨by decide, by decide⟩ mw_140 mw_362 mw_139 mw_61 (show decode cX11_forced 38 = .ok (.invokestatic 88, 3) by decide +kernel)) (
  mz_cons (mz_if_ne 47 (by decide) (show decode cX11_forced 41 = .ok (.ifCond .ne 6, 3) by decide +kernel)) (
  mz_cons (mz_bipush (-3) (by decide) (show decode cX11_forced 44 = .ok (.bipush (-3), 2) by decide +kernel)) (
  mz_consR (mz_ireturn rfl (show decode cX11_forced 46 = .ok (.ireturn, 1) by decide +kernel)) (
  mz_cons (mz_aload_n (k := 0) (show decode cX11_forced 47 = .ok (.aload_n 0, 1) by decide +kernel)) (
  mz_cons (mz_getfield (C := RX11) (T := TX11) (N := 9) rfl mz_inX11 (by decide) mw_336 (show decode cX11_forced 48 = .ok (.getfield 68, 3) by decide +kernel)) (
  mz_cons (mz_iload_n (k := 1) (show decode cX11_forced 51 = .ok (.iload_n 1, 1) by decide +kernel)) (
  mz_cons (mz_invV (n := 1) (ctr_X3_burnFrom E) rfl ⟨by decide, by decide, by decide +kernel⟩ ⟨by decide, by decide⟩ mw_799 mw_796 mw_797 mw_798 mw_71 (show decode cX11_forced 52 = .ok (.invokevirtual 209, 3) by decide +kernel)) (
  mz_cons (mz_istore (by decide) (show decode cX11_forced 55 = .ok (.istore 4, 2) by decide +kernel)) (
  mz_cons (mz_iload_n (k := 2) (show decode cX11_forced 57 = .ok (.iload_n 2, 1) by decide +kernel)) (
  mz_cons (mz_iconst (-1) (by decide) (show decode cX11_forced 58 = .ok (.iconst (-1), 1) by decide +kernel)) (
  mz_nil))))))))))))))))
noncomputable def ck_X11_forced_2 : List (Nat × mz_O) := [(59, .inl (mz_j2 mz_eq 62 65)), (62, .inl (mz_ld mz_isI 4 64)), (64, .inr (mz_rt mz_isI)), (65, .inl (mz_ld mz_isI 3 66)), (66, .inl (mz_j1 mz_eq0 69 80)), (69, .inl (mz_ld mz_isR 0 70)), (70, .inl (mz_gf 11 6 73)), (73, .inl (mz_ld mz_isI 2 74)), (74, .inl (mz_call rn_X3_roundOf 2 (mz_ckV 3) 77)), (77, .inl (mz_go 88)), (80, .inl (mz_ld mz_isR 0 81)), (81, .inl (mz_gf 11 6 84)), (84, .inl (mz_ld mz_isI 2 85)), (85, .inl (mz_call rn_X3_forcerOf 2 (mz_ckV 3) 88)), (88, .inr (mz_rt mz_isI))]
theorem tk_X11_forced_2 (E : List mz_V) : mz_all E tM_X11_forced (ck_X11_forced_2) :=
  mz_cons (mz_icmp_ne 65 (by decide) (show decode cX11_forced 59 = .ok (.if_icmp .ne 6, 3) by decide +kernel)) (
  mz_cons (mz_iload (show decode cX11_forced 62 = .ok (.iload 4, 2) by decide +kernel)) (
  mz_consR (mz_ireturn rfl (show decode cX11_forced 64 = .ok (.ireturn, 1) by decide +kernel)) (
  mz_cons (mz_iload_n (k := 3) (show decode cX11_forced 65 = .ok (.iload_n 3, 1) by decide +kernel)) (
  mz_cons (mz_if_ne 80 (by decide) (show decode cX11_forced 66 = .ok (.ifCond .ne 14, 3) by decide +kernel)) (
  mz_cons (mz_aload_n (k := 0) (show decode cX11_forced 69 = .ok (.aload_n 0, 1) by decide +kernel)) (
  mz_cons (mz_getfield (C := RX11) (T := TX11) (N := 9) rfl mz_inX11 (by decide) mw_336 (show decode cX11_forced 70 = .ok (.getfield 68, 3) by decide +kernel)) (
  mz_cons (mz_iload_n (k := 2) (show decode cX11_forced 73 = .ok (.iload_n 2, 1) by decide +kernel)) (
  mz_cons (mz_invV (n := 1) (ctr_X3_roundOf E) rfl ⟨by decide, by decide, by decide +kernel⟩ ⟨by decide, by decide⟩ mw_816 mw_813 mw_814 mw_815 mw_71 (show decode cX11_forced 74 = .ok (.invokevirtual 211, 3) by decide +kernel)) (
  mz_cons (mz_goto 88 (by decide) (show decode cX11_forced 77 = .ok (.goto 11, 3) by decide +kernel)) (
  mz_cons (mz_aload_n (k := 0) (show decode cX11_forced 80 = .ok (.aload_n 0, 1) by decide +kernel)) (
  mz_cons (mz_getfield (C := RX11) (T := TX11) (N := 9) rfl mz_inX11 (by decide) mw_336 (show decode cX11_forced 81 = .ok (.getfield 68, 3) by decide +kernel)) (
  mz_cons (mz_iload_n (k := 2) (show decode cX11_forced 84 = .ok (.iload_n 2, 1) by decide +kernel)) (
  mz_cons (mz_invV (n := 1) (ctr_X3_forcerOf E) rfl ⟨by decide, by decide, by decide +kernel⟩ ⟨by decide, by decide⟩ mw_820 mw_817 mw_818 mw_819 mw_71 (show decode cX11_forced 85 = .ok (.invokevirtual 214, 3) by decide +kernel)) (
  mz_consR (mz_ireturn rfl (show decode cX11_forced 88 = .ok (.ireturn, 1) by decide +kernel)) (
  mz_nil)))))))))))))))
noncomputable def tb_X11_forced : List (Nat × List (Nat × mz_O)) := [(30, ck_X11_forced_0), (58, ck_X11_forced_1), (88, ck_X11_forced_2)]
theorem tok_X11_forced (E : List mz_V) : mz_tok E tM_X11_forced (tb_X11_forced) := mz_tcons (tk_X11_forced_0 E) (mz_tcons (tk_X11_forced_1 E) (mz_tcons (tk_X11_forced_2 E) (mz_tnil)))
noncomputable def rn_X11_forced : List mz_V → List mz_C → Option (Option mz_V × List mz_C) := mz_rn tb_X11_forced 47 5
theorem ctr_X11_forced (E : List mz_V) : mz_ctr E yX11_forced tM_X11_forced rn_X11_forced := mz_ctr_of 47 (tok_X11_forced E) (by decide) rfl rfl
abbrev tM_X3_forcesAll : mz_M := (cX3_forcesAll, 2, (some .boolean), RX3, "forcesAll", 4, 93)
noncomputable def ck_X3_forcesAll_0 : List (Nat × mz_O) := [(0, .inl (mz_ld mz_isR 0 1)), (1, .inl (mz_gf 3 0 4)), (4, .inl (mz_ld mz_isI 1 5)), (5, .inl (mz_call rn_X6_isSet 2 (mz_ckV 6) 8)), (8, .inl (mz_j1 mz_eq0 30 11)), (11, .inl (mz_ld mz_isR 0 12)), (12, .inl (mz_ld mz_isI 1 13)), (13, .inl (mz_call rn_X3_burnFrom 2 (mz_ckV 3) 16)), (16, .inl (mz_ld mz_isR 0 17)), (17, .inl (mz_gf 3 0 20)), (20, .inl (mz_call rn_X6_all 1 (mz_ckV 6) 23)), (23, .inl (mz_j2 mz_eq 26 30)), (26, .inl (mz_push (.inl 1) 27)), (27, .inl (mz_go 31)), (30, .inl (mz_push (.inl 0) 31)), (31, .inr (mz_rt mz_is01))]
theorem tk_X3_forcesAll_0 (E : List mz_V) : mz_all E tM_X3_forcesAll (ck_X3_forcesAll_0) :=
  mz_cons (mz_aload_n (k := 0) (show decode cX3_forcesAll 0 = .ok (.aload_n 0, 1) by decide +kernel)) (
  mz_cons (mz_getfield (C := RX3) (T := TX3) (N := 5) rfl mz_inX3 (by decide) mw_282 (show decode cX3_forcesAll 1 = .ok (.getfield 18, 3) by decide +kernel)) (
  mz_cons (mz_iload_n (k := 1) (show decode cX3_forcesAll 4 = .ok (.iload_n 1, 1) by decide +kernel)) (
  mz_cons (mz_invV (n := 1) (ctr_X6_isSet E) rfl ⟨by decide, by decide, by decide +kernel⟩ ⟨by decide, by decide⟩ mw_563 mw_834 mw_561 mw_562 mw_65 (show decode cX3_forcesAll 5 = .ok (.invokevirtual 72, 3) by decide +kernel)) (
  mz_cons (mz_if_eq 30 (by decide) (show decode cX3_forcesAll 8 = .ok (.ifCond .eq 22, 3) by decide +kernel)) (
  mz_cons (mz_aload_n (k := 0) (show decode cX3_forcesAll 11 = .ok (.aload_n 0, 1) by decide +kernel)) (
  mz_cons (mz_iload_n (k := 1) (show decode cX3_forcesAll 12 = .ok (.iload_n 1, 1) by decide +kernel)) (
  mz_cons (mz_invV (n := 1) (ctr_X3_burnFrom E) rfl ⟨by decide, by decide, by decide +kernel⟩ ⟨by decide, by decide⟩ mw_799 mw_835 mw_797 mw_798 mw_71 (show decode cX3_forcesAll 13 = .ok (.invokevirtual 75, 3) by decide +kernel)) (
  mz_cons (mz_aload_n (k := 0) (show decode cX3_forcesAll 16 = .ok (.aload_n 0, 1) by decide +kernel)) (
  mz_cons (mz_getfield (C := RX3) (T := TX3) (N := 5) rfl mz_inX3 (by decide) mw_282 (show decode cX3_forcesAll 17 = .ok (.getfield 18, 3) by decide +kernel)) (
  mz_cons (mz_invV (n := 0) (ctr_X6_all E) rfl ⟨by decide, by decide, by decide +kernel⟩ ⟨by decide, by decide⟩ mw_567 mw_836 mw_565 mw_566 mw_65 (show decode cX3_forcesAll 20 = .ok (.invokevirtual 53, 3) by decide +kernel)) (
  mz_cons (mz_icmp_ne 30 (by decide) (show decode cX3_forcesAll 23 = .ok (.if_icmp .ne 7, 3) by decide +kernel)) (
  mz_cons (mz_iconst 1 (by decide) (show decode cX3_forcesAll 26 = .ok (.iconst 1, 1) by decide +kernel)) (
  mz_cons (mz_goto 31 (by decide) (show decode cX3_forcesAll 27 = .ok (.goto 4, 3) by decide +kernel)) (
  mz_cons (mz_iconst 0 (by decide) (show decode cX3_forcesAll 30 = .ok (.iconst 0, 1) by decide +kernel)) (
  mz_consR (mz_zreturn rfl (show decode cX3_forcesAll 31 = .ok (.ireturn, 1) by decide +kernel)) (
  mz_nil))))))))))))))))
noncomputable def tb_X3_forcesAll : List (Nat × List (Nat × mz_O)) := [(31, ck_X3_forcesAll_0)]
theorem tok_X3_forcesAll (E : List mz_V) : mz_tok E tM_X3_forcesAll (tb_X3_forcesAll) := mz_tcons (tk_X3_forcesAll_0 E) (mz_tnil)
noncomputable def rn_X3_forcesAll : List mz_V → List mz_C → Option (Option mz_V × List mz_C) := mz_rn tb_X3_forcesAll 25 2
theorem ctr_X3_forcesAll (E : List mz_V) : mz_ctr E yX3_forcesAll tM_X3_forcesAll rn_X3_forcesAll := mz_ctr_of 25 (tok_X3_forcesAll E) (by decide) rfl rfl
abbrev tM_X3_costOf : mz_M := (cX3_costOf, 2, (some .int), RX3, "costOf", 5, 114)
noncomputable def ck_X3_costOf_0 : List (Nat × mz_O) := [(0, .inl (mz_ld mz_isR 0 1)), (1, .inl (mz_ld mz_isI 1 2)), (2, .inl (mz_call rn_X3_forcesAll 2 (mz_ckV 3) 5)), (5, .inl (mz_j1 mz_eq0 20 8)), (8, .inl (mz_ld mz_isI 1 9)), (9, .inl (mz_call rn_J6_bitCount_0f7a4 1 mz_ckT 12)), (12, .inl (mz_ld mz_isR 0 13)), (13, .inl (mz_gf 3 4 16)), (16, .inl (mz_o2 mz_f_iadd 17)), (17, .inl (mz_go 22)), (20, .inl (mz_push (.inl 1000000) 22)), (22, .inr (mz_rt mz_isI))]
theorem tk_X3_costOf_0 (E : List mz_V) : mz_all E tM_X3_costOf (ck_X3_costOf_0) :=
  mz_cons (mz_aload_n (k := 0) (show decode cX3_costOf 0 = .ok (.aload_n 0, 1) by decide +kernel)) (
  mz_cons (mz_iload_n (k := 1) (show decode cX3_costOf 1 = .ok (.iload_n 1, 1) by decide +kernel)) (
  mz_cons (mz_invV (n := 1) (ctr_X3_forcesAll E) rfl ⟨by decide, by decide, by decide +kernel⟩ ⟨by decide, by decide⟩ mw_833 mw_830 mw_832 mw_23 mw_71 (show decode cX3_costOf 2 = .ok (.invokevirtual 50, 3) by decide +kernel)) (
  mz_cons (mz_if_eq 20 (by decide) (show decode cX3_costOf 5 = .ok (.ifCond .eq 15, 3) by decide +kernel)) (
  mz_cons (mz_iload_n (k := 1) (show decode cX3_costOf 8 = .ok (.iload_n 1, 1) by decide +kernel)) (
  mz_cons (mz_invS (n := 1) (ctr_J6_bitCount_0f7a4 E) ⟨by decide, by decide, by decide +kernel⟩ ⟨by decide, by decide⟩ mw_109 mw_807 mw_108 mw_64 (show decode cX3_costOf 9 = .ok (.invokestatic 60, 3) by decide +kernel)) (
  mz_cons (mz_aload_n (k := 0) (show decode cX3_costOf 12 = .ok (.aload_n 0, 1) by decide +kernel)) (
  mz_cons (mz_getfield (C := RX3) (T := TX3) (N := 5) rfl mz_inX3 (by decide) mw_286 (show decode cX3_costOf 13 = .ok (.getfield 30, 3) by decide +kernel)) (
  mz_cons (mz_iadd (show decode cX3_costOf 16 = .ok (.iadd, 1) by decide +kernel)) (
  mz_cons (mz_goto 22 (by decide) (show decode cX3_costOf 17 = .ok (.goto 5, 3) by decide +kernel)) (
  mz_cons (mz_ldc mw_847 (show decode cX3_costOf 20 = .ok (.ldc 68, 2) by decide +kernel)) (
  mz_consR (mz_ireturn rfl (show decode cX3_costOf 22 = .ok (.ireturn, 1) by decide +kernel)) (
  mz_nil))))))))))))
noncomputable def tb_X3_costOf : List (Nat × List (Nat × mz_O)) := [(22, ck_X3_costOf_0)]
theorem tok_X3_costOf (E : List mz_V) : mz_tok E tM_X3_costOf (tb_X3_costOf) := mz_tcons (tk_X3_costOf_0 E) (mz_tnil)
noncomputable def rn_X3_costOf : List mz_V → List mz_C → Option (Option mz_V × List mz_C) := mz_rn tb_X3_costOf 21 2
theorem ctr_X3_costOf (E : List mz_V) : mz_ctr E yX3_costOf tM_X3_costOf rn_X3_costOf := mz_ctr_of 21 (tok_X3_costOf E) (by decide) rfl rfl
abbrev tM_X3_cheapest : mz_M := (cX3_cheapest, 5, (some .int), RX3, "cheapest", 6, 135)
noncomputable def ck_X3_cheapest_0 : List (Nat × mz_O) := [(0, .inl (mz_ld mz_isR 0 1)), (1, .inl (mz_gf 3 0 4)), (4, .inl (mz_call rn_X6_all 1 (mz_ckV 6) 7)), (7, .inl (mz_sto mz_isI mz_p1 1 8)), (8, .inl (mz_push (.inl 1000000) 10)), (10, .inl (mz_sto mz_isI mz_p1 2 11)), (11, .inl (mz_push (.inl 0) 12)), (12, .inl (mz_sto mz_isI mz_p1 3 13)), (13, .inl (mz_ld mz_isI 3 14)), (14, .inl (mz_ld mz_isR 0 15)), (15, .inl (mz_gf 3 0 18)), (18, .inl (mz_call rn_X6_all 1 (mz_ckV 6) 21)), (21, .inl (mz_j2 mz_gt 61 24)), (24, .inl (mz_ld mz_isI 3 25)), (25, .inl (mz_call rn_J6_bitCount_0f7a4 1 mz_ckT 28)), (28, .inl (mz_ld mz_isI 2 29))]
theorem tk_X3_cheapest_0 (E : List mz_V) : mz_all E tM_X3_cheapest (ck_X3_cheapest_0) :=
  mz_cons (mz_aload_n (k := 0) (show decode cX3_cheapest 0 = .ok (.aload_n 0, 1) by decide +kernel)) (
  mz_cons (mz_getfield (C := RX3) (T := TX3) (N := 5) rfl mz_inX3 (by decide) mw_282 (show decode cX3_cheapest 1 = .ok (.getfield 18, 3) by decide +kernel)) (
  mz_cons (mz_invV (n := 0) (ctr_X6_all E) rfl ⟨by decide, by decide, by decide +kernel⟩ ⟨by decide, by decide⟩ mw_567 mw_836 mw_565 mw_566 mw_65 (show decode cX3_cheapest 4 = .ok (.invokevirtual 53, 3) by decide +kernel)) (
  mz_cons (mz_istore_n (k := 1) (by decide) (show decode cX3_cheapest 7 = .ok (.istore_n 1, 1) by decide +kernel)) (
  mz_cons (mz_ldc mw_847 (show decode cX3_cheapest 8 = .ok (.ldc 68, 2) by decide +kernel)) (
  mz_cons (mz_istore_n (k := 2) (by decide) (show decode cX3_cheapest 10 = .ok (.istore_n 2, 1) by decide +kernel)) (
  mz_cons (mz_iconst 0 (by decide) (show decode cX3_cheapest 11 = .ok (.iconst 0, 1) by decide +kernel)) (
  mz_cons (mz_istore_n (k := 3) (by decide) (show decode cX3_cheapest 12 = .ok (.istore_n 3, 1) by decide +kernel)) (
  mz_cons (mz_iload_n (k := 3) (show decode cX3_cheapest 13 = .ok (.iload_n 3, 1) by decide +kernel)) (
  mz_cons (mz_aload_n (k := 0) (show decode cX3_cheapest 14 = .ok (.aload_n 0, 1) by decide +kernel)) (
  mz_cons (mz_getfield (C := RX3) (T := TX3) (N := 5) rfl mz_inX3 (by decide) mw_282 (show decode cX3_cheapest 15 = .ok (.getfield 18, 3) by decide +kernel)) (
  mz_cons (mz_invV (n := 0) (ctr_X6_all E) rfl ⟨by decide, by decide, by decide +kernel⟩ ⟨by decide, by decide⟩ mw_567 mw_836 mw_565 mw_566 mw_65 (show decode cX3_cheapest 18 = .ok (.invokevirtual 53, 3) by decide +kernel)) (
  mz_cons (mz_icmp_gt 61 (by decide) (show decode cX3_cheapest 21 = .ok (.if_icmp .gt 40, 3) by decide +kernel)) (
  mz_cons (mz_iload_n (k := 3) (show decode cX3_cheapest 24 = .ok (.iload_n 3, 1) by decide +kernel)) (
  mz_cons (mz_invS (n := 1) (ctr_J6_bitCount_0f7a4 E) ⟨by decide, by decide, by decide +kernel⟩ ⟨by decide, by decide⟩ mw_109 mw_807 mw_108 mw_64 (show decode cX3_cheapest 25 = .ok (.invokestatic 60, 3) by decide +kernel)) (
  mz_cons (mz_iload_n (k := 2) (show decode cX3_cheapest 28 = .ok (.iload_n 2, 1) by decide +kernel)) (
  mz_nil))))))))))))))))
noncomputable def ck_X3_cheapest_1 : List (Nat × mz_O) := [(29, .inl (mz_j2 mz_lt 32 40)), (32, .inl (mz_ld mz_isR 0 33)), (33, .inl (mz_ld mz_isI 3 34)), (34, .inl (mz_call rn_X3_costOf 2 (mz_ckV 3) 37)), (37, .inl (mz_go 42)), (42, .inl (mz_sto mz_isI mz_p1 4 44)), (44, .inl (mz_ld mz_isI 4 46)), (46, .inl (mz_ld mz_isI 2 47)), (47, .inl (mz_j2 mz_lt 50 55)), (50, .inl (mz_ld mz_isI 3 51)), (51, .inl (mz_sto mz_isI mz_p1 1 52)), (52, .inl (mz_ld mz_isI 4 54)), (54, .inl (mz_sto mz_isI mz_p1 2 55)), (55, .inl (mz_inc 3 1 58)), (58, .inl (mz_go 13)), (61, .inl (mz_ld mz_isI 1 62))]
theorem tk_X3_cheapest_1 (E : List mz_V) : mz_all E tM_X3_cheapest (ck_X3_cheapest_1) :=
  mz_cons (mz_icmp_ge 40 (by decide) (show decode cX3_cheapest 29 = .ok (.if_icmp .ge 11, 3) by decide +kernel)) (
  mz_cons (mz_aload_n (k := 0) (show decode cX3_cheapest 32 = .ok (.aload_n 0, 1) by decide +kernel)) (
  mz_cons (mz_iload_n (k := 3) (show decode cX3_cheapest 33 = .ok (.iload_n 3, 1) by decide +kernel)) (
  mz_cons (mz_invV (n := 1) (ctr_X3_costOf E) rfl ⟨by decide, by decide, by decide +kernel⟩ ⟨by decide, by decide⟩ mw_851 mw_848 mw_849 mw_850 mw_71 (show decode cX3_cheapest 34 = .ok (.invokevirtual 69, 3) by decide +kernel)) (
  mz_cons (mz_goto 42 (by decide) (show decode cX3_cheapest 37 = .ok (.goto 5, 3) by decide +kernel)) (
  mz_cons (mz_istore (by decide) (show decode cX3_cheapest 42 = .ok (.istore 4, 2) by decide +kernel)) (
  mz_cons (mz_iload (show decode cX3_cheapest 44 = .ok (.iload 4, 2) by decide +kernel)) (
  mz_cons (mz_iload_n (k := 2) (show decode cX3_cheapest 46 = .ok (.iload_n 2, 1) by decide +kernel)) (
  mz_cons (mz_icmp_ge 55 (by decide) (show decode cX3_cheapest 47 = .ok (.if_icmp .ge 8, 3) by decide +kernel)) (
  mz_cons (mz_iload_n (k := 3) (show decode cX3_cheapest 50 = .ok (.iload_n 3, 1) by decide +kernel)) (
  mz_cons (mz_istore_n (k := 1) (by decide) (show decode cX3_cheapest 51 = .ok (.istore_n 1, 1) by decide +kernel)) (
  mz_cons (mz_iload (show decode cX3_cheapest 52 = .ok (.iload 4, 2) by decide +kernel)) (
  mz_cons (mz_istore_n (k := 2) (by decide) (show decode cX3_cheapest 54 = .ok (.istore_n 2, 1) by decide +kernel)) (
  mz_cons (mz_iinc 1 (by decide) (by decide) (show decode cX3_cheapest 55 = .ok (.iinc 3 1, 3) by decide +kernel)) (
  mz_cons (mz_goto 13 (by decide) (show decode cX3_cheapest 58 = .ok (.goto (-45), 3) by decide +kernel)) (
  mz_cons (mz_iload_n (k := 1) (show decode cX3_cheapest 61 = .ok (.iload_n 1, 1) by decide +kernel)) (
  mz_nil))))))))))))))))
noncomputable def ck_X3_cheapest_2 : List (Nat × mz_O) := [(62, .inr (mz_rt mz_isI))]
theorem tk_X3_cheapest_2 (E : List mz_V) : mz_all E tM_X3_cheapest (ck_X3_cheapest_2) :=
  mz_consR (mz_ireturn rfl (show decode cX3_cheapest 62 = .ok (.ireturn, 1) by decide +kernel)) (
  mz_nil)
noncomputable def tb_X3_cheapest : List (Nat × List (Nat × mz_O)) := [(28, ck_X3_cheapest_0), (61, ck_X3_cheapest_1), (62, ck_X3_cheapest_2)]
theorem tok_X3_cheapest (E : List mz_V) : mz_tok E tM_X3_cheapest (tb_X3_cheapest) := mz_tcons (tk_X3_cheapest_0 E) (mz_tcons (tk_X3_cheapest_1 E) (mz_tcons (tk_X3_cheapest_2 E) (mz_tnil)))
noncomputable def rn_X3_cheapest : List mz_V → List mz_C → Option (Option mz_V × List mz_C) := mz_rn tb_X3_cheapest 67 5
theorem ctr_X3_cheapest (E : List mz_V) : mz_ctr E yX3_cheapest tM_X3_cheapest rn_X3_cheapest := mz_ctr_of 67 (tok_X3_cheapest E) (by decide) rfl rfl
abbrev tM_X3_leastForcers : mz_M := (cX3_leastForcers, 2, (some .int), RX3, "leastForcers", 5, 114)
noncomputable def ck_X3_leastForcers_0 : List (Nat × mz_O) := [(0, .inl (mz_push (.inl 0) 1)), (1, .inl (mz_sto mz_isI mz_p1 1 2)), (2, .inl (mz_ld mz_isI 1 3)), (3, .inl (mz_push (.inl 512) 6)), (6, .inl (mz_j2 mz_lt 9 39)), (9, .inl (mz_ld mz_isR 0 10)), (10, .inl (mz_ld mz_isR 0 11)), (11, .inl (mz_gf 3 1 14)), (14, .inl (mz_ld mz_isI 1 15)), (15, .inl (mz_call rn_X8_get 2 (mz_ckV 8) 18)), (18, .inl (mz_call rn_X3_forcesAll 2 (mz_ckV 3) 21)), (21, .inl (mz_j1 mz_eq0 33 24)), (24, .inl (mz_ld mz_isR 0 25)), (25, .inl (mz_gf 3 1 28)), (28, .inl (mz_ld mz_isI 1 29)), (29, .inl (mz_call rn_X8_get 2 (mz_ckV 8) 32))]
theorem tk_X3_leastForcers_0 (E : List mz_V) : mz_all E tM_X3_leastForcers (ck_X3_leastForcers_0) :=
  mz_cons (mz_iconst 0 (by decide) (show decode cX3_leastForcers 0 = .ok (.iconst 0, 1) by decide +kernel)) (
  mz_cons (mz_istore_n (k := 1) (by decide) (show decode cX3_leastForcers 1 = .ok (.istore_n 1, 1) by decide +kernel)) (
  mz_cons (mz_iload_n (k := 1) (show decode cX3_leastForcers 2 = .ok (.iload_n 1, 1) by decide +kernel)) (
  mz_cons (mz_sipush 512 (by decide) (show decode cX3_leastForcers 3 = .ok (.sipush 512, 3) by decide +kernel)) (
  mz_cons (mz_icmp_ge 39 (by decide) (show decode cX3_leastForcers 6 = .ok (.if_icmp .ge 33, 3) by decide +kernel)) (
  mz_cons (mz_aload_n (k := 0) (show decode cX3_leastForcers 9 = .ok (.aload_n 0, 1) by decide +kernel)) (
  mz_cons (mz_aload_n (k := 0) (show decode cX3_leastForcers 10 = .ok (.aload_n 0, 1) by decide +kernel)) (
  mz_cons (mz_getfield (C := RX3) (T := TX3) (N := 5) rfl mz_inX3 (by decide) mw_283 (show decode cX3_leastForcers 11 = .ok (.getfield 22, 3) by decide +kernel)) (
  mz_cons (mz_iload_n (k := 1) (show decode cX3_leastForcers 14 = .ok (.iload_n 1, 1) by decide +kernel)) (
  mz_cons (mz_invV (n := 1) (ctr_X8_get E) rfl ⟨by decide, by decide, by decide +kernel⟩ ⟨by decide, by decide⟩ mw_631 mw_829 mw_629 mw_630 mw_63 (show decode cX3_leastForcers 15 = .ok (.invokevirtual 44, 3) by decide +kernel)) (
  mz_cons (mz_invV (n := 1) (ctr_X3_forcesAll E) rfl ⟨by decide, by decide, by decide +kernel⟩ ⟨by decide, by decide⟩ mw_833 mw_830 mw_832 mw_23 mw_71 (show decode cX3_leastForcers 18 = .ok (.invokevirtual 50, 3) by decide +kernel)) (
  mz_cons (mz_if_eq 33 (by decide) (show decode cX3_leastForcers 21 = .ok (.ifCond .eq 12, 3) by decide +kernel)) (
  mz_cons (mz_aload_n (k := 0) (show decode cX3_leastForcers 24 = .ok (.aload_n 0, 1) by decide +kernel)) (
  mz_cons (mz_getfield (C := RX3) (T := TX3) (N := 5) rfl mz_inX3 (by decide) mw_283 (show decode cX3_leastForcers 25 = .ok (.getfield 22, 3) by decide +kernel)) (
  mz_cons (mz_iload_n (k := 1) (show decode cX3_leastForcers 28 = .ok (.iload_n 1, 1) by decide +kernel)) (
  mz_cons (mz_invV (n := 1) (ctr_X8_get E) rfl ⟨by decide, by decide, by decide +kernel⟩ ⟨by decide, by decide⟩ mw_631 mw_829 mw_629 mw_630 mw_63 (show decode cX3_leastForcers 29 = .ok (.invokevirtual 44, 3) by decide +kernel)) (
  mz_nil))))))))))))))))
noncomputable def ck_X3_leastForcers_1 : List (Nat × mz_O) := [(32, .inr (mz_rt mz_isI)), (33, .inl (mz_inc 1 1 36)), (36, .inl (mz_go 2))]
theorem tk_X3_leastForcers_1 (E : List mz_V) : mz_all E tM_X3_leastForcers (ck_X3_leastForcers_1) :=
  mz_consR (mz_ireturn rfl (show decode cX3_leastForcers 32 = .ok (.ireturn, 1) by decide +kernel)) (
  mz_cons (mz_iinc 1 (by decide) (by decide) (show decode cX3_leastForcers 33 = .ok (.iinc 1 1, 3) by decide +kernel)) (
  mz_cons (mz_goto 2 (by decide) (show decode cX3_leastForcers 36 = .ok (.goto (-34), 3) by decide +kernel)) (
  mz_nil)))
noncomputable def tb_X3_leastForcers : List (Nat × List (Nat × mz_O)) := [(29, ck_X3_leastForcers_0), (36, ck_X3_leastForcers_1)]
theorem tok_X3_leastForcers (E : List mz_V) : mz_tok E tM_X3_leastForcers (tb_X3_leastForcers) := mz_tcons (tk_X3_leastForcers_0 E) (mz_tcons (tk_X3_leastForcers_1 E) (mz_tnil))
noncomputable def rn_X3_leastForcers : List mz_V → List mz_C → Option (Option mz_V × List mz_C) := mz_rn tb_X3_leastForcers 39 2
theorem ctr_X3_leastForcers (E : List mz_V) : mz_ctr E yX3_leastForcers tM_X3_leastForcers rn_X3_leastForcers := mz_ctr_of 39 (tok_X3_leastForcers E) (by decide) rfl rfl
abbrev tM_X8_startOf : mz_M := (cX8_startOf, 2, (some .int), RX8, "startOf", 2, 44)
noncomputable def ck_X8_startOf_0 : List (Nat × mz_O) := [(0, .inl (mz_ld mz_isI 1 1)), (1, .inl (mz_push (.inl 0) 2)), (2, .inl (mz_push (.inl 10) 4)), (4, .inl (mz_call rn_X11_within 3 mz_ckT 7)), (7, .inl (mz_j1 mz_eq0 19 10)), (10, .inl (mz_ld mz_isR 0 11)), (11, .inl (mz_gf 8 1 14)), (14, .inl (mz_ld mz_isI 1 15)), (15, .inl (mz_al false 16)), (16, .inl (mz_go 22)), (22, .inr (mz_rt mz_isI))]
theorem tk_X8_startOf_0 (E : List mz_V) : mz_all E tM_X8_startOf (ck_X8_startOf_0) :=
  mz_cons (mz_iload_n (k := 1) (show decode cX8_startOf 0 = .ok (.iload_n 1, 1) by decide +kernel)) (
  mz_cons (mz_iconst 0 (by decide) (show decode cX8_startOf 1 = .ok (.iconst 0, 1) by decide +kernel)) (
  mz_cons (mz_bipush 10 (by decide) (show decode cX8_startOf 2 = .ok (.bipush 10, 2) by decide +kernel)) (
  mz_cons (mz_invSN (n := 3) (host := "WettedNet") (ctr_X11_within E) ⟨by decide, by decide, by decide +kernel⟩ ⟨by decide, by decide⟩ mw_140 (by decide +kernel) mw_139 mw_61 (show decode cX8_startOf 4 = .ok (.invokestatic 29, 3) by decide +kernel)) (
  mz_cons (mz_if_eq 19 (by decide) (show decode cX8_startOf 7 = .ok (.ifCond .eq 12, 3) by decide +kernel)) (
  mz_cons (mz_aload_n (k := 0) (show decode cX8_startOf 10 = .ok (.aload_n 0, 1) by decide +kernel)) (
  mz_cons (mz_getfield (C := RX8) (T := TX8) (N := 2) rfl mz_inX8 (by decide) mw_121 (show decode cX8_startOf 11 = .ok (.getfield 15, 3) by decide +kernel)) (
  mz_cons (mz_iload_n (k := 1) (show decode cX8_startOf 14 = .ok (.iload_n 1, 1) by decide +kernel)) (
  mz_cons (mz_iaload (show decode cX8_startOf 15 = .ok (.iaload, 1) by decide +kernel)) (
  mz_cons (mz_goto 22 (by decide) (show decode cX8_startOf 16 = .ok (.goto 6, 3) by decide +kernel)) (
  mz_consR (mz_ireturn rfl (show decode cX8_startOf 22 = .ok (.ireturn, 1) by decide +kernel)) (
  mz_nil)))))))))))
noncomputable def tb_X8_startOf : List (Nat × List (Nat × mz_O)) := [(22, ck_X8_startOf_0)]
theorem tok_X8_startOf (E : List mz_V) : mz_tok E tM_X8_startOf (tb_X8_startOf) := mz_tcons (tk_X8_startOf_0 E) (mz_tnil)
noncomputable def rn_X8_startOf : List mz_V → List mz_C → Option (Option mz_V × List mz_C) := mz_rn tb_X8_startOf 21 2
theorem ctr_X8_startOf (E : List mz_V) : mz_ctr E yX8_startOf tM_X8_startOf rn_X8_startOf := mz_ctr_of 21 (tok_X8_startOf E) (by decide) rfl rfl
