abbrev tM_X11_init : mz_M := (cX11_init, 3, none, RX11, "<init>", 4, 86)
noncomputable def ck_X11_init_0 : List (Nat × mz_O) := [(0, .inl (mz_ld mz_isR 0 1)), (1, .inl (mz_oi 4)), (4, .inl (mz_nw 5 [.inr (.inr (.inl none)), .inl 0] 7)), (7, .inl (mz_dp 8)), (8, .inl (mz_call rn_X5_init 1 mz_ckR 11)), (11, .inl (mz_sto mz_isR mz_p1 1 12)), (12, .inl (mz_nw 8 [.inr (.inr (.inl none)), .inr (.inr (.inl none))] 15)), (15, .inl (mz_dp 16)), (16, .inl (mz_call rn_X8_init 1 mz_ckR 19)), (19, .inl (mz_sto mz_isR mz_p1 2 20)), (20, .inl (mz_ld mz_isR 0 21)), (21, .inl (mz_nw 6 [.inr (.inr (.inl none)), .inr (.inr (.inl none)), .inr (.inr (.inl none)), .inr (.inr (.inl none)), .inl 0, .inl 0, .inl 0] 24)), (24, .inl (mz_dp 25)), (25, .inl (mz_call rn_X6_init 1 mz_ckR 28)), (28, .inl (mz_pf 11 0 mz_isQ 31)), (31, .inl (mz_ld mz_isR 0 32))]
theorem tk_X11_init_0 (E : List mz_V) : mz_all E tM_X11_init (ck_X11_init_0) :=
  mz_cons (mz_aload_n (k := 0) (show decode cX11_init 0 = .ok (.aload_n 0, 1) by decide +kernel)) (
  mz_cons (mz_objInit (by decide) (by decide) mw_85 mw_86 mw_87 (show decode cX11_init 1 = .ok (.invokespecial 3, 3) by decide +kernel)) (
  mz_cons (mz_new [.null, .int 0] rfl mz_inX5 tyX5_ok rfl (fun j hj => by match j, hj with | 0, _ => rfl | 1, _ => rfl | j + 2, h => exact absurd h (by omega)) (fun _ _ => ⟨_, _, rfl, rfl, ⟨_, _, rfl, rfl, rfl⟩⟩) mw_88 mw_89 mw_62 (show decode cX11_init 4 = .ok (.new 9, 3) by decide +kernel)) (
  mz_cons (mz_dup (show decode cX11_init 7 = .ok (.dup, 1) by decide +kernel)) (
  mz_cons (mz_invIN (n := 0) (host := "WettedNet") (ctr_X5_init E) ⟨by decide, by decide, by decide +kernel⟩ ⟨by decide, by decide⟩ rfl rfl mw_92 (by decide +kernel) mw_91 mw_62 (show decode cX11_init 8 = .ok (.invokespecial 11, 3) by decide +kernel)) (
  mz_cons (mz_astore_n (k := 1) (by decide) (show decode cX11_init 11 = .ok (.astore_n 1, 1) by decide +kernel)) (
  mz_cons (mz_new [.null, .null] rfl mz_inX8 tyX8_ok rfl (fun j hj => by match j, hj with | 0, _ => rfl | 1, _ => rfl | j + 2, h => exact absurd h (by omega)) (fun _ _ => ⟨_, _, rfl, rfl, ⟨_, _, rfl, rfl, rfl⟩⟩) mw_101 mw_102 mw_63 (show decode cX11_init 12 = .ok (.new 12, 3) by decide +kernel)) (
  mz_cons (mz_dup (show decode cX11_init 15 = .ok (.dup, 1) by decide +kernel)) (
  mz_cons (mz_invI (n := 0) (ctr_X8_init E) ⟨by decide, by decide, by decide +kernel⟩ ⟨by decide, by decide⟩ rfl rfl mw_105 mw_103 mw_104 mw_63 (show decode cX11_init 16 = .ok (.invokespecial 14, 3) by decide +kernel)) (
  mz_cons (mz_astore_n (k := 2) (by decide) (show decode cX11_init 19 = .ok (.astore_n 2, 1) by decide +kernel)) (
  mz_cons (mz_aload_n (k := 0) (show decode cX11_init 20 = .ok (.aload_n 0, 1) by decide +kernel)) (
  mz_cons (mz_new [.null, .null, .null, .null, .int 0, .int 0, .int 0] rfl mz_inX6 tyX6_ok rfl (fun j hj => by match j, hj with | 0, _ => rfl | 1, _ => rfl | 2, _ => rfl | 3, _ => rfl | 4, _ => rfl | 5, _ => rfl | 6, _ => rfl | j + 7, h => exact absurd h (by omega)) (fun _ _ => ⟨_, _, rfl, rfl, ⟨_, _, rfl, rfl, ⟨_, _, rfl, rfl, ⟨_, _, rfl, rfl, ⟨_, _, rfl, rfl, ⟨_, _, rfl, rfl, ⟨_, _, rfl, rfl, rfl⟩⟩⟩⟩⟩⟩⟩) mw_128 mw_129 mw_65 (show decode cX11_init 21 = .ok (.new 15, 3) by decide +kernel)) (
  mz_cons (mz_dup (show decode cX11_init 24 = .ok (.dup, 1) by decide +kernel)) (
  mz_cons (mz_invI (n := 0) (ctr_X6_init E) ⟨by decide, by decide, by decide +kernel⟩ ⟨by decide, by decide⟩ rfl rfl mw_132 mw_130 mw_131 mw_65 (show decode cX11_init 25 = .ok (.invokespecial 17, 3) by decide +kernel)) (
  mz_cons (mz_putfieldF (C := RX11) (T := TX11) (N := 9) rfl mz_inX11 tyX11_ok nmX11 (by decide) mz_fit_obj rfl rfl rfl mw_330 (show decode cX11_init 28 = .ok (.putfield 18, 3) by decide +kernel)) (
  mz_cons (mz_aload_n (k := 0) (show decode cX11_init 31 = .ok (.aload_n 0, 1) by decide +kernel)) (
  mz_nil))))))))))))))))
noncomputable def ck_X11_init_1 : List (Nat × mz_O) := [(32, .inl (mz_nw 7 [.inr (.inr (.inl none)), .inr (.inr (.inl none)), .inr (.inr (.inl none)), .inr (.inr (.inl none)), .inl 0, .inl 0, .inl 0, .inl 0] 35)), (35, .inl (mz_dp 36)), (36, .inl (mz_call rn_X7_init 1 mz_ckR 39)), (39, .inl (mz_pf 11 1 mz_isQ 42)), (42, .inl (mz_ld mz_isR 0 43)), (43, .inl (mz_nw 2 [.inr (.inr (.inl none)), .inr (.inr (.inl none)), .inr (.inr (.inl none)), .inl 0] 46)), (46, .inl (mz_dp 47)), (47, .inl (mz_ld mz_isR 0 48)), (48, .inl (mz_gf 11 0 51)), (51, .inl (mz_ld mz_isR 2 52)), (52, .inl (mz_ld mz_isR 1 53)), (53, .inl (mz_call rn_X2_init 4 mz_ckR 56)), (56, .inl (mz_pf 11 2 mz_isQ 59)), (59, .inl (mz_ld mz_isR 0 60)), (60, .inl (mz_nw 4 [.inr (.inr (.inl none)), .inr (.inr (.inl none)), .inl 0, .inl 0, .inl 0, .inl 0, .inl 0, .inl 0, .inl 0] 63)), (63, .inl (mz_dp 64))]
theorem tk_X11_init_1 (E : List mz_V) : mz_all E tM_X11_init (ck_X11_init_1) :=
  mz_cons (mz_new [.null, .null, .null, .null, .int 0, .int 0, .int 0, .int 0] rfl mz_inX7 tyX7_ok rfl (fun j hj => by match j, hj with | 0, _ => rfl | 1, _ => rfl | 2, _ => rfl | 3, _ => rfl | 4, _ => rfl | 5, _ => rfl | 6, _ => rfl | 7, _ => rfl | j + 8, h => exact absurd h (by omega)) (fun _ _ => ⟨_, _, rfl, rfl, ⟨_, _, rfl, rfl, ⟨_, _, rfl, rfl, ⟨_, _, rfl, rfl, ⟨_, _, rfl, rfl, ⟨_, _, rfl, rfl, ⟨_, _, rfl, rfl, ⟨_, _, rfl, rfl, rfl⟩⟩⟩⟩⟩⟩⟩⟩) mw_163 mw_164 mw_66 (show decode cX11_init 32 = .ok (.new 22, 3) by decide +kernel)) (
  mz_cons (mz_dup (show decode cX11_init 35 = .ok (.dup, 1) by decide +kernel)) (
  mz_cons (mz_invIN (n := 0) (host := "WettedNet") (ctr_X7_init E) ⟨by decide, by decide, by decide +kernel⟩ ⟨by decide, by decide⟩ rfl rfl mw_167 (by decide +kernel) mw_166 mw_66 (show decode cX11_init 36 = .ok (.invokespecial 24, 3) by decide +kernel)) (
  mz_cons (mz_putfieldF (C := RX11) (T := TX11) (N := 9) rfl mz_inX11 tyX11_ok nmX11 (by decide) mz_fit_obj rfl rfl rfl mw_331 (show decode cX11_init 39 = .ok (.putfield 25, 3) by decide +kernel)) (
  mz_cons (mz_aload_n (k := 0) (show decode cX11_init 42 = .ok (.aload_n 0, 1) by decide +kernel)) (
  mz_cons (mz_new [.null, .null, .null, .int 0] rfl mz_inX2 tyX2_ok rfl (fun j hj => by match j, hj with | 0, _ => rfl | 1, _ => rfl | 2, _ => rfl | 3, _ => rfl | j + 4, h => exact absurd h (by omega)) (fun _ _ => ⟨_, _, rfl, rfl, ⟨_, _, rfl, rfl, ⟨_, _, rfl, rfl, ⟨_, _, rfl, rfl, rfl⟩⟩⟩⟩) mw_194 mw_195 mw_67 (show decode cX11_init 43 = .ok (.new 29, 3) by decide +kernel)) (
  mz_cons (mz_dup (show decode cX11_init 46 = .ok (.dup, 1) by decide +kernel)) (
  mz_cons (mz_aload_n (k := 0) (show decode cX11_init 47 = .ok (.aload_n 0, 1) by decide +kernel)) (
  mz_cons (mz_getfield (C := RX11) (T := TX11) (N := 9) rfl mz_inX11 (by decide) mw_330 (show decode cX11_init 48 = .ok (.getfield 18, 3) by decide +kernel)) (
  mz_cons (mz_aload_n (k := 2) (show decode cX11_init 51 = .ok (.aload_n 2, 1) by decide +kernel)) (
  mz_cons (mz_aload_n (k := 1) (show decode cX11_init 52 = .ok (.aload_n 1, 1) by decide +kernel)) (
  mz_cons (mz_invI (n := 3) (ctr_X2_init E) ⟨by decide, by decide, by decide +kernel⟩ ⟨by decide, by decide⟩ rfl rfl mw_198 mw_196 mw_197 mw_67 (show decode cX11_init 53 = .ok (.invokespecial 31, 3) by decide +kernel)) (
  mz_cons (mz_putfieldF (C := RX11) (T := TX11) (N := 9) rfl mz_inX11 tyX11_ok nmX11 (by decide) mz_fit_obj rfl rfl rfl mw_332 (show decode cX11_init 56 = .ok (.putfield 34, 3) by decide +kernel)) (
  mz_cons (mz_aload_n (k := 0) (show decode cX11_init 59 = .ok (.aload_n 0, 1) by decide +kernel)) (
  mz_cons (mz_new [.null, .null, .int 0, .int 0, .int 0, .int 0, .int 0, .int 0, .int 0] rfl mz_inX4 tyX4_ok rfl (fun j hj => by match j, hj with | 0, _ => rfl | 1, _ => rfl | 2, _ => rfl | 3, _ => rfl | 4, _ => rfl | 5, _ => rfl | 6, _ => rfl | 7, _ => rfl | 8, _ => rfl | j + 9, h => exact absurd h (by omega)) (fun _ _ => ⟨_, _, rfl, rfl, ⟨_, _, rfl, rfl, ⟨_, _, rfl, rfl, ⟨_, _, rfl, rfl, ⟨_, _, rfl, rfl, ⟨_, _, rfl, rfl, ⟨_, _, rfl, rfl, ⟨_, _, rfl, rfl, ⟨_, _, rfl, rfl, rfl⟩⟩⟩⟩⟩⟩⟩⟩⟩) mw_213 mw_214 mw_68 (show decode cX11_init 60 = .ok (.new 38, 3) by decide +kernel)) (
  mz_cons (mz_dup (show decode cX11_init 63 = .ok (.dup, 1) by decide +kernel)) (
  mz_nil))))))))))))))))
noncomputable def ck_X11_init_2 : List (Nat × mz_O) := [(64, .inl (mz_ld mz_isR 0 65)), (65, .inl (mz_gf 11 0 68)), (68, .inl (mz_ld mz_isR 0 69)), (69, .inl (mz_gf 11 2 72)), (72, .inl (mz_call rn_X4_init 3 mz_ckR 75)), (75, .inl (mz_pf 11 3 mz_isQ 78)), (78, .inl (mz_ld mz_isR 0 79)), (79, .inl (mz_nw 9 [.inr (.inr (.inl none)), .inr (.inr (.inl none))] 82)), (82, .inl (mz_dp 83)), (83, .inl (mz_ld mz_isR 0 84)), (84, .inl (mz_gf 11 0 87)), (87, .inl (mz_ld mz_isR 1 88)), (88, .inl (mz_call rn_X9_init 3 mz_ckR 91)), (91, .inl (mz_pf 11 4 mz_isQ 94)), (94, .inl (mz_ld mz_isR 0 95)), (95, .inl (mz_nw 0 [.inr (.inr (.inl none)), .inr (.inr (.inl none)), .inr (.inr (.inl none))] 98))]
theorem tk_X11_init_2 (E : List mz_V) : mz_all E tM_X11_init (ck_X11_init_2) :=
  mz_cons (mz_aload_n (k := 0) (show decode cX11_init 64 = .ok (.aload_n 0, 1) by decide +kernel)) (
  mz_cons (mz_getfield (C := RX11) (T := TX11) (N := 9) rfl mz_inX11 (by decide) mw_330 (show decode cX11_init 65 = .ok (.getfield 18, 3) by decide +kernel)) (
  mz_cons (mz_aload_n (k := 0) (show decode cX11_init 68 = .ok (.aload_n 0, 1) by decide +kernel)) (
  mz_cons (mz_getfield (C := RX11) (T := TX11) (N := 9) rfl mz_inX11 (by decide) mw_332 (show decode cX11_init 69 = .ok (.getfield 34, 3) by decide +kernel)) (
  mz_cons (mz_invI (n := 2) (ctr_X4_init E) ⟨by decide, by decide, by decide +kernel⟩ ⟨by decide, by decide⟩ rfl rfl mw_217 mw_215 mw_216 mw_68 (show decode cX11_init 72 = .ok (.invokespecial 40, 3) by decide +kernel)) (
  mz_cons (mz_putfieldF (C := RX11) (T := TX11) (N := 9) rfl mz_inX11 tyX11_ok nmX11 (by decide) mz_fit_obj rfl rfl rfl mw_333 (show decode cX11_init 75 = .ok (.putfield 43, 3) by decide +kernel)) (
  mz_cons (mz_aload_n (k := 0) (show decode cX11_init 78 = .ok (.aload_n 0, 1) by decide +kernel)) (
  mz_cons (mz_new [.null, .null] rfl mz_inX9 tyX9_ok rfl (fun j hj => by match j, hj with | 0, _ => rfl | 1, _ => rfl | j + 2, h => exact absurd h (by omega)) (fun _ _ => ⟨_, _, rfl, rfl, ⟨_, _, rfl, rfl, rfl⟩⟩) mw_247 mw_248 mw_69 (show decode cX11_init 79 = .ok (.new 47, 3) by decide +kernel)) (
  mz_cons (mz_dup (show decode cX11_init 82 = .ok (.dup, 1) by decide +kernel)) (
  mz_cons (mz_aload_n (k := 0) (show decode cX11_init 83 = .ok (.aload_n 0, 1) by decide +kernel)) (
  mz_cons (mz_getfield (C := RX11) (T := TX11) (N := 9) rfl mz_inX11 (by decide) mw_330 (show decode cX11_init 84 = .ok (.getfield 18, 3) by decide +kernel)) (
  mz_cons (mz_aload_n (k := 1) (show decode cX11_init 87 = .ok (.aload_n 1, 1) by decide +kernel)) (
  mz_cons (mz_invI (n := 2) (ctr_X9_init E) ⟨by decide, by decide, by decide +kernel⟩ ⟨by decide, by decide⟩ rfl rfl mw_251 mw_249 mw_250 mw_69 (show decode cX11_init 88 = .ok (.invokespecial 49, 3) by decide +kernel)) (
  mz_cons (mz_putfieldF (C := RX11) (T := TX11) (N := 9) rfl mz_inX11 tyX11_ok nmX11 (by decide) mz_fit_obj rfl rfl rfl mw_334 (show decode cX11_init 91 = .ok (.putfield 52, 3) by decide +kernel)) (
  mz_cons (mz_aload_n (k := 0) (show decode cX11_init 94 = .ok (.aload_n 0, 1) by decide +kernel)) (
  mz_cons (mz_new [.null, .null, .null] rfl mz_inX0 tyX0_ok rfl (fun j hj => by match j, hj with | 0, _ => rfl | 1, _ => rfl | 2, _ => rfl | j + 3, h => exact absurd h (by omega)) (fun _ _ => ⟨_, _, rfl, rfl, ⟨_, _, rfl, rfl, ⟨_, _, rfl, rfl, rfl⟩⟩⟩) mw_260 mw_261 mw_70 (show decode cX11_init 95 = .ok (.new 56, 3) by decide +kernel)) (
  mz_nil))))))))))))))))
noncomputable def ck_X11_init_3 : List (Nat × mz_O) := [(98, .inl (mz_dp 99)), (99, .inl (mz_ld mz_isR 0 100)), (100, .inl (mz_gf 11 0 103)), (103, .inl (mz_ld mz_isR 2 104)), (104, .inl (mz_call rn_X0_init 3 mz_ckR 107)), (107, .inl (mz_pf 11 5 mz_isQ 110)), (110, .inl (mz_ld mz_isR 0 111)), (111, .inl (mz_nw 3 [.inr (.inr (.inl none)), .inr (.inr (.inl none)), .inr (.inr (.inl none)), .inr (.inr (.inl none)), .inl 0] 114)), (114, .inl (mz_dp 115)), (115, .inl (mz_ld mz_isR 0 116)), (116, .inl (mz_gf 11 0 119)), (119, .inl (mz_ld mz_isR 2 120)), (120, .inl (mz_call rn_X3_init 3 mz_ckR 123)), (123, .inl (mz_pf 11 6 mz_isQ 126)), (126, .inl (mz_ld mz_isR 0 127)), (127, .inl (mz_nw 1 [.inr (.inr (.inl none)), .inr (.inr (.inl none)), .inr (.inr (.inl none)), .inl 0] 130))]
theorem tk_X11_init_3 (E : List mz_V) : mz_all E tM_X11_init (ck_X11_init_3) :=
  mz_cons (mz_dup (show decode cX11_init 98 = .ok (.dup, 1) by decide +kernel)) (
  mz_cons (mz_aload_n (k := 0) (show decode cX11_init 99 = .ok (.aload_n 0, 1) by decide +kernel)) (
  mz_cons (mz_getfield (C := RX11) (T := TX11) (N := 9) rfl mz_inX11 (by decide) mw_330 (show decode cX11_init 100 = .ok (.getfield 18, 3) by decide +kernel)) (
  mz_cons (mz_aload_n (k := 2) (show decode cX11_init 103 = .ok (.aload_n 2, 1) by decide +kernel)) (
  mz_cons (mz_invI (n := 2) (ctr_X0_init E) ⟨by decide, by decide, by decide +kernel⟩ ⟨by decide, by decide⟩ rfl rfl mw_264 mw_262 mw_263 mw_70 (show decode cX11_init 104 = .ok (.invokespecial 58, 3) by decide +kernel)) (
  mz_cons (mz_putfieldF (C := RX11) (T := TX11) (N := 9) rfl mz_inX11 tyX11_ok nmX11 (by decide) mz_fit_obj rfl rfl rfl mw_335 (show decode cX11_init 107 = .ok (.putfield 61, 3) by decide +kernel)) (
  mz_cons (mz_aload_n (k := 0) (show decode cX11_init 110 = .ok (.aload_n 0, 1) by decide +kernel)) (
  mz_cons (mz_new [.null, .null, .null, .null, .int 0] rfl mz_inX3 tyX3_ok rfl (fun j hj => by match j, hj with | 0, _ => rfl | 1, _ => rfl | 2, _ => rfl | 3, _ => rfl | 4, _ => rfl | j + 5, h => exact absurd h (by omega)) (fun _ _ => ⟨_, _, rfl, rfl, ⟨_, _, rfl, rfl, ⟨_, _, rfl, rfl, ⟨_, _, rfl, rfl, ⟨_, _, rfl, rfl, rfl⟩⟩⟩⟩⟩) mw_276 mw_277 mw_71 (show decode cX11_init 111 = .ok (.new 65, 3) by decide +kernel)) (
  mz_cons (mz_dup (show decode cX11_init 114 = .ok (.dup, 1) by decide +kernel)) (
  mz_cons (mz_aload_n (k := 0) (show decode cX11_init 115 = .ok (.aload_n 0, 1) by decide +kernel)) (
  mz_cons (mz_getfield (C := RX11) (T := TX11) (N := 9) rfl mz_inX11 (by decide) mw_330 (show decode cX11_init 116 = .ok (.getfield 18, 3) by decide +kernel)) (
  mz_cons (mz_aload_n (k := 2) (show decode cX11_init 119 = .ok (.aload_n 2, 1) by decide +kernel)) (
  mz_cons (mz_invI (n := 2) (ctr_X3_init E) ⟨by decide, by decide, by decide +kernel⟩ ⟨by decide, by decide⟩ rfl rfl mw_280 mw_278 mw_279 mw_71 (show decode cX11_init 120 = .ok (.invokespecial 67, 3) by decide +kernel)) (
  mz_cons (mz_putfieldF (C := RX11) (T := TX11) (N := 9) rfl mz_inX11 tyX11_ok nmX11 (by decide) mz_fit_obj rfl rfl rfl mw_336 (show decode cX11_init 123 = .ok (.putfield 68, 3) by decide +kernel)) (
  mz_cons (mz_aload_n (k := 0) (show decode cX11_init 126 = .ok (.aload_n 0, 1) by decide +kernel)) (
  mz_cons (mz_new [.null, .null, .null, .int 0] rfl mz_inX1 tyX1_ok rfl (fun j hj => by match j, hj with | 0, _ => rfl | 1, _ => rfl | 2, _ => rfl | 3, _ => rfl | j + 4, h => exact absurd h (by omega)) (fun _ _ => ⟨_, _, rfl, rfl, ⟨_, _, rfl, rfl, ⟨_, _, rfl, rfl, ⟨_, _, rfl, rfl, rfl⟩⟩⟩⟩) mw_298 mw_299 mw_72 (show decode cX11_init 127 = .ok (.new 72, 3) by decide +kernel)) (
  mz_nil))))))))))))))))
noncomputable def ck_X11_init_4 : List (Nat × mz_O) := [(130, .inl (mz_dp 131)), (131, .inl (mz_ld mz_isR 0 132)), (132, .inl (mz_gf 11 0 135)), (135, .inl (mz_call rn_X1_init 2 mz_ckR 138)), (138, .inl (mz_pf 11 7 mz_isQ 141)), (141, .inl (mz_ld mz_isR 0 142)), (142, .inl (mz_nw 10 [.inr (.inr (.inl none)), .inr (.inr (.inl none))] 145)), (145, .inl (mz_dp 146)), (146, .inl (mz_ld mz_isR 0 147)), (147, .inl (mz_gf 11 0 150)), (150, .inl (mz_ld mz_isR 1 151)), (151, .inl (mz_call rn_X10_init 3 mz_ckR 154)), (154, .inl (mz_pf 11 8 mz_isQ 157)), (157, .inr (mz_rv))]
theorem tk_X11_init_4 (E : List mz_V) : mz_all E tM_X11_init (ck_X11_init_4) :=
  mz_cons (mz_dup (show decode cX11_init 130 = .ok (.dup, 1) by decide +kernel)) (
  mz_cons (mz_aload_n (k := 0) (show decode cX11_init 131 = .ok (.aload_n 0, 1) by decide +kernel)) (
  mz_cons (mz_getfield (C := RX11) (T := TX11) (N := 9) rfl mz_inX11 (by decide) mw_330 (show decode cX11_init 132 = .ok (.getfield 18, 3) by decide +kernel)) (
  mz_cons (mz_invI (n := 1) (ctr_X1_init E) ⟨by decide, by decide, by decide +kernel⟩ ⟨by decide, by decide⟩ rfl rfl mw_302 mw_300 mw_301 mw_72 (show decode cX11_init 135 = .ok (.invokespecial 74, 3) by decide +kernel)) (
  mz_cons (mz_putfieldF (C := RX11) (T := TX11) (N := 9) rfl mz_inX11 tyX11_ok nmX11 (by decide) mz_fit_obj rfl rfl rfl mw_337 (show decode cX11_init 138 = .ok (.putfield 77, 3) by decide +kernel)) (
  mz_cons (mz_aload_n (k := 0) (show decode cX11_init 141 = .ok (.aload_n 0, 1) by decide +kernel)) (
  mz_cons (mz_new [.null, .null] rfl mz_inX10 tyX10_ok rfl (fun j hj => by match j, hj with | 0, _ => rfl | 1, _ => rfl | j + 2, h => exact absurd h (by omega)) (fun _ _ => ⟨_, _, rfl, rfl, ⟨_, _, rfl, rfl, rfl⟩⟩) mw_317 mw_318 mw_73 (show decode cX11_init 142 = .ok (.new 81, 3) by decide +kernel)) (
  mz_cons (mz_dup (show decode cX11_init 145 = .ok (.dup, 1) by decide +kernel)) (
  mz_cons (mz_aload_n (k := 0) (show decode cX11_init 146 = .ok (.aload_n 0, 1) by decide +kernel)) (
  mz_cons (mz_getfield (C := RX11) (T := TX11) (N := 9) rfl mz_inX11 (by decide) mw_330 (show decode cX11_init 147 = .ok (.getfield 18, 3) by decide +kernel)) (
  mz_cons (mz_aload_n (k := 1) (show decode cX11_init 150 = .ok (.aload_n 1, 1) by decide +kernel)) (
  mz_cons (mz_invI (n := 2) (ctr_X10_init E) ⟨by decide, by decide, by decide +kernel⟩ ⟨by decide, by decide⟩ rfl rfl mw_321 mw_319 mw_320 mw_73 (show decode cX11_init 151 = .ok (.invokespecial 83, 3) by decide +kernel)) (
  mz_cons (mz_putfieldF (C := RX11) (T := TX11) (N := 9) rfl mz_inX11 tyX11_ok nmX11 (by decide) mz_fit_obj rfl rfl rfl mw_338 (show decode cX11_init 154 = .ok (.putfield 84, 3) by decide +kernel)) (
  mz_consR (mz_return rfl (show decode cX11_init 157 = .ok (.return_, 1) by decide +kernel)) (
  mz_nil))))))))))))))
noncomputable def tb_X11_init : List (Nat × List (Nat × mz_O)) := [(31, ck_X11_init_0), (63, ck_X11_init_1), (95, ck_X11_init_2), (127, ck_X11_init_3), (157, ck_X11_init_4)]
theorem tok_X11_init (E : List mz_V) : mz_tok E tM_X11_init (tb_X11_init) := mz_tcons (tk_X11_init_0 E) (mz_tcons (tk_X11_init_1 E) (mz_tcons (tk_X11_init_2 E) (mz_tcons (tk_X11_init_3 E) (mz_tcons (tk_X11_init_4 E) (mz_tnil)))))
noncomputable def rn_X11_init : List mz_V → List mz_C → Option (Option mz_V × List mz_C) := mz_rn tb_X11_init 88 3
theorem ctr_X11_init (E : List mz_V) : mz_ctr E yX11_init tM_X11_init rn_X11_init := mz_ctr_of 88 (tok_X11_init E) (by decide) rfl rfl
abbrev tM_X2_howManyWet : mz_M := (cX2_howManyWet, 2, (some .int), RX2, "howManyWet", 2, 42)
noncomputable def ck_X2_howManyWet_0 : List (Nat × mz_O) := [(0, .inl (mz_ld mz_isR 0 1)), (1, .inl (mz_gf 2 3 4)), (4, .inl (mz_ld mz_isI 1 5)), (5, .inl (mz_call rn_J6_bitCount_0f7a4 1 mz_ckT 8)), (8, .inl (mz_mn 11)), (11, .inr (mz_rt mz_isI))]
theorem tk_X2_howManyWet_0 (E : List mz_V) : mz_all E tM_X2_howManyWet (ck_X2_howManyWet_0) :=
  mz_cons (mz_aload_n (k := 0) (show decode cX2_howManyWet 0 = .ok (.aload_n 0, 1) by decide +kernel)) (
  mz_cons (mz_getfield (C := RX2) (T := TX2) (N := 4) rfl mz_inX2 (by decide) mw_203 (show decode cX2_howManyWet 1 = .ok (.getfield 23, 3) by decide +kernel)) (
  mz_cons (mz_iload_n (k := 1) (show decode cX2_howManyWet 4 = .ok (.iload_n 1, 1) by decide +kernel)) (
  mz_cons (mz_invS (n := 1) (ctr_J6_bitCount_0f7a4 E) ⟨by decide, by decide, by decide +kernel⟩ ⟨by decide, by decide⟩ mw_109 mw_618 mw_108 mw_64 (show decode cX2_howManyWet 5 = .ok (.invokestatic 71, 3) by decide +kernel)) (
  mz_cons (mz_min (by decide) (by decide) mw_619 (show decode cX2_howManyWet 8 = .ok (.invokestatic 76, 3) by decide +kernel)) (
  mz_consR (mz_ireturn rfl (show decode cX2_howManyWet 11 = .ok (.ireturn, 1) by decide +kernel)) (
  mz_nil))))))
noncomputable def tb_X2_howManyWet : List (Nat × List (Nat × mz_O)) := [(11, ck_X2_howManyWet_0)]
theorem tok_X2_howManyWet (E : List mz_V) : mz_tok E tM_X2_howManyWet (tb_X2_howManyWet) := mz_tcons (tk_X2_howManyWet_0 E) (mz_tnil)
noncomputable def rn_X2_howManyWet : List mz_V → List mz_C → Option (Option mz_V × List mz_C) := mz_rn tb_X2_howManyWet 16 2
theorem ctr_X2_howManyWet (E : List mz_V) : mz_ctr E yX2_howManyWet tM_X2_howManyWet rn_X2_howManyWet := mz_ctr_of 16 (tok_X2_howManyWet E) (by decide) rfl rfl
abbrev tM_X2_isFirstWet : mz_M := (cX2_isFirstWet, 4, (some .boolean), RX2, "isFirstWet", 5, 115)
noncomputable def ck_X2_isFirstWet_0 : List (Nat × mz_O) := [(0, .inl (mz_ld mz_isI 2 1)), (1, .inl (mz_ld mz_isR 0 2)), (2, .inl (mz_gf 2 0 5)), (5, .inl (mz_call rn_X6_all 1 (mz_ckV 6) 8)), (8, .inl (mz_ld mz_isI 1 9)), (9, .inl (mz_push (.inl (-1)) 10)), (10, .inl (mz_o2 mz_f_ixor 11)), (11, .inl (mz_o2 mz_f_iand 12)), (12, .inl (mz_push (.inl (-1)) 13)), (13, .inl (mz_o2 mz_f_ixor 14)), (14, .inl (mz_o2 mz_f_iand 15)), (15, .inl (mz_j1 mz_eq0 18 38)), (18, .inl (mz_ld mz_isR 0 19)), (19, .inl (mz_ld mz_isR 0 20)), (20, .inl (mz_ld mz_isI 1 21)), (21, .inl (mz_ld mz_isI 2 22))]
theorem tk_X2_isFirstWet_0 (E : List mz_V) : mz_all E tM_X2_isFirstWet (ck_X2_isFirstWet_0) :=
  mz_cons (mz_iload_n (k := 2) (show decode cX2_isFirstWet 0 = .ok (.iload_n 2, 1) by decide +kernel)) (
  mz_cons (mz_aload_n (k := 0) (show decode cX2_isFirstWet 1 = .ok (.aload_n 0, 1) by decide +kernel)) (
  mz_cons (mz_getfield (C := RX2) (T := TX2) (N := 4) rfl mz_inX2 (by decide) mw_200 (show decode cX2_isFirstWet 2 = .ok (.getfield 9, 3) by decide +kernel)) (
  mz_cons (mz_invV (n := 0) (ctr_X6_all E) rfl ⟨by decide, by decide, by decide +kernel⟩ ⟨by decide, by decide⟩ mw_567 mw_609 mw_565 mw_566 mw_65 (show decode cX2_isFirstWet 5 = .ok (.invokevirtual 45, 3) by decide +kernel)) (
  mz_cons (mz_iload_n (k := 1) (show decode cX2_isFirstWet 8 = .ok (.iload_n 1, 1) by decide +kernel)) (
  mz_cons (mz_iconst (-1) (by decide) (show decode cX2_isFirstWet 9 = .ok (.iconst (-1), 1) by decide +kernel)) (
  mz_cons (mz_ixor (show decode cX2_isFirstWet 10 = .ok (.ixor, 1) by decide +kernel)) (
  mz_cons (mz_iand (show decode cX2_isFirstWet 11 = .ok (.iand, 1) by decide +kernel)) (
  mz_cons (mz_iconst (-1) (by decide) (show decode cX2_isFirstWet 12 = .ok (.iconst (-1), 1) by decide +kernel)) (
  mz_cons (mz_ixor (show decode cX2_isFirstWet 13 = .ok (.ixor, 1) by decide +kernel)) (
  mz_cons (mz_iand (show decode cX2_isFirstWet 14 = .ok (.iand, 1) by decide +kernel)) (
  mz_cons (mz_if_ne 38 (by decide) (show decode cX2_isFirstWet 15 = .ok (.ifCond .ne 23, 3) by decide +kernel)) (
  mz_cons (mz_aload_n (k := 0) (show decode cX2_isFirstWet 18 = .ok (.aload_n 0, 1) by decide +kernel)) (
  mz_cons (mz_aload_n (k := 0) (show decode cX2_isFirstWet 19 = .ok (.aload_n 0, 1) by decide +kernel)) (
  mz_cons (mz_iload_n (k := 1) (show decode cX2_isFirstWet 20 = .ok (.iload_n 1, 1) by decide +kernel)) (
  mz_cons (mz_iload_n (k := 2) (show decode cX2_isFirstWet 21 = .ok (.iload_n 2, 1) by decide +kernel)) (
  mz_nil))))))))))))))))
noncomputable def ck_X2_isFirstWet_1 : List (Nat × mz_O) := [(22, .inl (mz_call rn_X2_burnOn 3 (mz_ckV 2) 25)), (25, .inl (mz_ld mz_isI 2 26)), (26, .inl (mz_push (.inl 1) 27)), (27, .inl (mz_call rn_X2_lostFrom_l0 4 (mz_ckV 2) 30)), (30, .inl (mz_ld mz_isI 3 31)), (31, .inl (mz_j2 mz_eq 34 38)), (34, .inl (mz_push (.inl 1) 35)), (35, .inl (mz_go 39)), (38, .inl (mz_push (.inl 0) 39)), (39, .inr (mz_rt mz_is01))]
theorem tk_X2_isFirstWet_1 (E : List mz_V) : mz_all E tM_X2_isFirstWet (ck_X2_isFirstWet_1) :=
  mz_cons (mz_invV (n := 2) (ctr_X2_burnOn E) rfl ⟨by decide, by decide, by decide +kernel⟩ ⟨by decide, by decide⟩ mw_597 mw_594 mw_595 mw_596 mw_67 (show decode cX2_isFirstWet 22 = .ok (.invokevirtual 67, 3) by decide +kernel)) (
  mz_cons (mz_iload_n (k := 2) (show decode cX2_isFirstWet 25 = .ok (.iload_n 2, 1) by decide +kernel)) (
  mz_cons (mz_iconst 1 (by decide) (show decode cX2_isFirstWet 26 = .ok (.iconst 1, 1) by decide +kernel)) (
  mz_cons (mz_invV (n := 3) (ctr_X2_lostFrom_l0 E) rfl ⟨by decide, by decide, by decide +kernel⟩ ⟨by decide, by decide⟩ mw_583 mw_580 mw_582 mw_13 mw_67 (show decode cX2_isFirstWet 27 = .ok (.invokevirtual 32, 3) by decide +kernel)) (
  mz_cons (mz_iload_n (k := 3) (show decode cX2_isFirstWet 30 = .ok (.iload_n 3, 1) by decide +kernel)) (
  mz_cons (mz_icmp_ne 38 (by decide) (show decode cX2_isFirstWet 31 = .ok (.if_icmp .ne 7, 3) by decide +kernel)) (
  mz_cons (mz_iconst 1 (by decide) (show decode cX2_isFirstWet 34 = .ok (.iconst 1, 1) by decide +kernel)) (
  mz_cons (mz_goto 39 (by decide) (show decode cX2_isFirstWet 35 = .ok (.goto 4, 3) by decide +kernel)) (
  mz_cons (mz_iconst 0 (by decide) (show decode cX2_isFirstWet 38 = .ok (.iconst 0, 1) by decide +kernel)) (
  mz_consR (mz_zreturn rfl (show decode cX2_isFirstWet 39 = .ok (.ireturn, 1) by decide +kernel)) (
  mz_nil))))))))))
noncomputable def tb_X2_isFirstWet : List (Nat × List (Nat × mz_O)) := [(21, ck_X2_isFirstWet_0), (39, ck_X2_isFirstWet_1)]
theorem tok_X2_isFirstWet (E : List mz_V) : mz_tok E tM_X2_isFirstWet (tb_X2_isFirstWet) := mz_tcons (tk_X2_isFirstWet_0 E) (mz_tcons (tk_X2_isFirstWet_1 E) (mz_tnil))
noncomputable def rn_X2_isFirstWet : List mz_V → List mz_C → Option (Option mz_V × List mz_C) := mz_rn tb_X2_isFirstWet 35 4
theorem ctr_X2_isFirstWet (E : List mz_V) : mz_ctr E yX2_isFirstWet tM_X2_isFirstWet rn_X2_isFirstWet := mz_ctr_of 35 (tok_X2_isFirstWet E) (by decide) rfl rfl
abbrev tM_X2_firstWet : mz_M := (cX2_firstWet, 6, (some .int), RX2, "firstWet", 6, 138)
noncomputable def ck_X2_firstWet_0 : List (Nat × mz_O) := [(0, .inl (mz_ld mz_isR 0 1)), (1, .inl (mz_ld mz_isI 1 2)), (2, .inl (mz_push (.inl 0) 3)), (3, .inl (mz_ld mz_isR 0 4)), (4, .inl (mz_gf 2 0 7)), (7, .inl (mz_call rn_X6_hands 1 (mz_ckV 6) 10)), (10, .inl (mz_call rn_X2_leastLost 4 (mz_ckV 2) 13)), (13, .inl (mz_sto mz_isI mz_p1 2 14)), (14, .inl (mz_ld mz_isR 0 15)), (15, .inl (mz_ld mz_isR 0 16)), (16, .inl (mz_gf 2 0 19)), (19, .inl (mz_call rn_X6_all 1 (mz_ckV 6) 22)), (22, .inl (mz_ld mz_isI 1 23)), (23, .inl (mz_push (.inl (-1)) 24)), (24, .inl (mz_o2 mz_f_ixor 25)), (25, .inl (mz_o2 mz_f_iand 26))]
theorem tk_X2_firstWet_0 (E : List mz_V) : mz_all E tM_X2_firstWet (ck_X2_firstWet_0) :=
  mz_cons (mz_aload_n (k := 0) (show decode cX2_firstWet 0 = .ok (.aload_n 0, 1) by decide +kernel)) (
  mz_cons (mz_iload_n (k := 1) (show decode cX2_firstWet 1 = .ok (.iload_n 1, 1) by decide +kernel)) (
  mz_cons (mz_iconst 0 (by decide) (show decode cX2_firstWet 2 = .ok (.iconst 0, 1) by decide +kernel)) (
  mz_cons (mz_aload_n (k := 0) (show decode cX2_firstWet 3 = .ok (.aload_n 0, 1) by decide +kernel)) (
  mz_cons (mz_getfield (C := RX2) (T := TX2) (N := 4) rfl mz_inX2 (by decide) mw_200 (show decode cX2_firstWet 4 = .ok (.getfield 9, 3) by decide +kernel)) (
  mz_cons (mz_invV (n := 0) (ctr_X6_hands E) rfl ⟨by decide, by decide, by decide +kernel⟩ ⟨by decide, by decide⟩ mw_571 mw_640 mw_569 mw_570 mw_65 (show decode cX2_firstWet 7 = .ok (.invokevirtual 36, 3) by decide +kernel)) (
  mz_cons (mz_invV (n := 3) (ctr_X2_leastLost E) rfl ⟨by decide, by decide, by decide +kernel⟩ ⟨by decide, by decide⟩ mw_575 mw_641 mw_573 mw_574 mw_67 (show decode cX2_firstWet 10 = .ok (.invokevirtual 42, 3) by decide +kernel)) (
  mz_cons (mz_istore_n (k := 2) (by decide) (show decode cX2_firstWet 13 = .ok (.istore_n 2, 1) by decide +kernel)) (
  mz_cons (mz_aload_n (k := 0) (show decode cX2_firstWet 14 = .ok (.aload_n 0, 1) by decide +kernel)) (
  mz_cons (mz_aload_n (k := 0) (show decode cX2_firstWet 15 = .ok (.aload_n 0, 1) by decide +kernel)) (
  mz_cons (mz_getfield (C := RX2) (T := TX2) (N := 4) rfl mz_inX2 (by decide) mw_200 (show decode cX2_firstWet 16 = .ok (.getfield 9, 3) by decide +kernel)) (
  mz_cons (mz_invV (n := 0) (ctr_X6_all E) rfl ⟨by decide, by decide, by decide +kernel⟩ ⟨by decide, by decide⟩ mw_567 mw_609 mw_565 mw_566 mw_65 (show decode cX2_firstWet 19 = .ok (.invokevirtual 45, 3) by decide +kernel)) (
  mz_cons (mz_iload_n (k := 1) (show decode cX2_firstWet 22 = .ok (.iload_n 1, 1) by decide +kernel)) (
  mz_cons (mz_iconst (-1) (by decide) (show decode cX2_firstWet 23 = .ok (.iconst (-1), 1) by decide +kernel)) (
  mz_cons (mz_ixor (show decode cX2_firstWet 24 = .ok (.ixor, 1) by decide +kernel)) (
  mz_cons (mz_iand (show decode cX2_firstWet 25 = .ok (.iand, 1) by decide +kernel)) (
  mz_nil))))))))))))))))
noncomputable def ck_X2_firstWet_1 : List (Nat × mz_O) := [(26, .inl (mz_call rn_X2_howManyWet 2 (mz_ckV 2) 29)), (29, .inl (mz_sto mz_isI mz_p1 3 30)), (30, .inl (mz_ld mz_isR 0 31)), (31, .inl (mz_gf 2 1 34)), (34, .inl (mz_ld mz_isI 3 35)), (35, .inl (mz_push (.inl 1) 36)), (36, .inl (mz_o2 mz_f_iadd 37)), (37, .inl (mz_call rn_X8_startOf 2 (mz_ckV 8) 40)), (40, .inl (mz_sto mz_isI mz_p1 4 42)), (42, .inl (mz_ld mz_isR 0 43)), (43, .inl (mz_gf 2 1 46)), (46, .inl (mz_ld mz_isI 3 47)), (47, .inl (mz_call rn_X8_startOf 2 (mz_ckV 8) 50)), (50, .inl (mz_sto mz_isI mz_p1 5 52)), (52, .inl (mz_ld mz_isI 5 54)), (54, .inl (mz_ld mz_isI 4 56))]
theorem tk_X2_firstWet_1 (E : List mz_V) : mz_all E tM_X2_firstWet (ck_X2_firstWet_1) :=
  mz_cons (mz_invV (n := 1) (ctr_X2_howManyWet E) rfl ⟨by decide, by decide, by decide +kernel⟩ ⟨by decide, by decide⟩ mw_617 mw_614 mw_616 mw_15 mw_67 (show decode cX2_firstWet 26 = .ok (.invokevirtual 48, 3) by decide +kernel)) (
  mz_cons (mz_istore_n (k := 3) (by decide) (show decode cX2_firstWet 29 = .ok (.istore_n 3, 1) by decide +kernel)) (
  mz_cons (mz_aload_n (k := 0) (show decode cX2_firstWet 30 = .ok (.aload_n 0, 1) by decide +kernel)) (
  mz_cons (mz_getfield (C := RX2) (T := TX2) (N := 4) rfl mz_inX2 (by decide) mw_201 (show decode cX2_firstWet 31 = .ok (.getfield 15, 3) by decide +kernel)) (
  mz_cons (mz_iload_n (k := 3) (show decode cX2_firstWet 34 = .ok (.iload_n 3, 1) by decide +kernel)) (
  mz_cons (mz_iconst 1 (by decide) (show decode cX2_firstWet 35 = .ok (.iconst 1, 1) by decide +kernel)) (
  mz_cons (mz_iadd (show decode cX2_firstWet 36 = .ok (.iadd, 1) by decide +kernel)) (
  mz_cons (mz_invV (n := 1) (ctr_X8_startOf E) rfl ⟨by decide, by decide, by decide +kernel⟩ ⟨by decide, by decide⟩ mw_626 mw_623 mw_624 mw_625 mw_63 (show decode cX2_firstWet 37 = .ok (.invokevirtual 52, 3) by decide +kernel)) (
  mz_cons (mz_istore (by decide) (show decode cX2_firstWet 40 = .ok (.istore 4, 2) by decide +kernel)) (
  mz_cons (mz_aload_n (k := 0) (show decode cX2_firstWet 42 = .ok (.aload_n 0, 1) by decide +kernel)) (
  mz_cons (mz_getfield (C := RX2) (T := TX2) (N := 4) rfl mz_inX2 (by decide) mw_201 (show decode cX2_firstWet 43 = .ok (.getfield 15, 3) by decide +kernel)) (
  mz_cons (mz_iload_n (k := 3) (show decode cX2_firstWet 46 = .ok (.iload_n 3, 1) by decide +kernel)) (
  mz_cons (mz_invV (n := 1) (ctr_X8_startOf E) rfl ⟨by decide, by decide, by decide +kernel⟩ ⟨by decide, by decide⟩ mw_626 mw_623 mw_624 mw_625 mw_63 (show decode cX2_firstWet 47 = .ok (.invokevirtual 52, 3) by decide +kernel)) (
  mz_cons (mz_istore (by decide) (show decode cX2_firstWet 50 = .ok (.istore 5, 2) by decide +kernel)) (
  mz_cons (mz_iload (show decode cX2_firstWet 52 = .ok (.iload 5, 2) by decide +kernel)) (
  mz_cons (mz_iload (show decode cX2_firstWet 54 = .ok (.iload 4, 2) by decide +kernel)) (
  mz_nil))))))))))))))))
noncomputable def ck_X2_firstWet_2 : List (Nat × mz_O) := [(56, .inl (mz_j2 mz_lt 59 93)), (59, .inl (mz_ld mz_isR 0 60)), (60, .inl (mz_ld mz_isI 1 61)), (61, .inl (mz_ld mz_isR 0 62)), (62, .inl (mz_gf 2 1 65)), (65, .inl (mz_ld mz_isI 5 67)), (67, .inl (mz_call rn_X8_get 2 (mz_ckV 8) 70)), (70, .inl (mz_ld mz_isI 2 71)), (71, .inl (mz_call rn_X2_isFirstWet 4 (mz_ckV 2) 74)), (74, .inl (mz_j1 mz_eq0 87 77)), (77, .inl (mz_ld mz_isR 0 78)), (78, .inl (mz_gf 2 1 81)), (81, .inl (mz_ld mz_isI 5 83)), (83, .inl (mz_call rn_X8_get 2 (mz_ckV 8) 86)), (86, .inr (mz_rt mz_isI))]
theorem tk_X2_firstWet_2 (E : List mz_V) : mz_all E tM_X2_firstWet (ck_X2_firstWet_2) :=
  mz_cons (mz_icmp_ge 93 (by decide) (show decode cX2_firstWet 56 = .ok (.if_icmp .ge 37, 3) by decide +kernel)) (
  mz_cons (mz_aload_n (k := 0) (show decode cX2_firstWet 59 = .ok (.aload_n 0, 1) by decide +kernel)) (
  mz_cons (mz_iload_n (k := 1) (show decode cX2_firstWet 60 = .ok (.iload_n 1, 1) by decide +kernel)) (
  mz_cons (mz_aload_n (k := 0) (show decode cX2_firstWet 61 = .ok (.aload_n 0, 1) by decide +kernel)) (
  mz_cons (mz_getfield (C := RX2) (T := TX2) (N := 4) rfl mz_inX2 (by decide) mw_201 (show decode cX2_firstWet 62 = .ok (.getfield 15, 3) by decide +kernel)) (
  mz_cons (mz_iload (show decode cX2_firstWet 65 = .ok (.iload 5, 2) by decide +kernel)) (
  mz_cons (mz_invV (n := 1) (ctr_X8_get E) rfl ⟨by decide, by decide, by decide +kernel⟩ ⟨by decide, by decide⟩ mw_631 mw_628 mw_629 mw_630 mw_63 (show decode cX2_firstWet 67 = .ok (.invokevirtual 57, 3) by decide +kernel)) (
  mz_cons (mz_iload_n (k := 2) (show decode cX2_firstWet 70 = .ok (.iload_n 2, 1) by decide +kernel)) (
  mz_cons (mz_invV (n := 3) (ctr_X2_isFirstWet E) rfl ⟨by decide, by decide, by decide +kernel⟩ ⟨by decide, by decide⟩ mw_645 mw_642 mw_644 mw_16 mw_67 (show decode cX2_firstWet 71 = .ok (.invokevirtual 60, 3) by decide +kernel)) (
  mz_cons (mz_if_eq 87 (by decide) (show decode cX2_firstWet 74 = .ok (.ifCond .eq 13, 3) by decide +kernel)) (
  mz_cons (mz_aload_n (k := 0) (show decode cX2_firstWet 77 = .ok (.aload_n 0, 1) by decide +kernel)) (
  mz_cons (mz_getfield (C := RX2) (T := TX2) (N := 4) rfl mz_inX2 (by decide) mw_201 (show decode cX2_firstWet 78 = .ok (.getfield 15, 3) by decide +kernel)) (
  mz_cons (mz_iload (show decode cX2_firstWet 81 = .ok (.iload 5, 2) by decide +kernel)) (
  mz_cons (mz_invV (n := 1) (ctr_X8_get E) rfl ⟨by decide, by decide, by decide +kernel⟩ ⟨by decide, by decide⟩ mw_631 mw_628 mw_629 mw_630 mw_63 (show decode cX2_firstWet 83 = .ok (.invokevirtual 57, 3) by decide +kernel)) (
  mz_consR (mz_ireturn rfl (show decode cX2_firstWet 86 = .ok (.ireturn, 1) by decide +kernel)) (
  mz_nil)))))))))))))))
noncomputable def tb_X2_firstWet : List (Nat × List (Nat × mz_O)) := [(25, ck_X2_firstWet_0), (54, ck_X2_firstWet_1), (86, ck_X2_firstWet_2)]
theorem tok_X2_firstWet (E : List mz_V) : mz_tok E tM_X2_firstWet (tb_X2_firstWet) := mz_tcons (tk_X2_firstWet_0 E) (mz_tcons (tk_X2_firstWet_1 E) (mz_tcons (tk_X2_firstWet_2 E) (mz_tnil)))
noncomputable def rn_X2_firstWet : List mz_V → List mz_C → Option (Option mz_V × List mz_C) := mz_rn tb_X2_firstWet 57 6
theorem ctr_X2_firstWet (E : List mz_V) : mz_ctr E yX2_firstWet tM_X2_firstWet rn_X2_firstWet := mz_ctr_of 57 (tok_X2_firstWet E) (by decide) rfl rfl
abbrev tM_X2_firstWets : mz_M := (cX2_firstWets, 7, (some .int), RX2, "firstWets", 6, 138)
noncomputable def ck_X2_firstWets_0 : List (Nat × mz_O) := [(0, .inl (mz_ld mz_isR 0 1)), (1, .inl (mz_ld mz_isI 1 2)), (2, .inl (mz_push (.inl 0) 3)), (3, .inl (mz_ld mz_isR 0 4)), (4, .inl (mz_gf 2 0 7)), (7, .inl (mz_call rn_X6_hands 1 (mz_ckV 6) 10)), (10, .inl (mz_call rn_X2_leastLost 4 (mz_ckV 2) 13)), (13, .inl (mz_sto mz_isI mz_p1 2 14)), (14, .inl (mz_ld mz_isR 0 15)), (15, .inl (mz_ld mz_isR 0 16)), (16, .inl (mz_gf 2 0 19)), (19, .inl (mz_call rn_X6_all 1 (mz_ckV 6) 22)), (22, .inl (mz_ld mz_isI 1 23)), (23, .inl (mz_push (.inl (-1)) 24)), (24, .inl (mz_o2 mz_f_ixor 25)), (25, .inl (mz_o2 mz_f_iand 26))]
theorem tk_X2_firstWets_0 (E : List mz_V) : mz_all E tM_X2_firstWets (ck_X2_firstWets_0) :=
  mz_cons (mz_aload_n (k := 0) (show decode cX2_firstWets 0 = .ok (.aload_n 0, 1) by decide +kernel)) (
  mz_cons (mz_iload_n (k := 1) (show decode cX2_firstWets 1 = .ok (.iload_n 1, 1) by decide +kernel)) (
  mz_cons (mz_iconst 0 (by decide) (show decode cX2_firstWets 2 = .ok (.iconst 0, 1) by decide +kernel)) (
  mz_cons (mz_aload_n (k := 0) (show decode cX2_firstWets 3 = .ok (.aload_n 0, 1) by decide +kernel)) (
  mz_cons (mz_getfield (C := RX2) (T := TX2) (N := 4) rfl mz_inX2 (by decide) mw_200 (show decode cX2_firstWets 4 = .ok (.getfield 9, 3) by decide +kernel)) (
  mz_cons (mz_invV (n := 0) (ctr_X6_hands E) rfl ⟨by decide, by decide, by decide +kernel⟩ ⟨by decide, by decide⟩ mw_571 mw_640 mw_569 mw_570 mw_65 (show decode cX2_firstWets 7 = .ok (.invokevirtual 36, 3) by decide +kernel)) (
  mz_cons (mz_invV (n := 3) (ctr_X2_leastLost E) rfl ⟨by decide, by decide, by decide +kernel⟩ ⟨by decide, by decide⟩ mw_575 mw_641 mw_573 mw_574 mw_67 (show decode cX2_firstWets 10 = .ok (.invokevirtual 42, 3) by decide +kernel)) (
  mz_cons (mz_istore_n (k := 2) (by decide) (show decode cX2_firstWets 13 = .ok (.istore_n 2, 1) by decide +kernel)) (
  mz_cons (mz_aload_n (k := 0) (show decode cX2_firstWets 14 = .ok (.aload_n 0, 1) by decide +kernel)) (
  mz_cons (mz_aload_n (k := 0) (show decode cX2_firstWets 15 = .ok (.aload_n 0, 1) by decide +kernel)) (
  mz_cons (mz_getfield (C := RX2) (T := TX2) (N := 4) rfl mz_inX2 (by decide) mw_200 (show decode cX2_firstWets 16 = .ok (.getfield 9, 3) by decide +kernel)) (
  mz_cons (mz_invV (n := 0) (ctr_X6_all E) rfl ⟨by decide, by decide, by decide +kernel⟩ ⟨by decide, by decide⟩ mw_567 mw_609 mw_565 mw_566 mw_65 (show decode cX2_firstWets 19 = .ok (.invokevirtual 45, 3) by decide +kernel)) (
  mz_cons (mz_iload_n (k := 1) (show decode cX2_firstWets 22 = .ok (.iload_n 1, 1) by decide +kernel)) (
  mz_cons (mz_iconst (-1) (by decide) (show decode cX2_firstWets 23 = .ok (.iconst (-1), 1) by decide +kernel)) (
  mz_cons (mz_ixor (show decode cX2_firstWets 24 = .ok (.ixor, 1) by decide +kernel)) (
  mz_cons (mz_iand (show decode cX2_firstWets 25 = .ok (.iand, 1) by decide +kernel)) (
  mz_nil))))))))))))))))
noncomputable def ck_X2_firstWets_1 : List (Nat × mz_O) := [(26, .inl (mz_call rn_X2_howManyWet 2 (mz_ckV 2) 29)), (29, .inl (mz_sto mz_isI mz_p1 3 30)), (30, .inl (mz_push (.inl 0) 31)), (31, .inl (mz_sto mz_isI mz_p1 4 33)), (33, .inl (mz_ld mz_isR 0 34)), (34, .inl (mz_gf 2 1 37)), (37, .inl (mz_ld mz_isI 3 38)), (38, .inl (mz_push (.inl 1) 39)), (39, .inl (mz_o2 mz_f_iadd 40)), (40, .inl (mz_call rn_X8_startOf 2 (mz_ckV 8) 43)), (43, .inl (mz_sto mz_isI mz_p1 5 45)), (45, .inl (mz_ld mz_isR 0 46)), (46, .inl (mz_gf 2 1 49)), (49, .inl (mz_ld mz_isI 3 50)), (50, .inl (mz_call rn_X8_startOf 2 (mz_ckV 8) 53)), (53, .inl (mz_sto mz_isI mz_p1 6 55))]
theorem tk_X2_firstWets_1 (E : List mz_V) : mz_all E tM_X2_firstWets (ck_X2_firstWets_1) :=
  mz_cons (mz_invV (n := 1) (ctr_X2_howManyWet E) rfl ⟨by decide, by decide, by decide +kernel⟩ ⟨by decide, by decide⟩ mw_617 mw_614 mw_616 mw_15 mw_67 (show decode cX2_firstWets 26 = .ok (.invokevirtual 48, 3) by decide +kernel)) (
  mz_cons (mz_istore_n (k := 3) (by decide) (show decode cX2_firstWets 29 = .ok (.istore_n 3, 1) by decide +kernel)) (
  mz_cons (mz_iconst 0 (by decide) (show decode cX2_firstWets 30 = .ok (.iconst 0, 1) by decide +kernel)) (
  mz_cons (mz_istore (by decide) (show decode cX2_firstWets 31 = .ok (.istore 4, 2) by decide +kernel)) (
  mz_cons (mz_aload_n (k := 0) (show decode cX2_firstWets 33 = .ok (.aload_n 0, 1) by decide +kernel)) (
  mz_cons (mz_getfield (C := RX2) (T := TX2) (N := 4) rfl mz_inX2 (by decide) mw_201 (show decode cX2_firstWets 34 = .ok (.getfield 15, 3) by decide +kernel)) (
  mz_cons (mz_iload_n (k := 3) (show decode cX2_firstWets 37 = .ok (.iload_n 3, 1) by decide +kernel)) (
  mz_cons (mz_iconst 1 (by decide) (show decode cX2_firstWets 38 = .ok (.iconst 1, 1) by decide +kernel)) (
  mz_cons (mz_iadd (show decode cX2_firstWets 39 = .ok (.iadd, 1) by decide +kernel)) (
  mz_cons (mz_invV (n := 1) (ctr_X8_startOf E) rfl ⟨by decide, by decide, by decide +kernel⟩ ⟨by decide, by decide⟩ mw_626 mw_623 mw_624 mw_625 mw_63 (show decode cX2_firstWets 40 = .ok (.invokevirtual 52, 3) by decide +kernel)) (
  mz_cons (mz_istore (by decide) (show decode cX2_firstWets 43 = .ok (.istore 5, 2) by decide +kernel)) (
  mz_cons (mz_aload_n (k := 0) (show decode cX2_firstWets 45 = .ok (.aload_n 0, 1) by decide +kernel)) (
  mz_cons (mz_getfield (C := RX2) (T := TX2) (N := 4) rfl mz_inX2 (by decide) mw_201 (show decode cX2_firstWets 46 = .ok (.getfield 15, 3) by decide +kernel)) (
  mz_cons (mz_iload_n (k := 3) (show decode cX2_firstWets 49 = .ok (.iload_n 3, 1) by decide +kernel)) (
  mz_cons (mz_invV (n := 1) (ctr_X8_startOf E) rfl ⟨by decide, by decide, by decide +kernel⟩ ⟨by decide, by decide⟩ mw_626 mw_623 mw_624 mw_625 mw_63 (show decode cX2_firstWets 50 = .ok (.invokevirtual 52, 3) by decide +kernel)) (
  mz_cons (mz_istore (by decide) (show decode cX2_firstWets 53 = .ok (.istore 6, 2) by decide +kernel)) (
  mz_nil))))))))))))))))
noncomputable def ck_X2_firstWets_2 : List (Nat × mz_O) := [(55, .inl (mz_ld mz_isI 6 57)), (57, .inl (mz_ld mz_isI 5 59)), (59, .inl (mz_j2 mz_lt 62 89)), (62, .inl (mz_ld mz_isR 0 63)), (63, .inl (mz_ld mz_isI 1 64)), (64, .inl (mz_ld mz_isR 0 65)), (65, .inl (mz_gf 2 1 68)), (68, .inl (mz_ld mz_isI 6 70)), (70, .inl (mz_call rn_X8_get 2 (mz_ckV 8) 73)), (73, .inl (mz_ld mz_isI 2 74)), (74, .inl (mz_call rn_X2_isFirstWet 4 (mz_ckV 2) 77)), (77, .inl (mz_j1 mz_eq0 83 80)), (80, .inl (mz_inc 4 1 83)), (83, .inl (mz_inc 6 1 86)), (86, .inl (mz_go 55)), (89, .inl (mz_ld mz_isI 4 91))]
theorem tk_X2_firstWets_2 (E : List mz_V) : mz_all E tM_X2_firstWets (ck_X2_firstWets_2) :=
  mz_cons (mz_iload (show decode cX2_firstWets 55 = .ok (.iload 6, 2) by decide +kernel)) (
  mz_cons (mz_iload (show decode cX2_firstWets 57 = .ok (.iload 5, 2) by decide +kernel)) (
  mz_cons (mz_icmp_ge 89 (by decide) (show decode cX2_firstWets 59 = .ok (.if_icmp .ge 30, 3) by decide +kernel)) (
  mz_cons (mz_aload_n (k := 0) (show decode cX2_firstWets 62 = .ok (.aload_n 0, 1) by decide +kernel)) (
  mz_cons (mz_iload_n (k := 1) (show decode cX2_firstWets 63 = .ok (.iload_n 1, 1) by decide +kernel)) (
  mz_cons (mz_aload_n (k := 0) (show decode cX2_firstWets 64 = .ok (.aload_n 0, 1) by decide +kernel)) (
  mz_cons (mz_getfield (C := RX2) (T := TX2) (N := 4) rfl mz_inX2 (by decide) mw_201 (show decode cX2_firstWets 65 = .ok (.getfield 15, 3) by decide +kernel)) (
  mz_cons (mz_iload (show decode cX2_firstWets 68 = .ok (.iload 6, 2) by decide +kernel)) (
  mz_cons (mz_invV (n := 1) (ctr_X8_get E) rfl ⟨by decide, by decide, by decide +kernel⟩ ⟨by decide, by decide⟩ mw_631 mw_628 mw_629 mw_630 mw_63 (show decode cX2_firstWets 70 = .ok (.invokevirtual 57, 3) by decide +kernel)) (
  mz_cons (mz_iload_n (k := 2) (show decode cX2_firstWets 73 = .ok (.iload_n 2, 1) by decide +kernel)) (
  mz_cons (mz_invV (n := 3) (ctr_X2_isFirstWet E) rfl ⟨by decide, by decide, by decide +kernel⟩ ⟨by decide, by decide⟩ mw_645 mw_642 mw_644 mw_16 mw_67 (show decode cX2_firstWets 74 = .ok (.invokevirtual 60, 3) by decide +kernel)) (
  mz_cons (mz_if_eq 83 (by decide) (show decode cX2_firstWets 77 = .ok (.ifCond .eq 6, 3) by decide +kernel)) (
  mz_cons (mz_iinc 1 (by decide) (by decide) (show decode cX2_firstWets 80 = .ok (.iinc 4 1, 3) by decide +kernel)) (
  mz_cons (mz_iinc 1 (by decide) (by decide) (show decode cX2_firstWets 83 = .ok (.iinc 6 1, 3) by decide +kernel)) (
  mz_cons (mz_goto 55 (by decide) (show decode cX2_firstWets 86 = .ok (.goto (-31), 3) by decide +kernel)) (
  mz_cons (mz_iload (show decode cX2_firstWets 89 = .ok (.iload 4, 2) by decide +kernel)) (
  mz_nil))))))))))))))))
noncomputable def ck_X2_firstWets_3 : List (Nat × mz_O) := [(91, .inr (mz_rt mz_isI))]
theorem tk_X2_firstWets_3 (E : List mz_V) : mz_all E tM_X2_firstWets (ck_X2_firstWets_3) :=
  mz_consR (mz_ireturn rfl (show decode cX2_firstWets 91 = .ok (.ireturn, 1) by decide +kernel)) (
  mz_nil)
noncomputable def tb_X2_firstWets : List (Nat × List (Nat × mz_O)) := [(25, ck_X2_firstWets_0), (53, ck_X2_firstWets_1), (89, ck_X2_firstWets_2), (91, ck_X2_firstWets_3)]
theorem tok_X2_firstWets (E : List mz_V) : mz_tok E tM_X2_firstWets (tb_X2_firstWets) := mz_tcons (tk_X2_firstWets_0 E) (mz_tcons (tk_X2_firstWets_1 E) (mz_tcons (tk_X2_firstWets_2 E) (mz_tcons (tk_X2_firstWets_3 E) (mz_tnil))))
noncomputable def rn_X2_firstWets : List mz_V → List mz_C → Option (Option mz_V × List mz_C) := mz_rn tb_X2_firstWets 174 7
theorem ctr_X2_firstWets (E : List mz_V) : mz_ctr E yX2_firstWets tM_X2_firstWets rn_X2_firstWets := mz_ctr_of 174 (tok_X2_firstWets E) (by decide) rfl rfl
abbrev tM_X11_least : mz_M := (cX11_least, 3, (some .int), RX11, "least", 7, 164)
noncomputable def ck_X11_least_0 : List (Nat × mz_O) := [(0, .inl (mz_ld mz_isR 0 1)), (1, .inl (mz_gf 11 0 4)), (4, .inl (mz_ld mz_isI 1 5)), (5, .inl (mz_call rn_X6_isSet 2 (mz_ckV 6) 8)), (8, .inl (mz_j1 mz_eq0 20 11)), (11, .inl (mz_ld mz_isI 2 12)), (12, .inl (mz_push (.inl 0) 13)), (13, .inl (mz_push (.inl 2) 14)), (14, .inl (mz_call rn_X11_within 3 mz_ckT 17)), (17, .inl (mz_j1 mz_eq0 20 23)), (20, .inl (mz_push (.inl (-3)) 22)), (22, .inr (mz_rt mz_isI)), (23, .inl (mz_ld mz_isI 2 24)), (24, .inl (mz_j1 mz_eq0 27 44)), (27, .inl (mz_ld mz_isR 0 28)), (28, .inl (mz_gf 11 2 31))]
theorem tk_X11_least_0 (E : List mz_V) : mz_all E tM_X11_least (ck_X11_least_0) :=
  mz_cons (mz_aload_n (k := 0) (show decode cX11_least 0 = .ok (.aload_n 0, 1) by decide +kernel)) (
  mz_cons (mz_getfield (C := RX11) (T := TX11) (N := 9) rfl mz_inX11 (by decide) mw_330 (show decode cX11_least 1 = .ok (.getfield 18, 3) by decide +kernel)) (
  mz_cons (mz_iload_n (k := 1) (show decode cX11_least 4 = .ok (.iload_n 1, 1) by decide +kernel)) (
  mz_cons (mz_invV (n := 1) (ctr_X6_isSet E) rfl ⟨by decide, by decide, by decide +kernel⟩ ⟨by decide, by decide⟩ mw_563 mw_560 mw_561 mw_562 mw_65 (show decode cX11_least 5 = .ok (.invokevirtual 145, 3) by decide +kernel)) (
  mz_cons (mz_if_eq 20 (by decide) (show decode cX11_least 8 = .ok (.ifCond .eq 12, 3) by decide +kernel)) (
  mz_cons (mz_iload_n (k := 2) (show decode cX11_least 11 = .ok (.iload_n 2, 1) by decide +kernel)) (
  mz_cons (mz_iconst 0 (by decide) (show decode cX11_least 12 = .ok (.iconst 0, 1) by decide +kernel)) (
  mz_cons (mz_iconst 2 (by decide) (show decode cX11_least 13 = .ok (.iconst 2, 1) by decide +kernel)) (
  mz_cons (mz_invS (n := 3) (ctr_X11_within E) ⟨by decide, by decide, by decide +kernel⟩ ⟨by decide, by decide⟩ mw_140 mw_362 mw_139 mw_61 (show decode cX11_least 14 = .ok (.invokestatic 88, 3) by decide +kernel)) (
  mz_cons (mz_if_ne 23 (by decide) (show decode cX11_least 17 = .ok (.ifCond .ne 6, 3) by decide +kernel)) (
  mz_cons (mz_bipush (-3) (by decide) (show decode cX11_least 20 = .ok (.bipush (-3), 2) by decide +kernel)) (
  mz_consR (mz_ireturn rfl (show decode cX11_least 22 = .ok (.ireturn, 1) by decide +kernel)) (
  mz_cons (mz_iload_n (k := 2) (show decode cX11_least 23 = .ok (.iload_n 2, 1) by decide +kernel)) (
  mz_cons (mz_if_ne 44 (by decide) (show decode cX11_least 24 = .ok (.ifCond .ne 20, 3) by decide +kernel)) (
  mz_cons (mz_aload_n (k := 0) (show decode cX11_least 27 = .ok (.aload_n 0, 1) by decide +kernel)) (
  mz_cons (mz_getfield (C := RX11) (T := TX11) (N := 9) rfl mz_inX11 (by decide) mw_332 (show decode cX11_least 28 = .ok (.getfield 34, 3) by decide +kernel)) (
  mz_nil))))))))))))))))
noncomputable def ck_X11_least_1 : List (Nat × mz_O) := [(31, .inl (mz_ld mz_isI 1 32)), (32, .inl (mz_push (.inl 0) 33)), (33, .inl (mz_ld mz_isR 0 34)), (34, .inl (mz_gf 11 0 37)), (37, .inl (mz_call rn_X6_hands 1 (mz_ckV 6) 40)), (40, .inl (mz_call rn_X2_leastLost 4 (mz_ckV 2) 43)), (43, .inr (mz_rt mz_isI)), (44, .inl (mz_ld mz_isI 2 45)), (45, .inl (mz_push (.inl 1) 46)), (46, .inl (mz_j2 mz_eq 49 60)), (49, .inl (mz_ld mz_isR 0 50)), (50, .inl (mz_gf 11 2 53)), (53, .inl (mz_ld mz_isI 1 54)), (54, .inl (mz_call rn_X2_firstWet 2 (mz_ckV 2) 57)), (57, .inl (mz_go 68)), (60, .inl (mz_ld mz_isR 0 61))]
theorem tk_X11_least_1 (E : List mz_V) : mz_all E tM_X11_least (ck_X11_least_1) :=
  mz_cons (mz_iload_n (k := 1) (show decode cX11_least 31 = .ok (.iload_n 1, 1) by decide +kernel)) (
  mz_cons (mz_iconst 0 (by decide) (show decode cX11_least 32 = .ok (.iconst 0, 1) by decide +kernel)) (
  mz_cons (mz_aload_n (k := 0) (show decode cX11_least 33 = .ok (.aload_n 0, 1) by decide +kernel)) (
  mz_cons (mz_getfield (C := RX11) (T := TX11) (N := 9) rfl mz_inX11 (by decide) mw_330 (show decode cX11_least 34 = .ok (.getfield 18, 3) by decide +kernel)) (
  mz_cons (mz_invV (n := 0) (ctr_X6_hands E) rfl ⟨by decide, by decide, by decide +kernel⟩ ⟨by decide, by decide⟩ mw_571 mw_568 mw_569 mw_570 mw_65 (show decode cX11_least 37 = .ok (.invokevirtual 148, 3) by decide +kernel)) (
  mz_cons (mz_invV (n := 3) (ctr_X2_leastLost E) rfl ⟨by decide, by decide, by decide +kernel⟩ ⟨by decide, by decide⟩ mw_575 mw_572 mw_573 mw_574 mw_67 (show decode cX11_least 40 = .ok (.invokevirtual 151, 3) by decide +kernel)) (
  mz_consR (mz_ireturn rfl (show decode cX11_least 43 = .ok (.ireturn, 1) by decide +kernel)) (
  mz_cons (mz_iload_n (k := 2) (show decode cX11_least 44 = .ok (.iload_n 2, 1) by decide +kernel)) (
  mz_cons (mz_iconst 1 (by decide) (show decode cX11_least 45 = .ok (.iconst 1, 1) by decide +kernel)) (
  mz_cons (mz_icmp_ne 60 (by decide) (show decode cX11_least 46 = .ok (.if_icmp .ne 14, 3) by decide +kernel)) (
  mz_cons (mz_aload_n (k := 0) (show decode cX11_least 49 = .ok (.aload_n 0, 1) by decide +kernel)) (
  mz_cons (mz_getfield (C := RX11) (T := TX11) (N := 9) rfl mz_inX11 (by decide) mw_332 (show decode cX11_least 50 = .ok (.getfield 34, 3) by decide +kernel)) (
  mz_cons (mz_iload_n (k := 1) (show decode cX11_least 53 = .ok (.iload_n 1, 1) by decide +kernel)) (
  mz_cons (mz_invV (n := 1) (ctr_X2_firstWet E) rfl ⟨by decide, by decide, by decide +kernel⟩ ⟨by decide, by decide⟩ mw_639 mw_636 mw_637 mw_638 mw_67 (show decode cX11_least 54 = .ok (.invokevirtual 155, 3) by decide +kernel)) (
  mz_cons (mz_goto 68 (by decide) (show decode cX11_least 57 = .ok (.goto 11, 3) by decide +kernel)) (
  mz_cons (mz_aload_n (k := 0) (show decode cX11_least 60 = .ok (.aload_n 0, 1) by decide +kernel)) (
  mz_nil))))))))))))))))
noncomputable def ck_X11_least_2 : List (Nat × mz_O) := [(61, .inl (mz_gf 11 2 64)), (64, .inl (mz_ld mz_isI 1 65)), (65, .inl (mz_call rn_X2_firstWets 2 (mz_ckV 2) 68)), (68, .inr (mz_rt mz_isI))]
theorem tk_X11_least_2 (E : List mz_V) : mz_all E tM_X11_least (ck_X11_least_2) :=
  mz_cons (mz_getfield (C := RX11) (T := TX11) (N := 9) rfl mz_inX11 (by decide) mw_332 (show decode cX11_least 61 = .ok (.getfield 34, 3) by decide +kernel)) (
  mz_cons (mz_iload_n (k := 1) (show decode cX11_least 64 = .ok (.iload_n 1, 1) by decide +kernel)) (
  mz_cons (mz_invV (n := 1) (ctr_X2_firstWets E) rfl ⟨by decide, by decide, by decide +kernel⟩ ⟨by decide, by decide⟩ mw_649 mw_646 mw_647 mw_648 mw_67 (show decode cX11_least 65 = .ok (.invokevirtual 158, 3) by decide +kernel)) (
  mz_consR (mz_ireturn rfl (show decode cX11_least 68 = .ok (.ireturn, 1) by decide +kernel)) (
  mz_nil))))
noncomputable def tb_X11_least : List (Nat × List (Nat × mz_O)) := [(28, ck_X11_least_0), (60, ck_X11_least_1), (68, ck_X11_least_2)]
theorem tok_X11_least (E : List mz_V) : mz_tok E tM_X11_least (tb_X11_least) := mz_tcons (tk_X11_least_0 E) (mz_tcons (tk_X11_least_1 E) (mz_tcons (tk_X11_least_2 E) (mz_tnil)))
noncomputable def rn_X11_least : List mz_V → List mz_C → Option (Option mz_V × List mz_C) := mz_rn tb_X11_least 31 3
theorem ctr_X11_least (E : List mz_V) : mz_ctr E yX11_least tM_X11_least rn_X11_least := mz_ctr_of 31 (tok_X11_least E) (by decide) rfl rfl
abbrev tM_X1_meanFolk : mz_M := (cX1_meanFolk, 3, (some .long), RX1, "meanFolk", 6, 147)
noncomputable def ck_X1_meanFolk_0 : List (Nat × mz_O) := [(0, .inl (mz_ld mz_isR 0 1)), (1, .inl (mz_ld mz_isI 1 2)), (2, .inl (mz_push (.inl (-1)) 3)), (3, .inl (mz_ld mz_isI 2 4)), (4, .inl (mz_call rn_X1_partOfSum 4 (mz_ckV 1) 7)), (7, .inr (mz_rt mz_isL))]
theorem tk_X1_meanFolk_0 (E : List mz_V) : mz_all E tM_X1_meanFolk (ck_X1_meanFolk_0) :=
  mz_cons (mz_aload_n (k := 0) (show decode cX1_meanFolk 0 = .ok (.aload_n 0, 1) by decide +kernel)) (
  mz_cons (mz_iload_n (k := 1) (show decode cX1_meanFolk 1 = .ok (.iload_n 1, 1) by decide +kernel)) (
  mz_cons (mz_iconst (-1) (by decide) (show decode cX1_meanFolk 2 = .ok (.iconst (-1), 1) by decide +kernel)) (
  mz_cons (mz_iload_n (k := 2) (show decode cX1_meanFolk 3 = .ok (.iload_n 2, 1) by decide +kernel)) (
  mz_cons (mz_invV (n := 3) (ctr_X1_partOfSum E) rfl ⟨by decide, by decide, by decide +kernel⟩ ⟨by decide, by decide⟩ mw_872 mw_869 mw_871 mw_24 mw_72 (show decode cX1_meanFolk 4 = .ok (.invokevirtual 22, 3) by decide +kernel)) (
  mz_consR (mz_lreturn rfl (show decode cX1_meanFolk 7 = .ok (.lreturn, 1) by decide +kernel)) (
  mz_nil))))))
noncomputable def tb_X1_meanFolk : List (Nat × List (Nat × mz_O)) := [(7, ck_X1_meanFolk_0)]
theorem tok_X1_meanFolk (E : List mz_V) : mz_tok E tM_X1_meanFolk (tb_X1_meanFolk) := mz_tcons (tk_X1_meanFolk_0 E) (mz_tnil)
noncomputable def rn_X1_meanFolk : List mz_V → List mz_C → Option (Option mz_V × List mz_C) := mz_rn tb_X1_meanFolk 16 3
theorem ctr_X1_meanFolk (E : List mz_V) : mz_ctr E yX1_meanFolk tM_X1_meanFolk rn_X1_meanFolk := mz_ctr_of 16 (tok_X1_meanFolk E) (by decide) rfl rfl
abbrev tM_X11_mean : mz_M := (cX11_mean, 3, (some .long), RX11, "mean", 7, 169)
noncomputable def ck_X11_mean_0 : List (Nat × mz_O) := [(0, .inl (mz_ld mz_isR 0 1)), (1, .inl (mz_gf 11 0 4)), (4, .inl (mz_ld mz_isI 1 5)), (5, .inl (mz_call rn_X6_isRoom 2 (mz_ckV 6) 8)), (8, .inl (mz_j1 mz_eq0 11 15)), (11, .inl (mz_push (.inr (.inl (-2))) 14)), (14, .inr (mz_rt mz_isL)), (15, .inl (mz_ld mz_isI 2 16)), (16, .inl (mz_push (.inl 0) 17)), (17, .inl (mz_push (.inl 1) 18)), (18, .inl (mz_call rn_X11_within 3 mz_ckT 21)), (21, .inl (mz_j1 mz_eq0 24 28)), (24, .inl (mz_push (.inr (.inl (-3))) 27)), (27, .inr (mz_rt mz_isL)), (28, .inl (mz_ld mz_isR 0 29)), (29, .inl (mz_gf 11 0 32))]
theorem tk_X11_mean_0 (E : List mz_V) : mz_all E tM_X11_mean (ck_X11_mean_0) :=
  mz_cons (mz_aload_n (k := 0) (show decode cX11_mean 0 = .ok (.aload_n 0, 1) by decide +kernel)) (
  mz_cons (mz_getfield (C := RX11) (T := TX11) (N := 9) rfl mz_inX11 (by decide) mw_330 (show decode cX11_mean 1 = .ok (.getfield 18, 3) by decide +kernel)) (
  mz_cons (mz_iload_n (k := 1) (show decode cX11_mean 4 = .ok (.iload_n 1, 1) by decide +kernel)) (
  mz_cons (mz_invV (n := 1) (ctr_X6_isRoom E) rfl ⟨by decide, by decide, by decide +kernel⟩ ⟨by decide, by decide⟩ mw_522 mw_539 mw_520 mw_521 mw_65 (show decode cX11_mean 5 = .ok (.invokevirtual 129, 3) by decide +kernel)) (
  mz_cons (mz_if_ne 15 (by decide) (show decode cX11_mean 8 = .ok (.ifCond .ne 7, 3) by decide +kernel)) (
  mz_cons (mz_ldc2 mw_857 (show decode cX11_mean 11 = .ok (.ldc2_w 229, 3) by decide +kernel)) (
  mz_consR (mz_lreturn rfl (show decode cX11_mean 14 = .ok (.lreturn, 1) by decide +kernel)) (
  mz_cons (mz_iload_n (k := 2) (show decode cX11_mean 15 = .ok (.iload_n 2, 1) by decide +kernel)) (
  mz_cons (mz_iconst 0 (by decide) (show decode cX11_mean 16 = .ok (.iconst 0, 1) by decide +kernel)) (
  mz_cons (mz_iconst 1 (by decide) (show decode cX11_mean 17 = .ok (.iconst 1, 1) by decide +kernel)) (
  mz_cons (mz_invS (n := 3) (ctr_X11_within E) ⟨by decide, by decide, by decide +kernel⟩ ⟨by decide, by decide⟩ mw_140 mw_362 mw_139 mw_61 (show decode cX11_mean 18 = .ok (.invokestatic 88, 3) by decide +kernel)) (
  mz_cons (mz_if_ne 28 (by decide) (show decode cX11_mean 21 = .ok (.ifCond .ne 7, 3) by decide +kernel)) (
  mz_cons (mz_ldc2 mw_858 (show decode cX11_mean 24 = .ok (.ldc2_w 231, 3) by decide +kernel)) (
  mz_consR (mz_lreturn rfl (show decode cX11_mean 27 = .ok (.lreturn, 1) by decide +kernel)) (
  mz_cons (mz_aload_n (k := 0) (show decode cX11_mean 28 = .ok (.aload_n 0, 1) by decide +kernel)) (
  mz_cons (mz_getfield (C := RX11) (T := TX11) (N := 9) rfl mz_inX11 (by decide) mw_330 (show decode cX11_mean 29 = .ok (.getfield 18, 3) by decide +kernel)) (
  mz_nil))))))))))))))))
noncomputable def ck_X11_mean_1 : List (Nat × mz_O) := [(32, .inl (mz_call rn_X6_ways 1 (mz_ckV 6) 35)), (35, .inl (mz_push (.inl 10) 37)), (37, .inl (mz_j2 mz_gt 40 46)), (46, .inl (mz_ld mz_isR 0 47)), (47, .inl (mz_gf 11 7 50)), (50, .inl (mz_ld mz_isI 1 51)), (51, .inl (mz_ld mz_isI 2 52)), (52, .inl (mz_call rn_X1_meanFolk 3 (mz_ckV 1) 55)), (55, .inr (mz_rt mz_isL))]
theorem tk_X11_mean_1 (E : List mz_V) : mz_all E tM_X11_mean (ck_X11_mean_1) :=
  mz_cons (mz_invV (n := 0) (ctr_X6_ways E) rfl ⟨by decide, by decide, by decide +kernel⟩ ⟨by decide, by decide⟩ mw_862 mw_859 mw_860 mw_861 mw_65 (show decode cX11_mean 32 = .ok (.invokevirtual 233, 3) by decide +kernel)) (
  mz_cons (mz_bipush 10 (by decide) (show decode cX11_mean 35 = .ok (.bipush 10, 2) by decide +kernel)) (
  mz_cons (mz_icmp_le 46 (by decide) (show decode cX11_mean 37 = .ok (.if_icmp .le 9, 3) by decide +kernel)) (
  mz_cons (mz_aload_n (k := 0) (show decode cX11_mean 46 = .ok (.aload_n 0, 1) by decide +kernel)) (
  mz_cons (mz_getfield (C := RX11) (T := TX11) (N := 9) rfl mz_inX11 (by decide) mw_337 (show decode cX11_mean 47 = .ok (.getfield 77, 3) by decide +kernel)) (
  mz_cons (mz_iload_n (k := 1) (show decode cX11_mean 50 = .ok (.iload_n 1, 1) by decide +kernel)) (
  mz_cons (mz_iload_n (k := 2) (show decode cX11_mean 51 = .ok (.iload_n 2, 1) by decide +kernel)) (
  mz_cons (mz_invV (n := 2) (ctr_X1_meanFolk E) rfl ⟨by decide, by decide, by decide +kernel⟩ ⟨by decide, by decide⟩ mw_908 mw_905 mw_906 mw_907 mw_72 (show decode cX11_mean 52 = .ok (.invokevirtual 242, 3) by decide +kernel)) (
  mz_consR (mz_lreturn rfl (show decode cX11_mean 55 = .ok (.lreturn, 1) by decide +kernel)) (
  mz_nil)))))))))
noncomputable def tb_X11_mean : List (Nat × List (Nat × mz_O)) := [(29, ck_X11_mean_0), (55, ck_X11_mean_1)]
theorem tok_X11_mean (E : List mz_V) : mz_tok E tM_X11_mean (tb_X11_mean) := mz_tcons (tk_X11_mean_0 E) (mz_tcons (tk_X11_mean_1 E) (mz_tnil))
noncomputable def rn_X11_mean : List mz_V → List mz_C → Option (Option mz_V × List mz_C) := mz_rn tb_X11_mean 31 3
theorem ctr_X11_mean (E : List mz_V) : mz_ctr E yX11_mean tM_X11_mean rn_X11_mean := mz_ctr_of 31 (tok_X11_mean E) (by decide) rfl rfl
abbrev tM_X11_net : mz_M := (cX11_net, 3, (some .int), RX11, "net", 7, 154)
noncomputable def ck_X11_net_0 : List (Nat × mz_O) := [(0, .inl (mz_ld mz_isR 0 1)), (1, .inl (mz_gf 11 1 4)), (4, .inl (mz_ld mz_isR 0 5)), (5, .inl (mz_gf 11 0 8)), (8, .inl (mz_call rn_X6_howMany 1 (mz_ckV 6) 11)), (11, .inl (mz_call rn_X7_firstFault 2 (mz_ckV 7) 14)), (14, .inl (mz_push (.inl (-1)) 15)), (15, .inl (mz_j2 mz_eq 21 18)), (18, .inl (mz_push (.inl (-4)) 20)), (20, .inr (mz_rt mz_isI))]
theorem tk_X11_net_0 (E : List mz_V) : mz_all E tM_X11_net (ck_X11_net_0) :=
  mz_cons (mz_aload_n (k := 0) (show decode cX11_net 0 = .ok (.aload_n 0, 1) by decide +kernel)) (
  mz_cons (mz_getfield (C := RX11) (T := TX11) (N := 9) rfl mz_inX11 (by decide) mw_331 (show decode cX11_net 1 = .ok (.getfield 25, 3) by decide +kernel)) (
  mz_cons (mz_aload_n (k := 0) (show decode cX11_net 4 = .ok (.aload_n 0, 1) by decide +kernel)) (
  mz_cons (mz_getfield (C := RX11) (T := TX11) (N := 9) rfl mz_inX11 (by decide) mw_330 (show decode cX11_net 5 = .ok (.getfield 18, 3) by decide +kernel)) (
  mz_cons (mz_invV (n := 0) (ctr_X6_howMany E) rfl ⟨by decide, by decide, by decide +kernel⟩ ⟨by decide, by decide⟩ mw_386 mw_383 mw_384 mw_385 mw_65 (show decode cX11_net 8 = .ok (.invokevirtual 103, 3) by decide +kernel)) (
  mz_cons (mz_invV (n := 1) (ctr_X7_firstFault E) rfl ⟨by decide, by decide, by decide +kernel⟩ ⟨by decide, by decide⟩ mw_390 mw_387 mw_388 mw_389 mw_66 (show decode cX11_net 11 = .ok (.invokevirtual 106, 3) by decide +kernel)) (
  mz_cons (mz_iconst (-1) (by decide) (show decode cX11_net 14 = .ok (.iconst (-1), 1) by decide +kernel)) (
  mz_cons (mz_icmp_eq 21 (by decide) (show decode cX11_net 15 = .ok (.if_icmp .eq 6, 3) by decide +kernel)) (
  mz_cons (mz_bipush (-4) (by decide) (show decode cX11_net 18 = .ok (.bipush (-4), 2) by decide +kernel)) (
  mz_consR (mz_ireturn rfl (show decode cX11_net 20 = .ok (.ireturn, 1) by decide +kernel)) (
  mz_nil))))))))))
noncomputable def tb_X11_net : List (Nat × List (Nat × mz_O)) := [(20, ck_X11_net_0)]
theorem tok_X11_net (E : List mz_V) : mz_tok E tM_X11_net (tb_X11_net) := mz_tcons (tk_X11_net_0 E) (mz_tnil)
noncomputable def rn_X11_net : List mz_V → List mz_C → Option (Option mz_V × List mz_C) := mz_rn tb_X11_net 20 3
theorem ctr_X11_net (E : List mz_V) : mz_ctr E yX11_net tM_X11_net rn_X11_net := mz_ctr_of 20 (tok_X11_net E) (by decide) rfl rfl
abbrev tM_X10_pairsAmong_l1 : mz_M := (cX10_pairsAmong, 8, (some .int), RX10, "pairsAmong", 1, 22)
noncomputable def ck_X10_pairsAmong_l1_0 : List (Nat × mz_O) := [(0, .inl (mz_ld mz_isI 1 1)), (1, .inl (mz_j1 mz_eq0 10 4)), (10, .inl (mz_push (.inl 0) 11)), (11, .inr (mz_rt mz_isI))]
theorem tk_X10_pairsAmong_l1_0 (E : List mz_V) : mz_all E tM_X10_pairsAmong_l1 (ck_X10_pairsAmong_l1_0) :=
  mz_cons (mz_iload_n (k := 1) (show decode cX10_pairsAmong 0 = .ok (.iload_n 1, 1) by decide +kernel)) (
  mz_cons (mz_if_eq 10 (by decide) (show decode cX10_pairsAmong 1 = .ok (.ifCond .eq 9, 3) by decide +kernel)) (
  mz_cons (mz_iconst 0 (by decide) (show decode cX10_pairsAmong 10 = .ok (.iconst 0, 1) by decide +kernel)) (
  mz_consR (mz_ireturn rfl (show decode cX10_pairsAmong 11 = .ok (.ireturn, 1) by decide +kernel)) (
  mz_nil))))
noncomputable def tb_X10_pairsAmong_l1 : List (Nat × List (Nat × mz_O)) := [(11, ck_X10_pairsAmong_l1_0)]
theorem tok_X10_pairsAmong_l1 (E : List mz_V) : mz_tok E tM_X10_pairsAmong_l1 (tb_X10_pairsAmong_l1) := mz_tcons (tk_X10_pairsAmong_l1_0 E) (mz_tnil)
noncomputable def rn_X10_pairsAmong_l1 : List mz_V → List mz_C → Option (Option mz_V × List mz_C) := mz_rn tb_X10_pairsAmong_l1 14 8
theorem ctr_X10_pairsAmong_l1 (E : List mz_V) : mz_ctr E yX10_pairsAmong tM_X10_pairsAmong_l1 rn_X10_pairsAmong_l1 := mz_ctr_of 14 (tok_X10_pairsAmong_l1 E) (by decide) rfl rfl
abbrev tM_X10_pairsAmong_l0 : mz_M := (cX10_pairsAmong, 8, (some .int), RX10, "pairsAmong", 3, 66)
noncomputable def ck_X10_pairsAmong_l0_0 : List (Nat × mz_O) := [(0, .inl (mz_ld mz_isI 1 1)), (1, .inl (mz_j1 mz_eq0 10 4)), (4, .inl (mz_ld mz_isI 2 5)), (5, .inl (mz_push (.inl 9) 7)), (7, .inl (mz_j2 mz_gt 10 12)), (12, .inl (mz_ld mz_isR 0 13)), (13, .inl (mz_gf 10 1 16)), (16, .inl (mz_ld mz_isI 1 17)), (17, .inl (mz_call rn_X5_recall 2 (mz_ckV 5) 20)), (20, .inl (mz_sto mz_isI mz_p1 3 21)), (21, .inl (mz_ld mz_isI 3 22)), (22, .inl (mz_push (.inl (-1)) 23)), (23, .inl (mz_j2 mz_eq 28 26)), (28, .inl (mz_ld mz_isI 1 29)), (29, .inl (mz_call rn_J6_numberOfTrailingZeros_0f7a4 1 mz_ckT 32)), (32, .inl (mz_sto mz_isI mz_p1 4 34))]
theorem tk_X10_pairsAmong_l0_0 (E : List mz_V) : mz_all E tM_X10_pairsAmong_l0 (ck_X10_pairsAmong_l0_0) :=
  mz_cons (mz_iload_n (k := 1) (show decode cX10_pairsAmong 0 = .ok (.iload_n 1, 1) by decide +kernel)) (
  mz_cons (mz_if_eq 10 (by decide) (show decode cX10_pairsAmong 1 = .ok (.ifCond .eq 9, 3) by decide +kernel)) (
  mz_cons (mz_iload_n (k := 2) (show decode cX10_pairsAmong 4 = .ok (.iload_n 2, 1) by decide +kernel)) (
  mz_cons (mz_bipush 9 (by decide) (show decode cX10_pairsAmong 5 = .ok (.bipush 9, 2) by decide +kernel)) (
  mz_cons (mz_icmp_le 12 (by decide) (show decode cX10_pairsAmong 7 = .ok (.if_icmp .le 5, 3) by decide +kernel)) (
  mz_cons (mz_aload_n (k := 0) (show decode cX10_pairsAmong 12 = .ok (.aload_n 0, 1) by decide +kernel)) (
  mz_cons (mz_getfield (C := RX10) (T := TX10) (N := 2) rfl mz_inX10 (by decide) mw_324 (show decode cX10_pairsAmong 13 = .ok (.getfield 15, 3) by decide +kernel)) (
  mz_cons (mz_iload_n (k := 1) (show decode cX10_pairsAmong 16 = .ok (.iload_n 1, 1) by decide +kernel)) (
  mz_cons (mz_invV (n := 1) (ctr_X5_recall E) rfl ⟨by decide, by decide, by decide +kernel⟩ ⟨by decide, by decide⟩ mw_592 mw_923 mw_590 mw_591 mw_62 (show decode cX10_pairsAmong 17 = .ok (.invokevirtual 52, 3) by decide +kernel)) (
  mz_cons (mz_istore_n (k := 3) (by decide) (show decode cX10_pairsAmong 20 = .ok (.istore_n 3, 1) by decide +kernel)) (
  mz_cons (mz_iload_n (k := 3) (show decode cX10_pairsAmong 21 = .ok (.iload_n 3, 1) by decide +kernel)) (
  mz_cons (mz_iconst (-1) (by decide) (show decode cX10_pairsAmong 22 = .ok (.iconst (-1), 1) by decide +kernel)) (
  mz_cons (mz_icmp_eq 28 (by decide) (show decode cX10_pairsAmong 23 = .ok (.if_icmp .eq 5, 3) by decide +kernel)) (
  mz_cons (mz_iload_n (k := 1) (show decode cX10_pairsAmong 28 = .ok (.iload_n 1, 1) by decide +kernel)) (
  mz_cons (mz_invS (n := 1) (ctr_J6_numberOfTrailingZeros_0f7a4 E) ⟨by decide, by decide, by decide +kernel⟩ ⟨by decide, by decide⟩ mw_810 mw_958 mw_809 mw_64 (show decode cX10_pairsAmong 29 = .ok (.invokestatic 68, 3) by decide +kernel)) (
  mz_cons (mz_istore (by decide) (show decode cX10_pairsAmong 32 = .ok (.istore 4, 2) by decide +kernel)) (
  mz_nil))))))))))))))))
noncomputable def ck_X10_pairsAmong_l0_1 : List (Nat × mz_O) := [(34, .inl (mz_ld mz_isI 1 35)), (35, .inl (mz_push (.inl 1) 36)), (36, .inl (mz_ld mz_isI 4 38)), (38, .inl (mz_o2 mz_f_ishl 39)), (39, .inl (mz_push (.inl (-1)) 40)), (40, .inl (mz_o2 mz_f_ixor 41)), (41, .inl (mz_o2 mz_f_iand 42)), (42, .inl (mz_sto mz_isI mz_p1 5 44)), (44, .inl (mz_ld mz_isR 0 45)), (45, .inl (mz_ld mz_isI 5 47)), (47, .inl (mz_ld mz_isI 2 48)), (48, .inl (mz_push (.inl 1) 49)), (49, .inl (mz_o2 mz_f_iadd 50)), (50, .inl (mz_call rn_X10_pairsAmong_l1 3 (mz_ckV 10) 53)), (53, .inl (mz_sto mz_isI mz_p1 6 55)), (55, .inl (mz_push (.inl 0) 56))]
theorem tk_X10_pairsAmong_l0_1 (E : List mz_V) : mz_all E tM_X10_pairsAmong_l0 (ck_X10_pairsAmong_l0_1) :=
  mz_cons (mz_iload_n (k := 1) (show decode cX10_pairsAmong 34 = .ok (.iload_n 1, 1) by decide +kernel)) (
  mz_cons (mz_iconst 1 (by decide) (show decode cX10_pairsAmong 35 = .ok (.iconst 1, 1) by decide +kernel)) (
  mz_cons (mz_iload (show decode cX10_pairsAmong 36 = .ok (.iload 4, 2) by decide +kernel)) (
  mz_cons (mz_ishl (show decode cX10_pairsAmong 38 = .ok (.ishl, 1) by decide +kernel)) (
  mz_cons (mz_iconst (-1) (by decide) (show decode cX10_pairsAmong 39 = .ok (.iconst (-1), 1) by decide +kernel)) (
  mz_cons (mz_ixor (show decode cX10_pairsAmong 40 = .ok (.ixor, 1) by decide +kernel)) (
  mz_cons (mz_iand (show decode cX10_pairsAmong 41 = .ok (.iand, 1) by decide +kernel)) (
  mz_cons (mz_istore (by decide) (show decode cX10_pairsAmong 42 = .ok (.istore 5, 2) by decide +kernel)) (
  mz_cons (mz_aload_n (k := 0) (show decode cX10_pairsAmong 44 = .ok (.aload_n 0, 1) by decide +kernel)) (
  mz_cons (mz_iload (show decode cX10_pairsAmong 45 = .ok (.iload 5, 2) by decide +kernel)) (
  mz_cons (mz_iload_n (k := 2) (show decode cX10_pairsAmong 47 = .ok (.iload_n 2, 1) by decide +kernel)) (
  mz_cons (mz_iconst 1 (by decide) (show decode cX10_pairsAmong 48 = .ok (.iconst 1, 1) by decide +kernel)) (
  mz_cons (mz_iadd (show decode cX10_pairsAmong 49 = .ok (.iadd, 1) by decide +kernel)) (
  mz_cons (mz_invV (n := 2) (ctr_X10_pairsAmong_l1 E) rfl ⟨by decide, by decide, by decide +kernel⟩ ⟨by decide, by decide⟩ mw_957 mw_954 mw_956 mw_30 mw_73 (show decode cX10_pairsAmong 50 = .ok (.invokevirtual 49, 3) by decide +kernel)) (
  mz_cons (mz_istore (by decide) (show decode cX10_pairsAmong 53 = .ok (.istore 6, 2) by decide +kernel)) (
  mz_cons (mz_iconst 0 (by decide) (show decode cX10_pairsAmong 55 = .ok (.iconst 0, 1) by decide +kernel)) (
  mz_nil))))))))))))))))
noncomputable def ck_X10_pairsAmong_l0_2 : List (Nat × mz_O) := [(56, .inl (mz_sto mz_isI mz_p1 7 58)), (58, .inl (mz_ld mz_isI 7 60)), (60, .inl (mz_ld mz_isR 0 61)), (61, .inl (mz_gf 10 0 64)), (64, .inl (mz_call rn_X6_howMany 1 (mz_ckV 6) 67)), (67, .inl (mz_j2 mz_lt 70 121)), (70, .inl (mz_ld mz_isR 0 71)), (71, .inl (mz_gf 10 0 74)), (74, .inl (mz_ld mz_isI 4 76)), (76, .inl (mz_call rn_X6_beside 2 (mz_ckV 6) 79)), (79, .inl (mz_ld mz_isI 5 81)), (81, .inl (mz_o2 mz_f_iand 82)), (82, .inl (mz_ld mz_isI 7 84)), (84, .inl (mz_call rn_X11_has 2 mz_ckT 87)), (87, .inl (mz_j1 mz_eq0 115 90)), (115, .inl (mz_inc 7 1 118))]
theorem tk_X10_pairsAmong_l0_2 (E : List mz_V) : mz_all E tM_X10_pairsAmong_l0 (ck_X10_pairsAmong_l0_2) :=
  mz_cons (mz_istore (by decide) (show decode cX10_pairsAmong 56 = .ok (.istore 7, 2) by decide +kernel)) (
  mz_cons (mz_iload (show decode cX10_pairsAmong 58 = .ok (.iload 7, 2) by decide +kernel)) (
  mz_cons (mz_aload_n (k := 0) (show decode cX10_pairsAmong 60 = .ok (.aload_n 0, 1) by decide +kernel)) (
  mz_cons (mz_getfield (C := RX10) (T := TX10) (N := 2) rfl mz_inX10 (by decide) mw_323 (show decode cX10_pairsAmong 61 = .ok (.getfield 9, 3) by decide +kernel)) (
  mz_cons (mz_invV (n := 0) (ctr_X6_howMany E) rfl ⟨by decide, by decide, by decide +kernel⟩ ⟨by decide, by decide⟩ mw_386 mw_925 mw_384 mw_385 mw_65 (show decode cX10_pairsAmong 64 = .ok (.invokevirtual 38, 3) by decide +kernel)) (
  mz_cons (mz_icmp_ge 121 (by decide) (show decode cX10_pairsAmong 67 = .ok (.if_icmp .ge 54, 3) by decide +kernel)) (
  mz_cons (mz_aload_n (k := 0) (show decode cX10_pairsAmong 70 = .ok (.aload_n 0, 1) by decide +kernel)) (
  mz_cons (mz_getfield (C := RX10) (T := TX10) (N := 2) rfl mz_inX10 (by decide) mw_323 (show decode cX10_pairsAmong 71 = .ok (.getfield 9, 3) by decide +kernel)) (
  mz_cons (mz_iload (show decode cX10_pairsAmong 74 = .ok (.iload 4, 2) by decide +kernel)) (
  mz_cons (mz_invV (n := 1) (ctr_X6_beside E) rfl ⟨by decide, by decide, by decide +kernel⟩ ⟨by decide, by decide⟩ mw_543 mw_922 mw_541 mw_542 mw_65 (show decode cX10_pairsAmong 76 = .ok (.invokevirtual 32, 3) by decide +kernel)) (
  mz_cons (mz_iload (show decode cX10_pairsAmong 79 = .ok (.iload 5, 2) by decide +kernel)) (
  mz_cons (mz_iand (show decode cX10_pairsAmong 81 = .ok (.iand, 1) by decide +kernel)) (
  mz_cons (mz_iload (show decode cX10_pairsAmong 82 = .ok (.iload 7, 2) by decide +kernel)) (
  mz_cons (mz_invSN (n := 2) (host := "WettedNet") (ctr_X11_has E) ⟨by decide, by decide, by decide +kernel⟩ ⟨by decide, by decide⟩ mw_604 (by decide +kernel) mw_603 mw_61 (show decode cX10_pairsAmong 84 = .ok (.invokestatic 42, 3) by decide +kernel)) (
  mz_cons (mz_if_eq 115 (by decide) (show decode cX10_pairsAmong 87 = .ok (.ifCond .eq 28, 3) by decide +kernel)) (
  mz_cons (mz_iinc 1 (by decide) (by decide) (show decode cX10_pairsAmong 115 = .ok (.iinc 7 1, 3) by decide +kernel)) (
  mz_nil))))))))))))))))
noncomputable def ck_X10_pairsAmong_l0_3 : List (Nat × mz_O) := [(118, .inl (mz_go 58)), (121, .inl (mz_ld mz_isR 0 122)), (122, .inl (mz_gf 10 1 125)), (125, .inl (mz_ld mz_isI 1 126)), (126, .inl (mz_ld mz_isI 6 128)), (128, .inl (mz_call rn_X5_keep 3 (mz_ckV 5) 131)), (131, .inl (mz_ld mz_isI 6 133)), (133, .inr (mz_rt mz_isI))]
theorem tk_X10_pairsAmong_l0_3 (E : List mz_V) : mz_all E tM_X10_pairsAmong_l0 (ck_X10_pairsAmong_l0_3) :=
  mz_cons (mz_goto 58 (by decide) (show decode cX10_pairsAmong 118 = .ok (.goto (-60), 3) by decide +kernel)) (
  mz_cons (mz_aload_n (k := 0) (show decode cX10_pairsAmong 121 = .ok (.aload_n 0, 1) by decide +kernel)) (
  mz_cons (mz_getfield (C := RX10) (T := TX10) (N := 2) rfl mz_inX10 (by decide) mw_324 (show decode cX10_pairsAmong 122 = .ok (.getfield 15, 3) by decide +kernel)) (
  mz_cons (mz_iload_n (k := 1) (show decode cX10_pairsAmong 125 = .ok (.iload_n 1, 1) by decide +kernel)) (
  mz_cons (mz_iload (show decode cX10_pairsAmong 126 = .ok (.iload 6, 2) by decide +kernel)) (
  mz_cons (mz_invV (n := 2) (ctr_X5_keep E) rfl ⟨by decide, by decide, by decide +kernel⟩ ⟨by decide, by decide⟩ mw_635 mw_931 mw_633 mw_634 mw_62 (show decode cX10_pairsAmong 128 = .ok (.invokevirtual 64, 3) by decide +kernel)) (
  mz_cons (mz_iload (show decode cX10_pairsAmong 131 = .ok (.iload 6, 2) by decide +kernel)) (
  mz_consR (mz_ireturn rfl (show decode cX10_pairsAmong 133 = .ok (.ireturn, 1) by decide +kernel)) (
  mz_nil))))))))
noncomputable def tb_X10_pairsAmong_l0 : List (Nat × List (Nat × mz_O)) := [(32, ck_X10_pairsAmong_l0_0), (55, ck_X10_pairsAmong_l0_1), (115, ck_X10_pairsAmong_l0_2), (133, ck_X10_pairsAmong_l0_3)]
theorem tok_X10_pairsAmong_l0 (E : List mz_V) : mz_tok E tM_X10_pairsAmong_l0 (tb_X10_pairsAmong_l0) := mz_tcons (tk_X10_pairsAmong_l0_0 E) (mz_tcons (tk_X10_pairsAmong_l0_1 E) (mz_tcons (tk_X10_pairsAmong_l0_2 E) (mz_tcons (tk_X10_pairsAmong_l0_3 E) (mz_tnil))))
noncomputable def rn_X10_pairsAmong_l0 : List mz_V → List mz_C → Option (Option mz_V × List mz_C) := mz_rn tb_X10_pairsAmong_l0 71 8
theorem ctr_X10_pairsAmong_l0 (E : List mz_V) : mz_ctr E yX10_pairsAmong tM_X10_pairsAmong_l0 rn_X10_pairsAmong_l0 := mz_ctr_of 71 (tok_X10_pairsAmong_l0 E) (by decide) rfl rfl
abbrev tM_X10_mostPairs : mz_M := (cX10_mostPairs, 1, (some .int), RX10, "mostPairs", 4, 93)
noncomputable def ck_X10_mostPairs_0 : List (Nat × mz_O) := [(0, .inl (mz_ld mz_isR 0 1)), (1, .inl (mz_gf 10 1 4)), (4, .inl (mz_call rn_X5_startSearch 1 (mz_ckV 5) 7)), (7, .inl (mz_ld mz_isR 0 8)), (8, .inl (mz_ld mz_isR 0 9)), (9, .inl (mz_gf 10 0 12)), (12, .inl (mz_call rn_X6_all 1 (mz_ckV 6) 15)), (15, .inl (mz_push (.inl 0) 16)), (16, .inl (mz_call rn_X10_pairsAmong_l0 3 (mz_ckV 10) 19)), (19, .inr (mz_rt mz_isI))]
theorem tk_X10_mostPairs_0 (E : List mz_V) : mz_all E tM_X10_mostPairs (ck_X10_mostPairs_0) :=
  mz_cons (mz_aload_n (k := 0) (show decode cX10_mostPairs 0 = .ok (.aload_n 0, 1) by decide +kernel)) (
  mz_cons (mz_getfield (C := RX10) (T := TX10) (N := 2) rfl mz_inX10 (by decide) mw_324 (show decode cX10_mostPairs 1 = .ok (.getfield 15, 3) by decide +kernel)) (
  mz_cons (mz_invV (n := 0) (ctr_X5_startSearch E) rfl ⟨by decide, by decide, by decide +kernel⟩ ⟨by decide, by decide⟩ mw_579 mw_917 mw_577 mw_578 mw_62 (show decode cX10_mostPairs 4 = .ok (.invokevirtual 19, 3) by decide +kernel)) (
  mz_cons (mz_aload_n (k := 0) (show decode cX10_mostPairs 7 = .ok (.aload_n 0, 1) by decide +kernel)) (
  mz_cons (mz_aload_n (k := 0) (show decode cX10_mostPairs 8 = .ok (.aload_n 0, 1) by decide +kernel)) (
  mz_cons (mz_getfield (C := RX10) (T := TX10) (N := 2) rfl mz_inX10 (by decide) mw_323 (show decode cX10_mostPairs 9 = .ok (.getfield 9, 3) by decide +kernel)) (
  mz_cons (mz_invV (n := 0) (ctr_X6_all E) rfl ⟨by decide, by decide, by decide +kernel⟩ ⟨by decide, by decide⟩ mw_567 mw_953 mw_565 mw_566 mw_65 (show decode cX10_mostPairs 12 = .ok (.invokevirtual 46, 3) by decide +kernel)) (
  mz_cons (mz_iconst 0 (by decide) (show decode cX10_mostPairs 15 = .ok (.iconst 0, 1) by decide +kernel)) (
  mz_cons (mz_invV (n := 2) (ctr_X10_pairsAmong_l0 E) rfl ⟨by decide, by decide, by decide +kernel⟩ ⟨by decide, by decide⟩ mw_957 mw_954 mw_956 mw_30 mw_73 (show decode cX10_mostPairs 16 = .ok (.invokevirtual 49, 3) by decide +kernel)) (
  mz_consR (mz_ireturn rfl (show decode cX10_mostPairs 19 = .ok (.ireturn, 1) by decide +kernel)) (
  mz_nil))))))))))
noncomputable def tb_X10_mostPairs : List (Nat × List (Nat × mz_O)) := [(19, ck_X10_mostPairs_0)]
theorem tok_X10_mostPairs (E : List mz_V) : mz_tok E tM_X10_mostPairs (tb_X10_mostPairs) := mz_tcons (tk_X10_mostPairs_0 E) (mz_tnil)
noncomputable def rn_X10_mostPairs : List mz_V → List mz_C → Option (Option mz_V × List mz_C) := mz_rn tb_X10_mostPairs 20 1
theorem ctr_X10_mostPairs (E : List mz_V) : mz_ctr E yX10_mostPairs tM_X10_mostPairs rn_X10_mostPairs := mz_ctr_of 20 (tok_X10_mostPairs E) (by decide) rfl rfl
abbrev tM_X11_pairs : mz_M := (cX11_pairs, 1, (some .int), RX11, "pairs", 5, 113)
noncomputable def ck_X11_pairs_0 : List (Nat × mz_O) := [(0, .inl (mz_ld mz_isR 0 1)), (1, .inl (mz_gf 11 0 4)), (4, .inl (mz_call rn_X6_isEven 1 (mz_ckV 6) 7)), (7, .inl (mz_j1 mz_eq0 20 10)), (10, .inl (mz_ld mz_isR 0 11)), (11, .inl (mz_gf 11 8 14)), (14, .inl (mz_call rn_X10_mostPairs 1 (mz_ckV 10) 17)), (17, .inl (mz_go 22)), (22, .inr (mz_rt mz_isI))]
theorem tk_X11_pairs_0 (E : List mz_V) : mz_all E tM_X11_pairs (ck_X11_pairs_0) :=
  mz_cons (mz_aload_n (k := 0) (show decode cX11_pairs 0 = .ok (.aload_n 0, 1) by decide +kernel)) (
  mz_cons (mz_getfield (C := RX11) (T := TX11) (N := 9) rfl mz_inX11 (by decide) mw_330 (show decode cX11_pairs 1 = .ok (.getfield 18, 3) by decide +kernel)) (
  mz_cons (mz_invV (n := 0) (ctr_X6_isEven E) rfl ⟨by decide, by decide, by decide +kernel⟩ ⟨by decide, by decide⟩ mw_948 mw_945 mw_946 mw_947 mw_65 (show decode cX11_pairs 4 = .ok (.invokevirtual 255, 3) by decide +kernel)) (
  mz_cons (mz_if_eq 20 (by decide) (show decode cX11_pairs 7 = .ok (.ifCond .eq 13, 3) by decide +kernel)) (
  mz_cons (mz_aload_n (k := 0) (show decode cX11_pairs 10 = .ok (.aload_n 0, 1) by decide +kernel)) (
  mz_cons (mz_getfield (C := RX11) (T := TX11) (N := 9) rfl mz_inX11 (by decide) mw_338 (show decode cX11_pairs 11 = .ok (.getfield 84, 3) by decide +kernel)) (
  mz_cons (mz_invV (n := 0) (ctr_X10_mostPairs E) rfl ⟨by decide, by decide, by decide +kernel⟩ ⟨by decide, by decide⟩ mw_952 mw_949 mw_950 mw_951 mw_73 (show decode cX11_pairs 14 = .ok (.invokevirtual 258, 3) by decide +kernel)) (
  mz_cons (mz_goto 22 (by decide) (show decode cX11_pairs 17 = .ok (.goto 5, 3) by decide +kernel)) (
  mz_consR (mz_ireturn rfl (show decode cX11_pairs 22 = .ok (.ireturn, 1) by decide +kernel)) (
  mz_nil)))))))))
noncomputable def tb_X11_pairs : List (Nat × List (Nat × mz_O)) := [(22, ck_X11_pairs_0)]
theorem tok_X11_pairs (E : List mz_V) : mz_tok E tM_X11_pairs (tb_X11_pairs) := mz_tcons (tk_X11_pairs_0 E) (mz_tnil)
noncomputable def rn_X11_pairs : List mz_V → List mz_C → Option (Option mz_V × List mz_C) := mz_rn tb_X11_pairs 19 1
theorem ctr_X11_pairs (E : List mz_V) : mz_ctr E yX11_pairs tM_X11_pairs rn_X11_pairs := mz_ctr_of 19 (tok_X11_pairs E) (by decide) rfl rfl
abbrev tM_X4_isBegun : mz_M := (cX4_isBegun, 1, (some .boolean), RX4, "isBegun", 1, 22)
noncomputable def ck_X4_isBegun_0 : List (Nat × mz_O) := [(0, .inl (mz_ld mz_isR 0 1)), (1, .inl (mz_gf 4 2 4)), (4, .inr (mz_rt mz_is01))]
theorem tk_X4_isBegun_0 (E : List mz_V) : mz_all E tM_X4_isBegun (ck_X4_isBegun_0) :=
  mz_cons (mz_aload_n (k := 0) (show decode cX4_isBegun 0 = .ok (.aload_n 0, 1) by decide +kernel)) (
  mz_cons (mz_getfield (C := RX4) (T := TX4) (N := 9) rfl mz_inX4 (by decide) mw_221 (show decode cX4_isBegun 1 = .ok (.getfield 7, 3) by decide +kernel)) (
  mz_consR (mz_zreturn rfl (show decode cX4_isBegun 4 = .ok (.ireturn, 1) by decide +kernel)) (
  mz_nil)))
noncomputable def tb_X4_isBegun : List (Nat × List (Nat × mz_O)) := [(4, ck_X4_isBegun_0)]
theorem tok_X4_isBegun (E : List mz_V) : mz_tok E tM_X4_isBegun (tb_X4_isBegun) := mz_tcons (tk_X4_isBegun_0 E) (mz_tnil)
noncomputable def rn_X4_isBegun : List mz_V → List mz_C → Option (Option mz_V × List mz_C) := mz_rn tb_X4_isBegun 13 1
theorem ctr_X4_isBegun (E : List mz_V) : mz_ctr E yX4_isBegun tM_X4_isBegun rn_X4_isBegun := mz_ctr_of 13 (tok_X4_isBegun E) (by decide) rfl rfl
abbrev tM_X11_play : mz_M := (cX11_play, 2, (some .int), RX11, "play", 2, 44)
noncomputable def ck_X11_play_0 : List (Nat × mz_O) := [(0, .inl (mz_ld mz_isI 1 1)), (1, .inl (mz_push (.inl 0) 2)), (2, .inl (mz_push (.inl 4) 3)), (3, .inl (mz_call rn_X11_within 3 mz_ckT 6)), (6, .inl (mz_j1 mz_eq0 9 12)), (9, .inl (mz_push (.inl (-3)) 11)), (11, .inr (mz_rt mz_isI)), (12, .inl (mz_ld mz_isR 0 13)), (13, .inl (mz_gf 11 3 16)), (16, .inl (mz_call rn_X4_isBegun 1 (mz_ckV 4) 19)), (19, .inl (mz_j1 mz_eq0 22 25)), (22, .inl (mz_push (.inl (-4)) 24)), (24, .inr (mz_rt mz_isI))]
theorem tk_X11_play_0 (E : List mz_V) : mz_all E tM_X11_play (ck_X11_play_0) :=
  mz_cons (mz_iload_n (k := 1) (show decode cX11_play 0 = .ok (.iload_n 1, 1) by decide +kernel)) (
  mz_cons (mz_iconst 0 (by decide) (show decode cX11_play 1 = .ok (.iconst 0, 1) by decide +kernel)) (
  mz_cons (mz_iconst 4 (by decide) (show decode cX11_play 2 = .ok (.iconst 4, 1) by decide +kernel)) (
  mz_cons (mz_invS (n := 3) (ctr_X11_within E) ⟨by decide, by decide, by decide +kernel⟩ ⟨by decide, by decide⟩ mw_140 mw_362 mw_139 mw_61 (show decode cX11_play 3 = .ok (.invokestatic 88, 3) by decide +kernel)) (
  mz_cons (mz_if_ne 12 (by decide) (show decode cX11_play 6 = .ok (.ifCond .ne 6, 3) by decide +kernel)) (
  mz_cons (mz_bipush (-3) (by decide) (show decode cX11_play 9 = .ok (.bipush (-3), 2) by decide +kernel)) (
  mz_consR (mz_ireturn rfl (show decode cX11_play 11 = .ok (.ireturn, 1) by decide +kernel)) (
  mz_cons (mz_aload_n (k := 0) (show decode cX11_play 12 = .ok (.aload_n 0, 1) by decide +kernel)) (
  mz_cons (mz_getfield (C := RX11) (T := TX11) (N := 9) rfl mz_inX11 (by decide) mw_333 (show decode cX11_play 13 = .ok (.getfield 43, 3) by decide +kernel)) (
  mz_cons (mz_invV (n := 0) (ctr_X4_isBegun E) rfl ⟨by decide, by decide, by decide +kernel⟩ ⟨by decide, by decide⟩ mw_687 mw_684 mw_685 mw_686 mw_68 (show decode cX11_play 16 = .ok (.invokevirtual 170, 3) by decide +kernel)) (
  mz_cons (mz_if_ne 25 (by decide) (show decode cX11_play 19 = .ok (.ifCond .ne 6, 3) by decide +kernel)) (
  mz_cons (mz_bipush (-4) (by decide) (show decode cX11_play 22 = .ok (.bipush (-4), 2) by decide +kernel)) (
  mz_consR (mz_ireturn rfl (show decode cX11_play 24 = .ok (.ireturn, 1) by decide +kernel)) (
  mz_nil)))))))))))))
noncomputable def tb_X11_play : List (Nat × List (Nat × mz_O)) := [(24, ck_X11_play_0)]
theorem tok_X11_play (E : List mz_V) : mz_tok E tM_X11_play (tb_X11_play) := mz_tcons (tk_X11_play_0 E) (mz_tnil)
noncomputable def rn_X11_play : List mz_V → List mz_C → Option (Option mz_V × List mz_C) := mz_rn tb_X11_play 21 2
theorem ctr_X11_play (E : List mz_V) : mz_ctr E yX11_play tM_X11_play rn_X11_play := mz_ctr_of 21 (tok_X11_play E) (by decide) rfl rfl
abbrev tM_X6_folk : mz_M := (cX6_folk, 2, (some .int), RX6, "folk", 1, 22)
noncomputable def ck_X6_folk_0 : List (Nat × mz_O) := [(0, .inl (mz_ld mz_isI 1 1)), (1, .inl (mz_j1 mz_lt0 21 4)), (4, .inl (mz_ld mz_isI 1 5)), (5, .inl (mz_ld mz_isR 0 6)), (6, .inl (mz_gf 6 4 9)), (9, .inl (mz_j2 mz_lt 12 21)), (12, .inl (mz_ld mz_isR 0 13)), (13, .inl (mz_gf 6 2 16)), (16, .inl (mz_ld mz_isI 1 17)), (17, .inl (mz_al false 18)), (18, .inl (mz_go 22)), (22, .inr (mz_rt mz_isI))]
theorem tk_X6_folk_0 (E : List mz_V) : mz_all E tM_X6_folk (ck_X6_folk_0) :=
  mz_cons (mz_iload_n (k := 1) (show decode cX6_folk 0 = .ok (.iload_n 1, 1) by decide +kernel)) (
  mz_cons (mz_if_lt 21 (by decide) (show decode cX6_folk 1 = .ok (.ifCond .lt 20, 3) by decide +kernel)) (
  mz_cons (mz_iload_n (k := 1) (show decode cX6_folk 4 = .ok (.iload_n 1, 1) by decide +kernel)) (
  mz_cons (mz_aload_n (k := 0) (show decode cX6_folk 5 = .ok (.aload_n 0, 1) by decide +kernel)) (
  mz_cons (mz_getfield (C := RX6) (T := TX6) (N := 7) rfl mz_inX6 (by decide) mw_145 (show decode cX6_folk 6 = .ok (.getfield 35, 3) by decide +kernel)) (
  mz_cons (mz_icmp_ge 21 (by decide) (show decode cX6_folk 9 = .ok (.if_icmp .ge 12, 3) by decide +kernel)) (
  mz_cons (mz_aload_n (k := 0) (show decode cX6_folk 12 = .ok (.aload_n 0, 1) by decide +kernel)) (
  mz_cons (mz_getfield (C := RX6) (T := TX6) (N := 7) rfl mz_inX6 (by decide) mw_143 (show decode cX6_folk 13 = .ok (.getfield 18, 3) by decide +kernel)) (
  mz_cons (mz_iload_n (k := 1) (show decode cX6_folk 16 = .ok (.iload_n 1, 1) by decide +kernel)) (
  mz_cons (mz_iaload (show decode cX6_folk 17 = .ok (.iaload, 1) by decide +kernel)) (
  mz_cons (mz_goto 22 (by decide) (show decode cX6_folk 18 = .ok (.goto 4, 3) by decide +kernel)) (
  mz_consR (mz_ireturn rfl (show decode cX6_folk 22 = .ok (.ireturn, 1) by decide +kernel)) (
  mz_nil))))))))))))
noncomputable def tb_X6_folk : List (Nat × List (Nat × mz_O)) := [(22, ck_X6_folk_0)]
theorem tok_X6_folk (E : List mz_V) : mz_tok E tM_X6_folk (tb_X6_folk) := mz_tcons (tk_X6_folk_0 E) (mz_tnil)
noncomputable def rn_X6_folk : List mz_V → List mz_C → Option (Option mz_V × List mz_C) := mz_rn tb_X6_folk 22 2
theorem ctr_X6_folk (E : List mz_V) : mz_ctr E yX6_folk tM_X6_folk rn_X6_folk := mz_ctr_of 22 (tok_X6_folk E) (by decide) rfl rfl
