/-! THE CLAIM OUT OF ONE WALK OF THE LAW'S BODY. Your part is whole_start (and what it stands on); all else here is the same for every law, but numbers. -/
def R_law : String := "WettedNetLaw"
def lw_P (b : Addr) (xs : List Int32) (args : Array Value) (s : State) : Prop := args = #[.ref b] ∧ s.IntsAt b xs ∧ xs.length ≤ 4 ∧ (Jvm.Cond.and given_1 narrow_1).before args s = true
def lw_Q (_ : Array Value) (s : State) (o : Outcome) (t : State) : Prop := o = .returned (some (.int 1)) ∧ Framed s o t [] 600000 7302250
def lw_Z (below : List Frame) (a : Array Value) (s : State) : State → Prop := fun t => ∃ o, t.status = .running ∧ Ended t below o ∧ lw_Q a s o t
/-- the law's own end, with 1 on the stack, nothing written that was there before, its room as the claim has it -/
theorem lw_ret {p : Program} {l : Launch} {e : Env} {s : State} {m : MethodId} {below : List Frame} {meth : Method} {c : Code} {b : Nat} (hx : p.tables.exec = Jvm.exec) (hb : c.code = code) (hr : meth.sig.returnType = ret) (hlocks : meth.locks = false) {pc : Nat} {H : Heap} {ls : Array Slot} (hdg : decode code pc = .ok (.ireturn, 1)) : W p l e room_1 s m #[Value.ref b] below meth c H [] 600000 7302250 (lw_Z below #[Value.ref b] s) (F0 m pc ls [.int 1]) := by
  intro T hT X
  obtain ⟨fs, hret, hrun, hended, hW, hframe⟩ := X.leave (v := some (.int 1)) (hlocks := hlocks) (fun h => by rw [hr] at h; cases h)
  have hmeth' : T.vm.method? m = some meth := X.method'
  refine ⟨T.setFrames fs, ?_, .returned (some (.int 1)), hrun, hended, rfl, ⟨_, rfl⟩, hW, hframe⟩
  jvm_step X.here [X.here.top, hx, hb, hdg, hmeth', hr, ret, narrow_b1]
  (try refine ⟨rfl, ?_⟩); (try refine ⟨rfl, ?_⟩)
  first | (intro acts; rw [hret _ acts rfl rfl rfl]) | rw [hret _ _ rfl rfl rfl]
  exact Steps.refl _
/-- what holds at the law's entry: the machine, the code, the tables' words (any of lw_tbl by 'hts w (by decide +kernel)'), the script of L ints xs at the cell b, what the Statement gives of the start (any of its parts by flat_of_before) -/
def lw_At (p : Program) (s : State) (m : MethodId) (meth : Method) (c : Code) (b L : Nat) (xs : Nat → Int32) : Prop :=
  p.tables.exec = Jvm.exec ∧ c.code = code ∧ meth.sig.returnType = ret ∧ c.maxLocals = 4 ∧ s.vm.findClass R_law = some m.cls ∧ (∀ w ∈ lw_tbl, w.before #[Value.ref b] s = true) ∧ va_X b L xs s s.heap ∧ b < s.heap.size ∧ meth.locks = false ∧ (Jvm.Cond.and given_1 narrow_1).before #[Value.ref b] s = true
set_option maxRecDepth 100000 in
theorem ev_s : (mz_chk [] && (mz_chk [mz_anyI] && (mz_chk [mz_anyI, mz_anyI] && mz_chk [mz_anyI, mz_anyI, mz_anyI]))) = true := by decide +kernel
theorem mz_any_fit (n : Nat) (xs : Nat → Int32) : mz_Fit (List.replicate n mz_anyI) xs := fun j a h X => by
  have := List.eq_of_mem_replicate (List.mem_of_getElem? h)
  subst this
  exact mz_anyI_ok _
theorem mz_every (L : Nat) (hL : L ≤ 4) (xs : Nat → Int32) : ∃ E : List mz_V, E.length = L ∧ mz_Fit E xs ∧ mz_chk E = true := by
  have hs := ev_s
  simp only [Bool.and_eq_true] at hs
  match L, hL with
  | 0, _ => exact ⟨[], rfl, mz_any_fit 0 xs, hs.1⟩
  | 1, _ => exact ⟨[mz_anyI], rfl, mz_any_fit 1 xs, hs.2.1⟩
  | 2, _ => exact ⟨[mz_anyI, mz_anyI], rfl, mz_any_fit 2 xs, hs.2.2.1⟩
  | 3, _ => exact ⟨[mz_anyI, mz_anyI, mz_anyI], rfl, mz_any_fit 3 xs, hs.2.2.2⟩
  | 4, _ =>
    obtain ⟨j, hj, e⟩ := pk_andE (xs 0) (m := 31) 5 (by decide)
    have hj : j < 32 := hj
    match j, hj, e with
    | 0, _, e => exact cs_0 xs e
    | 1, _, e => exact cs_1 xs e
    | 2, _, e => exact cs_2 xs e
    | 3, _, e => exact cs_3 xs e
    | 4, _, e => exact cs_4 xs e
    | 5, _, e => exact cs_5 xs e
    | 6, _, e => exact cs_6 xs e
    | 7, _, e => exact cs_7 xs e
    | 8, _, e => exact cs_8 xs e
    | 9, _, e => exact cs_9 xs e
    | 10, _, e => exact cs_10 xs e
    | 11, _, e => exact cs_11 xs e
    | 12, _, e => exact cs_12 xs e
    | 13, _, e => exact cs_13 xs e
    | 14, _, e => exact cs_14 xs e
    | 15, _, e => exact cs_15 xs e
    | 16, _, e => exact cs_16 xs e
    | 17, _, e => exact cs_17 xs e
    | 18, _, e => exact cs_18 xs e
    | 19, _, e => exact cs_19 xs e
    | 20, _, e => exact cs_20 xs e
    | 21, _, e => exact cs_21 xs e
    | 22, _, e => exact cs_22 xs e
    | 23, _, e => exact cs_23 xs e
    | 24, _, e => exact cs_24 xs e
    | 25, _, e => exact cs_25 xs e
    | 26, _, e => exact cs_26 xs e
    | 27, _, e => exact cs_27 xs e
    | 28, _, e => exact cs_28 xs e
    | 29, _, e => exact cs_29 xs e
    | 30, _, e => exact cs_30 xs e
    | 31, _, e => exact cs_31 xs e
    | j + 32, h, _ => exact absurd h (by omega)
  | L + 5, h => exact absurd h (by omega)
def mz_tm (i : Nat) : Term := .string "WettedNet$Script" (89 + 2 * i)
set_option maxRecDepth 100000 in
theorem mz_f1 : ∀ j, j < 8 → Cond.eq (.elem (Term.static "WettedNet$Fires" "THREES" "[I") (.int (Int32.ofNat j))) (.int (mz_thr.getD j 0)) ∈ flatC (Jvm.Cond.and given_1 narrow_1) := by decide +kernel
set_option maxRecDepth 100000 in
theorem mz_f2 : ∀ i, i < 8 → Cond.exactly (mz_tm i) "java/lang/String" ∈ flatC (Jvm.Cond.and given_1 narrow_1) := by decide +kernel
set_option maxRecDepth 100000 in
theorem mz_f3 : ∀ i, i < 8 → Cond.eq (.field (mz_tm i) "java/lang/String" "coder" "B") (.int 0) ∈ flatC (Jvm.Cond.and given_1 narrow_1) := by decide +kernel
set_option maxRecDepth 100000 in
theorem mz_f4 : ∀ i, i < 8 → Cond.arrayOf (.field (mz_tm i) "java/lang/String" "value" "[B") .byte ∈ flatC (Jvm.Cond.and given_1 narrow_1) := by decide +kernel
set_option maxRecDepth 100000 in
theorem mz_f5 : ∀ i, i < 8 → Cond.eq (.length (.field (mz_tm i) "java/lang/String" "value" "[B")) (.int (Int32.ofNat (mz_len.getD i 0))) ∈ flatC (Jvm.Cond.and given_1 narrow_1) := by decide +kernel
set_option maxRecDepth 100000 in
theorem mz_f6 : ∀ i, i < 8 → ∀ j, j < mz_len.getD i 0 → Cond.eq (.elem (.field (mz_tm i) "java/lang/String" "value" "[B") (.int (Int32.ofNat j))) (.int ((mz_byt.getD i []).getD j 0)) ∈ flatC (Jvm.Cond.and given_1 narrow_1) := by decide +kernel
set_option maxRecDepth 100000 in
theorem mz_f7 : ∀ i, i < 8 → ∀ j, j < 8 → i ≠ j → (Cond.not (Cond.eq (mz_tm i) (mz_tm j)) ∈ flatC (Jvm.Cond.and given_1 narrow_1) ∨ Cond.not (Cond.eq (mz_tm j) (mz_tm i)) ∈ flatC (Jvm.Cond.and given_1 narrow_1)) := by decide +kernel
set_option maxRecDepth 100000 in
theorem mz_f8 : Cond.arrayOf (Term.static "WettedNet$Fires" "THREES" "[I") .int ∈ flatC (Jvm.Cond.and given_1 narrow_1) ∧ Cond.eq (.length (Term.static "WettedNet$Fires" "THREES" "[I")) (.int (Int32.ofNat 8)) ∈ flatC (Jvm.Cond.and given_1 narrow_1) ∧ Cond.eq (.static "java/lang/String" "COMPACT_STRINGS" "Z") (.int 1) ∈ flatC (Jvm.Cond.and given_1 narrow_1) := by decide +kernel
set_option maxRecDepth 100000 in
theorem mz_n1 : ∀ q ∈ mz_nest, Cond.methodLinkNest q.1 q.2.1 q.2.2.1 q.2.2.2 ∈ lw_tbl := by decide +kernel
set_option maxRecDepth 100000 in
theorem mz_n2 : ∀ i, i < 8 → Cond.stringRef (mz_str.getD i ("", 0, "")).1 (mz_str.getD i ("", 0, "")).2.1 (mz_str.getD i ("", 0, "")).2.2 ∈ lw_tbl := by decide +kernel
theorem mz_n3 : Cond.castable "[I" "java/lang/Cloneable" ∈ lw_tbl := List.mem_of_getElem? (i := 118) (by decide +kernel)
theorem mz_n4 : Cond.laysStatic "java/lang/String" "COMPACT_STRINGS" "Z" ∈ lw_tbl := List.mem_of_getElem? (i := 431) (by decide +kernel)
theorem mz_n5 : Cond.laysStatic "WettedNet$Fires" "THREES" "[I" ∈ lw_tbl := List.mem_of_getElem? (i := 588) (by decide +kernel)
theorem mz_n6 : Cond.initialized "java/lang/String" ∈ lw_tbl := List.mem_of_getElem? (i := 75) (by decide +kernel)
theorem mz_n7 : Cond.initialized "WettedNet$Fires" ∈ lw_tbl := List.mem_of_getElem? (i := 67) (by decide +kernel)
theorem mz_n8 : Cond.arrayClass .int ∈ lw_tbl := List.mem_of_getElem? (i := 127) (by decide +kernel)
theorem mz_n9 : Cond.arrayClass .boolean ∈ lw_tbl := List.mem_of_getElem? (i := 1060) (by decide +kernel)
/-- the classes' numbers -/
theorem mz_classes {args : Array Value} {s : State} (htb : ∀ w ∈ mz_big, w.before args s = true) : ∃ (dC : Nat → ClassId) (dI : Nat → Nat → Nat), ∀ (k : Nat) (q : vw_C), mz_cl[k]? = some q → u_Kn s q.1 q.2.1 q.2.2 (dC k) (dI k) := by
  obtain ⟨c0, i0, k0⟩ := u_known (C := RX0) (T := TX0) (N := 3) (n := 3) htb mz_inX0 (htb _ mw_261)
  obtain ⟨c1, i1, k1⟩ := u_known (C := RX1) (T := TX1) (N := 4) (n := 4) htb mz_inX1 (htb _ mw_299)
  obtain ⟨c2, i2, k2⟩ := u_known (C := RX2) (T := TX2) (N := 4) (n := 4) htb mz_inX2 (htb _ mw_195)
  obtain ⟨c3, i3, k3⟩ := u_known (C := RX3) (T := TX3) (N := 5) (n := 5) htb mz_inX3 (htb _ mw_277)
  obtain ⟨c4, i4, k4⟩ := u_known (C := RX4) (T := TX4) (N := 9) (n := 9) htb mz_inX4 (htb _ mw_214)
  obtain ⟨c5, i5, k5⟩ := u_known (C := RX5) (T := TX5) (N := 2) (n := 2) htb mz_inX5 (htb _ mw_89)
  obtain ⟨c6, i6, k6⟩ := u_known (C := RX6) (T := TX6) (N := 7) (n := 7) htb mz_inX6 (htb _ mw_129)
  obtain ⟨c7, i7, k7⟩ := u_known (C := RX7) (T := TX7) (N := 8) (n := 8) htb mz_inX7 (htb _ mw_164)
  obtain ⟨c8, i8, k8⟩ := u_known (C := RX8) (T := TX8) (N := 2) (n := 2) htb mz_inX8 (htb _ mw_102)
  obtain ⟨c9, i9, k9⟩ := u_known (C := RX9) (T := TX9) (N := 2) (n := 2) htb mz_inX9 (htb _ mw_248)
  obtain ⟨c10, i10, k10⟩ := u_known (C := RX10) (T := TX10) (N := 2) (n := 2) htb mz_inX10 (htb _ mw_318)
  obtain ⟨c11, i11, k11⟩ := u_known (C := RX11) (T := TX11) (N := 9) (n := 9) htb mz_inX11 (htb _ mw_81)
  obtain ⟨c12, i12, k12⟩ := u_known (C := RX12) (T := TX12) (N := 29) (n := 29) htb mz_inX12 (htb _ mw_967)
  refine ⟨fun k => match k with | 0 => c0 | 1 => c1 | 2 => c2 | 3 => c3 | 4 => c4 | 5 => c5 | 6 => c6 | 7 => c7 | 8 => c8 | 9 => c9 | 10 => c10 | 11 => c11 | _ => c12, fun k => match k with | 0 => i0 | 1 => i1 | 2 => i2 | 3 => i3 | 4 => i4 | 5 => i5 | 6 => i6 | 7 => i7 | 8 => i8 | 9 => i9 | 10 => i10 | 11 => i11 | _ => i12, ?_⟩
  intro k q hq
  match k, hq with
  | 0, hq => cases hq; exact k0
  | 1, hq => cases hq; exact k1
  | 2, hq => cases hq; exact k2
  | 3, hq => cases hq; exact k3
  | 4, hq => cases hq; exact k4
  | 5, hq => cases hq; exact k5
  | 6, hq => cases hq; exact k6
  | 7, hq => cases hq; exact k7
  | 8, hq => cases hq; exact k8
  | 9, hq => cases hq; exact k9
  | 10, hq => cases hq; exact k10
  | 11, hq => cases hq; exact k11
  | 12, hq => cases hq; exact k12
  | k + 13, hq => simp [mz_cl] at hq
theorem mz_arrK {args : Array Value} {s : State} {ty : FieldType} (h : (Cond.arrayClass ty).before args s = true) : ∃ cA : ClassId, ArrOfT s cA ty ∧ s.vm.findClass ("[" ++ ty.toString) = some cA := by
  obtain ⟨cA, kA, comp, h1, h2, h3⟩ := Cond.arrayClass_spec h
  exact ⟨cA, fun n z => ⟨fun k h => (by cases h), kA, h2, comp, h3⟩, h1⟩
def mz_X (b t : Nat) (adK adV : Nat → Nat) (n : Nat) : Nat := match n with
  | 0 => b
  | 1 => t
  | n + 2 => if n < 8 then adK n else adV (n - 8)
/-- what the Statement gives of the start, as the runs take it -/
theorem mz_given {p : Program} {s : State} {m : MethodId} {meth : Method} {c : Code} {b L : Nat} {xs : Nat → Int32} {E : List mz_V} (C0 : lw_At p s m meth c b L xs) (hE1 : E.length = L) (hE2 : mz_Fit E xs) : ∃ G : mz_E, G.1 0 = b ∧ mz_cx E G tM_L p room_1 s m #[Value.ref b] meth c (fun q => s.heap.size ≤ q) := by
  obtain ⟨hx, hb, hr, hml, hown, hts, hX, hbl, hlocks, hgv⟩ := id C0
  have htb : ∀ w ∈ mz_big, w.before #[Value.ref b] s = true := fun w hw => hts w (List.mem_filter.mp hw).1
  have hfl := flat_of_before _ hgv
  have hA : ∀ a : Nat, a < s.heap.size → ¬ (fun q : Nat => s.heap.size ≤ q) a := fun a h => Nat.not_le.mpr h
  obtain ⟨dC, dI, hKc⟩ := mz_classes htb
  obtain ⟨cI, aI, fI⟩ := mz_arrK (hts _ mz_n8)
  obtain ⟨cZ, aZ, fZ⟩ := mz_arrK (hts _ mz_n9)
  obtain ⟨t, ht, hT⟩ := va_Tof (tm := .static "WettedNet$Fires" "THREES" "[I") (ty := .int) (N := 8) (f := fun j => .int (mz_thr.getD j 0)) (by decide) (hfl _ mz_f8.1) (va_eqt (hfl _ mz_f8.2.1)) (fun j hj => va_eqt (hfl _ (mz_f1 j hj))) hA
  have hZ : va_Z "WettedNet$Fires" "THREES" "[I" (.ref t) (fun q => s.heap.size ≤ q) s s.heap := va_Zof (hts _ mz_n5) (hts _ mz_n7) ht hA
  have hZc : va_Z "java/lang/String" "COMPACT_STRINGS" "Z" (.int 1) (fun q => s.heap.size ≤ q) s s.heap := va_Zof (hts _ mz_n4) (hts _ mz_n6) (va_eqi (hfl _ mz_f8.2.2)) hA
  obtain ⟨adK, adV, hS, hev⟩ := vk_Sof (args := #[Value.ref b]) (s := s) (N := 8) (tm := mz_tm) (len := mz_len) (byt := mz_byt) (A := fun q => s.heap.size ≤ q) (by decide) (fun i hi => hfl _ (mz_f2 i hi)) (fun i hi => hfl _ (mz_f3 i hi)) (fun i hi => hfl _ (mz_f4 i hi)) (fun i hi => hfl _ (mz_f5 i hi)) (fun i hi j hj => hfl _ (mz_f6 i hi j hj)) (fun i j hi hj hij => (mz_f7 i hi j hj hij).imp (hfl _) (hfl _)) hA
  have e1 : ∀ i, i < 8 → mz_X b t adK adV (i + 2) = adK i := fun i hi => if_pos hi
  have e2 : ∀ i, i < 8 → mz_X b t adK adV (i + 10) = adV i := fun i hi => by
    show (if i + 8 < 8 then adK (i + 8) else adV (i + 8 - 8)) = adV i
    rw [if_neg (by omega), Nat.add_sub_cancel]
  obtain ⟨scr, s1, s2, s3, s4, s5⟩ := hX
  have hTs : va_T .int b E.length (fun j => .int (xs j)) (fun q => s.heap.size ≤ q) s s.heap := ⟨scr, s1, s2, s3, by rw [s4, hE1]; exact Nat.le_refl _, by rw [s4, hE1], fun j hj => s5 j (by rw [← hE1]; exact hj), hA b hbl⟩
  have hSS : vk_S 8 mz_len mz_byt (fun i => mz_X b t adK adV (i + 2)) (fun i => mz_X b t adK adV (i + 10)) (fun q => s.heap.size ≤ q) s s.heap := by
    refine ⟨fun i hi => ?_, fun i j hi hj h => ?_⟩
    · have h9 := hS.1 i hi
      dsimp only
      rw [e1 i hi, e2 i hi]
      exact h9
    · dsimp only at h
      rw [e1 i hi, e1 j hj] at h
      exact hS.2 i j hi hj h
  refine ⟨(mz_X b t adK adV, (dC, dI), cI, cZ, xs), rfl, hx, hb, hml, hr, hown, fun h => absurd h (by decide), rfl, rfl, hlocks, htb, ⟨hKc, fun k q hk => ?_⟩, fun q h => h, ⟨⟨hTs, fun j a ha => hE2 j a ha _⟩, hZ, hT, hZc, hSS⟩, ⟨fun q hq => va_Nw.of rfl (hts _ (mz_n1 q hq)), va_Nw.of rfl (hts _ mz_n3), fun i q hq => ?_⟩⟩
  · match k, hk with
    | 0, hk => cases hk; exact ⟨aI, fI⟩
    | 1, hk => cases hk; exact ⟨aZ, fZ⟩
    | k + 2, hk => simp [mz_tys] at hk
  · have hi : i < 8 := (List.getElem?_eq_some_iff.mp hq).1
    have hw := hts _ (mz_n2 i hi)
    have hv := hev i hi
    have eg : mz_str.getD i ("", 0, "") = q := by rw [List.getD_eq_getElem?_getD, hq]; rfl
    rw [eg] at hw
    have eq0 : mz_tm i = .string q.1 q.2.1 := by
      match i, hi, hq with
      | 0, _, hq => cases hq; rfl
      | 1, _, hq => cases hq; rfl
      | 2, _, hq => cases hq; rfl
      | 3, _, hq => cases hq; rfl
      | 4, _, hq => cases hq; rfl
      | 5, _, hq => cases hq; rfl
      | 6, _, hq => cases hq; rfl
      | 7, _, hq => cases hq; rfl
    rw [eq0] at hv
    show vk_R q.1 q.2.1 q.2.2 (mz_X b t adK adV (i + 2)) s
    rw [e1 i hi]
    exact vk_R.of hw hv
theorem mz_len1 : mz_st1.2.2.length = 43 ∧ mz_sl mz_st1.2.2 = 40373 := by decide +kernel
theorem d_law_end : decode code 801 = .ok (.ireturn, 1) := by decide +kernel
set_option maxHeartbeats 4000000 in
/-- THE LAW, from its entry -/
theorem whole_start {p : Program} {e : Env} {s : State} {m : MethodId} {below : List Frame} {meth : Method} {c : Code} (l : Launch) (hflags : l.flags = flags0) {b L : Nat} {xs : Nat → Int32} (hL : L ≤ 4) (C0 : lw_At p s m meth c b L xs) : W p l e room_1 s m #[Value.ref b] below meth c s.heap [] 0 0 (lw_Z below #[Value.ref b] s) (entryFrame m ([Value.ref b] : List Value).toArray 4) := by
  obtain ⟨hx, hb, hr, hml, hown, hts, hX, hbl, hlocks, hgv⟩ := id C0
  obtain ⟨E, hE1, hE2, hE3⟩ := mz_every L hL xs
  obtain ⟨G, hG0, hcx⟩ := mz_given C0 hE1 hE2
  obtain ⟨st, hrun, hst, hlen, hsl⟩ := mz_chk_ok hE3
  obtain ⟨l1, l2⟩ := mz_len1
  have hl := lv_entry ([.ref b]) (n := 4) (Nat.le_of_ble_eq_true rfl)
  rw [lg_entry_eq]
  generalize (lg_sl ([.ref b]) ++ List.replicate (4 - (lg_sl ([.ref b])).length) Slot.unset).toArray = ls at hl ⊢
  have hl : lv_has ls 4 [(0, .ref b)] := hl
  have r1 : room_1.cells = 600000 := rfl
  have r2 : room_1.slots = 7302250 := rfl
  have z1 : mz_st0.2.2.length = 0 := rfl
  have z2 : mz_sl mz_st0.2.2 = 0 := rfl
  refine mz_runT_ok (tok_Lp E) 16 50 0 mz_st0 mz_st1 ev_pre G p l e room_1 s m #[Value.ref b] below meth c (fun q => s.heap.size ≤ q) ls [] [] s.heap [] 0 0 _ hcx ?_ (by rw [l1, z1, r1]; decide) (by rw [l2, z2, r2]; decide) (fun ls1 stk1 cw1 H1 locs1 hr1 => ?_)
  · refine ⟨⟨[(0, .inr (.inr (.inr (.inr (.inr (.inr 0))))), .ref b)], rfl, hl, fun t ht => ?_⟩, rfl, ⟨rfl, fun k c q h => by simp [mz_st0] at h⟩, fun k q h => by simp at h, ⟨fun i j p q h => by simp at h, fun k q h => by simp at h⟩, va_S.rf⟩
    have ht : t = (0, .inr (.inr (.inr (.inr (.inr (.inr 0))))), .ref b) := by simpa using ht
    subst ht
    show Value.ref b = Value.ref (G.1 0)
    rw [hG0]
  refine mz_runT_ok (tok_L E) 801 100 16 mz_st1 st hrun G p l e room_1 s m #[Value.ref b] below meth c (fun q => s.heap.size ≤ q) ls1 stk1 cw1 H1 locs1 _ _ _ hcx hr1 (by rw [l1, z1, r1]; omega) (by rw [l2, z2, r2]; omega) (fun ls2 stk2 cw2 H2 locs2 hr2 => ?_)
  have hs := hr2.2.1
  rw [hst] at hs
  obtain ⟨v, vs, rfl, g, hs⟩ := hs
  have hs : vs = [] := hs
  subst hs
  have g : v = .int 1 := g
  subst g
  refine va_forget (fun q hq => hr2.2.2.2.2.2.2.2 q hq) ?_
  refine W.widen (k := 600000) (n := 7302250) (by rw [l1, z1]; omega) (by rw [l2, z2]; omega) ?_
  exact lw_ret hx hb hr hlocks d_law_end
