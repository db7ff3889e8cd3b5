/-! ===== what is made ===== -/
section MZ4
variable {E : List mz_V} {M : mz_M} {pc : Nat}
theorem mz_ok_p {f : mz_S → Option (Nat × mz_S)} (cf : mz_S → mz_C) (hf : ∀ (st : mz_S) (pc' : Nat) (st' : mz_S), f st = some (pc', st') → st'.2.2 = st.2.2 ++ [cf st])
    (h : ∀ (st : mz_S) (pc' : Nat) (st' : mz_S), f st = some (pc', st') → ∀ (G : mz_E) (p : Program) (l : Launch) (e : Env) (R : Room) (s : State) (m : MethodId) (args : Array Value) (below : List Frame) (meth : Method) (c : Code) (A : Nat → Prop) (ls : Array Slot) (stk : List Value) (cw : va_W) (H : Heap) (locs : List Loc) (cells slots : Nat) (Q : State → Prop),
      mz_cx E G M p R s m args meth c A → mz_rl G M s A st ls stk cw H locs → cells + 1 ≤ R.cells → slots + mz_cs (cf st) ≤ R.slots →
      (∀ (stk' : List Value) (cw' : va_W) (H' : Heap) (locs' : List Loc), mz_rl G M s A st' ls stk' cw' H' locs' → (∀ (k q : Nat), (cw.map Prod.fst)[k]? = some q → (cw'.map Prod.fst)[k]? = some q) → W p l e R s m args below meth c H' locs' (cells + 1) (slots + mz_cs (cf st)) Q (F0 m pc' ls stk')) → W p l e R s m args below meth c H locs cells slots Q (F0 m pc ls stk)) : mz_ok E M pc f := by
  intro st pc' st' hst
  have hw := hf st pc' st' hst
  have e1 : st'.2.2.length - st.2.2.length = 1 := by rw [hw]; simp
  have e2 : mz_sl st'.2.2 - mz_sl st.2.2 = mz_cs (cf st) := by rw [hw, mz_sl_app]; omega
  refine ⟨⟨by rw [hw]; simp, by rw [hw, mz_sl_app]; omega⟩, ?_⟩
  intro G p l e R s m args below meth c A ls stk cw H locs cells slots Q hc hr h1 h2 kk
  rw [e1] at h1
  rw [e2] at h2
  refine h st pc' st' hst G p l e R s m args below meth c A ls stk cw H locs cells slots Q hc hr h1 h2 (fun stk' cw' H' locs' g1 g2 => ?_)
  have k := kk ls stk' cw' H' locs' g1 g2
  rw [e1, e2] at k
  exact k
theorem mz_push_rl {G : mz_E} {s : State} {A : Nat → Prop} {l1 : List (Nat × mz_V)} {r s1 : List mz_V} {w : List mz_C} {ls : Array Slot} {vs stk : List Value} {cw : va_W} {H H1 : Heap} {locs locs1 : List Loc} {ad : Nat} {cc : mz_C} {ec : va_E} (hr : mz_rl G M s A (l1, s1, w) ls stk cw H locs) (hs : mz_sk G.1 (cw.map Prod.fst) r vs) (hc : mz_ce G (cw.map Prod.fst ++ [ad]) cc ec) (P1 : va_P G.2.1 mz_cl (cw ++ [(ad, ec)]) H1) (D1 : va_D A (cw ++ [(ad, ec)])) (S1 : va_S A s.heap H1 locs1) :
    mz_rl G M s A (l1, .inr (.inr (.inl (some w.length))) :: r, w ++ [cc]) ls (.ref ad :: vs) (cw ++ [(ad, ec)]) H1 locs1 ∧ ∀ (k q : Nat), (cw.map Prod.fst)[k]? = some q → ((cw ++ [(ad, ec)]).map Prod.fst)[k]? = some q := by
  have hp : ∀ (k q : Nat), (cw.map Prod.fst)[k]? = some q → ((cw ++ [(ad, ec)]).map Prod.fst)[k]? = some q := by
    intro k q hk
    rw [List.map_append]
    exact mz_pre_app _ _ k q hk
  refine ⟨⟨mz_lv_mono hp hr.1, ⟨.ref ad, vs, rfl, ⟨ad, ?_, rfl⟩, mz_sk_mono hp _ _ hs⟩, mz_wd_push hr.2.2.1 hc, P1, D1, S1⟩, hp⟩
  have hl : w.length = cw.length := hr.2.2.1.1
  rw [List.map_append, List.getElem?_append_right (by simp [hl])]
  simp [hl]
def mz_na (b : Bool) (n : Nat) : mz_S → Option (Nat × mz_S) := fun st => match st.2.1 with
  | .inl x :: r => if x < 0 then none else mz_fn x.toNatClampNeg (fun N => bif Nat.ble N 100000 then mz_fn st.2.2.length (fun k => some (n, st.1, .inr (.inr (.inl (some k))) :: r, st.2.2 ++ [.inl (b, N, [])])) else none)
  | _ => none
theorem mz_na_inv {b : Bool} {n : Nat} (st : mz_S) (pc' : Nat) (st' : mz_S) (h : mz_na b n st = some (pc', st')) : ∃ x r, st.2.1 = .inl x :: r ∧ ¬ x < 0 ∧ x.toNatClampNeg ≤ 100000 ∧ pc' = n ∧ st' = (st.1, .inr (.inr (.inl (some st.2.2.length))) :: r, st.2.2 ++ [.inl (b, x.toNatClampNeg, [])]) := by
  unfold mz_na at h
  split at h
  next x r hs =>
    split at h
    next => cases h
    next hx =>
      rw [mz_fn_eq] at h
      cases hb : Nat.ble x.toNatClampNeg 100000 with
      | false => rw [hb] at h; cases h
      | true =>
        rw [hb, cond_true, mz_fn_eq] at h
        cases h
        exact ⟨x, r, hs, hx, Nat.le_of_ble_eq_true hb, rfl, rfl⟩
  next => cases h
def mz_na_c (b : Bool) (st : mz_S) : mz_C := match st.2.1 with
  | .inl x :: _ => .inl (b, x.toNatClampNeg, [])
  | _ => .inl (b, 0, [])
theorem mz_RA_int {G : mz_E} {s : State} {cA : ClassId} (hK : va_K G.2.1 mz_cl (mz_tys G) s) (h : va_RA s cA .int) : cA = mz_ac G false := by
  have h0 := (hK.2 0 (G.2.2.1, .int) rfl).2
  have h1 : s.vm.findClass ("[" ++ (FieldType.int).toString) = some G.2.2.1 := h0
  have h2 : s.vm.findClass ("[" ++ (FieldType.int).toString) = some cA := h
  rw [h1] at h2
  exact (Option.some.inj h2).symm
theorem mz_RA_bool {G : mz_E} {s : State} {cA : ClassId} (hK : va_K G.2.1 mz_cl (mz_tys G) s) (h : va_RA s cA .boolean) : cA = mz_ac G true := by
  have h0 := (hK.2 1 (G.2.2.2.1, .boolean) rfl).2
  have h1 : s.vm.findClass ("[" ++ (FieldType.boolean).toString) = some G.2.2.2.1 := h0
  have h2 : s.vm.findClass ("[" ++ (FieldType.boolean).toString) = some cA := h
  rw [h1] at h2
  exact (Option.some.inj h2).symm
theorem mz_newI (hw : Cond.arrayClass .int ∈ mz_big) (hd : decode M.1 pc = .ok (.newarray .int, 2)) : mz_ok E M pc (mz_na false (pc + 2)) := by
  refine mz_ok_p (mz_na_c false) (fun st pc' st' h => ?_) ?_
  · obtain ⟨x, r, h1, -, -, -, rfl⟩ := mz_na_inv st pc' st' h
    simp [mz_na_c, h1]
  intro st pc' st' h G p l e R s m args below meth c A ls stk cw H locs cells slots Q hc hr b1 b2 kk
  obtain ⟨x, r, h1, h2, h3, rfl, rfl⟩ := mz_na_inv st pc' st' h
  have hs := hr.2.1
  rw [h1] at hs
  obtain ⟨v, vs, rfl, g, hs⟩ := hs
  have g : v = .int x := g
  subst g
  have ec : mz_cs (mz_na_c false st) = x.toNatClampNeg := by simp [mz_na_c, h1, mz_cs]
  rw [ec] at b2 kk
  refine va_newa (atype := .int) (ty := .int) (a0 := (x.toNatClampNeg, .inl (fun _ => 0))) hc.1 hc.2.1 (hc.2.2.2.2.2.2.2.2.2.1 _ hw) rfl hc.2.2.2.2.2.2.2.2.2.2.1 hr.2.2.2.1 hr.2.2.2.2.1 hr.2.2.2.2.2 hc.2.2.2.2.2.2.2.2.2.2.2.1 (fun _ => rfl) h2 rfl (by simp [componentBytes]; omega) b1 b2 hd (fun q cA H1 K1 P1 D1 S1 => ?_)
  have eA := mz_RA_int hc.2.2.2.2.2.2.2.2.2.2.1 (K1.2 2 (cA, .int) rfl).2
  subst eA
  obtain ⟨g1, g2⟩ := mz_push_rl (M := M) (l1 := st.1) (s1 := st.2.1) (w := st.2.2) (r := r) (vs := vs) (cc := .inl (false, x.toNatClampNeg, [])) hr hs ⟨fun _ => 0, rfl, fun j _ => rfl⟩ P1 D1 S1
  exact kk _ _ _ _ g1 g2
theorem mz_newZ (hw : Cond.arrayClass .boolean ∈ mz_big) (hd : decode M.1 pc = .ok (.newarray .boolean, 2)) : mz_ok E M pc (mz_na true (pc + 2)) := by
  refine mz_ok_p (mz_na_c true) (fun st pc' st' h => ?_) ?_
  · obtain ⟨x, r, h1, -, -, -, rfl⟩ := mz_na_inv st pc' st' h
    simp [mz_na_c, h1]
  intro st pc' st' h G p l e R s m args below meth c A ls stk cw H locs cells slots Q hc hr b1 b2 kk
  obtain ⟨x, r, h1, h2, h3, rfl, rfl⟩ := mz_na_inv st pc' st' h
  have hs := hr.2.1
  rw [h1] at hs
  obtain ⟨v, vs, rfl, g, hs⟩ := hs
  have g : v = .int x := g
  subst g
  have ec : mz_cs (mz_na_c true st) = x.toNatClampNeg := by simp [mz_na_c, h1, mz_cs]
  rw [ec] at b2 kk
  refine va_newa (atype := .boolean) (ty := .boolean) (a0 := (x.toNatClampNeg, .inl (fun _ => 0))) hc.1 hc.2.1 (hc.2.2.2.2.2.2.2.2.2.1 _ hw) rfl hc.2.2.2.2.2.2.2.2.2.2.1 hr.2.2.2.1 hr.2.2.2.2.1 hr.2.2.2.2.2 hc.2.2.2.2.2.2.2.2.2.2.2.1 (fun _ => rfl) h2 rfl (by simp [componentBytes]; omega) b1 b2 hd (fun q cA H1 K1 P1 D1 S1 => ?_)
  have eA := mz_RA_bool hc.2.2.2.2.2.2.2.2.2.2.1 (K1.2 2 (cA, .boolean) rfl).2
  subst eA
  obtain ⟨g1, g2⟩ := mz_push_rl (M := M) (l1 := st.1) (s1 := st.2.1) (w := st.2.2) (r := r) (vs := vs) (cc := .inl (true, x.toNatClampNeg, [])) hr hs ⟨fun _ => 0, rfl, fun j _ => rfl⟩ P1 D1 S1
  exact kk _ _ _ _ g1 g2
def mz_nw (ci : Nat) (fs : List mz_V) (n : Nat) : mz_S → Option (Nat × mz_S) := fun st => mz_fn st.2.2.length (fun k => some (n, st.1, .inr (.inr (.inl (some k))) :: st.2.1, st.2.2 ++ [.inr (ci, fs)]))
theorem mz_new {C : String} {T : u_T} {N ci i : Nat} {ty0 : Nat → FieldType} {fs : List mz_V} (vs : List Value) (hc0 : mz_cl[ci]? = some (C, T, N)) (hin : ∀ w ∈ u_ws C T N, w ∈ mz_big) (hty : ∀ k, k < N → parseFieldDescriptor (T k).2.2.1 = some (ty0 k)) (hl : fs.length = N) (hfs : ∀ j, j < N → defaultValue (ty0 j) = vp_V vs j) (hsk : ∀ (X : Nat → Nat) (ρ : List Nat), mz_sk X ρ fs vs) (w1 : Cond.classLink M.2.2.2.1 i C ∈ mz_big) (w2 : Cond.instantiable C N ∈ mz_big) (w3 : Cond.initialized C ∈ mz_big) (hd : decode M.1 pc = .ok (.new i, 3)) : mz_ok E M pc (mz_nw ci fs (pc + 3)) := by
  have inv : ∀ (st : mz_S) (pc' : Nat) (st' : mz_S), mz_nw ci fs (pc + 3) st = some (pc', st') → pc' = pc + 3 ∧ st' = (st.1, .inr (.inr (.inl (some st.2.2.length))) :: st.2.1, st.2.2 ++ [.inr (ci, fs)]) := by
    intro st pc' st' h
    unfold mz_nw at h
    rw [mz_fn_eq] at h
    cases h
    exact ⟨rfl, rfl⟩
  refine mz_ok_p (fun _ => .inr (ci, fs)) (fun st pc' st' h => by obtain ⟨-, rfl⟩ := inv st pc' st' h; rfl) ?_
  intro st pc' st' h G p l e R s m args below meth c A ls stk cw H locs cells slots Q hc hr b1 b2 kk
  obtain ⟨rfl, rfl⟩ := inv st pc' st' h
  have ec : mz_cs (.inr (ci, fs)) = N := hl
  rw [ec] at b2 kk
  have hts := hc.2.2.2.2.2.2.2.2.2.1
  refine va_new (ci := ci) (fs := vs) (C := C) (T := T) (N := N) hc.1 hc.2.1 hts hin ty0 hty hc.2.2.2.2.1 (hts _ w1) (hts _ w2) (hts _ w3) hc.2.2.2.2.2.2.2.2.2.2.1 hr.2.2.2.1 hr.2.2.2.2.1 hr.2.2.2.2.2 hc.2.2.2.2.2.2.2.2.2.2.2.1 hc0 hfs b1 b2 hd (fun q H1 P1 D1 S1 => ?_)
  obtain ⟨g1, g2⟩ := mz_push_rl (M := M) (l1 := st.1) (s1 := st.2.1) (w := st.2.2) (r := st.2.1) (vs := stk) (cc := .inr (ci, fs)) hr hr.2.1 ⟨vs, rfl, hsk _ _⟩ P1 D1 S1
  exact kk _ _ _ _ g1 g2
/-! a row's copy, and its cast -/
def mz_cl1 (n : Nat) : mz_S → Option (Nat × mz_S) := fun st => match st.2.1 with
  | .inr (.inr (.inl (some q))) :: r => match st.2.2[q]? with
    | some (.inl o) => bif o.1 then none else bif Nat.ble (r.map mz_cat).sum 8 then mz_fn st.2.2.length (fun k => some (n, st.1, .inr (.inr (.inl (some k))) :: r, st.2.2 ++ [.inl o])) else none
    | _ => none
  | _ => none
theorem mz_cl1_inv {n : Nat} (st : mz_S) (pc' : Nat) (st' : mz_S) (h : mz_cl1 n st = some (pc', st')) : ∃ q r o, st.2.1 = .inr (.inr (.inl (some q))) :: r ∧ st.2.2[q]? = some (.inl o) ∧ o.1 = false ∧ (r.map mz_cat).sum ≤ 8 ∧ pc' = n ∧ st' = (st.1, .inr (.inr (.inl (some st.2.2.length))) :: r, st.2.2 ++ [.inl o]) := by
  unfold mz_cl1 at h
  split at h
  next q r hs =>
    split at h
    next o ho =>
      cases hb : o.1 with
      | true => simp only [hb] at h; cases h
      | false =>
        simp only [hb, cond_false] at h
        cases hb2 : Nat.ble (r.map mz_cat).sum 8 with
        | false => simp only [hb2] at h; cases h
        | true =>
          simp only [hb2, cond_true] at h
          rw [mz_fn_eq] at h
          cases h
          exact ⟨q, r, o, hs, ho, hb, Nat.le_of_ble_eq_true hb2, rfl, rfl⟩
    next => cases h
  next => cases h
def mz_cl1_c (st : mz_S) : mz_C := match st.2.1 with
  | .inr (.inr (.inl (some q))) :: _ => (match st.2.2[q]? with
    | some c => c
    | none => .inr (0, []))
  | _ => .inr (0, [])
theorem mz_clone {i : Nat} (h1 : 1 ≤ M.2.2.2.2.2.1) (h2 : 22 ≤ M.2.2.2.2.2.2) (w1 : Cond.methodLink M.2.2.2.1 i ⟨"[I", "clone", "()Ljava/lang/Object;"⟩ ∈ mz_big) (w2 : Cond.sameMethod "[I" "java/lang/Object" "clone" "()Ljava/lang/Object;" ∈ mz_big) (w3 : Cond.native ⟨"java/lang/Object", "clone", "()Ljava/lang/Object;"⟩ ∈ mz_big) (w4 : Cond.instanceMethod ⟨"java/lang/Object", "clone", "()Ljava/lang/Object;"⟩ ∈ mz_big) (w5 : Cond.selects "[I" ⟨"[I", "clone", "()Ljava/lang/Object;"⟩ ⟨"java/lang/Object", "clone", "()Ljava/lang/Object;"⟩ ∈ mz_big) (hd : decode M.1 pc = .ok (.invokevirtual i, 3)) : mz_ok E M pc (mz_cl1 (pc + 3)) := by
  refine mz_ok_p mz_cl1_c (fun st pc' st' h => ?_) ?_
  · obtain ⟨q, r, o, g1, g2, -, -, -, rfl⟩ := mz_cl1_inv st pc' st' h
    simp [mz_cl1_c, g1, g2]
  intro st pc' st' h G p l e R s m args below meth c A ls stk cw H locs cells slots Q hc hr b1 b2 kk
  obtain ⟨q, r, o, g1, g2, g3, g4, rfl, rfl⟩ := mz_cl1_inv st pc' st' h
  have hs := hr.2.1
  rw [g1] at hs
  obtain ⟨v, vs, rfl, g, hs⟩ := hs
  obtain ⟨ad, ha, rfl⟩ := g
  obtain ⟨cq, c1, c2, f, c3, c4⟩ := mz_wd_at hr.2.2.1 g2
  obtain ⟨ad2, eq2⟩ := cq
  rw [c2] at ha
  cases ha
  cases c3
  have ec : mz_cs (mz_cl1_c st) = o.2.1 := by simp [mz_cl1_c, g1, g2, mz_cs]
  rw [ec] at b2 kk
  rw [g3] at c1
  have hts := hc.2.2.2.2.2.2.2.2.2.1
  have hK := hc.2.2.2.2.2.2.2.2.2.2.1
  obtain ⟨tr, t1, t2, t3⟩ := id hr.1
  refine va_clone (D := G.2.1) hc.1 hc.2.1 (hc.2.2.1.trans t2.1.symm) (ad := "[I") hc.2.2.2.2.1 (hts _ w1) (hts _ w2) (hts _ w3) (hts _ w4) (hts _ w5) hc.2.2.2.2.2.2.2.2.2.2.2.2.2.2.1 hK hr.2.2.2.1 hr.2.2.2.2.1 hr.2.2.2.2.2 hc.2.2.2.2.2.2.2.2.2.2.2.1 q 0 c1 (ty := .int) rfl (show s.vm.findClass "[I" = some G.2.2.1 from (hK.2 0 (G.2.2.1, .int) rfl).2) (fun i v hv => ?_) (by rw [hc.2.2.2.2.2.2.1]; exact h1) (by rw [hc.2.2.2.2.2.2.2.1, mz_sk_cats _ _ hs]; omega) b1 b2 hd (fun q' H1 K1 P1 D1 S1 => ?_)
  · rw [vp_cell_i] at hv
    simp only [arrV, Array.getElem?_ofFn] at hv
    split at hv
    next => cases hv; rfl
    next => cases hv
  · obtain ⟨k1, k2⟩ := mz_push_rl (M := M) (l1 := st.1) (s1 := st.2.1) (w := st.2.2) (r := r) (vs := vs) (cc := .inl o) hr hs ⟨f, by rw [g3], fun j hj => mz_g_mono (mz_pre_app _ _) (c4 j hj)⟩ P1 D1 S1
    exact kk _ _ _ _ k1 k2
def mz_cst (n : Nat) : mz_S → Option (Nat × mz_S) := fun st => match st.2.1 with
  | .inr (.inr (.inl (some q))) :: _ => match st.2.2[q]? with
    | some (.inl o) => bif o.1 then none else some (n, st)
    | _ => none
  | _ => none
theorem mz_castI {i : Nat} (w1 : Cond.classLink M.2.2.2.1 i "[I" ∈ mz_big) (hd : decode M.1 pc = .ok (.checkcast i, 3)) : mz_ok E M pc (mz_cst (pc + 3)) := by
  have inv : ∀ (st : mz_S) (pc' : Nat) (st' : mz_S), mz_cst (pc + 3) st = some (pc', st') → ∃ q r o, st.2.1 = .inr (.inr (.inl (some q))) :: r ∧ st.2.2[q]? = some (.inl o) ∧ o.1 = false ∧ pc' = pc + 3 ∧ st' = st := by
    intro st pc' st' h
    unfold mz_cst at h
    split at h
    next q r hs =>
      split at h
      next o ho =>
        cases hb : o.1 with
        | true => simp only [hb] at h; cases h
        | false =>
          simp only [hb, cond_false] at h
          cases h
          exact ⟨q, r, o, hs, ho, hb, rfl, rfl⟩
      next => cases h
    next => cases h
  refine mz_ok_s (fun st pc' st' h => by obtain ⟨q, r, o, -, -, -, -, rfl⟩ := inv st pc' st' h; rfl) ?_
  intro st pc' st' h G p l e R s m args below meth c A ls stk cw H locs cells slots Q hc hr kk
  obtain ⟨q, r, o, g1, g2, g3, rfl, rfl⟩ := inv st pc' st' h
  have hs := hr.2.1
  rw [g1] at hs
  obtain ⟨v, vs, rfl, g, hs⟩ := hs
  obtain ⟨ad, ha, rfl⟩ := g
  obtain ⟨cq, c1, c2, f, c3, c4⟩ := mz_wd_at hr.2.2.1 g2
  obtain ⟨ad2, eq2⟩ := cq
  rw [c2] at ha
  cases ha
  cases c3
  rw [g3] at c1
  have hK := hc.2.2.2.2.2.2.2.2.2.2.1
  exact va_castA (D := G.2.1) (cl := mz_cl) hc.1 hc.2.1 hc.2.2.2.2.1 (hc.2.2.2.2.2.2.2.2.2.1 _ w1) hr.2.2.2.1 q c1 (show s.vm.findClass "[I" = some G.2.2.1 from (hK.2 0 (G.2.2.1, .int) rfl).2) hd (kk ls _ hr.1 hr.2.1)
/-! ===== ends ===== -/
def mz_rt (t : mz_V → Bool) : mz_S → Option (Option mz_V × List mz_C) := fun st => match st.2.1 with
  | [a] => bif t a then some (some a, st.2.2) else none
  | _ => none
def mz_rv : mz_S → Option (Option mz_V × List mz_C) := fun st => match st.2.1 with
  | [] => some (none, st.2.2)
  | _ => none
theorem mz_rt_inv {t : mz_V → Bool} (st : mz_S) (a : Option mz_V) (w' : List mz_C) (h : mz_rt t st = some (a, w')) : ∃ b, st.2.1 = [b] ∧ t b = true ∧ a = some b ∧ w' = st.2.2 := by
  unfold mz_rt at h
  split at h
  next b hs =>
    cases hb : t b with
    | false => simp only [hb] at h; cases h
    | true => simp only [hb, cond_true] at h; cases h; exact ⟨b, hs, hb, rfl, rfl⟩
  next => cases h
theorem mz_okR_of {t : mz_V → Bool} (row : ∀ (G : mz_E) (ρ : List Nat) (a : mz_V) (v : Value) (p : Program) (l : Launch) (e : Env) (R : Room) (s : State) (m : MethodId) (args : Array Value) (below : List Frame) (meth : Method) (c : Code) (A : Nat → Prop) (ls : Array Slot) (H : Heap) (locs : List Loc) (cells slots : Nat) (Qc : Array Value → State → Outcome → State → Prop), mz_cx E G M p R s m args meth c A → t a = true → mz_g G.1 ρ a v → (∀ q ∈ locs, A q.base) → (∀ t : State, t.heap = H → s.WarmedH t.vm → Qc args s (.returned (some v)) t) → W p l e R s m args below meth c H locs cells slots (MQ below Qc args s cells slots A) (F0 m pc ls [v])) : mz_okR E M pc (mz_rt t) := by
  intro st a w' h
  obtain ⟨b, h1, h2, rfl, rfl⟩ := mz_rt_inv st a w' h
  refine ⟨rfl, ?_⟩
  intro G p l e R s m args below meth c cw0 sz ls stk cw H locs cells slots hc hr hp
  have hs := hr.2.1
  rw [h1] at hs
  obtain ⟨v, vs, rfl, g, hs⟩ := hs
  have hs : vs = [] := hs
  subst hs
  exact row G _ b v p l e R s m args below meth c (va_A cw0 sz) ls H locs cells slots _ hc h2 g hr.2.2.2.2.2.2.2 (fun t ht hW => ⟨⟨some v, cw, rfl, ⟨v, rfl, g⟩, hr.2.2.1, hp, by rw [ht]; exact hr.2.2.2.1, hr.2.2.2.2.1⟩, hr.2.2.2.2.2.F ht⟩)
theorem mz_ireturn (hr0 : M.2.2.1 = some .int) (hd : decode M.1 pc = .ok (.ireturn, 1)) : mz_okR E M pc (mz_rt mz_isI) :=
  mz_okR_of (by
    intro G ρ a v p l e R s m args below meth c A ls H locs cells slots Qc hc ht hg hf hq
    obtain ⟨x, rfl⟩ := mz_isI_ok hg ht
    exact W.iret hc.1 hc.2.1 (hc.2.2.2.1.trans hr0) hq hf hd hc.2.2.2.2.2.2.2.2.1)
theorem mz_zreturn (hr0 : M.2.2.1 = some .boolean) (hd : decode M.1 pc = .ok (.ireturn, 1)) : mz_okR E M pc (mz_rt mz_is01) :=
  mz_okR_of (by
    intro G ρ a v p l e R s m args below meth c A ls H locs cells slots Qc hc ht hg hf hq
    rcases mz_is01_ok hg ht with rfl | rfl
    · exact W.zret hc.1 hc.2.1 (hc.2.2.2.1.trans hr0) (by decide) hq hf hd hc.2.2.2.2.2.2.2.2.1
    · exact W.zret hc.1 hc.2.1 (hc.2.2.2.1.trans hr0) (by decide) hq hf hd hc.2.2.2.2.2.2.2.2.1)
theorem mz_breturn (hr0 : M.2.2.1 = some .byte) (hd : decode M.1 pc = .ok (.ireturn, 1)) : mz_okR E M pc (mz_rt mz_is01) :=
  mz_okR_of (by
    intro G ρ a v p l e R s m args below meth c A ls H locs cells slots Qc hc ht hg hf hq
    rcases mz_is01_ok hg ht with rfl | rfl
    · exact W.zret hc.1 hc.2.1 (hc.2.2.2.1.trans hr0) (by decide) hq hf hd hc.2.2.2.2.2.2.2.2.1
    · exact W.zret hc.1 hc.2.1 (hc.2.2.2.1.trans hr0) (by decide) hq hf hd hc.2.2.2.2.2.2.2.2.1)
theorem mz_lreturn (hr0 : M.2.2.1 = some .long) (hd : decode M.1 pc = .ok (.lreturn, 1)) : mz_okR E M pc (mz_rt mz_isL) :=
  mz_okR_of (by
    intro G ρ a v p l e R s m args below meth c A ls H locs cells slots Qc hc ht hg hf hq
    obtain ⟨x, rfl⟩ := mz_isL_ok hg ht
    exact W.lret hc.1 hc.2.1 (hc.2.2.2.1.trans hr0) hq hf hd hc.2.2.2.2.2.2.2.2.1)
theorem mz_areturn {C : String} (hr0 : M.2.2.1 = some (.object C)) (hd : decode M.1 pc = .ok (.areturn, 1)) : mz_okR E M pc (mz_rt mz_isQ) :=
  mz_okR_of (by
    intro G ρ a v p l e R s m args below meth c A ls H locs cells slots Qc hc ht hg hf hq
    exact W.aret hc.1 hc.2.1 (hc.2.2.2.1.trans hr0) (Or.inl ⟨C, rfl⟩) (mz_isQ_ok hg ht) hq hf hd hc.2.2.2.2.2.2.2.2.1)
theorem mz_return (hr0 : M.2.2.1 = none) (hd : decode M.1 pc = .ok (.return_, 1)) : mz_okR E M pc mz_rv := by
  intro st a w' h
  have inv : st.2.1 = [] ∧ a = none ∧ w' = st.2.2 := by
    unfold mz_rv at h
    split at h
    next hs => cases h; exact ⟨hs, rfl, rfl⟩
    next => cases h
  obtain ⟨h1, rfl, rfl⟩ := inv
  refine ⟨rfl, ?_⟩
  intro G p l e R s m args below meth c cw0 sz ls stk cw H locs cells slots hc hr hp
  have hs := hr.2.1
  rw [h1] at hs
  have hs : stk = [] := hs
  subst hs
  exact W.vret hc.1 hc.2.1 (hc.2.2.2.1.trans hr0) (fun t ht hW => ⟨⟨none, cw, rfl, rfl, hr.2.2.1, hp, by rw [ht]; exact hr.2.2.2.1, hr.2.2.2.2.1⟩, hr.2.2.2.2.2.F ht⟩) hr.2.2.2.2.2.2.2 hd hc.2.2.2.2.2.2.2.2.1
end MZ4
