/-! ===== calls: the callee's contract, at its run ===== -/
def mz_take : Nat → List mz_V → List mz_V → Option (List mz_V × List mz_V)
  | 0, acc, st => some (acc, st)
  | n + 1, acc, a :: st => mz_take n (a :: acc) st
  | _ + 1, _, [] => none
theorem mz_take_ok : ∀ (n : Nat) (acc st as r : List mz_V), mz_take n acc st = some (as, r) → ∃ b, st = b ++ r ∧ as = b.reverse ++ acc ∧ b.length = n
  | 0, acc, st, as, r, h => by cases h; exact ⟨[], rfl, rfl, rfl⟩
  | n + 1, acc, a :: st, as, r, h => by
    obtain ⟨b, h1, h2, h3⟩ := mz_take_ok n (a :: acc) st as r h
    exact ⟨a :: b, by rw [h1]; rfl, by rw [h2]; simp, by simp [h3]⟩
  | n + 1, acc, [], as, r, h => by cases h
section MZ5
variable {E : List mz_V} {M : mz_M} {pc : Nat}
noncomputable def mz_call (rn : List mz_V → List mz_C → Option (Option mz_V × List mz_C)) (n : Nat) (ck : List mz_V → List mz_C → Bool) (nx : Nat) : mz_S → Option (Nat × mz_S) := fun st => match mz_take n [] st.2.1 with
  | none => none
  | some (as, r) => bif ck as st.2.2 && Nat.ble (r.map mz_cat).sum 8 then (match rn as st.2.2 with
    | none => none
    | some (none, w') => some (nx, st.1, r, w')
    | some (some a, w') => some (nx, st.1, a :: r, w')) else none
theorem mz_call_inv {rn : List mz_V → List mz_C → Option (Option mz_V × List mz_C)} {n nx : Nat} {ck : List mz_V → List mz_C → Bool} (st : mz_S) (pc' : Nat) (st' : mz_S) (h : mz_call rn n ck nx st = some (pc', st')) : ∃ b r a w', st.2.1 = b ++ r ∧ b.length = n ∧ ck b.reverse st.2.2 = true ∧ (r.map mz_cat).sum ≤ 8 ∧ rn b.reverse st.2.2 = some (a, w') ∧ pc' = nx ∧ st' = (st.1, a.toList ++ r, w') := by
  unfold mz_call at h
  split at h
  next => cases h
  next as r ht =>
    obtain ⟨b, h1, h2, h3⟩ := mz_take_ok _ _ _ _ _ ht
    rw [List.append_nil] at h2
    subst h2
    cases hb : (ck b.reverse st.2.2 && Nat.ble (r.map mz_cat).sum 8) with
    | false => simp only [hb] at h; cases h
    | true =>
      simp only [hb, cond_true] at h
      rw [Bool.and_eq_true] at hb
      split at h
      next => cases h
      next w' hr => cases h; exact ⟨b, r, none, w', h1, h3, hb.1, Nat.le_of_ble_eq_true hb.2, hr, rfl, rfl⟩
      next a w' hr => cases h; exact ⟨b, r, some a, w', h1, h3, hb.1, Nat.le_of_ble_eq_true hb.2, hr, rfl, rfl⟩
/-- behind a call -/
theorem mz_back {G : mz_E} {p : Program} {l : Launch} {e : Env} {R : Room} {s : State} {m : MethodId} {args : Array Value} {below : List Frame} {meth : Method} {c : Code} {A : Nat → Prop} {ls : Array Slot} {st0 rest : List Value} {cw : va_W} {H : Heap} {locs : List Loc} {cells slots mc ms pc : Nat} {Q : State → Prop} {a : Option mz_V} {w' : List mz_C} {ar : Array Value}
    (hr : va_Run p l e R s m args below meth c H locs cells slots mc ms (F0 m pc ls st0) rest (mz_Q G cw H.size a w' ar) (va_A cw H.size)) (hS : va_S A s.heap H locs) (hF : ∀ q, va_A cw H.size q → A q)
    (kk : ∀ (r : Option Value) (cw' : va_W) (H1 : Heap) (locs1 : List Loc), mz_an G.1 (cw'.map Prod.fst) a r → mz_wd G w' cw' → (∀ (k q : Nat), (cw.map Prod.fst)[k]? = some q → (cw'.map Prod.fst)[k]? = some q) → va_P G.2.1 mz_cl cw' H1 → va_D A cw' → va_S A s.heap H1 locs1 → W p l e R s m args below meth c H1 locs1 (cells + mc) (slots + ms) Q (F0 m (pc + 3) ls (r.toList ++ rest))) : W p l e R s m args below meth c H locs cells slots Q (F0 m pc ls st0) := by
  intro T hT X
  obtain ⟨v, st₀, t, T', L, h0, X', hL, e1, e2, ⟨⟨r, cw', hv, g1, g2, g3, g4, g5⟩, hz, hk⟩, st⟩ := hr T hT X
  cases hv
  rw [h0] at hz hk
  obtain ⟨t2, a1, b1⟩ := kk v cw' T'.heap (locs ++ L) g1 g2 g3 (by rw [e1]; exact g4) (g5.weaken (fun k q _ h => hF q.1 h))
    ⟨Nat.le_trans hS.1 (by rw [e1]; exact hz), fun q h1 h2 => by rw [e1, hk q (Nat.lt_of_lt_of_le h1 hS.1) (fun z => h2 (hF q z))]; exact hS.2.1 q h1 h2, fun q hq => by
      rcases List.mem_append.mp hq with h | h
      · exact hS.2.2 q h
      · exact hF _ (hL q h)⟩ T' rfl X'
  exact ⟨t2, st t2 a1, b1⟩
theorem mz_blind {G : mz_E} {cw : va_W} {sz : Nat} {av : List Value} : FrameBlind (va_Pc av (mz_pre E G cw sz)) := fun a U g mk q => by
  obtain ⟨q0, q1, qP, qK, qD, qX, qT⟩ := q
  exact ⟨q0, q1, qP, va_K.moved (u := U) (U := U.calling g mk a) (Vm.Alike.refl U.vm) qK, qD, mz_ex_moved (u := U) (U := U.calling g mk a) (Vm.Alike.refl U.vm) qX, mz_tb_same (u := U) (U := U.calling g mk a) rfl qT⟩
theorem mz_start {G : mz_E} {R : Room} {p : Program} {s : State} {m : MethodId} {args : Array Value} {meth : Method} {c : Code} {A : Nat → Prop} {cw : va_W} {H : Heap} {locs : List Loc} {av : List Value} (hc : mz_cx E G M p R s m args meth c A) (hP : va_P G.2.1 mz_cl cw H) (hD : va_D A cw) (hS : va_S A s.heap H locs) (hF : ∀ q, va_A cw H.size q → A q) : ∀ U : State, U.heap = H → s.WarmedH U.vm → va_Pc av (mz_pre E G cw H.size) av.toArray U := by
  intro U hU hW
  refine ⟨rfl, by rw [hU], by rw [hU]; exact hP, va_K.moved hW.alike hc.2.2.2.2.2.2.2.2.2.2.1, hD.weaken (fun _ _ _ _ => trivial), ?_, mz_tb_warm hW hc.2.2.2.2.2.2.2.2.2.2.2.2.2⟩
  rw [hU]
  exact mz_ex_moved hW.alike (mz_ex_narrow (mz_ex_kept hc.2.2.2.2.2.2.2.2.2.2.2.2.1 hS.2.1) hF)
/-- a call out of its start: what is left is that the machine goes there -/
theorem mz_ok_call {y : MethodName} {M' : mz_M} {rn : List mz_V → List mz_C → Option (Option mz_V × List mz_C)} {n : Nat} {ck : List mz_V → List mz_C → Bool} (hctr : mz_ctr E y M' rn)
    (go : ∀ (G : mz_E) (p : Program) (l : Launch) (e : Env) (R : Room) (s : State) (m : MethodId) (args : Array Value) (below : List Frame) (meth : Method) (c : Code) (A : Nat → Prop) (ls : Array Slot) (rest bv : List Value) (b : List mz_V) (w w' : List mz_C) (a : Option mz_V) (cw : va_W) (H : Heap) (locs : List Loc) (cells slots : Nat),
      mz_cx E G M p R s m args meth c A → mz_wd G w cw → va_P G.2.1 mz_cl cw H → va_S A s.heap H locs → mz_sk G.1 (cw.map Prod.fst) b.reverse bv.reverse → b.length = n → bv.length = n → ck b.reverse w = true → (rest.map fun v => v.category).sum ≤ 8 → ls.size = M.2.1 →
      cells + (w'.length - w.length) ≤ R.cells → slots + (mz_sl w' - mz_sl w) ≤ R.slots →
      Met l y (.code y M'.1 M'.2.1 M'.2.2.1 :: mz_big) (mz_rm M'.2.2.2.2.2.1 M'.2.2.2.2.2.2 (w'.length - w.length) (mz_sl w' - mz_sl w)) (va_Pc bv.reverse (mz_pre E G cw H.size)) (mz_Q G cw H.size a w') (w'.length - w.length) (mz_sl w' - mz_sl w) (va_A cw H.size) →
      (∀ U : State, U.heap = H → s.WarmedH U.vm → va_Pc bv.reverse (mz_pre E G cw H.size) bv.reverse.toArray U) →
      ∃ ar, va_Run p l e R s m args below meth c H locs cells slots (w'.length - w.length) (mz_sl w' - mz_sl w) (F0 m pc ls (bv ++ rest)) rest (mz_Q G cw H.size a w' ar) (va_A cw H.size)) : mz_ok E M pc (mz_call rn n ck (pc + 3)) := by
  intro st pc' st' hst
  obtain ⟨b, r, a, w', h1, h2, h3, h4, h5, rfl, rfl⟩ := mz_call_inv st pc' st' hst
  obtain ⟨⟨m1, m2⟩, hmet⟩ := hctr _ _ _ _ h5
  refine ⟨⟨m1, m2⟩, ?_⟩
  intro G p l e R s m args below meth c A ls stk cw H locs cells slots Q hc hr b1 b2 kk
  have hs := hr.2.1
  rw [h1] at hs
  obtain ⟨bv, rest, rfl, gb, gr⟩ := mz_sk_app _ _ _ hs
  have hF : ∀ q, va_A cw H.size q → A q := by
    intro q hq
    rcases hq with ⟨k, e1, hk⟩ | hq
    · exact hr.2.2.2.2.1.2 k _ hk
    · exact hc.2.2.2.2.2.2.2.2.2.2.2.1 q (Nat.le_trans hr.2.2.2.2.2.1 hq)
  have gbr := mz_sk_rev _ _ gb
  have hM := hmet l G cw bv.reverse H.size hr.2.2.1 gbr
  obtain ⟨tr, t1, t2, t3⟩ := id hr.1
  obtain ⟨ar, hrun⟩ := go G p l e R s m args below meth c A ls rest bv b st.2.2 w' a cw H locs cells slots hc hr.2.2.1 hr.2.2.2.1 hr.2.2.2.2.2 gbr h2 (by rw [mz_sk_len _ _ gb]; exact h2) h3 (by rw [mz_sk_cats _ _ gr]; exact h4) t2.1 b1 b2 hM (mz_start hc hr.2.2.2.1 hr.2.2.2.2.1 hr.2.2.2.2.2 hF)
  refine mz_back hrun hr.2.2.2.2.2 hF (fun rv cw' H1 locs1 g1 g2 g3 g4 g5 g6 => ?_)
  refine kk ls (rv.toList ++ rest) cw' H1 locs1 ⟨mz_lv_mono g3 hr.1, ?_, g2, g4, g5, g6⟩ g3
  cases a with
  | none =>
    have g1 : rv = none := g1
    subst g1
    exact mz_sk_mono g3 _ _ gr
  | some a =>
    obtain ⟨v, rfl, g⟩ := g1
    exact ⟨v, rest, rfl, g, mz_sk_mono g3 _ _ gr⟩
def mz_ckT (_ : List mz_V) (_ : List mz_C) : Bool := true
def mz_ckR (as : List mz_V) (_ : List mz_C) : Bool := match as with
  | .inr (.inr (.inl (some _))) :: _ => true
  | _ => false
def mz_ckV (ci : Nat) (as : List mz_V) (w : List mz_C) : Bool := match as with
  | .inr (.inr (.inl (some k))) :: _ => (match w[k]? with
    | some (.inr o) => Nat.beq o.1 ci
    | _ => false)
  | _ => false
def mz_ckX (as : List mz_V) (_ : List mz_C) : Bool := match as with
  | .inr (.inr (.inr (.inr (.inr (.inr q))))) :: _ => Nat.ble 2 q && Nat.blt q 10
  | _ => false
theorem mz_code_in {y : MethodName} {bytes : ByteArray} {maxL : Nat} {ret : Option FieldType} (h : Cond.code y bytes maxL ret ∈ mz_big) : GoodIn mz_big (.code y bytes maxL ret :: mz_big) := fun w hw => by
  rcases List.mem_cons.mp hw with rfl | hw
  · exact mz_big_good _ h
  · exact mz_big_good _ hw
theorem mz_giV {own C : String} {idx : Nat} {y : MethodName} {bytes : ByteArray} {maxL : Nat} {ret : Option FieldType} (h0 : Cond.code y bytes maxL ret ∈ mz_big) (h1 : Cond.methodLink own idx y ∈ mz_big) (h2 : Cond.instanceMethod y ∈ mz_big) (h3 : Cond.selects C y y ∈ mz_big) (h4 : Cond.initialized C ∈ mz_big) : GoodIn mz_big (wsV own idx C y (.code y bytes maxL ret :: mz_big)) := fun w hw => by
  unfold wsV at hw
  rcases List.mem_append.mp hw with h | h
  · simp only [List.mem_cons, List.not_mem_nil, or_false] at h
    rcases h with rfl | rfl | rfl | rfl
    · exact mz_big_good _ h1
    · exact mz_big_good _ h2
    · exact mz_big_good _ h3
    · exact mz_big_good _ h4
  · exact mz_code_in h0 w h
theorem mz_giS {own : String} {idx : Nat} {y : MethodName} {bytes : ByteArray} {maxL : Nat} {ret : Option FieldType} (h0 : Cond.code y bytes maxL ret ∈ mz_big) (h1 : Cond.methodLink own idx y ∈ mz_big) (h2 : Cond.static y ∈ mz_big) (h3 : Cond.initialized y.cls ∈ mz_big) : GoodIn mz_big (va_wsS own idx y (.code y bytes maxL ret :: mz_big)) := fun w hw => by
  unfold va_wsS at hw
  rcases List.mem_append.mp hw with h | h
  · simp only [List.mem_cons, List.not_mem_nil, or_false] at h
    rcases h with rfl | rfl | rfl
    · exact mz_big_good _ h1
    · exact mz_big_good _ h2
    · exact mz_big_good _ h3
  · exact mz_code_in h0 w h
/-- the first of the handed values -/
theorem mz_head {X : Nat → Nat} {ρ : List Nat} {a0 : mz_V} {as b : List mz_V} {bv : List Value} {n : Nat} (h : mz_sk X ρ b.reverse bv.reverse) (hb : b.reverse = a0 :: as) (hl : bv.length = n + 1) : ∃ (v : Value) (vs : List Value), bv = vs.reverse ++ [v] ∧ bv.reverse = v :: vs ∧ vs.length = n ∧ mz_g X ρ a0 v := by
  rw [hb] at h
  obtain ⟨v, vs, e, g, -⟩ := h
  have e2 : bv = vs.reverse ++ [v] := by
    have := congrArg List.reverse e
    rw [List.reverse_reverse, List.reverse_cons] at this
    exact this
  refine ⟨v, vs, e2, e, ?_, g⟩
  rw [e2] at hl
  simp at hl
  exact hl
theorem mz_invV {i ci n : Nat} {y : MethodName} {M' : mz_M} {T : u_T} {N : Nat} {rn : List mz_V → List mz_C → Option (Option mz_V × List mz_C)} (hctr : mz_ctr E y M' rn) (hc0 : mz_cl[ci]? = some (y.cls, T, N)) (hy : y.cls ≠ "java/lang/invoke/MethodHandle" ∧ y.cls ≠ "java/lang/invoke/VarHandle" ∧ (parseMethodDescriptor y.desc).map (fun d => d.parameters.length) = some n) (hR : M'.2.2.2.2.2.1 + 1 ≤ M.2.2.2.2.2.1 ∧ 8 + (M'.2.1 + 11) + M'.2.2.2.2.2.2 ≤ M.2.2.2.2.2.2)
    (w0 : Cond.code y M'.1 M'.2.1 M'.2.2.1 ∈ mz_big) (w1 : Cond.methodLink M.2.2.2.1 i y ∈ mz_big) (w2 : Cond.instanceMethod y ∈ mz_big) (w3 : Cond.selects y.cls y y ∈ mz_big) (w4 : Cond.initialized y.cls ∈ mz_big) (hd : decode M.1 pc = .ok (.invokevirtual i, 3)) : mz_ok E M pc (mz_call rn (n + 1) (mz_ckV ci) (pc + 3)) := by
  refine mz_ok_call hctr ?_
  intro G p l e R s m args below meth c A ls rest bv b w w' a cw H locs cells slots hc hwd hP hS hsk hbl hbvl hck hcat hls b1 b2 hM hst
  unfold mz_ckV at hck
  split at hck
  next k as hbe =>
    split at hck
    next o ho =>
      have ho1 := Nat.eq_of_beq_eq_true hck
      obtain ⟨v, vs, e1, e2, e3, g⟩ := mz_head hsk hbe hbvl
      obtain ⟨ad, ha, rfl⟩ := g
      obtain ⟨cq, c1, c2, fs, c3, c4⟩ := mz_wd_at hwd ho
      obtain ⟨ad2, eq2⟩ := cq
      rw [c2] at ha
      cases ha
      cases c3
      subst ho1
      have hts := hc.2.2.2.2.2.2.2.2.2.1
      rw [e2] at hM hst
      refine ⟨_, va_runV (As := vs) (rest := rest) ⟨hc.1, hc.2.1, hc.2.2.1, hc.2.2.2.2.1, hts⟩ hM (cwV n hts (mz_giV w0 w1 w2 w3 w4) rfl rfl rfl ⟨rfl, hy⟩ ⟨by rw [hc.2.2.2.2.2.2.1]; exact hR.1, by rw [hc.2.2.2.2.2.2.2.1]; exact hR.2⟩) ⟨mz_blind, va_recv hc.2.2.2.2.2.2.2.2.2.2.1 hP hc0 c1, hst⟩ rfl e3 hls (by rw [e1]; simp) (lv_room hcat) hd ⟨b1, b2⟩⟩
    next => cases hck
  next => cases hck
theorem mz_invS {i n : Nat} {y : MethodName} {M' : mz_M} {rn : List mz_V → List mz_C → Option (Option mz_V × List mz_C)} (hctr : mz_ctr E y M' rn) (hy : y.cls ≠ "java/lang/invoke/MethodHandle" ∧ y.cls ≠ "java/lang/invoke/VarHandle" ∧ (parseMethodDescriptor y.desc).map (fun d => d.parameters.length) = some n) (hR : M'.2.2.2.2.2.1 + 1 ≤ M.2.2.2.2.2.1 ∧ 8 + (M'.2.1 + 11) + M'.2.2.2.2.2.2 ≤ M.2.2.2.2.2.2)
    (w0 : Cond.code y M'.1 M'.2.1 M'.2.2.1 ∈ mz_big) (w1 : Cond.methodLink M.2.2.2.1 i y ∈ mz_big) (w2 : Cond.static y ∈ mz_big) (w4 : Cond.initialized y.cls ∈ mz_big) (hd : decode M.1 pc = .ok (.invokestatic i, 3)) : mz_ok E M pc (mz_call rn n mz_ckT (pc + 3)) := by
  refine mz_ok_call hctr ?_
  intro G p l e R s m args below meth c A ls rest bv b w w' a cw H locs cells slots hc hwd hP hS hsk hbl hbvl hck hcat hls b1 b2 hM hst
  have hts := hc.2.2.2.2.2.2.2.2.2.1
  refine ⟨_, va_runS (As := bv.reverse) (rest := rest) ⟨hc.1, hc.2.1, hc.2.2.1, hc.2.2.2.2.1, hts⟩ hM (va_cwS n hts (mz_giS w0 w1 w2 w4) rfl rfl rfl hy ⟨by rw [hc.2.2.2.2.2.2.1]; exact hR.1, by rw [hc.2.2.2.2.2.2.2.1]; exact hR.2⟩) ⟨mz_blind, hst⟩ rfl (by simp [hbvl]) hls (by simp) (lv_room hcat) hd ⟨b1, b2⟩⟩
theorem mz_invSN {i n : Nat} {y : MethodName} {M' : mz_M} {host : String} {rn : List mz_V → List mz_C → Option (Option mz_V × List mz_C)} (hctr : mz_ctr E y M' rn) (hy : y.cls ≠ "java/lang/invoke/MethodHandle" ∧ y.cls ≠ "java/lang/invoke/VarHandle" ∧ (parseMethodDescriptor y.desc).map (fun d => d.parameters.length) = some n) (hR : M'.2.2.2.2.2.1 + 1 ≤ M.2.2.2.2.2.1 ∧ 8 + (M'.2.1 + 11) + M'.2.2.2.2.2.2 ≤ M.2.2.2.2.2.2)
    (w0 : Cond.code y M'.1 M'.2.1 M'.2.2.1 ∈ mz_big) (w1 : (M.2.2.2.1, i, y, host) ∈ mz_nest) (w2 : Cond.static y ∈ mz_big) (w4 : Cond.initialized y.cls ∈ mz_big) (hd : decode M.1 pc = .ok (.invokestatic i, 3)) : mz_ok E M pc (mz_call rn n mz_ckT (pc + 3)) := by
  refine mz_ok_call hctr ?_
  intro G p l e R s m args below meth c A ls rest bv b w w' a cw H locs cells slots hc hwd hP hS hsk hbl hbvl hck hcat hls b1 b2 hM hst
  have hts := hc.2.2.2.2.2.2.2.2.2.1
  refine ⟨_, va_runSN (As := bv.reverse) (rest := rest) ⟨hc.1, hc.2.1, hc.2.2.1, hc.2.2.2.2.1, hts⟩ hM ⟨va_cnB n hts (mz_code_in w0) rfl rfl rfl (hc.2.2.2.2.2.2.2.2.2.2.2.2.2.1 _ w1) (hts _ w4) hy ⟨by rw [hc.2.2.2.2.2.2.1]; exact hR.1, by rw [hc.2.2.2.2.2.2.2.1]; exact hR.2⟩, hts _ w2, trivial⟩ ⟨mz_blind, hst⟩ rfl (by simp [hbvl]) hls (by simp) (lv_room hcat) hd ⟨b1, b2⟩⟩
theorem mz_invI {i n : Nat} {y : MethodName} {M' : mz_M} {rn : List mz_V → List mz_C → Option (Option mz_V × List mz_C)} (hctr : mz_ctr E y M' rn) (hy : y.cls ≠ "java/lang/invoke/MethodHandle" ∧ y.cls ≠ "java/lang/invoke/VarHandle" ∧ (parseMethodDescriptor y.desc).map (fun d => d.parameters.length) = some n) (hR : M'.2.2.2.2.2.1 + 1 ≤ M.2.2.2.2.2.1 ∧ 8 + (M'.2.1 + 11) + M'.2.2.2.2.2.2 ≤ M.2.2.2.2.2.2) (hn : y.name = "<init>") (hrt : M'.2.2.1 = none)
    (w0 : Cond.code y M'.1 M'.2.1 none ∈ mz_big) (w1 : Cond.methodLink M.2.2.2.1 i y ∈ mz_big) (w2 : Cond.instanceMethod y ∈ mz_big) (w4 : Cond.initialized y.cls ∈ mz_big) (hd : decode M.1 pc = .ok (.invokespecial i, 3)) : mz_ok E M pc (mz_call rn (n + 1) mz_ckR (pc + 3)) := by
  refine mz_ok_call hctr ?_
  intro G p l e R s m args below meth c A ls rest bv b w w' a cw H locs cells slots hc hwd hP hS hsk hbl hbvl hck hcat hls b1 b2 hM hst
  unfold mz_ckR at hck
  split at hck
  next k as hbe =>
    obtain ⟨v, vs, e1, e2, e3, g⟩ := mz_head hsk hbe hbvl
    obtain ⟨ad, ha, rfl⟩ := g
    have hts := hc.2.2.2.2.2.2.2.2.2.1
    rw [e2] at hM hst
    rw [hrt] at hM
    refine ⟨_, va_runI (As := vs) (rest := rest) (b := ad) ⟨hc.1, hc.2.1, hc.2.2.1, hc.2.2.2.2.1, hts⟩ hM (cwI n hts (mz_code_in w0) rfl rfl rfl (hts _ w4) (hts _ w1) (hts _ w2) hn hy ⟨by rw [hc.2.2.2.2.2.2.1]; exact hR.1, by rw [hc.2.2.2.2.2.2.2.1]; exact hR.2⟩) ⟨mz_blind, hst⟩ rfl e3 hls (by rw [e1]; simp) (lv_room hcat) hd ⟨b1, b2⟩⟩
  next => cases hck
theorem mz_invIN {i n : Nat} {y : MethodName} {M' : mz_M} {host : String} {rn : List mz_V → List mz_C → Option (Option mz_V × List mz_C)} (hctr : mz_ctr E y M' rn) (hy : y.cls ≠ "java/lang/invoke/MethodHandle" ∧ y.cls ≠ "java/lang/invoke/VarHandle" ∧ (parseMethodDescriptor y.desc).map (fun d => d.parameters.length) = some n) (hR : M'.2.2.2.2.2.1 + 1 ≤ M.2.2.2.2.2.1 ∧ 8 + (M'.2.1 + 11) + M'.2.2.2.2.2.2 ≤ M.2.2.2.2.2.2) (hn : y.name = "<init>") (hrt : M'.2.2.1 = none)
    (w0 : Cond.code y M'.1 M'.2.1 none ∈ mz_big) (w1 : (M.2.2.2.1, i, y, host) ∈ mz_nest) (w2 : Cond.instanceMethod y ∈ mz_big) (w4 : Cond.initialized y.cls ∈ mz_big) (hd : decode M.1 pc = .ok (.invokespecial i, 3)) : mz_ok E M pc (mz_call rn (n + 1) mz_ckR (pc + 3)) := by
  refine mz_ok_call hctr ?_
  intro G p l e R s m args below meth c A ls rest bv b w w' a cw H locs cells slots hc hwd hP hS hsk hbl hbvl hck hcat hls b1 b2 hM hst
  unfold mz_ckR at hck
  split at hck
  next k as hbe =>
    obtain ⟨v, vs, e1, e2, e3, g⟩ := mz_head hsk hbe hbvl
    obtain ⟨ad, ha, rfl⟩ := g
    have hts := hc.2.2.2.2.2.2.2.2.2.1
    rw [e2] at hM hst
    rw [hrt] at hM
    refine ⟨_, va_runIN (As := vs) (rest := rest) (b := ad) ⟨hc.1, hc.2.1, hc.2.2.1, hc.2.2.2.2.1, hts⟩ hM ⟨va_cnB n hts (mz_code_in w0) rfl rfl rfl (hc.2.2.2.2.2.2.2.2.2.2.2.2.2.1 _ w1) (hts _ w4) hy ⟨by rw [hc.2.2.2.2.2.2.1]; exact hR.1, by rw [hc.2.2.2.2.2.2.2.1]; exact hR.2⟩, hn, hts _ w2⟩ ⟨mz_blind, hst⟩ rfl e3 hls (by rw [e1]; simp) (lv_room hcat) hd ⟨b1, b2⟩⟩
  next => cases hck
/-- a call of a word's text: length, coder -/
theorem mz_invX {i n : Nat} {y : MethodName} {M' : mz_M} {rn : List mz_V → List mz_C → Option (Option mz_V × List mz_C)} (hctr : mz_ctr E y M' rn) (hcl : y.cls = "java/lang/String") (hy : y.cls ≠ "java/lang/invoke/MethodHandle" ∧ y.cls ≠ "java/lang/invoke/VarHandle" ∧ (parseMethodDescriptor y.desc).map (fun d => d.parameters.length) = some n) (hR : M'.2.2.2.2.2.1 + 1 ≤ M.2.2.2.2.2.1 ∧ 8 + (M'.2.1 + 11) + M'.2.2.2.2.2.2 ≤ M.2.2.2.2.2.2)
    (w0 : Cond.code y M'.1 M'.2.1 M'.2.2.1 ∈ mz_big) (w1 : Cond.methodLink M.2.2.2.1 i y ∈ mz_big) (w2 : Cond.instanceMethod y ∈ mz_big) (w3 : Cond.selects y.cls y y ∈ mz_big) (w4 : Cond.initialized y.cls ∈ mz_big) (hd : decode M.1 pc = .ok (.invokevirtual i, 3)) : mz_ok E M pc (mz_call rn (n + 1) mz_ckX (pc + 3)) := by
  refine mz_ok_call hctr ?_
  intro G p l e R s m args below meth c A ls rest bv b w w' a cw H locs cells slots hc hwd hP hS hsk hbl hbvl hck hcat hls b1 b2 hM hst
  unfold mz_ckX at hck
  split at hck
  next q as hbe =>
    rw [Bool.and_eq_true] at hck
    have q1 := Nat.le_of_ble_eq_true hck.1
    have q2 : q < 10 := by simpa using hck.2
    obtain ⟨v, vs, e1, e2, e3, g⟩ := mz_head hsk hbe hbvl
    have g : v = .ref (G.1 q) := g
    subst g
    have hts := hc.2.2.2.2.2.2.2.2.2.1
    have hrec := vk_recv (i := q - 2) hc.2.2.2.2.2.2.2.2.2.2.2.2.1.2.2.2.2 (by omega) hS
    have eq2 : q - 2 + 2 = q := by omega
    rw [eq2, ← hcl] at hrec
    rw [e2] at hM hst
    refine ⟨_, va_runV (As := vs) (rest := rest) ⟨hc.1, hc.2.1, hc.2.2.1, hc.2.2.2.2.1, hts⟩ hM (cwV n hts (mz_giV w0 w1 w2 w3 w4) rfl rfl rfl ⟨rfl, hy⟩ ⟨by rw [hc.2.2.2.2.2.2.1]; exact hR.1, by rw [hc.2.2.2.2.2.2.2.1]; exact hR.2⟩) ⟨mz_blind, hrec, hst⟩ rfl e3 hls (by rw [e1]; simp) (lv_room hcat) hd ⟨b1, b2⟩⟩
  next => cases hck
def mz_oi (n : Nat) : mz_S → Option (Nat × mz_S) := fun st => match st.2.1 with
  | .inr (.inr (.inl (some _))) :: r => bif Nat.ble (r.map mz_cat).sum 8 then some (n, st.1, r, st.2.2) else none
  | _ => none
theorem mz_objInit {i : Nat} (h1 : 1 ≤ M.2.2.2.2.2.1) (h2 : 20 ≤ M.2.2.2.2.2.2) (w1 : Cond.methodLink M.2.2.2.1 i objectInit ∈ mz_big) (w2 : Cond.instanceMethod objectInit ∈ mz_big) (w3 : Cond.code objectInit ⟨#[0xb1]⟩ 1 none ∈ mz_big) (hd : decode M.1 pc = .ok (.invokespecial i, 3)) : mz_ok E M pc (mz_oi (pc + 3)) := by
  have inv : ∀ (st : mz_S) (pc' : Nat) (st' : mz_S), mz_oi (pc + 3) st = some (pc', st') → ∃ q r, st.2.1 = .inr (.inr (.inl (some q))) :: r ∧ (r.map mz_cat).sum ≤ 8 ∧ pc' = pc + 3 ∧ st' = (st.1, r, st.2.2) := by
    intro st pc' st' h
    unfold mz_oi at h
    split at h
    next q r hs =>
      cases hb : Nat.ble (r.map mz_cat).sum 8 with
      | false => simp only [hb] at h; cases h
      | true => simp only [hb, cond_true] at h; cases h; exact ⟨q, r, hs, Nat.le_of_ble_eq_true hb, rfl, rfl⟩
    next => cases h
  refine mz_ok_s (fun st pc' st' h => by obtain ⟨q, r, -, -, -, rfl⟩ := inv st pc' st' h; rfl) ?_
  intro st pc' st' h G p l e R s m args below meth c A ls stk cw H locs cells slots Q hc hr kk
  obtain ⟨q, r, g1, g2, rfl, rfl⟩ := inv st pc' st' h
  have hs := hr.2.1
  rw [g1] at hs
  obtain ⟨v, vs, rfl, g, hs⟩ := hs
  obtain ⟨ad, ha, rfl⟩ := g
  have hts := hc.2.2.2.2.2.2.2.2.2.1
  obtain ⟨tr, t1, t2, t3⟩ := id hr.1
  refine W.objInit hc.1 hc.2.1 hc.2.2.2.2.1 (hts _ w1) (hts _ w2) (hts _ w3) rfl (t2.1.trans hc.2.2.1.symm) rfl hd (by rw [hc.2.2.2.2.2.2.1]; exact h1) ?_ (kk ls _ hr.1 hs)
  have h9 := lv_room (m := m) (pc := pc) (ls := ls) (rest := .ref ad :: vs) (st := vs) (by rw [mz_sk_cats _ _ hs]; exact g2)
  rw [hc.2.2.2.2.2.2.2.1]
  omega
end MZ5
