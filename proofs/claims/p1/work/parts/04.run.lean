/-! ===== what lies outside of the world and is never written: the script, a static row, a static, the words' texts ===== -/
def mz_ex (E : List mz_V) (G : mz_E) (A : Nat → Prop) (U : State) (H : Heap) : Prop :=
  (va_T .int (G.1 0) E.length (fun j => .int (G.2.2.2.2 j)) A U H ∧ ∀ (j : Nat) (a : mz_V), E[j]? = some a → mz_g G.1 [] a (.int (G.2.2.2.2 j))) ∧
  va_Z "WettedNet$Fires" "THREES" "[I" (.ref (G.1 1)) A U H ∧ va_T .int (G.1 1) 8 (fun j => .int (mz_thr.getD j 0)) A U H ∧
  va_Z "java/lang/String" "COMPACT_STRINGS" "Z" (.int 1) A U H ∧ vk_S 8 mz_len mz_byt (fun i => G.1 (i + 2)) (fun i => G.1 (i + 10)) A U H
theorem mz_ex_moved {E : List mz_V} {G : mz_E} {A : Nat → Prop} {u U : State} {H : Heap} (hvm : u.vm.Alike U.vm) (h : mz_ex E G A u H) : mz_ex E G A U H :=
  ⟨⟨va_T.moved hvm h.1.1, h.1.2⟩, va_Z.moved hvm h.2.1, va_T.moved hvm h.2.2.1, va_Z.moved hvm h.2.2.2.1, vk_S.moved hvm h.2.2.2.2⟩
theorem mz_ex_kept {E : List mz_V} {G : mz_E} {A : Nat → Prop} {U : State} {H H1 : Heap} (h : mz_ex E G A U H) (hq : ∀ a : Nat, a < H.size → ¬ A a → H1[a]? = H[a]?) : mz_ex E G A U H1 :=
  ⟨⟨h.1.1.kept hq, h.1.2⟩, h.2.1.kept hq, h.2.2.1.kept hq, h.2.2.2.1.kept hq, h.2.2.2.2.kept hq⟩
theorem mz_ex_narrow {E : List mz_V} {G : mz_E} {A B : Nat → Prop} {U : State} {H : Heap} (h : mz_ex E G A U H) (hAB : ∀ q, B q → A q) : mz_ex E G B U H :=
  ⟨⟨h.1.1.narrow hAB, h.1.2⟩, h.2.1.narrow hAB, h.2.2.1.narrow hAB, h.2.2.2.1.narrow hAB, h.2.2.2.2.narrow hAB⟩
def mz_tb (G : mz_E) (U : State) : Prop := (∀ q ∈ mz_nest, va_Nw (.methodLinkNest q.1 q.2.1 q.2.2.1 q.2.2.2) U) ∧ va_Nw (.castable "[I" "java/lang/Cloneable") U ∧ ∀ (i : Nat) (q : String × Nat × String), mz_str[i]? = some q → vk_R q.1 q.2.1 q.2.2 (G.1 (i + 2)) U
theorem mz_tb_warm {G : mz_E} {s U : State} (hW : s.WarmedH U.vm) (h : mz_tb G s) : mz_tb G U := ⟨fun q hq => va_Nw.warmM hW (h.1 q hq), va_Nw.warmC hW h.2.1, fun i q hq => vk_R.warm hW (h.2.2 i q hq)⟩
theorem mz_tb_same {G : mz_E} {u U : State} (hv : U.vm = u.vm) (h : mz_tb G u) : mz_tb G U := ⟨fun q hq => va_Nw.same rfl hv.symm (h.1 q hq), va_Nw.same rfl hv.symm h.2.1, fun i q hq => vk_R.same hv (h.2.2 i q hq)⟩
def mz_tys (G : mz_E) : List (ClassId × FieldType) := [(G.2.2.1, .int), (G.2.2.2.1, .boolean)]
/-- a method: its code, how many locals, what it returns, its class, its name, the room's frames and words -/
abbrev mz_M : Type := ByteArray × Nat × Option FieldType × String × String × Nat × Nat
def mz_cx (E : List mz_V) (G : mz_E) (M : mz_M) (p : Program) (R : Room) (s : State) (m : MethodId) (args : Array Value) (meth : Method) (c : Code) (A : Nat → Prop) : Prop :=
  p.tables.exec = Jvm.exec ∧ c.code = M.1 ∧ c.maxLocals = M.2.1 ∧ meth.sig.returnType = M.2.2.1 ∧ s.vm.findClass M.2.2.2.1 = some m.cls ∧ (M.2.2.2.2.1 = "<init>" → meth.name = "<init>") ∧ R.frames = M.2.2.2.2.2.1 ∧ R.locals = M.2.2.2.2.2.2 ∧ meth.locks = false ∧
  (∀ w ∈ mz_big, w.before args s = true) ∧ va_K G.2.1 mz_cl (mz_tys G) s ∧ (∀ q, s.heap.size ≤ q → A q) ∧ mz_ex E G A s s.heap ∧ mz_tb G s
def mz_rl (G : mz_E) (M : mz_M) (s : State) (A : Nat → Prop) (st : mz_S) (ls : Array Slot) (stk : List Value) (cw : va_W) (H : Heap) (locs : List Loc) : Prop :=
  mz_lv G.1 (cw.map Prod.fst) M.2.1 st.1 ls ∧ mz_sk G.1 (cw.map Prod.fst) st.2.1 stk ∧ mz_wd G st.2.2 cw ∧ va_P G.2.1 mz_cl cw H ∧ va_D A cw ∧ va_S A s.heap H locs
def mz_mono (st st' : mz_S) : Prop := st.2.2.length ≤ st'.2.2.length ∧ mz_sl st.2.2 ≤ mz_sl st'.2.2
/-- an instruction that goes on: what it makes of a reckoned state is what the machine does -/
def mz_ok (E : List mz_V) (M : mz_M) (pc : Nat) (f : mz_S → Option (Nat × mz_S)) : Prop :=
  ∀ (st : mz_S) (pc' : Nat) (st' : mz_S), f st = some (pc', st') → mz_mono st st' ∧
  ∀ (G : mz_E) (p : Program) (l : Launch) (e : Env) (R : Room) (s : State) (m : MethodId) (args : Array Value) (below : List Frame) (meth : Method) (c : Code) (A : Nat → Prop) (ls : Array Slot) (stk : List Value) (cw : va_W) (H : Heap) (locs : List Loc) (cells slots : Nat) (Q : State → Prop),
    mz_cx E G M p R s m args meth c A → mz_rl G M s A st ls stk cw H locs → cells + (st'.2.2.length - st.2.2.length) ≤ R.cells → slots + (mz_sl st'.2.2 - mz_sl st.2.2) ≤ R.slots →
    (∀ (ls' : Array Slot) (stk' : List Value) (cw' : va_W) (H' : Heap) (locs' : List Loc), mz_rl G M s A st' ls' stk' cw' H' locs' → (∀ (k q : Nat), (cw.map Prod.fst)[k]? = some q → (cw'.map Prod.fst)[k]? = some q) →
      W p l e R s m args below meth c H' locs' (cells + (st'.2.2.length - st.2.2.length)) (slots + (mz_sl st'.2.2 - mz_sl st.2.2)) Q (F0 m pc' ls' stk')) →
    W p l e R s m args below meth c H locs cells slots Q (F0 m pc ls stk)
/-- what a method makes of the world: its answer, the world behind it -/
def mz_an (X : Nat → Nat) (ρ : List Nat) (a : Option mz_V) (r : Option Value) : Prop := match a with
  | none => r = none
  | some b => ∃ v, r = some v ∧ mz_g X ρ b v
def mz_Q (G : mz_E) (cw : va_W) (sz : Nat) (a : Option mz_V) (w' : List mz_C) : Array Value → State → Outcome → State → Prop := fun _ st oc t =>
  (∃ (r : Option Value) (cw' : va_W), oc = .returned r ∧ mz_an G.1 (cw'.map Prod.fst) a r ∧ mz_wd G w' cw' ∧ (∀ (k q : Nat), (cw.map Prod.fst)[k]? = some q → (cw'.map Prod.fst)[k]? = some q) ∧ va_P G.2.1 mz_cl cw' t.heap ∧ va_D (va_A cw sz) cw') ∧ va_F (va_A cw sz) st t
/-- an instruction that ends the method -/
def mz_okR (E : List mz_V) (M : mz_M) (pc : Nat) (f : mz_S → Option (Option mz_V × List mz_C)) : Prop :=
  ∀ (st : mz_S) (a : Option mz_V) (w' : List mz_C), f st = some (a, w') → w' = st.2.2 ∧
  ∀ (G : mz_E) (p : Program) (l : Launch) (e : Env) (R : Room) (s : State) (m : MethodId) (args : Array Value) (below : List Frame) (meth : Method) (c : Code) (cw0 : va_W) (sz : Nat) (ls : Array Slot) (stk : List Value) (cw : va_W) (H : Heap) (locs : List Loc) (cells slots : Nat),
    mz_cx E G M p R s m args meth c (va_A cw0 sz) → mz_rl G M s (va_A cw0 sz) st ls stk cw H locs → (∀ (k q : Nat), (cw0.map Prod.fst)[k]? = some q → (cw.map Prod.fst)[k]? = some q) →
    W p l e R s m args below meth c H locs cells slots (MQ below (mz_Q G cw0 sz a w') args s cells slots (va_A cw0 sz)) (F0 m pc ls stk)
abbrev mz_O : Type := (mz_S → Option (Nat × mz_S)) ⊕ (mz_S → Option (Option mz_V × List mz_C))
def mz_okO (E : List mz_V) (M : mz_M) (q : Nat × mz_O) : Prop := match q.2 with
  | .inl f => mz_ok E M q.1 f
  | .inr f => mz_okR E M q.1 f
def mz_find (l : List (Nat × mz_O)) (i : Nat) : Option mz_O := match l with
  | [] => none
  | q :: r => bif Nat.beq q.1 i then some q.2 else mz_find r i
def mz_look (t : List (Nat × List (Nat × mz_O))) (i : Nat) : Option mz_O := match t with
  | [] => none
  | q :: r => bif Nat.ble i q.1 then mz_find q.2 i else mz_look r i
def mz_all (E : List mz_V) (M : mz_M) (l : List (Nat × mz_O)) : Prop := ∀ q ∈ l, mz_okO E M q
def mz_tok (E : List mz_V) (M : mz_M) (t : List (Nat × List (Nat × mz_O))) : Prop := ∀ q ∈ t, mz_all E M q.2
theorem mz_nil {E : List mz_V} {M : mz_M} : mz_all E M [] := fun _ h => by cases h
theorem mz_cons {E : List mz_V} {M : mz_M} {pc : Nat} {f : mz_S → Option (Nat × mz_S)} {l : List (Nat × mz_O)} (h : mz_ok E M pc f) (t : mz_all E M l) : mz_all E M ((pc, .inl f) :: l) := fun q hq => by
  rcases List.mem_cons.mp hq with rfl | hq
  · exact h
  · exact t q hq
theorem mz_consR {E : List mz_V} {M : mz_M} {pc : Nat} {f : mz_S → Option (Option mz_V × List mz_C)} {l : List (Nat × mz_O)} (h : mz_okR E M pc f) (t : mz_all E M l) : mz_all E M ((pc, .inr f) :: l) := fun q hq => by
  rcases List.mem_cons.mp hq with rfl | hq
  · exact h
  · exact t q hq
theorem mz_tnil {E : List mz_V} {M : mz_M} : mz_tok E M [] := fun _ h => by cases h
theorem mz_tcons {E : List mz_V} {M : mz_M} {b : Nat} {l : List (Nat × mz_O)} {t : List (Nat × List (Nat × mz_O))} (h : mz_all E M l) (g : mz_tok E M t) : mz_tok E M ((b, l) :: t) := fun q hq => by
  rcases List.mem_cons.mp hq with rfl | hq
  · exact h
  · exact g q hq
theorem mz_find_ok {E : List mz_V} {M : mz_M} : ∀ (l : List (Nat × mz_O)) (i : Nat) (o : mz_O), mz_all E M l → mz_find l i = some o → mz_okO E M (i, o)
  | [], i, o, _, h => by simp [mz_find] at h
  | q :: r, i, o, hl, h => by
    unfold mz_find at h
    cases hq : Nat.beq q.1 i with
    | true =>
      rw [hq] at h
      simp only [cond_true, Option.some.injEq] at h
      have := Nat.eq_of_beq_eq_true hq
      subst this
      subst h
      exact hl q List.mem_cons_self
    | false =>
      rw [hq] at h
      exact mz_find_ok r i o (fun q' h' => hl q' (List.mem_cons_of_mem _ h')) h
theorem mz_look_ok {E : List mz_V} {M : mz_M} : ∀ (t : List (Nat × List (Nat × mz_O))) (i : Nat) (o : mz_O), mz_tok E M t → mz_look t i = some o → mz_okO E M (i, o)
  | [], i, o, _, h => by simp [mz_look] at h
  | q :: r, i, o, hl, h => by
    unfold mz_look at h
    cases hq : Nat.ble i q.1 with
    | true =>
      rw [hq] at h
      exact mz_find_ok q.2 i o (hl q List.mem_cons_self) h
    | false =>
      rw [hq] at h
      exact mz_look_ok r i o (fun q' h' => hl q' (List.mem_cons_of_mem _ h')) h
/-- the run of a method's code, with fuel -/
noncomputable def mz_run (t : List (Nat × List (Nat × mz_O))) (n : Nat) : Nat → mz_S → Option (Option mz_V × List mz_C) :=
  Nat.rec (motive := fun _ => Nat → mz_S → Option (Option mz_V × List mz_C)) (fun _ _ => none) (fun _ ih pc st => match mz_look t pc with
    | none => none
    | some (.inr g) => g st
    | some (.inl f) => match f st with
      | none => none
      | some (pc', st') => ih pc' st') n
theorem mz_run_mono {E : List mz_V} {M : mz_M} {t : List (Nat × List (Nat × mz_O))} (ht : mz_tok E M t) : ∀ (n pc : Nat) (st : mz_S) (a : Option mz_V) (w' : List mz_C), mz_run t n pc st = some (a, w') → st.2.2.length ≤ w'.length ∧ mz_sl st.2.2 ≤ mz_sl w' := by
  intro n
  induction n with
  | zero => intro pc st a w' h; cases h
  | succ n ih =>
    intro pc st a w' h
    have h : (match mz_look t pc with
      | none => none
      | some (.inr g) => g st
      | some (.inl f) => match f st with
        | none => none
        | some (pc', st') => mz_run t n pc' st') = some (a, w') := h
    cases hl : mz_look t pc with
    | none => rw [hl] at h; cases h
    | some o =>
      rw [hl] at h
      have ho := mz_look_ok t pc o ht hl
      cases o with
      | inr g =>
        have ho : mz_okR E M pc g := ho
        obtain ⟨e, -⟩ := ho st a w' h
        rw [e]
        exact ⟨Nat.le_refl _, Nat.le_refl _⟩
      | inl f =>
        have ho : mz_ok E M pc f := ho
        cases hf : f st with
        | none => simp only [hf] at h; cases h
        | some q =>
          obtain ⟨pc', st'⟩ := q
          simp only [hf] at h
          obtain ⟨⟨m1, m2⟩, -⟩ := ho st pc' st' hf
          obtain ⟨k1, k2⟩ := ih pc' st' a w' h
          exact ⟨Nat.le_trans m1 k1, Nat.le_trans m2 k2⟩
theorem mz_run_ok {E : List mz_V} {M : mz_M} {t : List (Nat × List (Nat × mz_O))} (ht : mz_tok E M t) : ∀ (n pc : Nat) (st : mz_S) (a : Option mz_V) (w' : List mz_C), mz_run t n pc st = some (a, w') →
    ∀ (G : mz_E) (p : Program) (l : Launch) (e : Env) (R : Room) (s : State) (m : MethodId) (args : Array Value) (below : List Frame) (meth : Method) (c : Code) (cw0 : va_W) (sz : Nat) (ls : Array Slot) (stk : List Value) (cw : va_W) (H : Heap) (locs : List Loc) (cells slots : Nat),
    mz_cx E G M p R s m args meth c (va_A cw0 sz) → mz_rl G M s (va_A cw0 sz) st ls stk cw H locs → (∀ (k q : Nat), (cw0.map Prod.fst)[k]? = some q → (cw.map Prod.fst)[k]? = some q) →
    cells + (w'.length - st.2.2.length) = R.cells → slots + (mz_sl w' - mz_sl st.2.2) = R.slots →
    W p l e R s m args below meth c H locs cells slots (MQ below (mz_Q G cw0 sz a w') args s R.cells R.slots (va_A cw0 sz)) (F0 m pc ls stk) := by
  intro n
  induction n with
  | zero => intro pc st a w' h; cases h
  | succ n ih =>
    intro pc st a w' h G p l e R s m args below meth c cw0 sz ls stk cw H locs cells slots hc hr hp h1 h2
    have h : (match mz_look t pc with
      | none => none
      | some (.inr g) => g st
      | some (.inl f) => match f st with
        | none => none
        | some (pc', st') => mz_run t n pc' st') = some (a, w') := h
    cases hl : mz_look t pc with
    | none => rw [hl] at h; cases h
    | some o =>
      rw [hl] at h
      have ho := mz_look_ok t pc o ht hl
      cases o with
      | inr g =>
        have ho : mz_okR E M pc g := ho
        obtain ⟨e1, ho⟩ := ho st a w' h
        rw [e1, Nat.sub_self, Nat.add_zero] at h1 h2
        rw [← h1, ← h2]
        exact ho G p l e R s m args below meth c cw0 sz ls stk cw H locs cells slots hc hr hp
      | inl f =>
        have ho : mz_ok E M pc f := ho
        cases hf : f st with
        | none => simp only [hf] at h; cases h
        | some q =>
          obtain ⟨pc', st'⟩ := q
          simp only [hf] at h
          obtain ⟨⟨m1, m2⟩, ho⟩ := ho st pc' st' hf
          obtain ⟨k1, k2⟩ := mz_run_mono ht n pc' st' a w' h
          refine ho G p l e R s m args below meth c (va_A cw0 sz) ls stk cw H locs cells slots _ hc hr (by omega) (by omega) (fun ls' stk' cw' H' locs' hr' hp' => ?_)
          exact ih pc' st' a w' h G p l e R s m args below meth c cw0 sz ls' stk' cw' H' locs' _ _ hc hr' (fun k q hk => hp' k q (hp k q hk)) (by omega) (by omega)
/-- a run that stops at a place -/
noncomputable def mz_runT (t : List (Nat × List (Nat × mz_O))) (z : Nat) (n : Nat) : Nat → mz_S → Option mz_S :=
  Nat.rec (motive := fun _ => Nat → mz_S → Option mz_S) (fun _ _ => none) (fun _ ih pc st => bif Nat.beq pc z then some st else match mz_look t pc with
    | none => none
    | some (.inr _) => none
    | some (.inl f) => match f st with
      | none => none
      | some (pc', st') => ih pc' st') n
theorem mz_runT_mono {E : List mz_V} {M : mz_M} {t : List (Nat × List (Nat × mz_O))} (ht : mz_tok E M t) (z : Nat) : ∀ (n pc : Nat) (st st1 : mz_S), mz_runT t z n pc st = some st1 → mz_mono st st1 := by
  intro n
  induction n with
  | zero => intro pc st st1 h; cases h
  | succ n ih =>
    intro pc st st1 h
    have h : (bif Nat.beq pc z then some st else match mz_look t pc with
      | none => none
      | some (.inr _) => none
      | some (.inl f) => match f st with
        | none => none
        | some (pc', st') => mz_runT t z n pc' st') = some st1 := h
    cases hz : Nat.beq pc z with
    | true =>
      rw [hz] at h
      simp only [cond_true, Option.some.injEq] at h
      subst h
      exact ⟨Nat.le_refl _, Nat.le_refl _⟩
    | false =>
      rw [hz] at h
      simp only [cond_false] at h
      cases hl : mz_look t pc with
      | none => rw [hl] at h; cases h
      | some o =>
        rw [hl] at h
        have ho := mz_look_ok t pc o ht hl
        cases o with
        | inr g => cases h
        | inl f =>
          have ho : mz_ok E M pc f := ho
          cases hf : f st with
          | none => simp only [hf] at h; cases h
          | some q =>
            obtain ⟨pc', st'⟩ := q
            simp only [hf] at h
            obtain ⟨⟨m1, m2⟩, -⟩ := ho st pc' st' hf
            obtain ⟨k1, k2⟩ := ih pc' st' st1 h
            exact ⟨Nat.le_trans m1 k1, Nat.le_trans m2 k2⟩
theorem mz_runT_ok {E : List mz_V} {M : mz_M} {t : List (Nat × List (Nat × mz_O))} (ht : mz_tok E M t) (z : Nat) : ∀ (n pc : Nat) (st st1 : mz_S), mz_runT t z n pc st = some st1 →
    ∀ (G : mz_E) (p : Program) (l : Launch) (e : Env) (R : Room) (s : State) (m : MethodId) (args : Array Value) (below : List Frame) (meth : Method) (c : Code) (A : Nat → Prop) (ls : Array Slot) (stk : List Value) (cw : va_W) (H : Heap) (locs : List Loc) (cells slots : Nat) (Q : State → Prop),
    mz_cx E G M p R s m args meth c A → mz_rl G M s A st ls stk cw H locs →
    cells + (st1.2.2.length - st.2.2.length) ≤ R.cells → slots + (mz_sl st1.2.2 - mz_sl st.2.2) ≤ R.slots →
    (∀ (ls' : Array Slot) (stk' : List Value) (cw' : va_W) (H' : Heap) (locs' : List Loc), mz_rl G M s A st1 ls' stk' cw' H' locs' → W p l e R s m args below meth c H' locs' (cells + (st1.2.2.length - st.2.2.length)) (slots + (mz_sl st1.2.2 - mz_sl st.2.2)) Q (F0 m z ls' stk')) →
    W p l e R s m args below meth c H locs cells slots Q (F0 m pc ls stk) := by
  intro n
  induction n with
  | zero => intro pc st st1 h; cases h
  | succ n ih =>
    intro pc st st1 h G p l e R s m args below meth c A ls stk cw H locs cells slots Q hc hr h1 h2 kk
    have h : (bif Nat.beq pc z then some st else match mz_look t pc with
      | none => none
      | some (.inr _) => none
      | some (.inl f) => match f st with
        | none => none
        | some (pc', st') => mz_runT t z n pc' st') = some st1 := h
    cases hz : Nat.beq pc z with
    | true =>
      rw [hz] at h
      simp only [cond_true, Option.some.injEq] at h
      subst h
      have := Nat.eq_of_beq_eq_true hz
      subst this
      have k9 := kk ls stk cw H locs hr
      rw [Nat.sub_self, Nat.sub_self, Nat.add_zero, Nat.add_zero] at k9
      exact k9
    | false =>
      rw [hz] at h
      simp only [cond_false] at h
      cases hl : mz_look t pc with
      | none => rw [hl] at h; cases h
      | some o =>
        rw [hl] at h
        have ho := mz_look_ok t pc o ht hl
        cases o with
        | inr g => cases h
        | inl f =>
          have ho : mz_ok E M pc f := ho
          cases hf : f st with
          | none => simp only [hf] at h; cases h
          | some q =>
            obtain ⟨pc', st'⟩ := q
            simp only [hf] at h
            obtain ⟨⟨m1, m2⟩, ho⟩ := ho st pc' st' hf
            obtain ⟨k1, k2⟩ := mz_runT_mono ht z n pc' st' st1 h
            refine ho G p l e R s m args below meth c A ls stk cw H locs cells slots _ hc hr (by omega) (by omega) (fun ls' stk' cw' H' locs' hr' hp' => ?_)
            refine ih pc' st' st1 h G p l e R s m args below meth c A ls' stk' cw' H' locs' _ _ Q hc hr' (by omega) (by omega) (fun ls2 stk2 cw2 H2 locs2 hr2 => ?_)
            have e1 : cells + (st'.2.2.length - st.2.2.length) + (st1.2.2.length - st'.2.2.length) = cells + (st1.2.2.length - st.2.2.length) := by omega
            have e2 : slots + (mz_sl st'.2.2 - mz_sl st.2.2) + (mz_sl st1.2.2 - mz_sl st'.2.2) = slots + (mz_sl st1.2.2 - mz_sl st.2.2) := by omega
            rw [e1, e2]
            exact kk ls2 stk2 cw2 H2 locs2 hr2
/-! ===== a method's contract out of its code's run ===== -/
def mz_args : Nat → List mz_V → List (Nat × mz_V)
  | _, [] => []
  | i, a :: as => (i, a) :: mz_args (i + mz_cat a) as
noncomputable def mz_rn (t : List (Nat × List (Nat × mz_O))) (n nL : Nat) (as : List mz_V) (w : List mz_C) : Option (Option mz_V × List mz_C) :=
  bif Nat.ble (as.map mz_cat).sum nL then mz_run t n 0 (mz_args 0 as, [], w) else none
def mz_pre (E : List mz_V) (G : mz_E) (cw : va_W) (sz : Nat) (U : State) : Prop := U.heap.size = sz ∧ va_P G.2.1 mz_cl cw U.heap ∧ va_K G.2.1 mz_cl (mz_tys G) U ∧ va_D (fun _ => True) cw ∧ mz_ex E G (va_A cw sz) U U.heap ∧ mz_tb G U
abbrev mz_rm (F L mc ms : Nat) : Room := { frames := F, cells := mc, slots := ms, locals := L }
def mz_ctr (E : List mz_V) (y : MethodName) (M : mz_M) (rn : List mz_V → List mz_C → Option (Option mz_V × List mz_C)) : Prop :=
  ∀ (as : List mz_V) (w : List mz_C) (a : Option mz_V) (w' : List mz_C), rn as w = some (a, w') → (w.length ≤ w'.length ∧ mz_sl w ≤ mz_sl w') ∧
  ∀ (l : Launch) (G : mz_E) (cw : va_W) (av : List Value) (sz : Nat), mz_wd G w cw → mz_sk G.1 (cw.map Prod.fst) as av →
    Met l y (.code y M.1 M.2.1 M.2.2.1 :: mz_big) (mz_rm M.2.2.2.2.2.1 M.2.2.2.2.2.2 (w'.length - w.length) (mz_sl w' - mz_sl w)) (va_Pc av (mz_pre E G cw sz)) (mz_Q G cw sz a w') (w'.length - w.length) (mz_sl w' - mz_sl w) (va_A cw sz)
theorem mz_args_tr {X : Nat → Nat} {ρ : List Nat} : ∀ (as : List mz_V) (vs : List Value) (i : Nat), mz_sk X ρ as vs → ∃ tr : List (Nat × mz_V × Value), tr.map (fun t => (t.1, t.2.1)) = mz_args i as ∧ tr.map (fun t => (t.1, t.2.2)) = lv_args i vs ∧ ∀ t ∈ tr, mz_g X ρ t.2.1 t.2.2
  | [], _, i, h => by cases h; exact ⟨[], rfl, rfl, fun t h => by cases h⟩
  | a :: as, _, i, ⟨v, vs', h1, h2, h3⟩ => by
    cases h1
    obtain ⟨tr, e1, e2, e3⟩ := mz_args_tr as vs' (i + mz_cat a) h3
    refine ⟨(i, a, v) :: tr, ?_, ?_, ?_⟩
    · simp only [List.map_cons, e1, mz_args]
    · have hc : (if v.category = 2 then i + 2 else i + 1) = i + mz_cat a := by
        rw [← mz_cat_ok h2]
        rcases lv_cat v with h | h <;> simp [h]
      simp only [List.map_cons, lv_args, hc, e2]
    · intro t ht
      rcases List.mem_cons.mp ht with rfl | ht
      · exact h2
      · exact e3 t ht
theorem mz_sl_len : ∀ (vs : List Value), (lg_sl vs).length = (vs.map fun v => v.category).sum
  | [] => rfl
  | v :: vs => by
    have ih := mz_sl_len vs
    simp only [lg_sl, List.flatMap_cons, List.length_append, List.map_cons, List.sum_cons] at ih ⊢
    rw [ih]
    congr 1
    rcases lv_cat v with h | h <;> simp [h]
theorem mz_ctr_of {E : List mz_V} {y : MethodName} {M : mz_M} {t : List (Nat × List (Nat × mz_O))} (n : Nat) (ht : mz_tok E M t) (hy : plainName y.cls = true) (h4 : M.2.2.2.1 = y.cls) (h5 : M.2.2.2.2.1 = y.name) : mz_ctr E y M (mz_rn t n M.2.1) := by
  intro as w a w' h
  unfold mz_rn at h
  cases hb : Nat.ble (as.map mz_cat).sum M.2.1 with
  | false => rw [hb] at h; cases h
  | true =>
    rw [hb] at h
    simp only [cond_true] at h
    have hmono := mz_run_mono ht n 0 (mz_args 0 as, [], w) a w' h
    refine ⟨hmono, ?_⟩
    intro l G cw av sz hwd hsk
    refine Met.ofW (cc := M.1) (maxL := M.2.1) (ret := M.2.2.1) hy rfl ?_
    intro p e s m args below meth c s₁ B hml hv
    obtain ⟨rfl, hsz, hP, hK, hD0, hX, hT⟩ := hv
    have hts := atoms_spec (ws := .code y M.1 M.2.1 M.2.2.1 :: mz_big) B.pre
    subst hsz
    have hD := hD0.self (sz := s.heap.size)
    obtain ⟨tr, e1, e2, e3⟩ := mz_args_tr as av 0 hsk
    have hlen : (lg_sl av).length ≤ M.2.1 := by
      rw [mz_sl_len, mz_sk_cats as av hsk]
      exact Nat.le_of_ble_eq_true hb
    have hl := lv_entry av (n := M.2.1) hlen
    rw [lg_entry_eq]
    generalize (lg_sl av ++ List.replicate (M.2.1 - (lg_sl av).length) Slot.unset).toArray = ls at hl ⊢
    have hcx : mz_cx E G M p (mz_rm M.2.2.2.2.2.1 M.2.2.2.2.2.2 (w'.length - w.length) (mz_sl w' - mz_sl w)) s m av.toArray meth c (va_A cw s.heap.size) :=
      ⟨B.exec, B.bytes, hml, B.returns, by rw [h4]; exact findClass_of_methodNamed B.named, fun h9 => by rw [h5] at h9; exact (name_of_methodNamed B.named B.method).1.trans h9, rfl, rfl, B.notSynchronized, fun w' hw' => hts w' (List.mem_cons_of_mem _ hw'), hK, fun q hq => Or.inr hq, hX, hT⟩
    refine mz_run_ok ht n 0 (mz_args 0 as, [], w) a w' h G p l e _ s m av.toArray below meth c cw s.heap.size ls [] cw s.heap [] 0 0 hcx ⟨⟨tr, e1, ?_, e3⟩, rfl, hwd, hP, hD, va_S.rf⟩ (fun _ _ hk => hk) (Nat.zero_add _) (Nat.zero_add _)
    rw [e2]
    exact hl
