/-! ===== the instructions, one by one ===== -/
theorem mz_ok_s {E : List mz_V} {M : mz_M} {pc : Nat} {f : mz_S → Option (Nat × mz_S)} (hf : ∀ (st : mz_S) (pc' : Nat) (st' : mz_S), f st = some (pc', st') → st'.2.2 = st.2.2)
    (h : ∀ (st : mz_S) (pc' : Nat) (st' : mz_S), f st = some (pc', st') → ∀ (G : mz_E) (p : Program) (l : Launch) (e : Env) (R : Room) (s : State) (m : MethodId) (args : Array Value) (below : List Frame) (meth : Method) (c : Code) (A : Nat → Prop) (ls : Array Slot) (stk : List Value) (cw : va_W) (H : Heap) (locs : List Loc) (cells slots : Nat) (Q : State → Prop),
      mz_cx E G M p R s m args meth c A → mz_rl G M s A st ls stk cw H locs →
      (∀ (ls' : Array Slot) (stk' : List Value), mz_lv G.1 (cw.map Prod.fst) M.2.1 st'.1 ls' → mz_sk G.1 (cw.map Prod.fst) st'.2.1 stk' → W p l e R s m args below meth c H locs cells slots Q (F0 m pc' ls' stk')) → W p l e R s m args below meth c H locs cells slots Q (F0 m pc ls stk)) : mz_ok E M pc f := by
  intro st pc' st' hst
  have hw := hf st pc' st' hst
  refine ⟨⟨by rw [hw]; exact Nat.le_refl _, by rw [hw]; exact Nat.le_refl _⟩, ?_⟩
  intro G p l e R s m args below meth c A ls stk cw H locs cells slots Q hc hr h1 h2 kk
  refine h st pc' st' hst G p l e R s m args below meth c A ls stk cw H locs cells slots Q hc hr (fun ls' stk' g1 g2 => ?_)
  have k := kk ls' stk' cw H locs ⟨g1, g2, by rw [hw]; exact hr.2.2.1, hr.2.2.2⟩ (fun _ _ h => h)
  simp only [hw, Nat.sub_self, Nat.add_zero] at k
  exact k
theorem mz_ok_w {E : List mz_V} {M : mz_M} {pc : Nat} {f : mz_S → Option (Nat × mz_S)} (hf : ∀ (st : mz_S) (pc' : Nat) (st' : mz_S), f st = some (pc', st') → st'.2.2.length = st.2.2.length ∧ mz_sl st'.2.2 = mz_sl st.2.2)
    (h : ∀ (st : mz_S) (pc' : Nat) (st' : mz_S), f st = some (pc', st') → ∀ (G : mz_E) (p : Program) (l : Launch) (e : Env) (R : Room) (s : State) (m : MethodId) (args : Array Value) (below : List Frame) (meth : Method) (c : Code) (A : Nat → Prop) (ls : Array Slot) (stk : List Value) (cw : va_W) (H : Heap) (locs : List Loc) (cells slots : Nat) (Q : State → Prop),
      mz_cx E G M p R s m args meth c A → mz_rl G M s A st ls stk cw H locs →
      (∀ (stk' : List Value) (cw' : va_W) (H' : Heap) (locs' : List Loc), mz_rl G M s A st' ls stk' cw' H' locs' → (∀ (k q : Nat), (cw.map Prod.fst)[k]? = some q → (cw'.map Prod.fst)[k]? = some q) → W p l e R s m args below meth c H' locs' cells slots Q (F0 m pc' ls stk')) → W p l e R s m args below meth c H locs cells slots Q (F0 m pc ls stk)) : mz_ok E M pc f := by
  intro st pc' st' hst
  obtain ⟨w1, w2⟩ := hf st pc' st' hst
  refine ⟨⟨by rw [w1]; exact Nat.le_refl _, by rw [w2]; exact Nat.le_refl _⟩, ?_⟩
  intro G p l e R s m args below meth c A ls stk cw H locs cells slots Q hc hr h1 h2 kk
  refine h st pc' st' hst G p l e R s m args below meth c A ls stk cw H locs cells slots Q hc hr (fun stk' cw' H' locs' g1 g2 => ?_)
  have k := kk ls stk' cw' H' locs' g1 g2
  simp only [w1, w2, Nat.sub_self, Nat.add_zero] at k
  exact k
theorem mz_put_tr {X : Nat → Nat} {ρ : List Nat} {nL i : Nat} {a : mz_V} {v : Value} (tr : List (Nat × mz_V × Value)) (h3 : ∀ t ∈ tr, mz_g X ρ t.2.1 t.2.2) (hg : mz_g X ρ a v) (ls' : Array Slot) (h' : lv_has ls' nL ((i, v) :: (tr.map (fun t => (t.1, t.2.2))).filter (fun q => !(q.1 == i) && !(q.1 + 1 == i && q.2.category == 2)))) : mz_lv X ρ nL ((i, a) :: (tr.map (fun t => (t.1, t.2.1))).filter (mz_p1 i)) ls' := by
  obtain ⟨tr', e1, e2, e3⟩ := mz_filter (mz_p1 i) (fun q => !(q.1 == i) && !(q.1 + 1 == i && q.2.category == 2)) tr (fun t ht => by simp only [mz_p1, mz_cat_ok (h3 t ht)]) h3
  refine ⟨(i, a, v) :: tr', ?_, ?_, ?_⟩
  · simp only [List.map_cons, e1]
  · simp only [List.map_cons, e2]
    exact h'
  · intro t ht
    rcases List.mem_cons.mp ht with rfl | ht
    · exact hg
    · exact e3 t ht
section MZ1
variable {E : List mz_V} {M : mz_M} {pc : Nat}
def mz_push (a : mz_V) (n : Nat) : mz_S → Option (Nat × mz_S) := fun st => some (n, st.1, a :: st.2.1, st.2.2)
theorem mz_ok_push {a : mz_V} {n : Nat} (v : mz_E → Value) (hg : ∀ (G : mz_E) (ρ : List Nat), mz_g G.1 ρ a (v G)) (row : ∀ (G : mz_E) (p : Program) (l : Launch) (e : Env) (R : Room) (s : State) (m : MethodId) (args : Array Value) (below : List Frame) (meth : Method) (c : Code) (A : Nat → Prop) (ls : Array Slot) (rest : List Value) (H : Heap) (locs : List Loc) (cells slots : Nat) (Q : State → Prop), mz_cx E G M p R s m args meth c A → va_S A s.heap H locs → W p l e R s m args below meth c H locs cells slots Q (F0 m n ls (v G :: rest)) → W p l e R s m args below meth c H locs cells slots Q (F0 m pc ls rest)) : mz_ok E M pc (mz_push a n) := by
  refine mz_ok_s (fun st pc' st' h => by cases h; rfl) ?_
  intro st pc' st' h G p l e R s m args below meth c A ls stk cw H locs cells slots Q hc hr kk
  cases h
  exact row G p l e R s m args below meth c A ls stk H locs cells slots Q hc hr.2.2.2.2.2 (kk ls _ hr.1 ⟨v G, stk, rfl, hg G _, hr.2.1⟩)
theorem mz_iconst {n : Int} (x : Int32) (hx : Int32.ofInt n = x) (hd : decode M.1 pc = .ok (.iconst n, 1)) : mz_ok E M pc (mz_push (.inl x) (pc + 1)) :=
  mz_ok_push (fun _ => .int x) (fun _ _ => rfl) (by intro G p l e R s m args below meth c A ls rest H locs cells slots Q hc hS k; exact lv_iconst hc.1 hc.2.1 hd hx k)
theorem mz_bipush {n : Int} (x : Int32) (hx : (Int8.ofInt n).toInt32 = x) (hd : decode M.1 pc = .ok (.bipush n, 2)) : mz_ok E M pc (mz_push (.inl x) (pc + 2)) :=
  mz_ok_push (fun _ => .int x) (fun _ _ => rfl) (by intro G p l e R s m args below meth c A ls rest H locs cells slots Q hc hS k; exact lv_bipush hc.1 hc.2.1 hd hx k)
theorem mz_sipush {n : Int} (x : Int32) (hx : (Int16.ofInt n).toInt32 = x) (hd : decode M.1 pc = .ok (.sipush n, 3)) : mz_ok E M pc (mz_push (.inl x) (pc + 3)) :=
  mz_ok_push (fun _ => .int x) (fun _ _ => rfl) (by intro G p l e R s m args below meth c A ls rest H locs cells slots Q hc hS k; exact lv_sipush hc.1 hc.2.1 hd hx k)
theorem mz_lconst {n : Fin 2} (x : Int64) (hx : Int64.ofNat (n : Nat) = x) (hd : decode M.1 pc = .ok (.lconst n, 1)) : mz_ok E M pc (mz_push (.inr (.inl x)) (pc + 1)) :=
  mz_ok_push (fun _ => .long x) (fun _ _ => rfl) (by intro G p l e R s m args below meth c A ls rest H locs cells slots Q hc hS k; exact lv_lconst hc.1 hc.2.1 hd hx k)
theorem mz_ldc {i : Nat} {x : Int32} (hw : Cond.constant M.2.2.2.1 i x ∈ mz_big) (hd : decode M.1 pc = .ok (.ldc i, 2)) : mz_ok E M pc (mz_push (.inl x) (pc + 2)) :=
  mz_ok_push (fun _ => .int x) (fun _ _ => rfl) (by intro G p l e R s m args below meth c A ls rest H locs cells slots Q hc hS k; exact lv_ldc hc.1 hc.2.1 hc.2.2.2.2.1 (hc.2.2.2.2.2.2.2.2.2.1 _ hw) hd k)
theorem mz_ldcw {i : Nat} {x : Int32} (hw : Cond.constant M.2.2.2.1 i x ∈ mz_big) (hd : decode M.1 pc = .ok (.ldc_w i, 3)) : mz_ok E M pc (mz_push (.inl x) (pc + 3)) :=
  mz_ok_push (fun _ => .int x) (fun _ _ => rfl) (by intro G p l e R s m args below meth c A ls rest H locs cells slots Q hc hS k; exact lv_ldcw hc.1 hc.2.1 hc.2.2.2.2.1 (hc.2.2.2.2.2.2.2.2.2.1 _ hw) hd k)
theorem mz_ldc2 {i : Nat} {x : Int64} (hw : Cond.constantLong M.2.2.2.1 i x ∈ mz_big) (hd : decode M.1 pc = .ok (.ldc2_w i, 3)) : mz_ok E M pc (mz_push (.inr (.inl x)) (pc + 3)) :=
  mz_ok_push (fun _ => .long x) (fun _ _ => rfl) (by intro G p l e R s m args below meth c A ls rest H locs cells slots Q hc hS k; exact lv_ldc2 hc.1 hc.2.1 hc.2.2.2.2.1 (hc.2.2.2.2.2.2.2.2.2.1 _ hw) hd k)
theorem mz_anull (hd : decode M.1 pc = .ok (.aconst_null, 1)) : mz_ok E M pc (mz_push (.inr (.inr (.inl none))) (pc + 1)) :=
  mz_ok_push (fun _ => .null) (fun _ _ => rfl) (by intro G p l e R s m args below meth c A ls rest H locs cells slots Q hc hS k; exact lv_null hc.1 hc.2.1 hd k)
theorem mz_ldcS {k : Nat} {q : String × Nat × String} (hq : mz_str[k]? = some q) (ho : q.1 = M.2.2.2.1) (hd : decode M.1 pc = .ok (.ldc q.2.1, 2)) : mz_ok E M pc (mz_push (.inr (.inr (.inr (.inr (.inr (.inr (k + 2))))))) (pc + 2)) :=
  mz_ok_push (fun G => .ref (G.1 (k + 2))) (fun _ _ => rfl) (by intro G p l e R s m args below meth c A ls rest H locs cells slots Q hc hS kk; exact va_ldcS hc.1 hc.2.1 (own := q.1) (by rw [ho]; exact hc.2.2.2.2.1) (hc.2.2.2.2.2.2.2.2.2.2.2.2.2.2.2 k q hq) hd kk)
theorem mz_gsThr {i : Nat} (hw : Cond.fieldLink M.2.2.2.1 i "WettedNet$Fires" "THREES" "[I" ∈ mz_big) (hd : decode M.1 pc = .ok (.getstatic i, 3)) : mz_ok E M pc (mz_push (.inr (.inr (.inr (.inr (.inr (.inr 1)))))) (pc + 3)) :=
  mz_ok_push (fun G => .ref (G.1 1)) (fun _ _ => rfl) (by intro G p l e R s m args below meth c A ls rest H locs cells slots Q hc hS kk; exact va_gets hc.1 hc.2.1 hc.2.2.2.2.2.2.2.2.2.2.2.2.1.2.1 hS hc.2.2.2.2.1 (hc.2.2.2.2.2.2.2.2.2.1 _ hw) (fun _ h9 => h9) hd kk)
theorem mz_gsCom {i : Nat} (hw : Cond.fieldLink M.2.2.2.1 i "java/lang/String" "COMPACT_STRINGS" "Z" ∈ mz_big) (hd : decode M.1 pc = .ok (.getstatic i, 3)) : mz_ok E M pc (mz_push (.inl 1) (pc + 3)) :=
  mz_ok_push (fun G => .int 1) (fun _ _ => rfl) (by intro G p l e R s m args below meth c A ls rest H locs cells slots Q hc hS kk; exact va_gets hc.1 hc.2.1 hc.2.2.2.2.2.2.2.2.2.2.2.2.1.2.2.2.1 hS hc.2.2.2.2.1 (hc.2.2.2.2.2.2.2.2.2.1 _ hw) (fun _ h9 => h9) hd kk)
/-! loads and stores -/
def mz_ld (t : mz_V → Bool) (i n : Nat) : mz_S → Option (Nat × mz_S) := fun st => match mz_lk st.1 i with
  | none => none
  | some a => bif t a then some (n, st.1, a :: st.2.1, st.2.2) else none
theorem mz_ok_ld {t : mz_V → Bool} {i n : Nat} (row : ∀ (G : mz_E) (ρ : List Nat) (a : mz_V) (v : Value) (p : Program) (l : Launch) (e : Env) (R : Room) (s : State) (m : MethodId) (args : Array Value) (below : List Frame) (meth : Method) (c : Code) (A : Nat → Prop) (ls : Array Slot) (rest : List Value) (H : Heap) (locs : List Loc) (cells slots : Nat) (Q : State → Prop), mz_cx E G M p R s m args meth c A → t a = true → mz_g G.1 ρ a v → ls[i]? = some (.val v) → W p l e R s m args below meth c H locs cells slots Q (F0 m n ls (v :: rest)) → W p l e R s m args below meth c H locs cells slots Q (F0 m pc ls rest)) : mz_ok E M pc (mz_ld t i n) := by
  have inv : ∀ (st : mz_S) (pc' : Nat) (st' : mz_S), mz_ld t i n st = some (pc', st') → ∃ a, mz_lk st.1 i = some a ∧ t a = true ∧ pc' = n ∧ st' = (st.1, a :: st.2.1, st.2.2) := by
    intro st pc' st' h
    unfold mz_ld at h
    cases hl : mz_lk st.1 i with
    | none => rw [hl] at h; cases h
    | some a =>
      rw [hl] at h
      cases ht : t a with
      | false => simp only [ht] at h; cases h
      | true =>
        simp only [ht, cond_true] at h
        cases h
        exact ⟨a, rfl, ht, rfl, rfl⟩
  refine mz_ok_s (fun st pc' st' h => by obtain ⟨a, -, -, -, rfl⟩ := inv st pc' st' h; rfl) ?_
  intro st pc' st' h G p l e R s m args below meth c A ls stk cw H locs cells slots Q hc hr kk
  obtain ⟨a, h1, h2, rfl, rfl⟩ := inv st pc' st' h
  obtain ⟨v, hv, hg⟩ := mz_lv_at hr.1 h1
  exact row G _ a v p l e R s m args below meth c A ls stk H locs cells slots Q hc h2 hg hv (kk ls _ hr.1 ⟨v, stk, rfl, hg, hr.2.1⟩)
theorem mz_iload {i : Nat} (hd : decode M.1 pc = .ok (.iload i, 2)) : mz_ok E M pc (mz_ld mz_isI i (pc + 2)) :=
  mz_ok_ld (by intro G ρ a v p l e R s m args below meth c A ls rest H locs cells slots Q hc ht hg hv k; obtain ⟨x, rfl⟩ := mz_isI_ok hg ht; exact lv_iload hc.1 hc.2.1 hd hv k)
theorem mz_iload_n {k : Fin 4} (hd : decode M.1 pc = .ok (.iload_n k, 1)) : mz_ok E M pc (mz_ld mz_isI k (pc + 1)) :=
  mz_ok_ld (by intro G ρ a v p l e R s m args below meth c A ls rest H locs cells slots Q hc ht hg hv kk; obtain ⟨x, rfl⟩ := mz_isI_ok hg ht; exact lv_iload_n hc.1 hc.2.1 hd rfl hv kk)
theorem mz_lload {i : Nat} (hd : decode M.1 pc = .ok (.lload i, 2)) : mz_ok E M pc (mz_ld mz_isL i (pc + 2)) :=
  mz_ok_ld (by intro G ρ a v p l e R s m args below meth c A ls rest H locs cells slots Q hc ht hg hv k; obtain ⟨x, rfl⟩ := mz_isL_ok hg ht; exact lv_lload hc.1 hc.2.1 hd hv k)
theorem mz_lload_n {k : Fin 4} (hd : decode M.1 pc = .ok (.lload_n k, 1)) : mz_ok E M pc (mz_ld mz_isL k (pc + 1)) :=
  mz_ok_ld (by intro G ρ a v p l e R s m args below meth c A ls rest H locs cells slots Q hc ht hg hv kk; obtain ⟨x, rfl⟩ := mz_isL_ok hg ht; exact lv_lload_n hc.1 hc.2.1 hd rfl hv kk)
theorem mz_aload {i : Nat} (hd : decode M.1 pc = .ok (.aload i, 2)) : mz_ok E M pc (mz_ld mz_isR i (pc + 2)) :=
  mz_ok_ld (by intro G ρ a v p l e R s m args below meth c A ls rest H locs cells slots Q hc ht hg hv k; obtain ⟨x, rfl⟩ := mz_isR_ok hg ht; exact lv_aload hc.1 hc.2.1 hd hv k)
theorem mz_aload_n {k : Fin 4} (hd : decode M.1 pc = .ok (.aload_n k, 1)) : mz_ok E M pc (mz_ld mz_isR k (pc + 1)) :=
  mz_ok_ld (by intro G ρ a v p l e R s m args below meth c A ls rest H locs cells slots Q hc ht hg hv kk; obtain ⟨x, rfl⟩ := mz_isR_ok hg ht; exact lv_aload_n hc.1 hc.2.1 hd rfl hv kk)
def mz_sto (t : mz_V → Bool) (f : Nat → Nat × mz_V → Bool) (i n : Nat) : mz_S → Option (Nat × mz_S) := fun st => match st.2.1 with
  | [] => none
  | a :: r => bif t a then some (n, (i, a) :: st.1.filter (f i), r, st.2.2) else none
theorem mz_sto_inv {t : mz_V → Bool} {f : Nat → Nat × mz_V → Bool} {i n : Nat} (st : mz_S) (pc' : Nat) (st' : mz_S) (h : mz_sto t f i n st = some (pc', st')) : ∃ a r, st.2.1 = a :: r ∧ t a = true ∧ pc' = n ∧ st' = ((i, a) :: st.1.filter (f i), r, st.2.2) := by
  obtain ⟨l1, s1, w⟩ := st
  cases s1 with
  | nil => cases h
  | cons a r =>
    unfold mz_sto at h
    cases ht : t a with
    | false => simp only [ht] at h; cases h
    | true =>
      simp only [ht, cond_true] at h
      cases h
      exact ⟨a, r, rfl, ht, rfl, rfl⟩
theorem mz_ok_sto1 {t : mz_V → Bool} {i n : Nat} (row : ∀ (G : mz_E) (ρ : List Nat) (a : mz_V) (v : Value) (p : Program) (l : Launch) (e : Env) (R : Room) (s : State) (m : MethodId) (args : Array Value) (below : List Frame) (meth : Method) (c : Code) (A : Nat → Prop) (ls : Array Slot) (lv : List (Nat × Value)) (rest : List Value) (H : Heap) (locs : List Loc) (cells slots : Nat) (Q : State → Prop), mz_cx E G M p R s m args meth c A → t a = true → mz_g G.1 ρ a v → lv_has ls M.2.1 lv → (∀ ls' : Array Slot, lv_has ls' M.2.1 ((i, v) :: lv.filter (fun q => !(q.1 == i) && !(q.1 + 1 == i && q.2.category == 2))) → W p l e R s m args below meth c H locs cells slots Q (F0 m n ls' rest)) → W p l e R s m args below meth c H locs cells slots Q (F0 m pc ls (v :: rest))) : mz_ok E M pc (mz_sto t mz_p1 i n) := by
  refine mz_ok_s (fun st pc' st' h => by obtain ⟨a, r, -, -, -, rfl⟩ := mz_sto_inv st pc' st' h; rfl) ?_
  intro st pc' st' h G p l e R s m args below meth c A ls stk cw H locs cells slots Q hc hr kk
  obtain ⟨a, r, h1, h2, rfl, rfl⟩ := mz_sto_inv st pc' st' h
  have hs := hr.2.1
  rw [h1] at hs
  obtain ⟨v, vs, rfl, hg, hs⟩ := hs
  obtain ⟨lv, hl, hl'⟩ := mz_lv_put1 (i := i) hr.1 hg
  exact row G _ a v p l e R s m args below meth c A ls lv vs H locs cells slots Q hc h2 hg hl (fun ls' h' => kk ls' vs (hl' ls' h') hs)
theorem mz_ok_sto2 {t : mz_V → Bool} {i n : Nat} (row : ∀ (G : mz_E) (ρ : List Nat) (a : mz_V) (v : Value) (p : Program) (l : Launch) (e : Env) (R : Room) (s : State) (m : MethodId) (args : Array Value) (below : List Frame) (meth : Method) (c : Code) (A : Nat → Prop) (ls : Array Slot) (lv : List (Nat × Value)) (rest : List Value) (H : Heap) (locs : List Loc) (cells slots : Nat) (Q : State → Prop), mz_cx E G M p R s m args meth c A → t a = true → mz_g G.1 ρ a v → lv_has ls M.2.1 lv → (∀ ls' : Array Slot, lv_has ls' M.2.1 ((i, v) :: lv.filter (fun q => !(q.1 == i) && (!(q.1 == i + 1) && !(q.1 + 1 == i && q.2.category == 2)))) → W p l e R s m args below meth c H locs cells slots Q (F0 m n ls' rest)) → W p l e R s m args below meth c H locs cells slots Q (F0 m pc ls (v :: rest))) : mz_ok E M pc (mz_sto t mz_p2 i n) := by
  refine mz_ok_s (fun st pc' st' h => by obtain ⟨a, r, -, -, -, rfl⟩ := mz_sto_inv st pc' st' h; rfl) ?_
  intro st pc' st' h G p l e R s m args below meth c A ls stk cw H locs cells slots Q hc hr kk
  obtain ⟨a, r, h1, h2, rfl, rfl⟩ := mz_sto_inv st pc' st' h
  have hs := hr.2.1
  rw [h1] at hs
  obtain ⟨v, vs, rfl, hg, hs⟩ := hs
  obtain ⟨lv, hl, hl'⟩ := mz_lv_put2 (i := i) hr.1 hg
  exact row G _ a v p l e R s m args below meth c A ls lv vs H locs cells slots Q hc h2 hg hl (fun ls' h' => kk ls' vs (hl' ls' h') hs)
theorem mz_istore {i : Nat} (hn : i < M.2.1) (hd : decode M.1 pc = .ok (.istore i, 2)) : mz_ok E M pc (mz_sto mz_isI mz_p1 i (pc + 2)) :=
  mz_ok_sto1 (by intro G ρ a v p l e R s m args below meth c A ls lv rest H locs cells slots Q hc ht hg hl k; obtain ⟨x, rfl⟩ := mz_isI_ok hg ht; exact lv_istore hc.1 hc.2.1 hd hl hn rfl k)
theorem mz_istore_n {k : Fin 4} (hn : (k : Nat) < M.2.1) (hd : decode M.1 pc = .ok (.istore_n k, 1)) : mz_ok E M pc (mz_sto mz_isI mz_p1 k (pc + 1)) :=
  mz_ok_sto1 (by intro G ρ a v p l e R s m args below meth c A ls lv rest H locs cells slots Q hc ht hg hl kk; obtain ⟨x, rfl⟩ := mz_isI_ok hg ht; exact lv_istore_n hc.1 hc.2.1 hd rfl hl hn rfl kk)
theorem mz_astore {i : Nat} (hn : i < M.2.1) (hd : decode M.1 pc = .ok (.astore i, 2)) : mz_ok E M pc (mz_sto mz_isR mz_p1 i (pc + 2)) :=
  mz_ok_sto1 (by intro G ρ a v p l e R s m args below meth c A ls lv rest H locs cells slots Q hc ht hg hl k; obtain ⟨x, rfl⟩ := mz_isR_ok hg ht; exact lv_astore hc.1 hc.2.1 hd hl hn rfl k)
theorem mz_astore_n {k : Fin 4} (hn : (k : Nat) < M.2.1) (hd : decode M.1 pc = .ok (.astore_n k, 1)) : mz_ok E M pc (mz_sto mz_isR mz_p1 k (pc + 1)) :=
  mz_ok_sto1 (by intro G ρ a v p l e R s m args below meth c A ls lv rest H locs cells slots Q hc ht hg hl kk; obtain ⟨x, rfl⟩ := mz_isR_ok hg ht; exact lv_astore_n hc.1 hc.2.1 hd rfl hl hn rfl kk)
theorem mz_lstore {i : Nat} (hn : i + 1 < M.2.1) (hd : decode M.1 pc = .ok (.lstore i, 2)) : mz_ok E M pc (mz_sto mz_isL mz_p2 i (pc + 2)) :=
  mz_ok_sto2 (by intro G ρ a v p l e R s m args below meth c A ls lv rest H locs cells slots Q hc ht hg hl k; obtain ⟨x, rfl⟩ := mz_isL_ok hg ht; exact lv_lstore hc.1 hc.2.1 hd hl hn rfl k)
theorem mz_lstore_n {k : Fin 4} (hn : (k : Nat) + 1 < M.2.1) (hd : decode M.1 pc = .ok (.lstore_n k, 1)) : mz_ok E M pc (mz_sto mz_isL mz_p2 k (pc + 1)) :=
  mz_ok_sto2 (by intro G ρ a v p l e R s m args below meth c A ls lv rest H locs cells slots Q hc ht hg hl kk; obtain ⟨x, rfl⟩ := mz_isL_ok hg ht; exact lv_lstore_n hc.1 hc.2.1 hd rfl hl hn rfl kk)
def mz_inc (i : Nat) (k : Int32) (n : Nat) : mz_S → Option (Nat × mz_S) := fun st => match mz_lk st.1 i with
  | some (.inl x) => mz_fi (x + k) (fun z => some (n, (i, .inl z) :: st.1.filter (mz_p1 i), st.2.1, st.2.2))
  | _ => none
theorem mz_iinc {i : Nat} {z : Int} (k : Int32) (hk : Int32.ofInt z = k) (hn : i < M.2.1) (hd : decode M.1 pc = .ok (.iinc i z, 3)) : mz_ok E M pc (mz_inc i k (pc + 3)) := by
  have inv : ∀ (st : mz_S) (pc' : Nat) (st' : mz_S), mz_inc i k (pc + 3) st = some (pc', st') → ∃ x, mz_lk st.1 i = some (.inl x) ∧ pc' = pc + 3 ∧ st' = ((i, .inl (x + k)) :: st.1.filter (mz_p1 i), st.2.1, st.2.2) := by
    intro st pc' st' h
    unfold mz_inc at h
    split at h
    next x hx =>
      rw [mz_fi_eq] at h
      cases h
      exact ⟨x, hx, rfl, rfl⟩
    next => cases h
  refine mz_ok_s (fun st pc' st' h => by obtain ⟨x, -, -, rfl⟩ := inv st pc' st' h; rfl) ?_
  intro st pc' st' h G p l e R s m args below meth c A ls stk cw H locs cells slots Q hc hr kk
  obtain ⟨x, h1, rfl, rfl⟩ := inv st pc' st' h
  obtain ⟨v, hv, hg⟩ := mz_lv_at hr.1 h1
  have hg : v = .int x := hg
  subst hg
  obtain ⟨tr, t1, t2, t3⟩ := id hr.1
  have hm := mz_lk_mem st.1 i (.inl x) h1
  rw [← t1] at hm
  obtain ⟨t, ht, he⟩ := List.mem_map.mp hm
  have e1 : t.1 = i := congrArg Prod.fst he
  have e2 : t.2.1 = .inl x := congrArg Prod.snd he
  have hgt := t3 t ht
  rw [e2] at hgt
  have hgt : t.2.2 = .int x := hgt
  have ht2 : (i, Value.int x) ∈ tr.map (fun t => (t.1, t.2.2)) := List.mem_map.mpr ⟨t, ht, by rw [e1, hgt]⟩
  obtain ⟨j, hj⟩ := List.getElem?_of_mem ht2
  refine lv_iinc hc.1 hc.2.1 hd t2 hj (by rw [hk]) hn rfl (fun ls' h' => kk ls' stk ?_ hr.2.1)
  have h9 := mz_put_tr (i := i) (a := .inl (x + k)) (v := .int (x + k)) tr t3 rfl ls' h'
  rw [t1] at h9
  exact h9
/-! the stack -/
def mz_o1 (h : mz_V → Option mz_V) (n : Nat) : mz_S → Option (Nat × mz_S) := fun st => match st.2.1 with
  | [] => none
  | x :: r => match h x with
    | none => none
    | some a => some (n, st.1, a :: r, st.2.2)
def mz_o2 (h : mz_V → mz_V → Option mz_V) (n : Nat) : mz_S → Option (Nat × mz_S) := fun st => match st.2.1 with
  | y :: x :: r => match h x y with
    | none => none
    | some a => some (n, st.1, a :: r, st.2.2)
  | _ => none
theorem mz_ok_o1 {h : mz_V → Option mz_V} {n : Nat} (row : ∀ (G : mz_E) (ρ : List Nat) (x a : mz_V) (vx : Value), h x = some a → mz_g G.1 ρ x vx → ∃ v, mz_g G.1 ρ a v ∧ ∀ (p : Program) (l : Launch) (e : Env) (R : Room) (s : State) (m : MethodId) (args : Array Value) (below : List Frame) (meth : Method) (c : Code) (A : Nat → Prop) (ls : Array Slot) (rest : List Value) (H : Heap) (locs : List Loc) (cells slots : Nat) (Q : State → Prop), mz_cx E G M p R s m args meth c A → W p l e R s m args below meth c H locs cells slots Q (F0 m n ls (v :: rest)) → W p l e R s m args below meth c H locs cells slots Q (F0 m pc ls (vx :: rest))) : mz_ok E M pc (mz_o1 h n) := by
  have inv : ∀ (st : mz_S) (pc' : Nat) (st' : mz_S), mz_o1 h n st = some (pc', st') → ∃ x r a, st.2.1 = x :: r ∧ h x = some a ∧ pc' = n ∧ st' = (st.1, a :: r, st.2.2) := by
    intro st pc' st' h9
    obtain ⟨l1, s1, w⟩ := st
    rcases s1 with _ | ⟨x, r⟩
    · cases h9
    · unfold mz_o1 at h9
      simp only at h9
      cases hx : h x with
      | none => rw [hx] at h9; cases h9
      | some a => rw [hx] at h9; cases h9; exact ⟨x, r, a, rfl, hx, rfl, rfl⟩
  refine mz_ok_s (fun st pc' st' h9 => by obtain ⟨x, r, a, -, -, -, rfl⟩ := inv st pc' st' h9; rfl) ?_
  intro st pc' st' h9 G p l e R s m args below meth c A ls stk cw H locs cells slots Q hc hr kk
  obtain ⟨x, r, a, h1, h2, rfl, rfl⟩ := inv st pc' st' h9
  have hs := hr.2.1
  rw [h1] at hs
  obtain ⟨vx, vs, rfl, gx, hs⟩ := hs
  obtain ⟨v, hv, rw0⟩ := row G _ x a vx h2 gx
  exact rw0 p l e R s m args below meth c A ls vs H locs cells slots Q hc (kk ls _ hr.1 ⟨v, vs, rfl, hv, hs⟩)
theorem mz_ok_o2 {h : mz_V → mz_V → Option mz_V} {n : Nat} (row : ∀ (G : mz_E) (ρ : List Nat) (x y a : mz_V) (vx vy : Value), h x y = some a → mz_g G.1 ρ x vx → mz_g G.1 ρ y vy → ∃ v, mz_g G.1 ρ a v ∧ ∀ (p : Program) (l : Launch) (e : Env) (R : Room) (s : State) (m : MethodId) (args : Array Value) (below : List Frame) (meth : Method) (c : Code) (A : Nat → Prop) (ls : Array Slot) (rest : List Value) (H : Heap) (locs : List Loc) (cells slots : Nat) (Q : State → Prop), mz_cx E G M p R s m args meth c A → W p l e R s m args below meth c H locs cells slots Q (F0 m n ls (v :: rest)) → W p l e R s m args below meth c H locs cells slots Q (F0 m pc ls (vy :: vx :: rest))) : mz_ok E M pc (mz_o2 h n) := by
  have inv : ∀ (st : mz_S) (pc' : Nat) (st' : mz_S), mz_o2 h n st = some (pc', st') → ∃ x y r a, st.2.1 = y :: x :: r ∧ h x y = some a ∧ pc' = n ∧ st' = (st.1, a :: r, st.2.2) := by
    intro st pc' st' h9
    obtain ⟨l1, s1, w⟩ := st
    rcases s1 with _ | ⟨y, _ | ⟨x, r⟩⟩
    · cases h9
    · cases h9
    · unfold mz_o2 at h9
      simp only at h9
      cases hx : h x y with
      | none => rw [hx] at h9; cases h9
      | some a => rw [hx] at h9; cases h9; exact ⟨x, y, r, a, rfl, hx, rfl, rfl⟩
  refine mz_ok_s (fun st pc' st' h9 => by obtain ⟨x, y, r, a, -, -, -, rfl⟩ := inv st pc' st' h9; rfl) ?_
  intro st pc' st' h9 G p l e R s m args below meth c A ls stk cw H locs cells slots Q hc hr kk
  obtain ⟨x, y, r, a, h1, h2, rfl, rfl⟩ := inv st pc' st' h9
  have hs := hr.2.1
  rw [h1] at hs
  obtain ⟨vy, _, rfl, gy, vx, vs, rfl, gx, hs⟩ := hs
  obtain ⟨v, hv, rw0⟩ := row G _ x y a vx vy h2 gx gy
  exact rw0 p l e R s m args below meth c A ls vs H locs cells slots Q hc (kk ls _ hr.1 ⟨v, vs, rfl, hv, hs⟩)
def mz_ib (g : Int32 → Int32 → Int32) (x y : mz_V) : Option mz_V := match x, y with
  | .inl a, .inl b => mz_fi (g a b) (fun z => some (.inl z))
  | x, y => bif mz_isI x && mz_isI y then some mz_anyI else none
theorem mz_ib_ok {G : mz_E} {ρ : List Nat} {g : Int32 → Int32 → Int32} {x y a : mz_V} {vx vy : Value} (h : mz_ib g x y = some a) (gx : mz_g G.1 ρ x vx) (gy : mz_g G.1 ρ y vy) : ∃ b d : Int32, vx = .int b ∧ vy = .int d ∧ mz_g G.1 ρ a (.int (g b d)) := by
  unfold mz_ib at h
  split at h
  next a1 b1 =>
    rw [mz_fi_eq] at h
    cases h
    exact ⟨a1, b1, gx, gy, rfl⟩
  next =>
    cases hb : (mz_isI x && mz_isI y) with
    | false => simp only [hb] at h; cases h
    | true =>
      simp only [hb, cond_true] at h
      cases h
      rw [Bool.and_eq_true] at hb
      obtain ⟨b, rfl⟩ := mz_isI_ok gx hb.1
      obtain ⟨d, rfl⟩ := mz_isI_ok gy hb.2
      exact ⟨b, d, rfl, rfl, mz_anyI_ok _⟩
def mz_lb (g : Int64 → Int64 → Int64) (x y : mz_V) : Option mz_V := match x, y with
  | .inr (.inl a), .inr (.inl b) => mz_fl (g a b) (fun z => some (.inr (.inl z)))
  | x, y => bif mz_isL x && mz_isL y then some mz_anyL else none
theorem mz_lb_ok {G : mz_E} {ρ : List Nat} {g : Int64 → Int64 → Int64} {x y a : mz_V} {vx vy : Value} (h : mz_lb g x y = some a) (gx : mz_g G.1 ρ x vx) (gy : mz_g G.1 ρ y vy) : ∃ b d : Int64, vx = .long b ∧ vy = .long d ∧ mz_g G.1 ρ a (.long (g b d)) := by
  unfold mz_lb at h
  split at h
  next a1 b1 =>
    rw [mz_fl_eq] at h
    cases h
    exact ⟨a1, b1, gx, gy, rfl⟩
  next =>
    cases hb : (mz_isL x && mz_isL y) with
    | false => simp only [hb] at h; cases h
    | true =>
      simp only [hb, cond_true] at h
      cases h
      rw [Bool.and_eq_true] at hb
      obtain ⟨b, rfl⟩ := mz_isL_ok gx hb.1
      obtain ⟨d, rfl⟩ := mz_isL_ok gy hb.2
      exact ⟨b, d, rfl, rfl, mz_anyL_ok _⟩
def mz_ls (g : Int64 → Int32 → Int64) (x y : mz_V) : Option mz_V := match x, y with
  | .inr (.inl a), .inl b => mz_fl (g a b) (fun z => some (.inr (.inl z)))
  | x, y => bif mz_isL x && mz_isI y then some mz_anyL else none
theorem mz_ls_ok {G : mz_E} {ρ : List Nat} {g : Int64 → Int32 → Int64} {x y a : mz_V} {vx vy : Value} (h : mz_ls g x y = some a) (gx : mz_g G.1 ρ x vx) (gy : mz_g G.1 ρ y vy) : ∃ (b : Int64) (d : Int32), vx = .long b ∧ vy = .int d ∧ mz_g G.1 ρ a (.long (g b d)) := by
  unfold mz_ls at h
  split at h
  next a1 b1 =>
    rw [mz_fl_eq] at h
    cases h
    exact ⟨a1, b1, gx, gy, rfl⟩
  next =>
    cases hb : (mz_isL x && mz_isI y) with
    | false => simp only [hb] at h; cases h
    | true =>
      simp only [hb, cond_true] at h
      cases h
      rw [Bool.and_eq_true] at hb
      obtain ⟨b, rfl⟩ := mz_isL_ok gx hb.1
      obtain ⟨d, rfl⟩ := mz_isI_ok gy hb.2
      exact ⟨b, d, rfl, rfl, mz_anyL_ok _⟩
def mz_f_iadd : mz_V → mz_V → Option mz_V := mz_ib (fun x y => x + y)
theorem mz_iadd (hd : decode M.1 pc = .ok (.iadd, 1)) : mz_ok E M pc (mz_o2 mz_f_iadd (pc + 1)) :=
  mz_ok_o2 (by intro G ρ x y a vx vy h gx gy; obtain ⟨b, d, rfl, rfl, hg⟩ := mz_ib_ok h gx gy; exact ⟨_, hg, fun p l e R s m args below meth c A ls rest H locs cells slots Q hc k => lv_iadd hc.1 hc.2.1 hd k⟩)
def mz_f_isub : mz_V → mz_V → Option mz_V := mz_ib (fun x y => x - y)
theorem mz_isub (hd : decode M.1 pc = .ok (.isub, 1)) : mz_ok E M pc (mz_o2 mz_f_isub (pc + 1)) :=
  mz_ok_o2 (by intro G ρ x y a vx vy h gx gy; obtain ⟨b, d, rfl, rfl, hg⟩ := mz_ib_ok h gx gy; exact ⟨_, hg, fun p l e R s m args below meth c A ls rest H locs cells slots Q hc k => lv_isub hc.1 hc.2.1 hd k⟩)
def mz_f_imul : mz_V → mz_V → Option mz_V := mz_ib (fun x y => x * y)
theorem mz_imul (hd : decode M.1 pc = .ok (.imul, 1)) : mz_ok E M pc (mz_o2 mz_f_imul (pc + 1)) :=
  mz_ok_o2 (by intro G ρ x y a vx vy h gx gy; obtain ⟨b, d, rfl, rfl, hg⟩ := mz_ib_ok h gx gy; exact ⟨_, hg, fun p l e R s m args below meth c A ls rest H locs cells slots Q hc k => lv_imul hc.1 hc.2.1 hd k⟩)
def mz_f_ior : mz_V → mz_V → Option mz_V := mz_ib (fun x y => x ||| y)
theorem mz_ior (hd : decode M.1 pc = .ok (.ior, 1)) : mz_ok E M pc (mz_o2 mz_f_ior (pc + 1)) :=
  mz_ok_o2 (by intro G ρ x y a vx vy h gx gy; obtain ⟨b, d, rfl, rfl, hg⟩ := mz_ib_ok h gx gy; exact ⟨_, hg, fun p l e R s m args below meth c A ls rest H locs cells slots Q hc k => lv_ior hc.1 hc.2.1 hd k⟩)
def mz_f_ixor : mz_V → mz_V → Option mz_V := mz_ib (fun x y => x ^^^ y)
theorem mz_ixor (hd : decode M.1 pc = .ok (.ixor, 1)) : mz_ok E M pc (mz_o2 mz_f_ixor (pc + 1)) :=
  mz_ok_o2 (by intro G ρ x y a vx vy h gx gy; obtain ⟨b, d, rfl, rfl, hg⟩ := mz_ib_ok h gx gy; exact ⟨_, hg, fun p l e R s m args below meth c A ls rest H locs cells slots Q hc k => lv_ixor hc.1 hc.2.1 hd k⟩)
def mz_f_ishl : mz_V → mz_V → Option mz_V := mz_ib (fun x y => x <<< (y &&& 31))
theorem mz_ishl (hd : decode M.1 pc = .ok (.ishl, 1)) : mz_ok E M pc (mz_o2 mz_f_ishl (pc + 1)) :=
  mz_ok_o2 (by intro G ρ x y a vx vy h gx gy; obtain ⟨b, d, rfl, rfl, hg⟩ := mz_ib_ok h gx gy; exact ⟨_, hg, fun p l e R s m args below meth c A ls rest H locs cells slots Q hc k => lv_ishl hc.1 hc.2.1 hd k⟩)
def mz_f_ladd : mz_V → mz_V → Option mz_V := mz_lb (fun x y => x + y)
theorem mz_ladd (hd : decode M.1 pc = .ok (.ladd, 1)) : mz_ok E M pc (mz_o2 mz_f_ladd (pc + 1)) :=
  mz_ok_o2 (by intro G ρ x y a vx vy h gx gy; obtain ⟨b, d, rfl, rfl, hg⟩ := mz_lb_ok h gx gy; exact ⟨_, hg, fun p l e R s m args below meth c A ls rest H locs cells slots Q hc k => lv_ladd hc.1 hc.2.1 hd k⟩)
def mz_f_lsub : mz_V → mz_V → Option mz_V := mz_lb (fun x y => x - y)
theorem mz_lsub (hd : decode M.1 pc = .ok (.lsub, 1)) : mz_ok E M pc (mz_o2 mz_f_lsub (pc + 1)) :=
  mz_ok_o2 (by intro G ρ x y a vx vy h gx gy; obtain ⟨b, d, rfl, rfl, hg⟩ := mz_lb_ok h gx gy; exact ⟨_, hg, fun p l e R s m args below meth c A ls rest H locs cells slots Q hc k => lv_lsub hc.1 hc.2.1 hd k⟩)
def mz_f_lmul : mz_V → mz_V → Option mz_V := mz_lb (fun x y => x * y)
theorem mz_lmul (hd : decode M.1 pc = .ok (.lmul, 1)) : mz_ok E M pc (mz_o2 mz_f_lmul (pc + 1)) :=
  mz_ok_o2 (by intro G ρ x y a vx vy h gx gy; obtain ⟨b, d, rfl, rfl, hg⟩ := mz_lb_ok h gx gy; exact ⟨_, hg, fun p l e R s m args below meth c A ls rest H locs cells slots Q hc k => lv_lmul hc.1 hc.2.1 hd k⟩)
def mz_f_land : mz_V → mz_V → Option mz_V := mz_lb (fun x y => x &&& y)
theorem mz_land (hd : decode M.1 pc = .ok (.land, 1)) : mz_ok E M pc (mz_o2 mz_f_land (pc + 1)) :=
  mz_ok_o2 (by intro G ρ x y a vx vy h gx gy; obtain ⟨b, d, rfl, rfl, hg⟩ := mz_lb_ok h gx gy; exact ⟨_, hg, fun p l e R s m args below meth c A ls rest H locs cells slots Q hc k => lv_land hc.1 hc.2.1 hd k⟩)
def mz_f_lor : mz_V → mz_V → Option mz_V := mz_lb (fun x y => x ||| y)
theorem mz_lor (hd : decode M.1 pc = .ok (.lor, 1)) : mz_ok E M pc (mz_o2 mz_f_lor (pc + 1)) :=
  mz_ok_o2 (by intro G ρ x y a vx vy h gx gy; obtain ⟨b, d, rfl, rfl, hg⟩ := mz_lb_ok h gx gy; exact ⟨_, hg, fun p l e R s m args below meth c A ls rest H locs cells slots Q hc k => lv_lor hc.1 hc.2.1 hd k⟩)
def mz_f_iushr : mz_V → mz_V → Option mz_V := mz_ib (fun x y => (x.toUInt32 >>> (y.toUInt32 &&& Int32.toUInt32 31)).toInt32)
theorem mz_iushr (hd : decode M.1 pc = .ok (.iushr, 1)) : mz_ok E M pc (mz_o2 mz_f_iushr (pc + 1)) :=
  mz_ok_o2 (by intro G ρ x y a vx vy h gx gy; obtain ⟨b, d, rfl, rfl, hg⟩ := mz_ib_ok h gx gy; exact ⟨_, hg, fun p l e R s m args below meth c A ls rest H locs cells slots Q hc k => lv_iushr hc.1 hc.2.1 hd rfl k⟩)
def mz_f_lshl : mz_V → mz_V → Option mz_V := mz_ls (fun x y => x <<< (y.toInt64 &&& 63))
theorem mz_lshl (hd : decode M.1 pc = .ok (.lshl, 1)) : mz_ok E M pc (mz_o2 mz_f_lshl (pc + 1)) :=
  mz_ok_o2 (by intro G ρ x y a vx vy h gx gy; obtain ⟨b, d, rfl, rfl, hg⟩ := mz_ls_ok h gx gy; exact ⟨_, hg, fun p l e R s m args below meth c A ls rest H locs cells slots Q hc k => lv_lshl hc.1 hc.2.1 hd rfl k⟩)
def mz_f_lshr : mz_V → mz_V → Option mz_V := mz_ls (fun x y => x >>> (y.toInt64 &&& 63))
theorem mz_lshr (hd : decode M.1 pc = .ok (.lshr, 1)) : mz_ok E M pc (mz_o2 mz_f_lshr (pc + 1)) :=
  mz_ok_o2 (by intro G ρ x y a vx vy h gx gy; obtain ⟨b, d, rfl, rfl, hg⟩ := mz_ls_ok h gx gy; exact ⟨_, hg, fun p l e R s m args below meth c A ls rest H locs cells slots Q hc k => lv_lshr hc.1 hc.2.1 hd rfl k⟩)
def mz_f_idiv (a b : mz_V) : Option mz_V := match a, b with
  | .inl x, .inl y => bif y == 0 then none else mz_fi (x / y) (fun z => some (.inl z))
  | _, _ => none
theorem mz_idiv (hd : decode M.1 pc = .ok (.idiv, 1)) : mz_ok E M pc (mz_o2 mz_f_idiv (pc + 1)) := by
  refine mz_ok_o2 ?_
  intro G ρ x y a vx vy h gx gy
  unfold mz_f_idiv at h
  split at h
  next x y =>
    cases hy : (y == 0) with
    | true => rw [hy] at h; cases h
    | false =>
      rw [hy, cond_false, mz_fi_eq] at h
      cases h
      cases gx
      cases gy
      exact ⟨_, rfl, fun p l e R s m args below meth c A ls rest H locs cells slots Q hc k => lv_idiv hc.1 hc.2.1 hd (by simpa using hy) k⟩
  next => cases h
def mz_f_irem (a b : mz_V) : Option mz_V := match a, b with
  | .inl x, .inl y => bif y == 0 then none else mz_fi (x - x / y * y) (fun z => some (.inl z))
  | _, _ => none
theorem mz_irem (hd : decode M.1 pc = .ok (.irem, 1)) : mz_ok E M pc (mz_o2 mz_f_irem (pc + 1)) := by
  refine mz_ok_o2 ?_
  intro G ρ x y a vx vy h gx gy
  unfold mz_f_irem at h
  split at h
  next x y =>
    cases hy : (y == 0) with
    | true => rw [hy] at h; cases h
    | false =>
      rw [hy, cond_false, mz_fi_eq] at h
      cases h
      cases gx
      cases gy
      exact ⟨_, rfl, fun p l e R s m args below meth c A ls rest H locs cells slots Q hc k => lv_irem hc.1 hc.2.1 hd (by simpa using hy) k⟩
  next => cases h
def mz_f_ldiv (a b : mz_V) : Option mz_V := match a, b with
  | .inr (.inl x), .inr (.inl y) => bif y == 0 then none else mz_fl (x / y) (fun z => some (.inr (.inl z)))
  | _, _ => none
theorem mz_ldiv (hd : decode M.1 pc = .ok (.ldiv, 1)) : mz_ok E M pc (mz_o2 mz_f_ldiv (pc + 1)) := by
  refine mz_ok_o2 ?_
  intro G ρ x y a vx vy h gx gy
  unfold mz_f_ldiv at h
  split at h
  next x y =>
    cases hy : (y == 0) with
    | true => rw [hy] at h; cases h
    | false =>
      rw [hy, cond_false, mz_fl_eq] at h
      cases h
      cases gx
      cases gy
      exact ⟨_, rfl, fun p l e R s m args below meth c A ls rest H locs cells slots Q hc k => lv_ldiv hc.1 hc.2.1 hd (by simpa using hy) k⟩
  next => cases h
def mz_f_lrem (a b : mz_V) : Option mz_V := match a, b with
  | .inr (.inl x), .inr (.inl y) => bif y == 0 then none else mz_fl (x - x / y * y) (fun z => some (.inr (.inl z)))
  | _, _ => none
theorem mz_lrem (hd : decode M.1 pc = .ok (.lrem, 1)) : mz_ok E M pc (mz_o2 mz_f_lrem (pc + 1)) := by
  refine mz_ok_o2 ?_
  intro G ρ x y a vx vy h gx gy
  unfold mz_f_lrem at h
  split at h
  next x y =>
    cases hy : (y == 0) with
    | true => rw [hy] at h; cases h
    | false =>
      rw [hy, cond_false, mz_fl_eq] at h
      cases h
      cases gx
      cases gy
      exact ⟨_, rfl, fun p l e R s m args below meth c A ls rest H locs cells slots Q hc k => lv_lrem hc.1 hc.2.1 hd (by simpa using hy) k⟩
  next => cases h
/-! masks and shifts of an int that is known in parts -/
def mz_ffc (F : List (Option Int32 × Int32 × Int × Int)) (c : Option Int32) (k : Int32) : Option (Int × Int) := match F with
  | [] => none
  | q :: r => bif q.1 == c && q.2.1 == k then some q.2.2 else mz_ffc r c k
theorem mz_ffc_ok {x : Int32} : ∀ (F : List (Option Int32 × Int32 × Int × Int)) (c : Option Int32) (k : Int32) (b : Int × Int), mz_fc F x → mz_ffc F c k = some b → b.1 ≤ (mz_sh x c &&& k).toInt ∧ (mz_sh x c &&& k).toInt ≤ b.2
  | [], c, k, b, _, h => by cases h
  | q :: r, c, k, b, hF, h => by
    unfold mz_ffc at h
    cases hq : (q.1 == c && q.2.1 == k) with
    | true =>
      rw [hq] at h
      simp only [cond_true, Option.some.injEq] at h
      subst h
      simp only [Bool.and_eq_true, beq_iff_eq] at hq
      have := hF q List.mem_cons_self
      rw [hq.1, hq.2] at this
      exact this
    | false =>
      rw [hq] at h
      exact mz_ffc_ok r c k b (fun q' h' => hF q' (List.mem_cons_of_mem _ h')) h
def mz_rg (b : Int × Int) : mz_V := bif b.1 == b.2 then .inl (Int32.ofInt b.1) else .inr (.inr (.inr (.inl b)))
theorem mz_rg_ok {X : Nat → Nat} {ρ : List Nat} {b : Int × Int} {z : Int32} (h1 : b.1 ≤ z.toInt) (h2 : z.toInt ≤ b.2) : mz_g X ρ (mz_rg b) (.int z) := by
  unfold mz_rg
  cases hb : (b.1 == b.2) with
  | true =>
    have e : b.1 = b.2 := by simpa using hb
    have e2 : b.1 = z.toInt := by omega
    show Value.int z = Value.int (Int32.ofInt b.1)
    rw [e2, Int32.ofInt_toInt]
  | false => exact ⟨z, rfl, h1, h2⟩
def mz_f_iand (x y : mz_V) : Option mz_V := match x, y with
  | .inr (.inr (.inr (.inr (.inr (.inl f))))), .inl k => match mz_ffc f.2 f.1 k with
    | some b => some (mz_rg b)
    | none => some mz_anyI
  | x, y => mz_ib (fun x y => x &&& y) x y
theorem mz_iand (hd : decode M.1 pc = .ok (.iand, 1)) : mz_ok E M pc (mz_o2 mz_f_iand (pc + 1)) := by
  refine mz_ok_o2 ?_
  intro G ρ x y a vx vy h gx gy
  unfold mz_f_iand at h
  split at h
  next f k =>
    obtain ⟨x0, rfl, hF⟩ := gx
    have gy : vy = .int k := gy
    subst gy
    split at h
    next b hb =>
      cases h
      have h9 := mz_ffc_ok f.2 f.1 k b hF hb
      exact ⟨_, mz_rg_ok h9.1 h9.2, fun p l e R s m args below meth c A ls rest H locs cells slots Q hc k => lv_iand hc.1 hc.2.1 hd k⟩
    next =>
      cases h
      exact ⟨_, mz_anyI_ok _, fun p l e R s m args below meth c A ls rest H locs cells slots Q hc k => lv_iand hc.1 hc.2.1 hd k⟩
  next =>
    obtain ⟨b, d, rfl, rfl, hg⟩ := mz_ib_ok h gx gy
    exact ⟨_, hg, fun p l e R s m args below meth c A ls rest H locs cells slots Q hc k => lv_iand hc.1 hc.2.1 hd k⟩
def mz_f_ishr (x y : mz_V) : Option mz_V := match x, y with
  | .inr (.inr (.inr (.inr (.inr (.inl (none, F)))))), .inl k => mz_fi (k &&& 31) (fun z => some (.inr (.inr (.inr (.inr (.inr (.inl (some z, F))))))))
  | x, y => mz_ib (fun x y => x >>> (y &&& 31)) x y
theorem mz_ishr (hd : decode M.1 pc = .ok (.ishr, 1)) : mz_ok E M pc (mz_o2 mz_f_ishr (pc + 1)) := by
  refine mz_ok_o2 ?_
  intro G ρ x y a vx vy h gx gy
  unfold mz_f_ishr at h
  split at h
  next F k =>
    obtain ⟨x0, rfl, hF⟩ := gx
    have gy : vy = .int k := gy
    subst gy
    rw [mz_fi_eq] at h
    cases h
    exact ⟨.int (x0 >>> (k &&& 31)), ⟨x0, rfl, hF⟩, fun p l e R s m args below meth c A ls rest H locs cells slots Q hc k => lv_ishr hc.1 hc.2.1 hd k⟩
  next =>
    obtain ⟨b, d, rfl, rfl, hg⟩ := mz_ib_ok h gx gy
    exact ⟨_, hg, fun p l e R s m args below meth c A ls rest H locs cells slots Q hc k => lv_ishr hc.1 hc.2.1 hd k⟩
def mz_f_i2l (x : mz_V) : Option mz_V := match x with
  | .inl a => mz_fl a.toInt64 (fun z => some (.inr (.inl z)))
  | x => match mz_bi x with
    | some b => some (.inr (.inr (.inr (.inr (.inl b)))))
    | none => bif mz_isI x then some mz_anyL else none
theorem mz_i2l (hd : decode M.1 pc = .ok (.i2l, 1)) : mz_ok E M pc (mz_o1 mz_f_i2l (pc + 1)) := by
  refine mz_ok_o1 ?_
  intro G ρ x a vx h gx
  unfold mz_f_i2l at h
  split at h
  next x =>
    rw [mz_fl_eq] at h
    cases h
    cases gx
    exact ⟨.long x.toInt64, rfl, fun p l e R s m args below meth c A ls rest H locs cells slots Q hc k => lv_i2l hc.1 hc.2.1 hd rfl k⟩
  next =>
    split at h
    next b hb =>
      cases h
      obtain ⟨z, rfl, h1, h2⟩ := mz_bi_ok gx hb
      exact ⟨.long z.toInt64, ⟨z.toInt64, rfl, by rw [Int32.toInt_toInt64]; exact h1, by rw [Int32.toInt_toInt64]; exact h2⟩, fun p l e R s m args below meth c A ls rest H locs cells slots Q hc k => lv_i2l hc.1 hc.2.1 hd rfl k⟩
    next =>
      cases hi : mz_isI x with
      | false => rw [hi] at h; cases h
      | true =>
        rw [hi] at h
        cases h
        obtain ⟨z, rfl⟩ := mz_isI_ok gx hi
        exact ⟨.long z.toInt64, mz_anyL_ok _, fun p l e R s m args below meth c A ls rest H locs cells slots Q hc k => lv_i2l hc.1 hc.2.1 hd rfl k⟩
def mz_f_l2i (x : mz_V) : Option mz_V := match x with
  | .inr (.inl a) => mz_fi a.toInt32 (fun z => some (.inl z))
  | x => bif mz_isL x then some mz_anyI else none
theorem mz_l2i (hd : decode M.1 pc = .ok (.l2i, 1)) : mz_ok E M pc (mz_o1 mz_f_l2i (pc + 1)) := by
  refine mz_ok_o1 ?_
  intro G ρ x a vx h gx
  unfold mz_f_l2i at h
  split at h
  next x =>
    rw [mz_fi_eq] at h
    cases h
    cases gx
    exact ⟨.int x.toInt32, rfl, fun p l e R s m args below meth c A ls rest H locs cells slots Q hc k => lv_l2i hc.1 hc.2.1 hd rfl k⟩
  next =>
    cases hi : mz_isL x with
    | false => rw [hi] at h; cases h
    | true =>
      rw [hi] at h
      cases h
      obtain ⟨z, rfl⟩ := mz_isL_ok gx hi
      exact ⟨.int z.toInt32, mz_anyI_ok _, fun p l e R s m args below meth c A ls rest H locs cells slots Q hc k => lv_l2i hc.1 hc.2.1 hd rfl k⟩
def mz_f_lcmp (x y : mz_V) : Option mz_V := match mz_bl x, mz_bl y with
  | some a, some b => if b.2 < a.1 then some (.inl 1) else if a.2 < b.1 then some (.inl (-1)) else bif a.1 == a.2 && b.1 == b.2 then some (.inl 0) else none
  | _, _ => none
theorem mz_lcmp (hd : decode M.1 pc = .ok (.lcmp, 1)) : mz_ok E M pc (mz_o2 mz_f_lcmp (pc + 1)) := by
  refine mz_ok_o2 ?_
  intro G ρ x y a vx vy h gx gy
  unfold mz_f_lcmp at h
  split at h
  next a1 b1 ha hb =>
    obtain ⟨u, rfl, u1, u2⟩ := mz_bl_ok gx ha
    obtain ⟨z, rfl, z1, z2⟩ := mz_bl_ok gy hb
    refine ⟨.int (lg_cmp u z), ?_, fun p l e R s m args below meth c A ls rest H locs cells slots Q hc k => W.lcmp hc.1 hc.2.1 hd k⟩
    split at h
    next h1 =>
      cases h
      have hgt : u > z := Int64.lt_iff_toInt_lt.mpr (by omega)
      show Value.int (lg_cmp u z) = Value.int 1
      simp [lg_cmp, hgt]
    next h1 =>
      split at h
      next h2 =>
        cases h
        have hlt : u < z := Int64.lt_iff_toInt_lt.mpr (by omega)
        have n1 : ¬ u > z := fun q => by have := Int64.lt_iff_toInt_lt.mp q; have := Int64.lt_iff_toInt_lt.mp hlt; omega
        have n2 : ¬ u = z := fun q => by subst q; have := Int64.lt_iff_toInt_lt.mp hlt; omega
        show Value.int (lg_cmp u z) = Value.int (-1)
        simp [lg_cmp, n1, n2]
      next h2 =>
        cases hq : (a1.1 == a1.2 && b1.1 == b1.2) with
        | false => rw [hq] at h; cases h
        | true =>
          rw [hq] at h
          cases h
          simp only [Bool.and_eq_true, beq_iff_eq] at hq
          have e : u = z := Int64.toInt_inj.mp (by omega)
          subst e
          show Value.int (lg_cmp u u) = Value.int 0
          simp [lg_cmp]
  next => cases h
end MZ1
