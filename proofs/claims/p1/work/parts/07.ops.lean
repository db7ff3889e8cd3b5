/-! ===== fields ===== -/
section MZ3
variable {E : List mz_V} {M : mz_M} {pc : Nat}
def mz_gf (ci k n : Nat) : mz_S → Option (Nat × mz_S) := fun st => match st.2.1 with
  | .inr (.inr (.inl (some q))) :: r => match st.2.2[q]? with
    | some (.inr o) => bif Nat.beq o.1 ci then (match o.2[k]? with
      | some a => some (n, st.1, a :: r, st.2.2)
      | none => none) else none
    | _ => none
  | _ => none
theorem mz_getfield {C : String} {T : u_T} {N ci k i : Nat} (hc0 : mz_cl[ci]? = some (C, T, N)) (hin : ∀ w ∈ u_ws C T N, w ∈ mz_big) (hk : k < N) (hw : Cond.fieldLink M.2.2.2.1 i (T k).1 (T k).2.1 (T k).2.2.1 ∈ mz_big) (hd : decode M.1 pc = .ok (.getfield i, 3)) : mz_ok E M pc (mz_gf ci k (pc + 3)) := by
  have inv : ∀ (st : mz_S) (pc' : Nat) (st' : mz_S), mz_gf ci k (pc + 3) st = some (pc', st') → ∃ q r o a, st.2.1 = .inr (.inr (.inl (some q))) :: r ∧ st.2.2[q]? = some (.inr o) ∧ o.1 = ci ∧ o.2[k]? = some a ∧ pc' = pc + 3 ∧ st' = (st.1, a :: r, st.2.2) := by
    intro st pc' st' h
    unfold mz_gf at h
    split at h
    next q r hs =>
      split at h
      next o ho =>
        cases hb : Nat.beq o.1 ci with
        | false => simp only [hb] at h; cases h
        | true =>
          simp only [hb, cond_true] at h
          split at h
          next a ha => cases h; exact ⟨q, r, o, a, hs, ho, Nat.eq_of_beq_eq_true hb, ha, rfl, rfl⟩
          next => cases h
      next => cases h
    next => cases h
  refine mz_ok_s (fun st pc' st' h => by obtain ⟨q, r, o, a, -, -, -, -, -, rfl⟩ := inv st pc' st' h; rfl) ?_
  intro st pc' st' h G p l e R s m args below meth c A ls stk cw H locs cells slots Q hc hr kk
  obtain ⟨q, r, o, a, h1, h2, h3, h4, rfl, rfl⟩ := inv st pc' st' h
  have hs := hr.2.1
  rw [h1] at hs
  obtain ⟨v, vs, rfl, g, hs⟩ := hs
  obtain ⟨ad, ha, rfl⟩ := g
  obtain ⟨cq, c1, c2, fs, c3, c4⟩ := mz_wd_at hr.2.2.1 h2
  obtain ⟨ad2, eq2⟩ := cq
  rw [c2] at ha
  cases ha
  cases c3
  obtain ⟨vf, v1, v2⟩ := mz_sk_get _ _ c4 k a h4
  subst h3
  exact va_get (D := G.2.1) (ci := o.1) (v := vf) (C := C) (T := T) (N := N) hc.1 hc.2.1 hc.2.2.2.2.2.2.2.2.2.1 hin hc.2.2.2.2.1 hc.2.2.2.2.2.2.2.2.2.2.1 hr.2.2.2.1 q c1 hc0 k hk (hc.2.2.2.2.2.2.2.2.2.1 _ hw) (fun _ h9 => h9) v1 hd (kk ls _ hr.1 ⟨vf, vs, rfl, v2, hs⟩)
def mz_pf (ci k : Nat) (t : mz_V → Bool) (n : Nat) : mz_S → Option (Nat × mz_S) := fun st => match st.2.1 with
  | a :: .inr (.inr (.inl (some q))) :: r => match st.2.2[q]? with
    | some (.inr o) => bif Nat.beq o.1 ci && (Nat.blt k o.2.length && t a) then some (n, st.1, r, st.2.2.set q (.inr (o.1, o.2.set k a))) else none
    | _ => none
  | _ => none
theorem mz_pf_inv {ci k n : Nat} {t : mz_V → Bool} (st : mz_S) (pc' : Nat) (st' : mz_S) (h : mz_pf ci k t n st = some (pc', st')) : ∃ a q r o, st.2.1 = a :: .inr (.inr (.inl (some q))) :: r ∧ st.2.2[q]? = some (.inr o) ∧ o.1 = ci ∧ k < o.2.length ∧ t a = true ∧ pc' = n ∧ st' = (st.1, r, st.2.2.set q (.inr (o.1, o.2.set k a))) := by
  unfold mz_pf at h
  split at h
  next a q r hs =>
    split at h
    next o ho =>
      cases hb : (Nat.beq o.1 ci && (Nat.blt k o.2.length && t a)) with
      | false => simp only [hb] at h; cases h
      | true =>
        simp only [hb, cond_true] at h
        cases h
        simp only [Bool.and_eq_true] at hb
        exact ⟨a, q, r, o, hs, ho, Nat.eq_of_beq_eq_true hb.1, by simpa using hb.2.1, hb.2.2, rfl, rfl⟩
    next => cases h
  next => cases h
theorem mz_ok_pf {C : String} {T : u_T} {N ci k n : Nat} {t : mz_V → Bool} (hc0 : mz_cl[ci]? = some (C, T, N)) (row : ∀ (G : mz_E) (ρ : List Nat) (a : mz_V) (v : Value) (p : Program) (l : Launch) (e : Env) (R : Room) (s : State) (m : MethodId) (args : Array Value) (below : List Frame) (meth : Method) (c : Code) (A : Nat → Prop) (ls : Array Slot) (rest : List Value) (cw : va_W) (q0 ad : Nat) (fs : List Value) (H : Heap) (locs : List Loc) (cells slots : Nat) (Q : State → Prop), mz_cx E G M p R s m args meth c A → t a = true → mz_g G.1 ρ a v → va_P G.2.1 mz_cl cw H → va_D A cw → va_S A s.heap H locs → cw[q0]? = some (ad, .inr (ci, fs)) → k < fs.length →
      (∀ (H1 : Heap) (locs1 : List Loc), va_P G.2.1 mz_cl (cw.set q0 (ad, .inr (ci, fs.set k v))) H1 → va_D A (cw.set q0 (ad, .inr (ci, fs.set k v))) → va_S A s.heap H1 locs1 → W p l e R s m args below meth c H1 locs1 cells slots Q (F0 m n ls rest)) → W p l e R s m args below meth c H locs cells slots Q (F0 m pc ls (v :: .ref ad :: rest))) : mz_ok E M pc (mz_pf ci k t n) := by
  refine mz_ok_w (fun st pc' st' h => ?_) ?_
  · obtain ⟨a, q, r, o, -, h2, -, -, -, -, rfl⟩ := mz_pf_inv st pc' st' h
    exact ⟨by simp, mz_sl_set _ _ _ _ h2 (by simp [mz_cs])⟩
  intro st pc' st' h G p l e R s m args below meth c A ls stk cw H locs cells slots Q hc hr kk
  obtain ⟨a, q, r, o, h1, h2, h3, h4, h5, rfl, rfl⟩ := mz_pf_inv st pc' st' h
  have hs := hr.2.1
  rw [h1] at hs
  obtain ⟨v, _, rfl, g, u, vs, rfl, gu, hs⟩ := hs
  obtain ⟨ad, ha, rfl⟩ := gu
  obtain ⟨cq, c1, c2, fs, c3, c4⟩ := mz_wd_at hr.2.2.1 h2
  obtain ⟨ad2, eq2⟩ := cq
  rw [c2] at ha
  cases ha
  cases c3
  subst h3
  refine row G _ a v p l e R s m args below meth c A ls vs cw q ad2 fs H locs cells slots Q hc h5 g hr.2.2.2.1 hr.2.2.2.2.1 hr.2.2.2.2.2 c1 (by rw [mz_sk_len _ _ c4]; exact h4) (fun H1 locs1 P1 D1 S1 => ?_)
  have ef := mz_fst_set (e := .inr (o.1, fs.set k v)) c1
  refine kk vs _ H1 locs1 ⟨by rw [ef]; exact hr.1, by rw [ef]; exact hs, mz_wd_set hr.2.2.1 c1 ⟨fs.set k v, rfl, mz_sk_set g _ _ k c4⟩, P1, D1, S1⟩ (by rw [ef]; exact fun _ _ h => h)
def mz_is01 (a : mz_V) : Bool := match a with
  | .inl x => x == 0 || x == 1
  | _ => false
def mz_isQ (a : mz_V) : Bool := match a with
  | .inr (.inr (.inl _)) => true
  | .inr (.inr (.inr (.inr (.inr (.inr _))))) => true
  | _ => false
theorem mz_is01_ok {X : Nat → Nat} {ρ : List Nat} {a : mz_V} {v : Value} (h : mz_g X ρ a v) (hi : mz_is01 a = true) : v = .int 0 ∨ v = .int 1 := by
  rcases a with x | x | r | r | r | f | n
  · simp only [mz_is01, Bool.or_eq_true, beq_iff_eq] at hi
    rcases hi with rfl | rfl
    · exact Or.inl h
    · exact Or.inr h
  all_goals simp [mz_is01] at hi
theorem mz_isQ_ok {X : Nat → Nat} {ρ : List Nat} {a : mz_V} {v : Value} (h : mz_g X ρ a v) (hi : mz_isQ a = true) : v = .null ∨ ∃ q, v = .ref q := by
  rcases a with x | x | r | r | r | f | n
  · simp [mz_isQ] at hi
  · simp [mz_isQ] at hi
  · rcases r with _ | k
    · exact Or.inl h
    · obtain ⟨q, -, hq⟩ := h
      exact Or.inr ⟨q, hq⟩
  · simp [mz_isQ] at hi
  · simp [mz_isQ] at hi
  · simp [mz_isQ] at hi
  · exact Or.inr ⟨_, h⟩
/-- what a field of a type takes -/
def mz_fit (t : mz_V → Bool) (ty : FieldType) : Prop := ∀ (X : Nat → Nat) (ρ : List Nat) (a : mz_V) (v : Value), t a = true → mz_g X ρ a v → narrow ty v = v ∧ fits ty v = true
theorem mz_fit_int : mz_fit mz_isI .int := fun X ρ a v ht hg => by
  obtain ⟨x, rfl⟩ := mz_isI_ok hg ht
  exact ⟨rfl, rfl⟩
theorem mz_fit_bool : mz_fit mz_is01 .boolean := fun X ρ a v ht hg => by
  rcases mz_is01_ok hg ht with rfl | rfl
  · exact ⟨by decide, by decide⟩
  · exact ⟨by decide, by decide⟩
theorem mz_fit_obj {C : String} : mz_fit mz_isQ (.object C) := fun X ρ a v ht hg => by
  rcases mz_isQ_ok hg ht with rfl | ⟨q, rfl⟩
  · exact ⟨rfl, rfl⟩
  · exact ⟨rfl, rfl⟩
theorem mz_fit_arr {t : FieldType} : mz_fit mz_isQ (.array t) := fun X ρ a v ht hg => by
  rcases mz_isQ_ok hg ht with rfl | ⟨q, rfl⟩
  · exact ⟨rfl, rfl⟩
  · exact ⟨rfl, rfl⟩
theorem mz_putfield {C : String} {T : u_T} {N ci k i : Nat} {t : mz_V → Bool} {ty0 : Nat → FieldType} (hc0 : mz_cl[ci]? = some (C, T, N)) (hin : ∀ w ∈ u_ws C T N, w ∈ mz_big) (hty : ∀ k, k < N → parseFieldDescriptor (T k).2.2.1 = some (ty0 k)) (hnm : ∀ a, a < N → ∀ b, b < N → a ≠ b → (T a).2.1 ≠ (T b).2.1) (hk : k < N) (hft : mz_fit t (ty0 k)) (hfin : (T k).2.2.2 = false) (hw : Cond.fieldLink M.2.2.2.1 i (T k).1 (T k).2.1 (T k).2.2.1 ∈ mz_big) (hd : decode M.1 pc = .ok (.putfield i, 3)) : mz_ok E M pc (mz_pf ci k t (pc + 3)) :=
  mz_ok_pf hc0 (by
    intro G ρ a v p l e R s m args below meth c A ls rest cw q0 ad fs H locs cells slots Q hc ht hg hP hD hS he hl kk
    obtain ⟨f1, f2⟩ := hft _ _ a v ht hg
    exact va_put (D := G.2.1) (ci := ci) (C := C) (T := T) (N := N) (ty := ty0 k) hc.1 hc.2.1 hc.2.2.2.2.2.2.2.2.2.1 hin ty0 hty hnm hc.2.2.2.2.1 hc.2.2.2.2.2.2.2.2.2.2.1 hP hD hS q0 he hc0 k hk (hc.2.2.2.2.2.2.2.2.2.1 _ hw) (fun _ h9 => h9) hfin (hty k hk) f1 f2 hl hd kk)
theorem mz_putfieldF {C : String} {T : u_T} {N ci k i : Nat} {t : mz_V → Bool} {ty0 : Nat → FieldType} (hc0 : mz_cl[ci]? = some (C, T, N)) (hin : ∀ w ∈ u_ws C T N, w ∈ mz_big) (hty : ∀ k, k < N → parseFieldDescriptor (T k).2.2.1 = some (ty0 k)) (hnm : ∀ a, a < N → ∀ b, b < N → a ≠ b → (T a).2.1 ≠ (T b).2.1) (hk : k < N) (hft : mz_fit t (ty0 k)) (hfin : (T k).2.2.2 = true) (hini : M.2.2.2.2.1 = "<init>") (hown : (T k).1 = M.2.2.2.1) (hw : Cond.fieldLink M.2.2.2.1 i (T k).1 (T k).2.1 (T k).2.2.1 ∈ mz_big) (hd : decode M.1 pc = .ok (.putfield i, 3)) : mz_ok E M pc (mz_pf ci k t (pc + 3)) :=
  mz_ok_pf hc0 (by
    intro G ρ a v p l e R s m args below meth c A ls rest cw q0 ad fs H locs cells slots Q hc ht hg hP hD hS he hl kk
    obtain ⟨f1, f2⟩ := hft _ _ a v ht hg
    exact va_putF (D := G.2.1) (ci := ci) (C := C) (T := T) (N := N) (ty := ty0 k) hc.1 hc.2.1 hc.2.2.2.2.2.2.2.2.2.1 hin ty0 hty hnm hc.2.2.2.2.1 hc.2.2.2.2.2.2.2.2.2.2.1 hP hD hS q0 he hc0 k hk (hc.2.2.2.2.2.2.2.2.2.1 _ hw) (fun _ h9 => h9) hfin (hc.2.2.2.2.2.1 hini) hown (hty k hk) f1 f2 hl hd kk)
/-! rows -/
def mz_ix (i : Int32) (len : Nat) : Option Nat := if i < 0 then none else mz_fn i.toNatClampNeg (fun j => bif Nat.blt j len then some j else none)
theorem mz_ix_ok {i : Int32} {len j : Nat} (h : mz_ix i len = some j) : vp_in i len ∧ i.toNatClampNeg = j ∧ j < len := by
  unfold mz_ix at h
  split at h
  next => cases h
  next hi =>
    rw [mz_fn_eq] at h
    cases hb : Nat.blt i.toNatClampNeg len with
    | false => rw [hb] at h; cases h
    | true =>
      rw [hb] at h
      cases h
      have hl : i.toNatClampNeg < len := by simpa using hb
      exact ⟨fun q => by rcases q with q | q; exact hi q; omega, rfl, hl⟩
def mz_al (b : Bool) (n : Nat) : mz_S → Option (Nat × mz_S) := fun st => match st.2.1 with
  | .inl i :: .inr (.inr (.inl (some q))) :: r => match st.2.2[q]? with
    | some (.inl o) => bif o.1 == b then (match mz_ix i o.2.1 with
      | some j => some (n, st.1, mz_ag o.2.2 j :: r, st.2.2)
      | none => none) else none
    | _ => none
  | _ => none
theorem mz_al_inv {b : Bool} {n : Nat} (st : mz_S) (pc' : Nat) (st' : mz_S) (h : mz_al b n st = some (pc', st')) : ∃ i q r o j, st.2.1 = .inl i :: .inr (.inr (.inl (some q))) :: r ∧ st.2.2[q]? = some (.inl o) ∧ o.1 = b ∧ mz_ix i o.2.1 = some j ∧ pc' = n ∧ st' = (st.1, mz_ag o.2.2 j :: r, st.2.2) := by
  unfold mz_al at h
  split at h
  next i q r hs =>
    split at h
    next o ho =>
      cases hb : (o.1 == b) with
      | false => simp only [hb] at h; cases h
      | true =>
        simp only [hb, cond_true] at h
        split at h
        next j hj => cases h; exact ⟨i, q, r, o, j, hs, ho, by simpa using hb, hj, rfl, rfl⟩
        next => cases h
    next => cases h
  next => cases h
theorem mz_ok_al {b : Bool} {n : Nat} (row : ∀ (G : mz_E) (p : Program) (l : Launch) (e : Env) (R : Room) (s : State) (m : MethodId) (args : Array Value) (below : List Frame) (meth : Method) (c : Code) (A : Nat → Prop) (ls : Array Slot) (rest : List Value) (cw : va_W) (q0 ad N : Nat) (f : Nat → Int32) (i : Int32) (H : Heap) (locs : List Loc) (cells slots : Nat) (Q : State → Prop), mz_cx E G M p R s m args meth c A → va_P G.2.1 mz_cl cw H → cw[q0]? = some (ad, .inl (mz_ac G b, N, .inl f)) → vp_in i N →
      W p l e R s m args below meth c H locs cells slots Q (F0 m n ls (.int (f i.toNatClampNeg) :: rest)) → W p l e R s m args below meth c H locs cells slots Q (F0 m pc ls (.int i :: .ref ad :: rest))) : mz_ok E M pc (mz_al b n) := by
  refine mz_ok_s (fun st pc' st' h => by obtain ⟨i, q, r, o, j, -, -, -, -, -, rfl⟩ := mz_al_inv st pc' st' h; rfl) ?_
  intro st pc' st' h G p l e R s m args below meth c A ls stk cw H locs cells slots Q hc hr kk
  obtain ⟨i, q, r, o, j, h1, h2, h3, h4, rfl, rfl⟩ := mz_al_inv st pc' st' h
  have hs := hr.2.1
  rw [h1] at hs
  obtain ⟨v, _, rfl, g, u, vs, rfl, gu, hs⟩ := hs
  have g : v = .int i := g
  subst g
  obtain ⟨ad, ha, rfl⟩ := gu
  obtain ⟨cq, c1, c2, f, c3, c4⟩ := mz_wd_at hr.2.2.1 h2
  obtain ⟨ad2, eq2⟩ := cq
  rw [c2] at ha
  cases ha
  cases c3
  subst h3
  obtain ⟨i1, i2, i3⟩ := mz_ix_ok h4
  refine row G p l e R s m args below meth c A ls vs cw q ad2 o.2.1 f i H locs cells slots Q hc hr.2.2.2.1 c1 i1 (kk ls _ hr.1 ⟨_, vs, rfl, ?_, hs⟩)
  rw [i2]
  exact c4 j i3
theorem mz_iaload (hd : decode M.1 pc = .ok (.iaload, 1)) : mz_ok E M pc (mz_al false (pc + 1)) :=
  mz_ok_al (by intro G p l e R s m args below meth c A ls rest cw q0 ad N f i H locs cells slots Q hc hP he hi k; exact va_iald hc.1 hc.2.1 hc.2.2.2.2.2.2.2.2.2.2.1 hP q0 0 he rfl hi hd k)
theorem mz_zaload (hd : decode M.1 pc = .ok (.baload, 1)) : mz_ok E M pc (mz_al true (pc + 1)) :=
  mz_ok_al (by intro G p l e R s m args below meth c A ls rest cw q0 ad N f i H locs cells slots Q hc hP he hi k; exact va_zald hc.1 hc.2.1 hc.2.2.2.2.2.2.2.2.2.2.1 hP q0 1 he rfl hi hd k)
def mz_ast (b : Bool) (t : mz_V → Bool) (n : Nat) : mz_S → Option (Nat × mz_S) := fun st => match st.2.1 with
  | a :: .inl i :: .inr (.inr (.inl (some q))) :: r => match st.2.2[q]? with
    | some (.inl o) => bif o.1 == b && t a then (match mz_ix i o.2.1 with
      | some j => some (n, st.1, r, st.2.2.set q (.inl (o.1, o.2.1, mz_as o.2.2 j a)))
      | none => none) else none
    | _ => none
  | _ => none
theorem mz_ast_inv {b : Bool} {t : mz_V → Bool} {n : Nat} (st : mz_S) (pc' : Nat) (st' : mz_S) (h : mz_ast b t n st = some (pc', st')) : ∃ a i q r o j, st.2.1 = a :: .inl i :: .inr (.inr (.inl (some q))) :: r ∧ st.2.2[q]? = some (.inl o) ∧ o.1 = b ∧ t a = true ∧ mz_ix i o.2.1 = some j ∧ pc' = n ∧ st' = (st.1, r, st.2.2.set q (.inl (o.1, o.2.1, mz_as o.2.2 j a))) := by
  unfold mz_ast at h
  split at h
  next a i q r hs =>
    split at h
    next o ho =>
      cases hb : (o.1 == b && t a) with
      | false => simp only [hb] at h; cases h
      | true =>
        simp only [hb, cond_true] at h
        rw [Bool.and_eq_true] at hb
        split at h
        next j hj => cases h; exact ⟨a, i, q, r, o, j, hs, ho, by simpa using hb.1, hb.2, hj, rfl, rfl⟩
        next => cases h
    next => cases h
  next => cases h
theorem mz_ok_ast {b : Bool} {t : mz_V → Bool} {n : Nat} (row : ∀ (G : mz_E) (ρ : List Nat) (a : mz_V) (v : Value) (p : Program) (l : Launch) (e : Env) (R : Room) (s : State) (m : MethodId) (args : Array Value) (below : List Frame) (meth : Method) (c : Code) (A : Nat → Prop) (ls : Array Slot) (rest : List Value) (cw : va_W) (q0 ad N : Nat) (f : Nat → Int32) (i : Int32) (H : Heap) (locs : List Loc) (cells slots : Nat) (Q : State → Prop), mz_cx E G M p R s m args meth c A → t a = true → mz_g G.1 ρ a v → va_P G.2.1 mz_cl cw H → va_D A cw → va_S A s.heap H locs → cw[q0]? = some (ad, .inl (mz_ac G b, N, .inl f)) → vp_in i N →
      (∀ (x : Int32) (H1 : Heap) (locs1 : List Loc), v = .int x → va_P G.2.1 mz_cl (cw.set q0 (ad, .inl (mz_ac G b, N, .inl (upd f i.toNatClampNeg x)))) H1 → va_D A (cw.set q0 (ad, .inl (mz_ac G b, N, .inl (upd f i.toNatClampNeg x)))) → va_S A s.heap H1 locs1 → W p l e R s m args below meth c H1 locs1 cells slots Q (F0 m n ls rest)) → W p l e R s m args below meth c H locs cells slots Q (F0 m pc ls (v :: .int i :: .ref ad :: rest))) : mz_ok E M pc (mz_ast b t n) := by
  refine mz_ok_w (fun st pc' st' h => ?_) ?_
  · obtain ⟨a, i, q, r, o, j, -, h2, -, -, -, -, rfl⟩ := mz_ast_inv st pc' st' h
    exact ⟨by simp, mz_sl_set _ _ _ _ h2 rfl⟩
  intro st pc' st' h G p l e R s m args below meth c A ls stk cw H locs cells slots Q hc hr kk
  obtain ⟨a, i, q, r, o, j, h1, h2, h3, h4, h5, rfl, rfl⟩ := mz_ast_inv st pc' st' h
  have hs := hr.2.1
  rw [h1] at hs
  obtain ⟨v, _, rfl, g, u, _, rfl, gu, z, vs, rfl, gz, hs⟩ := hs
  have gu : u = .int i := gu
  subst gu
  obtain ⟨ad, ha, rfl⟩ := gz
  obtain ⟨cq, c1, c2, f, c3, c4⟩ := mz_wd_at hr.2.2.1 h2
  obtain ⟨ad2, eq2⟩ := cq
  rw [c2] at ha
  cases ha
  cases c3
  subst h3
  obtain ⟨i1, i2, i3⟩ := mz_ix_ok h5
  refine row G _ a v p l e R s m args below meth c A ls vs cw q ad2 o.2.1 f i H locs cells slots Q hc h4 g hr.2.2.2.1 hr.2.2.2.2.1 hr.2.2.2.2.2 c1 i1 (fun x H1 locs1 hv P1 D1 S1 => ?_)
  subst hv
  have ef := mz_fst_set (e := .inl (mz_ac G o.1, o.2.1, .inl (upd f i.toNatClampNeg x))) c1
  refine kk vs _ H1 locs1 ⟨by rw [ef]; exact hr.1, by rw [ef]; exact hs, mz_wd_set hr.2.2.1 c1 ⟨upd f i.toNatClampNeg x, rfl, fun j' hj' => ?_⟩, P1, D1, S1⟩ (by rw [ef]; exact fun _ _ h => h)
  show mz_g G.1 _ (mz_ag (mz_as o.2.2 j a) j') _
  rw [mz_ag_as, i2]
  by_cases hjj : j' = j
  · rw [if_pos hjj]
    unfold upd
    rw [if_pos hjj]
    exact g
  · rw [if_neg hjj]
    unfold upd
    rw [if_neg hjj]
    exact c4 j' hj'
theorem mz_iastore (hd : decode M.1 pc = .ok (.iastore, 1)) : mz_ok E M pc (mz_ast false mz_isI (pc + 1)) :=
  mz_ok_ast (by
    intro G ρ a v p l e R s m args below meth c A ls rest cw q0 ad N f i H locs cells slots Q hc ht hg hP hD hS he hi k
    obtain ⟨x, rfl⟩ := mz_isI_ok hg ht
    exact va_iast hc.1 hc.2.1 hc.2.2.2.2.2.2.2.2.2.2.1 hP hD hS q0 0 he rfl hi hd (fun H1 locs1 P1 D1 S1 => k x H1 locs1 rfl P1 D1 S1))
theorem mz_zastore (hd : decode M.1 pc = .ok (.bastore, 1)) : mz_ok E M pc (mz_ast true mz_is01 (pc + 1)) :=
  mz_ok_ast (by
    intro G ρ a v p l e R s m args below meth c A ls rest cw q0 ad N f i H locs cells slots Q hc ht hg hP hD hS he hi k
    rcases mz_is01_ok hg ht with rfl | rfl
    · exact va_zast hc.1 hc.2.1 hc.2.2.2.2.2.2.2.2.2.2.1 hP hD hS q0 1 he rfl hi hd (fun H1 locs1 P1 D1 S1 => k 0 H1 locs1 rfl P1 D1 S1)
    · exact va_zast hc.1 hc.2.1 hc.2.2.2.2.2.2.2.2.2.2.1 hP hD hS q0 1 he rfl hi hd (fun H1 locs1 P1 D1 S1 => k 1 H1 locs1 rfl P1 D1 S1))
/-! rows outside of the world -/
def mz_xl (x : Nat) (cs : List mz_V) (n : Nat) : mz_S → Option (Nat × mz_S) := fun st => match st.2.1 with
  | .inl i :: .inr (.inr (.inr (.inr (.inr (.inr q))))) :: r => bif Nat.beq q x then (match mz_ix i cs.length with
      | some j => (match cs[j]? with
        | some a => some (n, st.1, a :: r, st.2.2)
        | none => none)
      | none => none) else none
  | _ => none
theorem mz_ok_xl {x : Nat} {cs : List mz_V} (hx : ∀ (G : mz_E) (A : Nat → Prop) (s : State), mz_ex E G A s s.heap → ∃ f : Nat → Int32, va_T .int (G.1 x) cs.length (fun j => .int (f j)) A s s.heap ∧ ∀ (j : Nat) (a : mz_V) (ρ : List Nat), cs[j]? = some a → mz_g G.1 ρ a (.int (f j))) (hd : decode M.1 pc = .ok (.iaload, 1)) : mz_ok E M pc (mz_xl x cs (pc + 1)) := by
  have inv : ∀ (st : mz_S) (pc' : Nat) (st' : mz_S), mz_xl x cs (pc + 1) st = some (pc', st') → ∃ i r j a, st.2.1 = .inl i :: .inr (.inr (.inr (.inr (.inr (.inr x))))) :: r ∧ mz_ix i cs.length = some j ∧ cs[j]? = some a ∧ pc' = pc + 1 ∧ st' = (st.1, a :: r, st.2.2) := by
    intro st pc' st' h
    unfold mz_xl at h
    split at h
    next i q r hs =>
      cases hb : Nat.beq q x with
      | false => simp only [hb] at h; cases h
      | true =>
        simp only [hb, cond_true] at h
        have e := Nat.eq_of_beq_eq_true hb
        subst e
        split at h
        next j hj =>
          split at h
          next a ha => cases h; exact ⟨i, r, j, a, hs, hj, ha, rfl, rfl⟩
          next => cases h
        next => cases h
    next => cases h
  refine mz_ok_s (fun st pc' st' h => by obtain ⟨i, r, j, a, -, -, -, -, rfl⟩ := inv st pc' st' h; rfl) ?_
  intro st pc' st' h G p l e R s m args below meth c A ls stk cw H locs cells slots Q hc hr kk
  obtain ⟨i, r, j, a, h1, h2, h3, rfl, rfl⟩ := inv st pc' st' h
  have hs := hr.2.1
  rw [h1] at hs
  obtain ⟨v, _, rfl, g, u, vs, rfl, gu, hs⟩ := hs
  have g : v = .int i := g
  subst g
  have gu : u = .ref (G.1 x) := gu
  subst gu
  obtain ⟨f, f1, f2⟩ := hx G A s hc.2.2.2.2.2.2.2.2.2.2.2.2.1
  obtain ⟨i1, i2, i3⟩ := mz_ix_ok h2
  refine va_ti hc.1 hc.2.1 f1 hr.2.2.2.2.2 i1 (v := .int (f j)) (by rw [i2]) hd (kk ls _ hr.1 ⟨_, vs, rfl, f2 j a _ h3, hs⟩)
theorem mz_g_nil {X : Nat → Nat} {ρ : List Nat} {a : mz_V} {v : Value} (h : mz_g X [] a v) : mz_g X ρ a v := mz_g_mono (fun k q hk => by simp at hk) h
theorem mz_xlScr (hd : decode M.1 pc = .ok (.iaload, 1)) : mz_ok E M pc (mz_xl 0 E (pc + 1)) :=
  mz_ok_xl (fun G A s h => ⟨G.2.2.2.2, h.1.1, fun j a ρ ha => mz_g_nil (h.1.2 j a ha)⟩) hd
def mz_thrV : List mz_V := [.inl 0, .inl 1, .inl 3, .inl 4, .inl 9, .inl 10, .inl 12, .inl 13]
theorem mz_xlThr (hd : decode M.1 pc = .ok (.iaload, 1)) : mz_ok E M pc (mz_xl 1 mz_thrV (pc + 1)) :=
  mz_ok_xl (fun G A s h => ⟨fun j => mz_thr.getD j 0, h.2.2.1, fun j a ρ ha => by
    rcases j with _ | _ | _ | _ | _ | _ | _ | _ | j
    all_goals first | (simp only [mz_thrV, List.getElem?_cons_zero, List.getElem?_cons_succ, Option.some.injEq] at ha; subst ha; rfl) | (simp [mz_thrV] at ha)⟩) hd
def mz_xn (x len : Nat) (n : Nat) : mz_S → Option (Nat × mz_S) := fun st => match st.2.1 with
  | .inr (.inr (.inr (.inr (.inr (.inr q))))) :: r => bif Nat.beq q x then some (n, st.1, .inl (Int32.ofNat len) :: r, st.2.2) else none
  | _ => none
theorem mz_slen (hd : decode M.1 pc = .ok (.arraylength, 1)) : mz_ok E M pc (mz_xn 0 E.length (pc + 1)) := by
  have inv : ∀ (st : mz_S) (pc' : Nat) (st' : mz_S), mz_xn 0 E.length (pc + 1) st = some (pc', st') → ∃ r, st.2.1 = .inr (.inr (.inr (.inr (.inr (.inr 0))))) :: r ∧ pc' = pc + 1 ∧ st' = (st.1, .inl (Int32.ofNat E.length) :: r, st.2.2) := by
    intro st pc' st' h
    unfold mz_xn at h
    split at h
    next q r hs =>
      cases hb : Nat.beq q 0 with
      | false => simp only [hb] at h; cases h
      | true =>
        simp only [hb, cond_true] at h
        have e := Nat.eq_of_beq_eq_true hb
        subst e
        cases h
        exact ⟨r, hs, rfl, rfl⟩
    next => cases h
  refine mz_ok_s (fun st pc' st' h => by obtain ⟨r, -, -, rfl⟩ := inv st pc' st' h; rfl) ?_
  intro st pc' st' h G p l e R s m args below meth c A ls stk cw H locs cells slots Q hc hr kk
  obtain ⟨r, h1, rfl, rfl⟩ := inv st pc' st' h
  have hs := hr.2.1
  rw [h1] at hs
  obtain ⟨v, vs, rfl, g, hs⟩ := hs
  have g : v = .ref (G.1 0) := g
  subst g
  exact va_tlen hc.1 hc.2.1 hc.2.2.2.2.2.2.2.2.2.2.2.2.1.1.1 hr.2.2.2.2.2 rfl hd (kk ls _ hr.1 ⟨_, vs, rfl, rfl, hs⟩)
/-- the length of a word's bytes; a word's bytes and coder -/
def mz_bn (n : Nat) : mz_S → Option (Nat × mz_S) := fun st => match st.2.1 with
  | .inr (.inr (.inr (.inr (.inr (.inr q))))) :: r => bif Nat.ble 10 q && Nat.blt q 18 then some (n, st.1, .inl (Int32.ofNat (mz_len.getD (q - 10) 0)) :: r, st.2.2) else none
  | _ => none
theorem mz_blen (hd : decode M.1 pc = .ok (.arraylength, 1)) : mz_ok E M pc (mz_bn (pc + 1)) := by
  have inv : ∀ (st : mz_S) (pc' : Nat) (st' : mz_S), mz_bn (pc + 1) st = some (pc', st') → ∃ q r, st.2.1 = .inr (.inr (.inr (.inr (.inr (.inr q))))) :: r ∧ 10 ≤ q ∧ q < 18 ∧ pc' = pc + 1 ∧ st' = (st.1, .inl (Int32.ofNat (mz_len.getD (q - 10) 0)) :: r, st.2.2) := by
    intro st pc' st' h
    unfold mz_bn at h
    split at h
    next q r hs =>
      cases hb : (Nat.ble 10 q && Nat.blt q 18) with
      | false => simp only [hb] at h; cases h
      | true =>
        simp only [hb, cond_true] at h
        cases h
        rw [Bool.and_eq_true] at hb
        exact ⟨q, r, hs, Nat.le_of_ble_eq_true hb.1, by simpa using hb.2, rfl, rfl⟩
    next => cases h
  refine mz_ok_s (fun st pc' st' h => by obtain ⟨q, r, -, -, -, -, rfl⟩ := inv st pc' st' h; rfl) ?_
  intro st pc' st' h G p l e R s m args below meth c A ls stk cw H locs cells slots Q hc hr kk
  obtain ⟨q, r, h1, q1, q2, rfl, rfl⟩ := inv st pc' st' h
  have hs := hr.2.1
  rw [h1] at hs
  obtain ⟨v, vs, rfl, g, hs⟩ := hs
  have g : v = .ref (G.1 q) := g
  subst g
  have hT := (hc.2.2.2.2.2.2.2.2.2.2.2.2.1.2.2.2.2.1 (q - 10) (by omega)).2.2.2
  have e1 : q - 10 + 10 = q := by omega
  dsimp only at hT
  rw [e1] at hT
  exact va_tlen hc.1 hc.2.1 hT hr.2.2.2.2.2 rfl hd (kk ls _ hr.1 ⟨_, vs, rfl, rfl, hs⟩)
def mz_xf (b : Bool) (n : Nat) : mz_S → Option (Nat × mz_S) := fun st => match st.2.1 with
  | .inr (.inr (.inr (.inr (.inr (.inr q))))) :: r => bif Nat.ble 2 q && Nat.blt q 10 then (match b with
    | true => mz_fn (q + 8) (fun q' => some (n, st.1, .inr (.inr (.inr (.inr (.inr (.inr q'))))) :: r, st.2.2))
    | false => some (n, st.1, .inl 0 :: r, st.2.2)) else none
  | _ => none
def mz_xv (b : Bool) (q : Nat) : mz_V := match b with
  | true => .inr (.inr (.inr (.inr (.inr (.inr (q + 8))))))
  | false => .inl 0
theorem mz_xf_inv {b : Bool} {n : Nat} (st : mz_S) (pc' : Nat) (st' : mz_S) (h : mz_xf b n st = some (pc', st')) : ∃ q r, st.2.1 = .inr (.inr (.inr (.inr (.inr (.inr q))))) :: r ∧ 2 ≤ q ∧ q < 10 ∧ pc' = n ∧ st' = (st.1, mz_xv b q :: r, st.2.2) := by
  unfold mz_xf at h
  split at h
  next q r hs =>
    cases hb : (Nat.ble 2 q && Nat.blt q 10) with
    | false => simp only [hb] at h; cases h
    | true =>
      simp only [hb, cond_true] at h
      rw [Bool.and_eq_true] at hb
      cases b with
      | true =>
        simp only at h
        rw [mz_fn_eq] at h
        cases h
        exact ⟨q, r, hs, Nat.le_of_ble_eq_true hb.1, by simpa using hb.2, rfl, rfl⟩
      | false =>
        cases h
        exact ⟨q, r, hs, Nat.le_of_ble_eq_true hb.1, by simpa using hb.2, rfl, rfl⟩
  next => cases h
theorem mz_gfVal {i : Nat} (hw : Cond.fieldLink M.2.2.2.1 i "java/lang/String" "value" "[B" ∈ mz_big) (hd : decode M.1 pc = .ok (.getfield i, 3)) : mz_ok E M pc (mz_xf true (pc + 3)) := by
  refine mz_ok_s (fun st pc' st' h => by obtain ⟨q, r, -, -, -, -, rfl⟩ := mz_xf_inv st pc' st' h; rfl) ?_
  intro st pc' st' h G p l e R s m args below meth c A ls stk cw H locs cells slots Q hc hr kk
  obtain ⟨q, r, h1, q1, q2, rfl, rfl⟩ := mz_xf_inv st pc' st' h
  have hs := hr.2.1
  rw [h1] at hs
  obtain ⟨v, vs, rfl, g, hs⟩ := hs
  have g : v = .ref (G.1 q) := g
  subst g
  have hT := (hc.2.2.2.2.2.2.2.2.2.2.2.2.1.2.2.2.2.1 (q - 2) (by omega)).2.2.1
  have e1 : q - 2 + 2 = q := by omega
  have e2 : q - 2 + 10 = q + 8 := by omega
  dsimp only at hT
  rw [e1, e2] at hT
  exact vk_getf hc.1 hc.2.1 hT hr.2.2.2.2.2 hc.2.2.2.2.1 (hc.2.2.2.2.2.2.2.2.2.1 _ hw) (fun _ h9 => h9) hd (kk ls _ hr.1 ⟨_, vs, rfl, rfl, hs⟩)
theorem mz_gfCod {i : Nat} (hw : Cond.fieldLink M.2.2.2.1 i "java/lang/String" "coder" "B" ∈ mz_big) (hd : decode M.1 pc = .ok (.getfield i, 3)) : mz_ok E M pc (mz_xf false (pc + 3)) := by
  refine mz_ok_s (fun st pc' st' h => by obtain ⟨q, r, -, -, -, -, rfl⟩ := mz_xf_inv st pc' st' h; rfl) ?_
  intro st pc' st' h G p l e R s m args below meth c A ls stk cw H locs cells slots Q hc hr kk
  obtain ⟨q, r, h1, q1, q2, rfl, rfl⟩ := mz_xf_inv st pc' st' h
  have hs := hr.2.1
  rw [h1] at hs
  obtain ⟨v, vs, rfl, g, hs⟩ := hs
  have g : v = .ref (G.1 q) := g
  subst g
  have hT := (hc.2.2.2.2.2.2.2.2.2.2.2.2.1.2.2.2.2.1 (q - 2) (by omega)).2.1
  have e1 : q - 2 + 2 = q := by omega
  dsimp only at hT
  rw [e1] at hT
  exact vk_getf hc.1 hc.2.1 hT hr.2.2.2.2.2 hc.2.2.2.2.1 (hc.2.2.2.2.2.2.2.2.2.1 _ hw) (fun _ h9 => h9) hd (kk ls _ hr.1 ⟨_, vs, rfl, rfl, hs⟩)
end MZ3
