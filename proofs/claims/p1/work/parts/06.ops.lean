/-! ===== branches, fields, rows, calls, ends ===== -/
section MZ2
variable {E : List mz_V} {M : mz_M} {pc : Nat}
def mz_lt (x y : mz_V) : Option Bool := match mz_bi x, mz_bi y with
  | some a, some b => if a.2 < b.1 then some true else if b.2 ≤ a.1 then some false else none
  | _, _ => none
def mz_gt (x y : mz_V) : Option Bool := mz_lt y x
def mz_eq (x y : mz_V) : Option Bool := match mz_bi x, mz_bi y with
  | some a, some b => if a.2 < b.1 then some false else if b.2 < a.1 then some false else bif a.1 == a.2 && b.1 == b.2 then some true else none
  | _, _ => none
theorem mz_lt_ok {X : Nat → Nat} {ρ : List Nat} {x y : mz_V} {vx vy : Value} {o : Bool} (h : mz_lt x y = some o) (gx : mz_g X ρ x vx) (gy : mz_g X ρ y vy) : ∃ u z : Int32, vx = .int u ∧ vy = .int z ∧ (u < z ↔ o = true) := by
  unfold mz_lt at h
  split at h
  next a b ha hb =>
    obtain ⟨u, rfl, u1, u2⟩ := mz_bi_ok gx ha
    obtain ⟨z, rfl, z1, z2⟩ := mz_bi_ok gy hb
    refine ⟨u, z, rfl, rfl, ?_⟩
    rw [Int32.lt_iff_toInt_lt]
    split at h
    next h1 => cases h; simp only [iff_true]; omega
    next h1 =>
      split at h
      next h2 => cases h; simp only [Bool.false_eq_true, iff_false]; omega
      next => cases h
  next => cases h
theorem mz_eq_ok {X : Nat → Nat} {ρ : List Nat} {x y : mz_V} {vx vy : Value} {o : Bool} (h : mz_eq x y = some o) (gx : mz_g X ρ x vx) (gy : mz_g X ρ y vy) : ∃ u z : Int32, vx = .int u ∧ vy = .int z ∧ (u = z ↔ o = true) := by
  unfold mz_eq at h
  split at h
  next a b ha hb =>
    obtain ⟨u, rfl, u1, u2⟩ := mz_bi_ok gx ha
    obtain ⟨z, rfl, z1, z2⟩ := mz_bi_ok gy hb
    refine ⟨u, z, rfl, rfl, ?_⟩
    rw [← Int32.toInt_inj]
    split at h
    next h1 => cases h; simp only [Bool.false_eq_true, iff_false]; omega
    next h1 =>
      split at h
      next h2 => cases h; simp only [Bool.false_eq_true, iff_false]; omega
      next h2 =>
        cases hq : (a.1 == a.2 && b.1 == b.2) with
        | false => rw [hq] at h; cases h
        | true =>
          rw [hq] at h
          cases h
          simp only [Bool.and_eq_true, beq_iff_eq] at hq
          simp only [iff_true]
          omega
  next => cases h
def mz_j1 (d : mz_V → Option Bool) (t f : Nat) : mz_S → Option (Nat × mz_S) := fun st => match st.2.1 with
  | [] => none
  | x :: r => match d x with
    | none => none
    | some true => some (t, st.1, r, st.2.2)
    | some false => some (f, st.1, r, st.2.2)
def mz_j2 (d : mz_V → mz_V → Option Bool) (t f : Nat) : mz_S → Option (Nat × mz_S) := fun st => match st.2.1 with
  | y :: x :: r => match d x y with
    | none => none
    | some true => some (t, st.1, r, st.2.2)
    | some false => some (f, st.1, r, st.2.2)
  | _ => none
theorem mz_ok_j1 {d : mz_V → Option Bool} {t f : Nat} (row : ∀ (G : mz_E) (ρ : List Nat) (x : mz_V) (o : Bool) (vx : Value), d x = some o → mz_g G.1 ρ x vx → ∀ (p : Program) (l : Launch) (e : Env) (R : Room) (s : State) (m : MethodId) (args : Array Value) (below : List Frame) (meth : Method) (c : Code) (A : Nat → Prop) (ls : Array Slot) (rest : List Value) (H : Heap) (locs : List Loc) (cells slots : Nat) (Q : State → Prop), mz_cx E G M p R s m args meth c A → (o = true → W p l e R s m args below meth c H locs cells slots Q (F0 m t ls rest)) → (o = false → W p l e R s m args below meth c H locs cells slots Q (F0 m f ls rest)) → W p l e R s m args below meth c H locs cells slots Q (F0 m pc ls (vx :: rest))) : mz_ok E M pc (mz_j1 d t f) := by
  have inv : ∀ (st : mz_S) (pc' : Nat) (st' : mz_S), mz_j1 d t f st = some (pc', st') → ∃ x r o, st.2.1 = x :: r ∧ d x = some o ∧ pc' = (bif o then t else f) ∧ st' = (st.1, r, st.2.2) := by
    intro st pc' st' h9
    obtain ⟨l1, s1, w⟩ := st
    rcases s1 with _ | ⟨x, r⟩
    · cases h9
    · unfold mz_j1 at h9
      simp only at h9
      cases hx : d x with
      | none => rw [hx] at h9; cases h9
      | some o => cases o <;> (rw [hx] at h9; cases h9; exact ⟨x, r, _, rfl, hx, rfl, rfl⟩)
  refine mz_ok_s (fun st pc' st' h9 => by obtain ⟨x, r, o, -, -, -, rfl⟩ := inv st pc' st' h9; rfl) ?_
  intro st pc' st' h9 G p l e R s m args below meth c A ls stk cw H locs cells slots Q hc hr kk
  obtain ⟨x, r, o, h1, h2, rfl, rfl⟩ := inv st pc' st' h9
  have hs := hr.2.1
  rw [h1] at hs
  obtain ⟨vx, vs, rfl, gx, hs⟩ := hs
  refine row G _ x o vx h2 gx p l e R s m args below meth c A ls vs H locs cells slots Q hc (fun ho => ?_) (fun ho => ?_)
  · subst ho; exact kk ls _ hr.1 hs
  · subst ho; exact kk ls _ hr.1 hs
theorem mz_ok_j2 {d : mz_V → mz_V → Option Bool} {t f : Nat} (row : ∀ (G : mz_E) (ρ : List Nat) (x y : mz_V) (o : Bool) (vx vy : Value), d x y = some o → mz_g G.1 ρ x vx → mz_g G.1 ρ y vy → ∀ (p : Program) (l : Launch) (e : Env) (R : Room) (s : State) (m : MethodId) (args : Array Value) (below : List Frame) (meth : Method) (c : Code) (A : Nat → Prop) (ls : Array Slot) (rest : List Value) (H : Heap) (locs : List Loc) (cells slots : Nat) (Q : State → Prop), mz_cx E G M p R s m args meth c A → (o = true → W p l e R s m args below meth c H locs cells slots Q (F0 m t ls rest)) → (o = false → W p l e R s m args below meth c H locs cells slots Q (F0 m f ls rest)) → W p l e R s m args below meth c H locs cells slots Q (F0 m pc ls (vy :: vx :: rest))) : mz_ok E M pc (mz_j2 d t f) := by
  have inv : ∀ (st : mz_S) (pc' : Nat) (st' : mz_S), mz_j2 d t f st = some (pc', st') → ∃ x y r o, st.2.1 = y :: x :: r ∧ d x y = some o ∧ pc' = (bif o then t else f) ∧ st' = (st.1, r, st.2.2) := by
    intro st pc' st' h9
    obtain ⟨l1, s1, w⟩ := st
    rcases s1 with _ | ⟨y, _ | ⟨x, r⟩⟩
    · cases h9
    · cases h9
    · unfold mz_j2 at h9
      simp only at h9
      cases hx : d x y with
      | none => rw [hx] at h9; cases h9
      | some o => cases o <;> (rw [hx] at h9; cases h9; exact ⟨x, y, r, _, rfl, hx, rfl, rfl⟩)
  refine mz_ok_s (fun st pc' st' h9 => by obtain ⟨x, y, r, o, -, -, -, rfl⟩ := inv st pc' st' h9; rfl) ?_
  intro st pc' st' h9 G p l e R s m args below meth c A ls stk cw H locs cells slots Q hc hr kk
  obtain ⟨x, y, r, o, h1, h2, rfl, rfl⟩ := inv st pc' st' h9
  have hs := hr.2.1
  rw [h1] at hs
  obtain ⟨vy, _, rfl, gy, vx, vs, rfl, gx, hs⟩ := hs
  refine row G _ x y o vx vy h2 gx gy p l e R s m args below meth c A ls vs H locs cells slots Q hc (fun ho => ?_) (fun ho => ?_)
  · subst ho; exact kk ls _ hr.1 hs
  · subst ho; exact kk ls _ hr.1 hs
theorem mz_icmp_eq {off : Int} (tgt : Nat) (ht : (pc : Int) + off = (tgt : Int)) (hd : decode M.1 pc = .ok (.if_icmp .eq off, 3)) : mz_ok E M pc (mz_j2 mz_eq tgt (pc + 3)) := by
  refine mz_ok_j2 ?_
  intro G ρ x y o vx vy h gx gy p l e R s m args below meth c A ls rest H locs cells slots Q hc kt kf
  obtain ⟨u, z, rfl, rfl, hq⟩ := mz_eq_ok h gx gy
  exact lv_icmp_eq hc.1 hc.2.1 hd ht (fun h1 => kt (hq.mp h1)) (fun h1 => kf (by cases o <;> simp_all))
theorem mz_icmp_ne {off : Int} (tgt : Nat) (ht : (pc : Int) + off = (tgt : Int)) (hd : decode M.1 pc = .ok (.if_icmp .ne off, 3)) : mz_ok E M pc (mz_j2 mz_eq (pc + 3) tgt) := by
  refine mz_ok_j2 ?_
  intro G ρ x y o vx vy h gx gy p l e R s m args below meth c A ls rest H locs cells slots Q hc kt kf
  obtain ⟨u, z, rfl, rfl, hq⟩ := mz_eq_ok h gx gy
  exact lv_icmp_ne hc.1 hc.2.1 hd ht (fun h1 => kf (by cases o <;> simp_all)) (fun h1 => kt (hq.mp h1))
theorem mz_icmp_lt {off : Int} (tgt : Nat) (ht : (pc : Int) + off = (tgt : Int)) (hd : decode M.1 pc = .ok (.if_icmp .lt off, 3)) : mz_ok E M pc (mz_j2 mz_lt tgt (pc + 3)) := by
  refine mz_ok_j2 ?_
  intro G ρ x y o vx vy h gx gy p l e R s m args below meth c A ls rest H locs cells slots Q hc kt kf
  obtain ⟨u, z, rfl, rfl, hq⟩ := mz_lt_ok h gx gy
  exact lv_icmp_lt hc.1 hc.2.1 hd ht (fun h1 => kt (hq.mp h1)) (fun h1 => kf (by cases o <;> simp_all))
theorem mz_icmp_ge {off : Int} (tgt : Nat) (ht : (pc : Int) + off = (tgt : Int)) (hd : decode M.1 pc = .ok (.if_icmp .ge off, 3)) : mz_ok E M pc (mz_j2 mz_lt (pc + 3) tgt) := by
  refine mz_ok_j2 ?_
  intro G ρ x y o vx vy h gx gy p l e R s m args below meth c A ls rest H locs cells slots Q hc kt kf
  obtain ⟨u, z, rfl, rfl, hq⟩ := mz_lt_ok h gx gy
  exact lv_icmp_ge hc.1 hc.2.1 hd ht (fun h1 => kf (by cases o with | false => rfl | true => exact absurd (hq.mpr rfl) (Int32.not_lt.mpr h1))) (fun h1 => kt (hq.mp (Int32.not_le.mp h1)))
theorem mz_icmp_gt {off : Int} (tgt : Nat) (ht : (pc : Int) + off = (tgt : Int)) (hd : decode M.1 pc = .ok (.if_icmp .gt off, 3)) : mz_ok E M pc (mz_j2 mz_gt tgt (pc + 3)) := by
  refine mz_ok_j2 ?_
  intro G ρ x y o vx vy h gx gy p l e R s m args below meth c A ls rest H locs cells slots Q hc kt kf
  obtain ⟨z, u, rfl, rfl, hq⟩ := mz_lt_ok (show mz_lt y x = some o from h) gy gx
  exact lv_icmp_gt hc.1 hc.2.1 hd ht (fun h1 => kt (hq.mp h1)) (fun h1 => kf (by cases o with | false => rfl | true => exact absurd (hq.mpr rfl) h1))
theorem mz_icmp_le {off : Int} (tgt : Nat) (ht : (pc : Int) + off = (tgt : Int)) (hd : decode M.1 pc = .ok (.if_icmp .le off, 3)) : mz_ok E M pc (mz_j2 mz_gt (pc + 3) tgt) := by
  refine mz_ok_j2 ?_
  intro G ρ x y o vx vy h gx gy p l e R s m args below meth c A ls rest H locs cells slots Q hc kt kf
  obtain ⟨z, u, rfl, rfl, hq⟩ := mz_lt_ok (show mz_lt y x = some o from h) gy gx
  exact lv_icmp_le hc.1 hc.2.1 hd ht (fun h1 => kf (by cases o with | false => rfl | true => exact absurd (hq.mpr rfl) (Int32.not_lt.mpr h1))) (fun h1 => kt (hq.mp (Int32.not_le.mp h1)))
def mz_lt0 (x : mz_V) : Option Bool := mz_lt x (.inl 0)
def mz_gt0 (x : mz_V) : Option Bool := mz_lt (.inl 0) x
def mz_eq0 (x : mz_V) : Option Bool := mz_eq x (.inl 0)
theorem mz_if_eq {off : Int} (tgt : Nat) (ht : (pc : Int) + off = (tgt : Int)) (hd : decode M.1 pc = .ok (.ifCond .eq off, 3)) : mz_ok E M pc (mz_j1 mz_eq0 tgt (pc + 3)) := by
  refine mz_ok_j1 ?_
  intro G ρ x o vx h gx p l e R s m args below meth c A ls rest H locs cells slots Q hc kt kf
  obtain ⟨u, z, rfl, hz, hq⟩ := mz_eq_ok (show mz_eq x (.inl 0) = some o from h) gx (show mz_g G.1 ρ (.inl 0) (.int 0) from rfl)
  cases hz
  exact lv_if_eq hc.1 hc.2.1 hd ht (fun h1 => kt (hq.mp h1)) (fun h1 => kf (by cases o <;> simp_all))
theorem mz_if_ne {off : Int} (tgt : Nat) (ht : (pc : Int) + off = (tgt : Int)) (hd : decode M.1 pc = .ok (.ifCond .ne off, 3)) : mz_ok E M pc (mz_j1 mz_eq0 (pc + 3) tgt) := by
  refine mz_ok_j1 ?_
  intro G ρ x o vx h gx p l e R s m args below meth c A ls rest H locs cells slots Q hc kt kf
  obtain ⟨u, z, rfl, hz, hq⟩ := mz_eq_ok (show mz_eq x (.inl 0) = some o from h) gx (show mz_g G.1 ρ (.inl 0) (.int 0) from rfl)
  cases hz
  exact lv_if_ne hc.1 hc.2.1 hd ht (fun h1 => kf (by cases o <;> simp_all)) (fun h1 => kt (hq.mp h1))
theorem mz_if_lt {off : Int} (tgt : Nat) (ht : (pc : Int) + off = (tgt : Int)) (hd : decode M.1 pc = .ok (.ifCond .lt off, 3)) : mz_ok E M pc (mz_j1 mz_lt0 tgt (pc + 3)) := by
  refine mz_ok_j1 ?_
  intro G ρ x o vx h gx p l e R s m args below meth c A ls rest H locs cells slots Q hc kt kf
  obtain ⟨u, z, rfl, hz, hq⟩ := mz_lt_ok (show mz_lt x (.inl 0) = some o from h) gx (show mz_g G.1 ρ (.inl 0) (.int 0) from rfl)
  cases hz
  exact lv_if_lt hc.1 hc.2.1 hd ht (fun h1 => kt (hq.mp h1)) (fun h1 => kf (by cases o <;> simp_all))
theorem mz_if_ge {off : Int} (tgt : Nat) (ht : (pc : Int) + off = (tgt : Int)) (hd : decode M.1 pc = .ok (.ifCond .ge off, 3)) : mz_ok E M pc (mz_j1 mz_lt0 (pc + 3) tgt) := by
  refine mz_ok_j1 ?_
  intro G ρ x o vx h gx p l e R s m args below meth c A ls rest H locs cells slots Q hc kt kf
  obtain ⟨u, z, rfl, hz, hq⟩ := mz_lt_ok (show mz_lt x (.inl 0) = some o from h) gx (show mz_g G.1 ρ (.inl 0) (.int 0) from rfl)
  cases hz
  exact lv_if_ge hc.1 hc.2.1 hd ht (fun h1 => kf (by cases o with | false => rfl | true => exact absurd (hq.mpr rfl) (Int32.not_lt.mpr h1))) (fun h1 => kt (hq.mp (Int32.not_le.mp h1)))
theorem mz_if_gt {off : Int} (tgt : Nat) (ht : (pc : Int) + off = (tgt : Int)) (hd : decode M.1 pc = .ok (.ifCond .gt off, 3)) : mz_ok E M pc (mz_j1 mz_gt0 tgt (pc + 3)) := by
  refine mz_ok_j1 ?_
  intro G ρ x o vx h gx p l e R s m args below meth c A ls rest H locs cells slots Q hc kt kf
  obtain ⟨z, u, hz, rfl, hq⟩ := mz_lt_ok (show mz_lt (.inl 0) x = some o from h) (show mz_g G.1 ρ (.inl 0) (.int 0) from rfl) gx
  cases hz
  exact lv_if_gt hc.1 hc.2.1 hd ht (fun h1 => kt (hq.mp h1)) (fun h1 => kf (by cases o with | false => rfl | true => exact absurd (hq.mpr rfl) h1))
theorem mz_if_le {off : Int} (tgt : Nat) (ht : (pc : Int) + off = (tgt : Int)) (hd : decode M.1 pc = .ok (.ifCond .le off, 3)) : mz_ok E M pc (mz_j1 mz_gt0 (pc + 3) tgt) := by
  refine mz_ok_j1 ?_
  intro G ρ x o vx h gx p l e R s m args below meth c A ls rest H locs cells slots Q hc kt kf
  obtain ⟨z, u, hz, rfl, hq⟩ := mz_lt_ok (show mz_lt (.inl 0) x = some o from h) (show mz_g G.1 ρ (.inl 0) (.int 0) from rfl) gx
  cases hz
  exact lv_if_le hc.1 hc.2.1 hd ht (fun h1 => kf (by cases o with | false => rfl | true => exact absurd (hq.mpr rfl) (Int32.not_lt.mpr h1))) (fun h1 => kt (hq.mp (Int32.not_le.mp h1)))
def mz_nul (x : mz_V) : Option Bool := match x with
  | .inr (.inr (.inl none)) => some true
  | .inr (.inr (.inl (some _))) => some false
  | _ => none
theorem mz_nul_ok {X : Nat → Nat} {ρ : List Nat} {x : mz_V} {v : Value} {o : Bool} (h : mz_nul x = some o) (g : mz_g X ρ x v) : (o = true ∧ v = .null) ∨ (o = false ∧ ∃ q, v = .ref q) := by
  unfold mz_nul at h
  split at h
  next => cases h; exact Or.inl ⟨rfl, g⟩
  next => cases h; obtain ⟨q, -, hq⟩ := g; exact Or.inr ⟨rfl, q, hq⟩
  next => cases h
theorem mz_ifnull {off : Int} (tgt : Nat) (ht : (pc : Int) + off = (tgt : Int)) (hd : decode M.1 pc = .ok (.ifnull off, 3)) : mz_ok E M pc (mz_j1 mz_nul tgt (pc + 3)) := by
  refine mz_ok_j1 ?_
  intro G ρ x o vx h gx p l e R s m args below meth c A ls rest H locs cells slots Q hc kt kf
  rcases mz_nul_ok h gx with ⟨ho, rfl⟩ | ⟨ho, q, rfl⟩
  · exact lv_ifnullN hc.1 hc.2.1 hd ht (kt ho)
  · exact lv_ifnull hc.1 hc.2.1 hd (kf ho)
theorem mz_ifnonnull {off : Int} (tgt : Nat) (ht : (pc : Int) + off = (tgt : Int)) (hd : decode M.1 pc = .ok (.ifnonnull off, 3)) : mz_ok E M pc (mz_j1 mz_nul (pc + 3) tgt) := by
  refine mz_ok_j1 ?_
  intro G ρ x o vx h gx p l e R s m args below meth c A ls rest H locs cells slots Q hc kt kf
  rcases mz_nul_ok h gx with ⟨ho, rfl⟩ | ⟨ho, q, rfl⟩
  · exact lv_ifnonnullN hc.1 hc.2.1 hd (kt ho)
  · exact lv_ifnonnull hc.1 hc.2.1 hd ht (kf ho)
def mz_go (t : Nat) : mz_S → Option (Nat × mz_S) := fun st => some (t, st)
theorem mz_goto {off : Int} (tgt : Nat) (ht : (pc : Int) + off = (tgt : Int)) (hd : decode M.1 pc = .ok (.goto off, 3)) : mz_ok E M pc (mz_go tgt) := by
  refine mz_ok_s (fun st pc' st' h => by cases h; rfl) ?_
  intro st pc' st' h G p l e R s m args below meth c A ls stk cw H locs cells slots Q hc hr kk
  cases h
  exact lv_goto hc.1 hc.2.1 hd ht (kk ls stk hr.1 hr.2.1)
def mz_dp (n : Nat) : mz_S → Option (Nat × mz_S) := fun st => match st.2.1 with
  | [] => none
  | a :: r => bif Nat.beq (mz_cat a) 1 then some (n, st.1, a :: a :: r, st.2.2) else none
theorem mz_dup (hd : decode M.1 pc = .ok (.dup, 1)) : mz_ok E M pc (mz_dp (pc + 1)) := by
  have inv : ∀ (st : mz_S) (pc' : Nat) (st' : mz_S), mz_dp (pc + 1) st = some (pc', st') → ∃ a r, st.2.1 = a :: r ∧ mz_cat a = 1 ∧ pc' = pc + 1 ∧ st' = (st.1, a :: a :: r, st.2.2) := by
    intro st pc' st' h9
    obtain ⟨l1, s1, w⟩ := st
    rcases s1 with _ | ⟨a, r⟩
    · cases h9
    · unfold mz_dp at h9
      cases hx : Nat.beq (mz_cat a) 1 with
      | false => simp only [hx] at h9; cases h9
      | true => simp only [hx, cond_true] at h9; cases h9; exact ⟨a, r, rfl, Nat.eq_of_beq_eq_true hx, rfl, rfl⟩
  refine mz_ok_s (fun st pc' st' h9 => by obtain ⟨a, r, -, -, -, rfl⟩ := inv st pc' st' h9; rfl) ?_
  intro st pc' st' h9 G p l e R s m args below meth c A ls stk cw H locs cells slots Q hc hr kk
  obtain ⟨a, r, h1, h2, rfl, rfl⟩ := inv st pc' st' h9
  have hs := hr.2.1
  rw [h1] at hs
  obtain ⟨v, vs, rfl, g, hs⟩ := hs
  exact lv_dup hc.1 hc.2.1 hd (by rw [mz_cat_ok g]; exact h2) (kk ls _ hr.1 ⟨v, _, rfl, g, v, vs, rfl, g, hs⟩)
def mz_dp2 (n : Nat) : mz_S → Option (Nat × mz_S) := fun st => match st.2.1 with
  | a :: b :: r => bif Nat.beq (mz_cat a) 1 && Nat.beq (mz_cat b) 1 then some (n, st.1, a :: b :: a :: b :: r, st.2.2) else none
  | _ => none
theorem mz_dup2 (hd : decode M.1 pc = .ok (.dup2, 1)) : mz_ok E M pc (mz_dp2 (pc + 1)) := by
  have inv : ∀ (st : mz_S) (pc' : Nat) (st' : mz_S), mz_dp2 (pc + 1) st = some (pc', st') → ∃ a b r, st.2.1 = a :: b :: r ∧ mz_cat a = 1 ∧ mz_cat b = 1 ∧ pc' = pc + 1 ∧ st' = (st.1, a :: b :: a :: b :: r, st.2.2) := by
    intro st pc' st' h9
    obtain ⟨l1, s1, w⟩ := st
    rcases s1 with _ | ⟨a, _ | ⟨b, r⟩⟩
    · cases h9
    · cases h9
    · unfold mz_dp2 at h9
      cases hx : (Nat.beq (mz_cat a) 1 && Nat.beq (mz_cat b) 1) with
      | false => simp only [hx] at h9; cases h9
      | true =>
        simp only [hx, cond_true] at h9
        cases h9
        rw [Bool.and_eq_true] at hx
        exact ⟨a, b, r, rfl, Nat.eq_of_beq_eq_true hx.1, Nat.eq_of_beq_eq_true hx.2, rfl, rfl⟩
  refine mz_ok_s (fun st pc' st' h9 => by obtain ⟨a, b, r, -, -, -, -, rfl⟩ := inv st pc' st' h9; rfl) ?_
  intro st pc' st' h9 G p l e R s m args below meth c A ls stk cw H locs cells slots Q hc hr kk
  obtain ⟨a, b, r, h1, h2, h3, rfl, rfl⟩ := inv st pc' st' h9
  have hs := hr.2.1
  rw [h1] at hs
  obtain ⟨v, _, rfl, g, u, vs, rfl, g', hs⟩ := hs
  exact lv_dup2_11 hc.1 hc.2.1 hd (by rw [mz_cat_ok g]; exact h2) (by rw [mz_cat_ok g']; exact h3) (kk ls _ hr.1 ⟨v, _, rfl, g, u, _, rfl, g', v, _, rfl, g, u, vs, rfl, g', hs⟩)
/-! switches -/
def mz_ts (lo hi : Int) (tg : List Nat) (d : Nat) : mz_S → Option (Nat × mz_S) := fun st => match st.2.1 with
  | [] => none
  | x :: r => match mz_bi x with
    | none => none
    | some b => if b.2 < lo ∨ hi < b.1 then some (d, st.1, r, st.2.2) else bif b.1 == b.2 then (match tg[(b.1 - lo).toNat]? with
      | none => none
      | some t => mz_fn t (fun t => some (t, st.1, r, st.2.2))) else none
theorem mz_tableswitch {df lo hi : Int} {offs : Array Int} {len : Nat} (tg : List Nat) (d : Nat) (h0 : (pc : Int) + df = (d : Int)) (h1 : offs.toList.map (fun o => (pc : Int) + o) = tg.map (fun t : Nat => (t : Int))) (hlo : ∀ z : Int, lo ≤ z → z ≤ hi → (z - lo).toNat < tg.length) (hd : decode M.1 pc = .ok (.tableswitch df lo hi offs, len)) : mz_ok E M pc (mz_ts lo hi tg d) := by
  have inv : ∀ (st : mz_S) (pc' : Nat) (st' : mz_S), mz_ts lo hi tg d st = some (pc', st') → ∃ x r b, st.2.1 = x :: r ∧ mz_bi x = some b ∧ (((b.2 < lo ∨ hi < b.1) ∧ pc' = d) ∨ (¬ (b.2 < lo ∨ hi < b.1) ∧ b.1 = b.2 ∧ tg[(b.1 - lo).toNat]? = some pc')) ∧ st' = (st.1, r, st.2.2) := by
    intro st pc' st' h9
    obtain ⟨l1, s1, w⟩ := st
    rcases s1 with _ | ⟨x, r⟩
    · cases h9
    · unfold mz_ts at h9
      simp only at h9
      cases hx : mz_bi x with
      | none => rw [hx] at h9; cases h9
      | some b =>
        rw [hx] at h9
        simp only at h9
        split at h9
        next hb => cases h9; exact ⟨x, r, b, rfl, hx, Or.inl ⟨hb, rfl⟩, rfl⟩
        next hb =>
          cases hq : (b.1 == b.2) with
          | false => rw [hq] at h9; cases h9
          | true =>
            rw [hq, cond_true] at h9
            split at h9
            next => cases h9
            next t ht =>
              rw [mz_fn_eq] at h9
              cases h9
              exact ⟨x, r, b, rfl, hx, Or.inr ⟨hb, by simpa using hq, ht⟩, rfl⟩
  refine mz_ok_s (fun st pc' st' h9 => by obtain ⟨x, r, b, -, -, -, rfl⟩ := inv st pc' st' h9; rfl) ?_
  intro st pc' st' h9 G p l e R s m args below meth c A ls stk cw H locs cells slots Q hc hr kk
  obtain ⟨x, r, b, g1, g2, g3, rfl⟩ := inv st pc' st' h9
  have hs := hr.2.1
  rw [g1] at hs
  obtain ⟨v, vs, rfl, g, hs⟩ := hs
  obtain ⟨z, rfl, z1, z2⟩ := mz_bi_ok g g2
  rcases g3 with ⟨g3, rfl⟩ | ⟨g3, g4, g5⟩
  · exact lv_tableOut hc.1 hc.2.1 hd (by omega) h0 (kk ls _ hr.1 hs)
  · have hz : z.toInt = b.1 := by omega
    have ho : (offs.toList.map (fun o => (pc : Int) + o))[(b.1 - lo).toNat]? = some (pc' : Int) := by rw [h1, List.getElem?_map, g5]; rfl
    rw [List.getElem?_map] at ho
    cases hof : offs.toList[(b.1 - lo).toNat]? with
    | none => rw [hof] at ho; cases ho
    | some off =>
      rw [hof] at ho
      exact lv_tableIn hc.1 hc.2.1 hd (by omega) (by omega) (off := off) (by rw [hz, ← Array.getElem?_toList]; exact hof) (Option.some.inj ho) (kk ls _ hr.1 hs)
end MZ2
