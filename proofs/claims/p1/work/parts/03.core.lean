/-! ===== values, cells and states of a run that is reckoned: what the machine holds, as far as it is known ===== -/
abbrev mz_V : Type := Int32 ⊕ Int64 ⊕ Option Nat ⊕ (Int × Int) ⊕ (Int × Int) ⊕ (Option Int32 × List (Option Int32 × Int32 × Int × Int)) ⊕ Nat
abbrev mz_C : Type := (Bool × Nat × List (Nat × mz_V)) ⊕ (Nat × List mz_V)
abbrev mz_S : Type := List (Nat × mz_V) × List mz_V × List mz_C
def mz_sh (x : Int32) (c : Option Int32) : Int32 := match c with
  | none => x
  | some k => x >>> k
def mz_fc (F : List (Option Int32 × Int32 × Int × Int)) (x : Int32) : Prop := ∀ q ∈ F, q.2.2.1 ≤ (mz_sh x q.1 &&& q.2.1).toInt ∧ (mz_sh x q.1 &&& q.2.1).toInt ≤ q.2.2.2
/-- which values a reckoned one stands for: an int, a long, a cell of the world by its place (or null), an int within bounds, a long within bounds, an int (shifted) of which some masked parts are within bounds, a cell outside of the world -/
def mz_g (X : Nat → Nat) (ρ : List Nat) (a : mz_V) (v : Value) : Prop := match a with
  | .inl x => v = .int x
  | .inr (.inl x) => v = .long x
  | .inr (.inr (.inl none)) => v = .null
  | .inr (.inr (.inl (some k))) => ∃ q : Nat, ρ[k]? = some q ∧ v = .ref q
  | .inr (.inr (.inr (.inl r))) => ∃ x : Int32, v = .int x ∧ r.1 ≤ x.toInt ∧ x.toInt ≤ r.2
  | .inr (.inr (.inr (.inr (.inl r)))) => ∃ x : Int64, v = .long x ∧ r.1 ≤ x.toInt ∧ x.toInt ≤ r.2
  | .inr (.inr (.inr (.inr (.inr (.inl f))))) => ∃ x : Int32, v = .int (mz_sh x f.1) ∧ mz_fc f.2 x
  | .inr (.inr (.inr (.inr (.inr (.inr n))))) => v = .ref (X n)
def mz_fn {α : Type} (n : Nat) (k : Nat → α) : α := match n with
  | 0 => k 0
  | j + 1 => k (j + 1)
theorem mz_fn_eq {α : Type} (n : Nat) (k : Nat → α) : mz_fn n k = k n := by cases n <;> rfl
def mz_fi {α : Type} (x : Int32) (k : Int32 → α) : α := mz_fn x.toBitVec.toNat (fun n => k (Int32.ofNat n))
theorem mz_i_back (x : Int32) : Int32.ofNat x.toBitVec.toNat = x := by
  apply Int32.toBitVec_inj.mp
  simp
theorem mz_fi_eq {α : Type} (x : Int32) (k : Int32 → α) : mz_fi x k = k x := by
  unfold mz_fi
  rw [mz_fn_eq, mz_i_back]
def mz_fl {α : Type} (x : Int64) (k : Int64 → α) : α := mz_fn x.toBitVec.toNat (fun n => k (Int64.ofNat n))
theorem mz_l_back (x : Int64) : Int64.ofNat x.toBitVec.toNat = x := by
  apply Int64.toBitVec_inj.mp
  simp
theorem mz_fl_eq {α : Type} (x : Int64) (k : Int64 → α) : mz_fl x k = k x := by
  unfold mz_fl
  rw [mz_fn_eq, mz_l_back]
def mz_cat (a : mz_V) : Nat := match a with
  | .inr (.inl _) => 2
  | .inr (.inr (.inr (.inr (.inl _)))) => 2
  | _ => 1
def mz_isI (a : mz_V) : Bool := match a with
  | .inl _ => true
  | .inr (.inr (.inr (.inl _))) => true
  | .inr (.inr (.inr (.inr (.inr (.inl _))))) => true
  | _ => false
def mz_isL (a : mz_V) : Bool := match a with
  | .inr (.inl _) => true
  | .inr (.inr (.inr (.inr (.inl _)))) => true
  | _ => false
def mz_isR (a : mz_V) : Bool := match a with
  | .inr (.inr (.inl (some _))) => true
  | .inr (.inr (.inr (.inr (.inr (.inr _))))) => true
  | _ => false
theorem mz_isI_ok {X : Nat → Nat} {ρ : List Nat} {a : mz_V} {v : Value} (h : mz_g X ρ a v) (hi : mz_isI a = true) : ∃ x : Int32, v = .int x := by
  rcases a with x | x | r | r | r | f | n
  · exact ⟨x, h⟩
  · simp [mz_isI] at hi
  · simp [mz_isI] at hi
  · obtain ⟨x, hx, -⟩ := h
    exact ⟨x, hx⟩
  · simp [mz_isI] at hi
  · obtain ⟨x, hx, -⟩ := h
    exact ⟨_, hx⟩
  · simp [mz_isI] at hi
theorem mz_isL_ok {X : Nat → Nat} {ρ : List Nat} {a : mz_V} {v : Value} (h : mz_g X ρ a v) (hi : mz_isL a = true) : ∃ x : Int64, v = .long x := by
  rcases a with x | x | r | r | r | f | n
  · simp [mz_isL] at hi
  · exact ⟨x, h⟩
  · simp [mz_isL] at hi
  · simp [mz_isL] at hi
  · obtain ⟨x, hx, -⟩ := h
    exact ⟨x, hx⟩
  · simp [mz_isL] at hi
  · simp [mz_isL] at hi
theorem mz_isR_ok {X : Nat → Nat} {ρ : List Nat} {a : mz_V} {v : Value} (h : mz_g X ρ a v) (hi : mz_isR a = true) : ∃ x : Nat, v = .ref x := by
  rcases a with x | x | r | r | r | f | n
  · simp [mz_isR] at hi
  · simp [mz_isR] at hi
  · rcases r with _ | k
    · simp [mz_isR] at hi
    · obtain ⟨q, -, hq⟩ := h
      exact ⟨q, hq⟩
  · simp [mz_isR] at hi
  · simp [mz_isR] at hi
  · simp [mz_isR] at hi
  · exact ⟨_, h⟩
theorem mz_cat_ok {X : Nat → Nat} {ρ : List Nat} {a : mz_V} {v : Value} (h : mz_g X ρ a v) : v.category = mz_cat a := by
  rcases a with x | x | r | r | r | f | n
  · cases h; rfl
  · cases h; rfl
  · rcases r with _ | k
    · cases h; rfl
    · obtain ⟨q, -, hq⟩ := h
      cases hq; rfl
  · obtain ⟨x, hx, -⟩ := h
    cases hx; rfl
  · obtain ⟨x, hx, -⟩ := h
    cases hx; rfl
  · obtain ⟨x, hx, -⟩ := h
    cases hx; rfl
  · cases h; rfl
theorem mz_g_mono {X : Nat → Nat} {ρ ρ' : List Nat} {a : mz_V} {v : Value} (hp : ∀ (k q : Nat), ρ[k]? = some q → ρ'[k]? = some q) (h : mz_g X ρ a v) : mz_g X ρ' a v := by
  rcases a with x | x | r | r | r | f | n
  · exact h
  · exact h
  · rcases r with _ | k
    · exact h
    · obtain ⟨q, hq, hv⟩ := h
      exact ⟨q, hp k q hq, hv⟩
  · exact h
  · exact h
  · exact h
  · exact h
/-- bounds of an int, of a long -/
def mz_bi (a : mz_V) : Option (Int × Int) := match a with
  | .inl x => some (x.toInt, x.toInt)
  | .inr (.inr (.inr (.inl r))) => some r
  | _ => none
def mz_bl (a : mz_V) : Option (Int × Int) := match a with
  | .inr (.inl x) => some (x.toInt, x.toInt)
  | .inr (.inr (.inr (.inr (.inl r)))) => some r
  | _ => none
theorem mz_bi_ok {X : Nat → Nat} {ρ : List Nat} {a : mz_V} {v : Value} {r : Int × Int} (h : mz_g X ρ a v) (hi : mz_bi a = some r) : ∃ x : Int32, v = .int x ∧ r.1 ≤ x.toInt ∧ x.toInt ≤ r.2 := by
  rcases a with x | x | q | q | q | f | n
  · simp only [mz_bi, Option.some.injEq] at hi
    subst hi
    exact ⟨x, h, Int.le_refl _, Int.le_refl _⟩
  · simp [mz_bi] at hi
  · simp [mz_bi] at hi
  · simp only [mz_bi, Option.some.injEq] at hi
    subst hi
    exact h
  · simp [mz_bi] at hi
  · simp [mz_bi] at hi
  · simp [mz_bi] at hi
theorem mz_bl_ok {X : Nat → Nat} {ρ : List Nat} {a : mz_V} {v : Value} {r : Int × Int} (h : mz_g X ρ a v) (hi : mz_bl a = some r) : ∃ x : Int64, v = .long x ∧ r.1 ≤ x.toInt ∧ x.toInt ≤ r.2 := by
  rcases a with x | x | q | q | q | f | n
  · simp [mz_bl] at hi
  · simp only [mz_bl, Option.some.injEq] at hi
    subst hi
    exact ⟨x, h, Int.le_refl _, Int.le_refl _⟩
  · simp [mz_bl] at hi
  · simp [mz_bl] at hi
  · simp only [mz_bl, Option.some.injEq] at hi
    subst hi
    exact h
  · simp [mz_bl] at hi
  · simp [mz_bl] at hi
/-- any int, any long -/
def mz_anyI : mz_V := .inr (.inr (.inr (.inl (-2147483648, 2147483647))))
def mz_anyL : mz_V := .inr (.inr (.inr (.inr (.inl (-9223372036854775808, 9223372036854775807)))))
theorem mz_anyI_ok {X : Nat → Nat} {ρ : List Nat} (x : Int32) : mz_g X ρ mz_anyI (.int x) := by
  refine ⟨x, rfl, ?_, ?_⟩
  · have := Int32.le_toInt x
    simpa using this
  · have := Int32.toInt_lt x
    show x.toInt ≤ 2147483647
    omega
theorem mz_anyL_ok {X : Nat → Nat} {ρ : List Nat} (x : Int64) : mz_g X ρ mz_anyL (.long x) := by
  refine ⟨x, rfl, ?_, ?_⟩
  · have := Int64.le_toInt x
    simpa using this
  · have := Int64.toInt_lt x
    show x.toInt ≤ 9223372036854775807
    omega
/-! the stack, the locals, the world -/
def mz_sk (X : Nat → Nat) (ρ : List Nat) : List mz_V → List Value → Prop
  | [], vs => vs = []
  | a :: as, vs => ∃ (v : Value) (vs' : List Value), vs = v :: vs' ∧ mz_g X ρ a v ∧ mz_sk X ρ as vs'
theorem mz_sk_mono {X : Nat → Nat} {ρ ρ' : List Nat} (hp : ∀ (k q : Nat), ρ[k]? = some q → ρ'[k]? = some q) : ∀ (as : List mz_V) (vs : List Value), mz_sk X ρ as vs → mz_sk X ρ' as vs
  | [], _, h => h
  | _ :: as, _, ⟨v, vs', h1, h2, h3⟩ => ⟨v, vs', h1, mz_g_mono hp h2, mz_sk_mono hp as vs' h3⟩
theorem mz_sk_len {X : Nat → Nat} {ρ : List Nat} : ∀ (as : List mz_V) (vs : List Value), mz_sk X ρ as vs → vs.length = as.length
  | [], _, h => by cases h; rfl
  | _ :: as, _, ⟨v, vs', h1, _, h3⟩ => by cases h1; simp [mz_sk_len as vs' h3]
theorem mz_sk_get {X : Nat → Nat} {ρ : List Nat} : ∀ (as : List mz_V) (vs : List Value), mz_sk X ρ as vs → ∀ (k : Nat) (a : mz_V), as[k]? = some a → ∃ v, vs[k]? = some v ∧ mz_g X ρ a v
  | [], _, _, k, a, hk => by simp at hk
  | b :: as, _, ⟨v, vs', h1, h2, h3⟩, k, a, hk => by
    cases h1
    cases k with
    | zero =>
      simp only [List.getElem?_cons_zero, Option.some.injEq] at hk
      subst hk
      exact ⟨v, rfl, h2⟩
    | succ k =>
      simp only [List.getElem?_cons_succ] at hk ⊢
      exact mz_sk_get as vs' h3 k a hk
theorem mz_sk_set {X : Nat → Nat} {ρ : List Nat} {a : mz_V} {w : Value} (hg : mz_g X ρ a w) : ∀ (as : List mz_V) (vs : List Value) (k : Nat), mz_sk X ρ as vs → mz_sk X ρ (as.set k a) (vs.set k w)
  | [], _, k, h => by cases h; exact rfl
  | b :: as, _, k, ⟨v, vs', h1, h2, h3⟩ => by
    cases h1
    cases k with
    | zero => exact ⟨w, vs', rfl, hg, h3⟩
    | succ k => exact ⟨v, vs'.set k w, rfl, h2, mz_sk_set hg as vs' k h3⟩
theorem mz_sk_cats {X : Nat → Nat} {ρ : List Nat} : ∀ (as : List mz_V) (vs : List Value), mz_sk X ρ as vs → (vs.map fun v => v.category).sum = (as.map mz_cat).sum
  | [], _, h => by cases h; rfl
  | _ :: as, _, ⟨v, vs', h1, h2, h3⟩ => by
    cases h1
    simp only [List.map_cons, List.sum_cons, mz_cat_ok h2, mz_sk_cats as vs' h3]
theorem mz_sk_app {X : Nat → Nat} {ρ : List Nat} : ∀ (as bs : List mz_V) (vs : List Value), mz_sk X ρ (as ++ bs) vs → ∃ v1 v2, vs = v1 ++ v2 ∧ mz_sk X ρ as v1 ∧ mz_sk X ρ bs v2
  | [], bs, vs, h => ⟨[], vs, rfl, rfl, h⟩
  | a :: as, bs, _, ⟨v, vs', h1, h2, h3⟩ => by
    obtain ⟨v1, v2, e, g1, g2⟩ := mz_sk_app as bs vs' h3
    subst e
    exact ⟨v :: v1, v2, h1, ⟨v, v1, rfl, h2, g1⟩, g2⟩
theorem mz_sk_join {X : Nat → Nat} {ρ : List Nat} : ∀ (as bs : List mz_V) (v1 v2 : List Value), mz_sk X ρ as v1 → mz_sk X ρ bs v2 → mz_sk X ρ (as ++ bs) (v1 ++ v2)
  | [], _, _, _, h, g => by cases h; exact g
  | _ :: as, bs, _, v2, ⟨v, vs', h1, h2, h3⟩, g => by
    cases h1
    exact ⟨v, vs' ++ v2, rfl, h2, mz_sk_join as bs vs' v2 h3 g⟩
theorem mz_sk_rev {X : Nat → Nat} {ρ : List Nat} : ∀ (as : List mz_V) (vs : List Value), mz_sk X ρ as vs → mz_sk X ρ as.reverse vs.reverse
  | [], _, h => by cases h; exact rfl
  | a :: as, _, ⟨v, vs', h1, h2, h3⟩ => by
    cases h1
    simp only [List.reverse_cons]
    exact mz_sk_join _ _ _ _ (mz_sk_rev as vs' h3) ⟨v, [], rfl, h2, rfl⟩
def mz_lk (l : List (Nat × mz_V)) (i : Nat) : Option mz_V := match l with
  | [] => none
  | q :: r => bif Nat.beq q.1 i then some q.2 else mz_lk r i
def mz_lv (X : Nat → Nat) (ρ : List Nat) (nL : Nat) (st : List (Nat × mz_V)) (ls : Array Slot) : Prop := ∃ tr : List (Nat × mz_V × Value), tr.map (fun t => (t.1, t.2.1)) = st ∧ lv_has ls nL (tr.map fun t => (t.1, t.2.2)) ∧ ∀ t ∈ tr, mz_g X ρ t.2.1 t.2.2
theorem mz_lv_mono {X : Nat → Nat} {ρ ρ' : List Nat} {nL : Nat} {st : List (Nat × mz_V)} {ls : Array Slot} (hp : ∀ (k q : Nat), ρ[k]? = some q → ρ'[k]? = some q) (h : mz_lv X ρ nL st ls) : mz_lv X ρ' nL st ls := by
  obtain ⟨tr, h1, h2, h3⟩ := h
  exact ⟨tr, h1, h2, fun t ht => mz_g_mono hp (h3 t ht)⟩
theorem mz_lk_mem : ∀ (l : List (Nat × mz_V)) (i : Nat) (a : mz_V), mz_lk l i = some a → (i, a) ∈ l
  | [], i, a, h => by simp [mz_lk] at h
  | q :: r, i, a, h => by
    unfold mz_lk at h
    cases hq : Nat.beq q.1 i with
    | true =>
      rw [hq] at h
      simp only [cond_true, Option.some.injEq] at h
      have := Nat.eq_of_beq_eq_true hq
      subst this
      subst h
      exact List.mem_cons_self
    | false =>
      rw [hq] at h
      exact List.mem_cons_of_mem _ (mz_lk_mem r i a h)
theorem mz_lv_at {X : Nat → Nat} {ρ : List Nat} {nL : Nat} {st : List (Nat × mz_V)} {ls : Array Slot} (h : mz_lv X ρ nL st ls) {i : Nat} {a : mz_V} (hk : mz_lk st i = some a) : ∃ v, ls[i]? = some (.val v) ∧ mz_g X ρ a v := by
  obtain ⟨tr, h1, h2, h3⟩ := h
  have hm := mz_lk_mem st i a hk
  rw [← h1] at hm
  obtain ⟨t, ht, he⟩ := List.mem_map.mp hm
  cases he
  exact ⟨t.2.2, h2.2.2 (t.1, t.2.2) (List.mem_map.mpr ⟨t, ht, rfl⟩), h3 t ht⟩
def mz_p1 (i : Nat) (q : Nat × mz_V) : Bool := !(q.1 == i) && !(q.1 + 1 == i && mz_cat q.2 == 2)
def mz_p2 (i : Nat) (q : Nat × mz_V) : Bool := !(q.1 == i) && (!(q.1 == i + 1) && !(q.1 + 1 == i && mz_cat q.2 == 2))
theorem mz_filter {X : Nat → Nat} {ρ : List Nat} (P : Nat × mz_V → Bool) (Q : Nat × Value → Bool) : ∀ (tr : List (Nat × mz_V × Value)), (∀ t ∈ tr, P (t.1, t.2.1) = Q (t.1, t.2.2)) → (∀ t ∈ tr, mz_g X ρ t.2.1 t.2.2) → ∃ tr' : List (Nat × mz_V × Value), tr'.map (fun t => (t.1, t.2.1)) = (tr.map (fun t => (t.1, t.2.1))).filter P ∧ tr'.map (fun t => (t.1, t.2.2)) = (tr.map (fun t => (t.1, t.2.2))).filter Q ∧ ∀ t ∈ tr', mz_g X ρ t.2.1 t.2.2
  | [], _, _ => ⟨[], rfl, rfl, fun t h => by cases h⟩
  | t :: tr, h, hg => by
    obtain ⟨tr', h1, h2, h3⟩ := mz_filter P Q tr (fun t ht => h t (List.mem_cons_of_mem _ ht)) (fun t ht => hg t (List.mem_cons_of_mem _ ht))
    have h0 := h t List.mem_cons_self
    cases hp : P (t.1, t.2.1) with
    | true =>
      have hq : Q (t.1, t.2.2) = true := by rw [← h0]; exact hp
      refine ⟨t :: tr', ?_, ?_, ?_⟩
      · simp only [List.map_cons, List.filter_cons, hp, if_true, h1]
      · simp only [List.map_cons, List.filter_cons, hq, if_true, h2]
      · intro q hq'
        rcases List.mem_cons.mp hq' with rfl | hq'
        · exact hg _ List.mem_cons_self
        · exact h3 q hq'
    | false =>
      have hq : Q (t.1, t.2.2) = false := by rw [← h0]; exact hp
      refine ⟨tr', ?_, ?_, h3⟩
      · simp only [List.map_cons, List.filter_cons, hp, h1]
        simp
      · simp only [List.map_cons, List.filter_cons, hq, h2]
        simp
theorem mz_lv_put1 {X : Nat → Nat} {ρ : List Nat} {nL i : Nat} {st : List (Nat × mz_V)} {ls : Array Slot} {a : mz_V} {v : Value} (h : mz_lv X ρ nL st ls) (hg : mz_g X ρ a v) : ∃ lv : List (Nat × Value), lv_has ls nL lv ∧ ∀ ls' : Array Slot, lv_has ls' nL ((i, v) :: lv.filter (fun q => !(q.1 == i) && !(q.1 + 1 == i && q.2.category == 2))) → mz_lv X ρ nL ((i, a) :: st.filter (mz_p1 i)) ls' := by
  obtain ⟨tr, h1, h2, h3⟩ := h
  refine ⟨_, h2, fun ls' h' => ?_⟩
  obtain ⟨tr', e1, e2, e3⟩ := mz_filter (mz_p1 i) (fun q => !(q.1 == i) && !(q.1 + 1 == i && q.2.category == 2)) tr (fun t ht => by simp only [mz_p1, mz_cat_ok (h3 t ht)]) h3
  refine ⟨(i, a, v) :: tr', ?_, ?_, ?_⟩
  · simp only [List.map_cons, e1, h1]
  · simp only [List.map_cons, e2]
    exact h'
  · intro t ht
    rcases List.mem_cons.mp ht with rfl | ht
    · exact hg
    · exact e3 t ht
theorem mz_lv_put2 {X : Nat → Nat} {ρ : List Nat} {nL i : Nat} {st : List (Nat × mz_V)} {ls : Array Slot} {a : mz_V} {v : Value} (h : mz_lv X ρ nL st ls) (hg : mz_g X ρ a v) : ∃ lv : List (Nat × Value), lv_has ls nL lv ∧ ∀ ls' : Array Slot, lv_has ls' nL ((i, v) :: lv.filter (fun q => !(q.1 == i) && (!(q.1 == i + 1) && !(q.1 + 1 == i && q.2.category == 2)))) → mz_lv X ρ nL ((i, a) :: st.filter (mz_p2 i)) ls' := by
  obtain ⟨tr, h1, h2, h3⟩ := h
  refine ⟨_, h2, fun ls' h' => ?_⟩
  obtain ⟨tr', e1, e2, e3⟩ := mz_filter (mz_p2 i) (fun q => !(q.1 == i) && (!(q.1 == i + 1) && !(q.1 + 1 == i && q.2.category == 2))) tr (fun t ht => by simp only [mz_p2, mz_cat_ok (h3 t ht)]) h3
  refine ⟨(i, a, v) :: tr', ?_, ?_, ?_⟩
  · simp only [List.map_cons, e1, h1]
  · simp only [List.map_cons, e2]
    exact h'
  · intro t ht
    rcases List.mem_cons.mp ht with rfl | ht
    · exact hg
    · exact e3 t ht
/-- an array's place, read and written -/
def mz_ag (l : List (Nat × mz_V)) (j : Nat) : mz_V := match mz_lk l j with
  | some a => a
  | none => .inl 0
def mz_as (l : List (Nat × mz_V)) (j : Nat) (a : mz_V) : List (Nat × mz_V) := match l with
  | [] => [(j, a)]
  | q :: r => bif Nat.beq q.1 j then (j, a) :: r else q :: mz_as r j a
theorem mz_lk_as : ∀ (l : List (Nat × mz_V)) (j k : Nat) (a : mz_V), mz_lk (mz_as l j a) k = if k = j then some a else mz_lk l k
  | [], j, k, a => by
    unfold mz_as mz_lk mz_lk
    by_cases h : k = j
    · subst h
      simp
    · have : Nat.beq j k = false := by
        cases hb : Nat.beq j k
        · rfl
        · exact absurd (Nat.eq_of_beq_eq_true hb).symm h
      simp [this, h]
  | q :: r, j, k, a => by
    unfold mz_as
    cases hq : Nat.beq q.1 j with
    | true =>
      have e := Nat.eq_of_beq_eq_true hq
      simp only [cond_true]
      by_cases h : k = j
      · subst h
        simp [mz_lk]
      · have hb : Nat.beq j k = false := by
          cases hb : Nat.beq j k
          · rfl
          · exact absurd (Nat.eq_of_beq_eq_true hb).symm h
        rw [if_neg h]
        rw [mz_lk, mz_lk, e]
        simp only [hb, cond_false]
    | false =>
      simp only [cond_false]
      by_cases h : k = j
      · subst h
        rw [if_pos rfl, mz_lk]
        simp only [hq, cond_false]
        rw [mz_lk_as r k k a, if_pos rfl]
      · rw [if_neg h, mz_lk, mz_lk, mz_lk_as r j k a, if_neg h]
theorem mz_ag_as (l : List (Nat × mz_V)) (j k : Nat) (a : mz_V) : mz_ag (mz_as l j a) k = if k = j then a else mz_ag l k := by
  unfold mz_ag
  rw [mz_lk_as]
  by_cases h : k = j
  · simp [h]
  · simp [h]
/-- the world: its arrays' class, its cells one by one -/
abbrev mz_E : Type := (Nat → Nat) × va_G × ClassId × ClassId × (Nat → Int32)
def mz_ac (G : mz_E) (b : Bool) : ClassId := match b with
  | true => G.2.2.2.1
  | false => G.2.2.1
def mz_ce (G : mz_E) (ρ : List Nat) (c : mz_C) (e : va_E) : Prop := match c with
  | .inl r => ∃ f : Nat → Int32, e = .inl (mz_ac G r.1, r.2.1, .inl f) ∧ ∀ j : Nat, j < r.2.1 → mz_g G.1 ρ (mz_ag r.2.2 j) (.int (f j))
  | .inr o => ∃ vs : List Value, e = .inr (o.1, vs) ∧ mz_sk G.1 ρ o.2 vs
theorem mz_ce_mono {G : mz_E} {ρ ρ' : List Nat} {c : mz_C} {e : va_E} (hp : ∀ (k q : Nat), ρ[k]? = some q → ρ'[k]? = some q) (h : mz_ce G ρ c e) : mz_ce G ρ' c e := by
  cases c with
  | inl r =>
    obtain ⟨f, h1, h2⟩ := h
    exact ⟨f, h1, fun j hj => mz_g_mono hp (h2 j hj)⟩
  | inr o =>
    obtain ⟨vs, h1, h2⟩ := h
    exact ⟨vs, h1, mz_sk_mono hp _ _ h2⟩
def mz_wd (G : mz_E) (w : List mz_C) (cw : va_W) : Prop := w.length = cw.length ∧ ∀ (k : Nat) (c : mz_C) (q : Nat × va_E), w[k]? = some c → cw[k]? = some q → mz_ce G (cw.map Prod.fst) c q.2
theorem mz_wd_at {G : mz_E} {w : List mz_C} {cw : va_W} (h : mz_wd G w cw) {k : Nat} {c : mz_C} (hk : w[k]? = some c) : ∃ q, cw[k]? = some q ∧ (cw.map Prod.fst)[k]? = some q.1 ∧ mz_ce G (cw.map Prod.fst) c q.2 := by
  have hl : k < cw.length := by rw [← h.1]; exact (List.getElem?_eq_some_iff.mp hk).1
  have hq : cw[k]? = some cw[k] := List.getElem?_eq_getElem hl
  exact ⟨cw[k], hq, by rw [List.getElem?_map, hq]; rfl, h.2 k c _ hk hq⟩
theorem mz_fst_set {cw : va_W} {k a : Nat} {e0 e : va_E} (h : cw[k]? = some (a, e0)) : (cw.set k (a, e)).map Prod.fst = cw.map Prod.fst := by
  apply List.ext_getElem?
  intro j
  rw [List.getElem?_map, List.getElem?_map]
  by_cases hj : k = j
  · subst hj
    rw [List.getElem?_set_self (List.getElem?_eq_some_iff.mp h).1, h]
    rfl
  · rw [List.getElem?_set_ne hj]
theorem mz_wd_set {G : mz_E} {w : List mz_C} {cw : va_W} (h : mz_wd G w cw) {k a : Nat} {c : mz_C} {e0 e : va_E} (hk : cw[k]? = some (a, e0)) (hc : mz_ce G (cw.map Prod.fst) c e) : mz_wd G (w.set k c) (cw.set k (a, e)) := by
  refine ⟨by simp [h.1], fun j c' q hj hq => ?_⟩
  rw [mz_fst_set hk]
  have hl := (List.getElem?_eq_some_iff.mp hk).1
  by_cases hj' : k = j
  · subst hj'
    rw [List.getElem?_set_self hl] at hq
    rw [List.getElem?_set_self (by rw [h.1]; exact hl)] at hj
    cases hq
    cases hj
    exact hc
  · rw [List.getElem?_set_ne hj'] at hq hj
    exact h.2 j c' q hj hq
theorem mz_pre_app (ρ δ : List Nat) : ∀ (k q : Nat), ρ[k]? = some q → (ρ ++ δ)[k]? = some q := fun k q h => by
  rw [List.getElem?_append_left (List.getElem?_eq_some_iff.mp h).1]
  exact h
theorem mz_wd_push {G : mz_E} {w : List mz_C} {cw : va_W} (h : mz_wd G w cw) {a : Nat} {c : mz_C} {e : va_E} (hc : mz_ce G (cw.map Prod.fst ++ [a]) c e) : mz_wd G (w ++ [c]) (cw ++ [(a, e)]) := by
  refine ⟨by simp [h.1], fun j c' q hj hq => ?_⟩
  rw [List.map_append]
  by_cases hl : j < cw.length
  · rw [List.getElem?_append_left hl] at hq
    rw [List.getElem?_append_left (by rw [h.1]; exact hl)] at hj
    exact mz_ce_mono (mz_pre_app _ _) (h.2 j c' q hj hq)
  · have hlt : j < cw.length + 1 := by
      have := (List.getElem?_eq_some_iff.mp hq).1
      simpa using this
    have e0 : j = cw.length := by omega
    subst e0
    rw [List.getElem?_append_right (Nat.le_refl _), Nat.sub_self] at hq
    rw [← h.1, List.getElem?_append_right (Nat.le_refl _), Nat.sub_self] at hj
    cases hq
    cases hj
    exact hc
def mz_cs (c : mz_C) : Nat := match c with
  | .inl r => r.2.1
  | .inr o => o.2.length
def mz_sl (w : List mz_C) : Nat := (w.map mz_cs).sum
theorem mz_sl_app (w : List mz_C) (c : mz_C) : mz_sl (w ++ [c]) = mz_sl w + mz_cs c := by simp [mz_sl]
theorem mz_sl_set (w : List mz_C) (k : Nat) (c c' : mz_C) (h : w[k]? = some c) (hc : mz_cs c' = mz_cs c) : mz_sl (w.set k c') = mz_sl w := by
  unfold mz_sl
  congr 1
  apply List.ext_getElem?
  intro j
  rw [List.getElem?_map, List.getElem?_map]
  by_cases hj : k = j
  · subst hj
    rw [List.getElem?_set_self (List.getElem?_eq_some_iff.mp h).1, h]
    simp [hc]
  · rw [List.getElem?_set_ne hj]
