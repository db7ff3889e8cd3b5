/-! ===== what is to be reckoned for a script, and that every script is one of those ===== -/
def mz_fin (o : Option mz_S) : Bool := match o with
  | none => false
  | some st => match st.2.1 with
    | [.inl x] => x == 1 && (Nat.ble st.2.2.length 1000 && Nat.ble (mz_sl st.2.2) 1000000)
    | _ => false
noncomputable def mz_chk (E : List mz_V) : Bool := mz_fin (mz_runT (tb_L E) 801 100 16 mz_st1)
theorem mz_chk_ok {E : List mz_V} (h : mz_chk E = true) : ∃ st : mz_S, mz_runT (tb_L E) 801 100 16 mz_st1 = some st ∧ st.2.1 = [.inl 1] ∧ st.2.2.length ≤ 1000 ∧ mz_sl st.2.2 ≤ 1000000 := by
  unfold mz_chk at h
  cases hr : mz_runT (tb_L E) 801 100 16 mz_st1 with
  | none => rw [hr] at h; cases h
  | some st =>
    rw [hr] at h
    unfold mz_fin at h
    simp only at h
    split at h
    next x hs =>
      simp only [Bool.and_eq_true, beq_iff_eq] at h
      obtain ⟨rfl, h1, h2⟩ := h
      exact ⟨st, rfl, hs, Nat.le_of_ble_eq_true h1, Nat.le_of_ble_eq_true h2⟩
    next => cases h
def mz_s0 (j : Nat) : mz_V := .inr (.inr (.inr (.inr (.inr (.inl (none, [(none, 31, (j : Int), (j : Int))]))))))
def mz_cvr (lo : Int) (C : List mz_V) : Bool := match C with
  | [] => lo == 2147483648
  | a :: r => match mz_bi a with
    | some b => b.1 == lo && mz_cvr (b.2 + 1) r
    | none => false
theorem mz_in_of {X : Nat → Nat} {ρ : List Nat} {a : mz_V} {b : Int × Int} {x : Int32} (h : mz_bi a = some b) (h1 : b.1 ≤ x.toInt) (h2 : x.toInt ≤ b.2) : mz_g X ρ a (.int x) := by
  rcases a with y | y | q | q | q | f | n
  · simp only [mz_bi, Option.some.injEq] at h
    subst h
    have e : x = y := Int32.toInt_inj.mp (by simp only at h1 h2; omega)
    subst e
    exact rfl
  · simp [mz_bi] at h
  · simp [mz_bi] at h
  · simp only [mz_bi, Option.some.injEq] at h
    subst h
    exact ⟨x, rfl, h1, h2⟩
  · simp [mz_bi] at h
  · simp [mz_bi] at h
  · simp [mz_bi] at h
theorem mz_cvr_ok : ∀ (C : List mz_V) (lo : Int), mz_cvr lo C = true → ∀ x : Int32, lo ≤ x.toInt → ∃ a ∈ C, ∀ (X : Nat → Nat) (ρ : List Nat), mz_g X ρ a (.int x)
  | [], lo, h, x, hx => by
    unfold mz_cvr at h
    have e : lo = 2147483648 := by simpa using h
    have := Int32.toInt_lt x
    omega
  | a :: r, lo, h, x, hx => by
    unfold mz_cvr at h
    split at h
    next b hb =>
      rw [Bool.and_eq_true] at h
      have e : b.1 = lo := by simpa using h.1
      by_cases hle : x.toInt ≤ b.2
      · exact ⟨a, List.mem_cons_self, fun X ρ => mz_in_of hb (by omega) hle⟩
      · obtain ⟨a', h1, h2⟩ := mz_cvr_ok r (b.2 + 1) h.2 x (by omega)
        exact ⟨a', List.mem_cons_of_mem _ h1, h2⟩
    next => cases h
theorem mz_cv {C : List mz_V} (h : mz_cvr (-2147483648) C = true) (x : Int32) : ∃ a ∈ C, ∀ (X : Nat → Nat) (ρ : List Nat), mz_g X ρ a (.int x) := mz_cvr_ok C _ h x (by have := Int32.le_toInt x; simpa using this)
def mz_Fit (E : List mz_V) (xs : Nat → Int32) : Prop := ∀ (j : Nat) (a : mz_V), E[j]? = some a → ∀ X : Nat → Nat, mz_g X [] a (.int (xs j))
theorem mz_s0_ok {j : Nat} (hj : j < 32) {x : Int32} (h : x &&& 31 = nI j) (X : Nat → Nat) (ρ : List Nat) : mz_g X ρ (mz_s0 j) (.int x) := by
  refine ⟨x, rfl, fun q hq => ?_⟩
  have hq : q = (none, 31, (j : Int), (j : Int)) := by simpa [mz_s0] using hq
  subst hq
  show (j : Int) ≤ (x &&& 31).toInt ∧ (x &&& 31).toInt ≤ (j : Int)
  rw [h, nI_toInt (by omega)]
  exact ⟨Int.le_refl _, Int.le_refl _⟩
theorem mz_fit4 {j : Nat} (hj : j < 32) {xs : Nat → Int32} (h0 : xs 0 &&& 31 = nI j) {a b c : mz_V} (ha : ∀ (X : Nat → Nat) (ρ : List Nat), mz_g X ρ a (.int (xs 1))) (hb : ∀ (X : Nat → Nat) (ρ : List Nat), mz_g X ρ b (.int (xs 2))) (hc : ∀ (X : Nat → Nat) (ρ : List Nat), mz_g X ρ c (.int (xs 3))) : mz_Fit [mz_s0 j, a, b, c] xs := by
  intro k v hk X
  rcases k with _ | _ | _ | _ | k
  · simp only [List.getElem?_cons_zero, Option.some.injEq] at hk
    subst hk
    exact mz_s0_ok hj h0 X _
  · simp only [List.getElem?_cons_zero, List.getElem?_cons_succ, Option.some.injEq] at hk
    subst hk
    exact ha X _
  · simp only [List.getElem?_cons_zero, List.getElem?_cons_succ, Option.some.injEq] at hk
    subst hk
    exact hb X _
  · simp only [List.getElem?_cons_zero, List.getElem?_cons_succ, Option.some.injEq] at hk
    subst hk
    exact hc X _
  · simp at hk
theorem mz_case {j : Nat} (hj : j < 32) {A B C : List mz_V} (h : (A.all fun a => B.all fun b => C.all fun c => mz_chk [mz_s0 j, a, b, c]) = true) (ha : mz_cvr (-2147483648) A = true) (hb : mz_cvr (-2147483648) B = true) (hc : mz_cvr (-2147483648) C = true) (xs : Nat → Int32) (h0 : xs 0 &&& 31 = nI j) : ∃ E, E.length = 4 ∧ mz_Fit E xs ∧ mz_chk E = true := by
  obtain ⟨a, a1, a2⟩ := mz_cv ha (xs 1)
  obtain ⟨b, b1, b2⟩ := mz_cv hb (xs 2)
  obtain ⟨c, c1, c2⟩ := mz_cv hc (xs 3)
  exact ⟨[mz_s0 j, a, b, c], rfl, mz_fit4 hj h0 a2 b2 c2, List.all_eq_true.mp (List.all_eq_true.mp (List.all_eq_true.mp h a a1) b b1) c c1⟩
/-! a row of sparks: its first part that isn't 0, if there is one among the first n -/
def mz_rw : Nat → Nat → List (Option Int32 × Int32 × Int × Int) → List mz_V
  | 0, _, F => [.inr (.inr (.inr (.inr (.inr (.inl (none, F))))))]
  | n + 1, i, F => .inr (.inr (.inr (.inr (.inr (.inl (none, (some (Int32.ofNat (4 * i)), 15, 1, 15) :: F)))))) :: mz_rw n (i + 1) ((some (Int32.ofNat (4 * i)), 15, 0, 0) :: F)
theorem mz_and15 (y : Int32) : 0 ≤ (y &&& 15).toInt ∧ (y &&& 15).toInt ≤ 15 := by
  obtain ⟨k, hk, e⟩ := pk_andE y (m := 15) 4 (by decide)
  have hk : k < 16 := hk
  rw [e, nI_toInt (by omega)]
  omega
theorem mz_rw_ok (x : Int32) : ∀ (n i : Nat) (F : List (Option Int32 × Int32 × Int × Int)), mz_fc F x → ∃ a ∈ mz_rw n i F, ∀ (X : Nat → Nat) (ρ : List Nat), mz_g X ρ a (.int x)
  | 0, i, F, hF => ⟨_, List.mem_cons_self, fun X ρ => ⟨x, rfl, hF⟩⟩
  | n + 1, i, F, hF => by
    have hb := mz_and15 (mz_sh x (some (Int32.ofNat (4 * i))))
    by_cases hz : (mz_sh x (some (Int32.ofNat (4 * i))) &&& 15).toInt = 0
    · obtain ⟨a, h1, h2⟩ := mz_rw_ok x n (i + 1) ((some (Int32.ofNat (4 * i)), 15, 0, 0) :: F) (fun q hq => by
        rcases List.mem_cons.mp hq with rfl | hq
        · exact ⟨by rw [hz]; exact Int.le_refl _, by rw [hz]; exact Int.le_refl _⟩
        · exact hF q hq)
      exact ⟨a, List.mem_cons_of_mem _ h1, h2⟩
    · refine ⟨_, List.mem_cons_self, fun X ρ => ⟨x, rfl, fun q hq => ?_⟩⟩
      rcases List.mem_cons.mp hq with rfl | hq
      · exact ⟨show (1 : Int) ≤ (mz_sh x (some (Int32.ofNat (4 * i))) &&& 15).toInt by omega, hb.2⟩
      · exact hF q hq
def mz_rowsOf (n : mz_V) : List mz_V := match n with
  | .inl y => mz_fn y.toNatClampNeg (fun k => bif Nat.ble k 8 then mz_rw k 0 [] else [mz_anyI])
  | _ => [mz_anyI]
theorem mz_rowsOf_ok (n : mz_V) (x : Int32) : ∃ a ∈ mz_rowsOf n, ∀ (X : Nat → Nat) (ρ : List Nat), mz_g X ρ a (.int x) := by
  unfold mz_rowsOf
  split
  next y =>
    rw [mz_fn_eq]
    cases hb : Nat.ble y.toNatClampNeg 8 with
    | true => exact mz_rw_ok x _ 0 [] (fun q hq => by cases hq)
    | false => exact ⟨mz_anyI, List.mem_cons_self, fun X ρ => mz_anyI_ok x⟩
  next => exact ⟨mz_anyI, List.mem_cons_self, fun X ρ => mz_anyI_ok x⟩
theorem mz_case11 {B C : List mz_V} (h : (B.all fun b => C.all fun c => (mz_rowsOf b).all fun a => mz_chk [mz_s0 11, a, b, c]) = true) (hb : mz_cvr (-2147483648) B = true) (hc : mz_cvr (-2147483648) C = true) (xs : Nat → Int32) (h0 : xs 0 &&& 31 = nI 11) : ∃ E, E.length = 4 ∧ mz_Fit E xs ∧ mz_chk E = true := by
  obtain ⟨b, b1, b2⟩ := mz_cv hb (xs 2)
  obtain ⟨c, c1, c2⟩ := mz_cv hc (xs 3)
  obtain ⟨a, a1, a2⟩ := mz_rowsOf_ok b (xs 1)
  exact ⟨[mz_s0 11, a, b, c], rfl, mz_fit4 (by decide) h0 a2 b2 c2, List.all_eq_true.mp (List.all_eq_true.mp (List.all_eq_true.mp h b b1) c c1) a a1⟩
