/-! ===== Math.min ===== -/
theorem mw_min : Cond.code Lib.Math.min.name Lib.Math.min.code 2 (some .int) ∈ mz_big := mz_w 621 (by decide +kernel) (by decide +kernel)
theorem mw_minS : Cond.static Lib.Math.min.name ∈ mz_big := mz_w 620 (by decide +kernel) (by decide +kernel)
theorem mw_minI : Cond.initialized "java/lang/Math" ∈ mz_big := mz_w 79 (by decide +kernel) (by decide +kernel)
def mz_mn (n : Nat) : mz_S → Option (Nat × mz_S) := fun st => match st.2.1 with
  | .inl y :: .inl x :: r => bif Nat.ble (r.map mz_cat).sum 8 then mz_fi (if y < x then y else x) (fun z => some (n, st.1, .inl z :: r, st.2.2)) else none
  | _ => none
theorem mz_min {E : List mz_V} {M : mz_M} {pc i : Nat} (h1 : 1 ≤ M.2.2.2.2.2.1) (h2 : 22 ≤ M.2.2.2.2.2.2) (w1 : Cond.methodLink M.2.2.2.1 i Lib.Math.min.name ∈ mz_big) (hd : decode M.1 pc = .ok (.invokestatic i, 3)) : mz_ok E M pc (mz_mn (pc + 3)) := by
  have inv : ∀ (st : mz_S) (pc' : Nat) (st' : mz_S), mz_mn (pc + 3) st = some (pc', st') → ∃ y x r, st.2.1 = .inl y :: .inl x :: r ∧ (r.map mz_cat).sum ≤ 8 ∧ pc' = pc + 3 ∧ st' = (st.1, .inl (if y < x then y else x) :: r, st.2.2) := by
    intro st pc' st' h
    unfold mz_mn at h
    split at h
    next y x r hs =>
      cases hb : Nat.ble (r.map mz_cat).sum 8 with
      | false => simp only [hb] at h; cases h
      | true =>
        simp only [hb, cond_true] at h
        rw [mz_fi_eq] at h
        cases h
        exact ⟨y, x, r, hs, Nat.le_of_ble_eq_true hb, rfl, rfl⟩
    next => cases h
  intro st pc' st' h
  obtain ⟨y, x, r, g1, g2, rfl, rfl⟩ := inv st pc' st' h
  refine ⟨⟨Nat.le_refl _, Nat.le_refl _⟩, ?_⟩
  intro G p l e R s m args below meth c A ls stk cw H locs cells slots Q hc hr b1 b2 kk
  simp only [Nat.sub_self, Nat.add_zero] at b1 b2 kk
  have hs := hr.2.1
  rw [g1] at hs
  obtain ⟨vy, _, rfl, gy, vx, vs, rfl, gx, hs⟩ := hs
  have gy : vy = .int y := gy
  have gx : vx = .int x := gx
  subst gy
  subst gx
  have hts := hc.2.2.2.2.2.2.2.2.2.1
  obtain ⟨tr, t1, t2, t3⟩ := id hr.1
  exact va_mmin hc.1 hc.2.1 (hc.2.2.1.trans t2.1.symm) hc.2.2.2.2.1 (hts _ w1) (hts _ mw_minS) (hts _ mw_minI) (hts _ mw_min) (by rw [hc.2.2.2.2.2.2.1]; exact h1) (by rw [hc.2.2.2.2.2.2.2.1, mz_sk_cats _ _ hs]; omega) b1 b2 hd (kk ls _ cw H locs ⟨hr.1, ⟨_, vs, rfl, rfl, hs⟩, hr.2.2⟩ (fun _ _ h => h))
