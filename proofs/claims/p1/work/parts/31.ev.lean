def cv_14a : List mz_V := [.inr (.inr (.inr (.inl (-2147483648, -1)))), .inl 0, .inl 1, .inr (.inr (.inr (.inl (2, 2147483647))))]
def cv_14b : List mz_V := [.inr (.inr (.inr (.inl (-2147483648, -1)))), .inl 0, .inr (.inr (.inr (.inl (1, 998)))), .inl 999, .inr (.inr (.inr (.inl (1000, 2147483647))))]
def cv_14c : List mz_V := [.inr (.inr (.inr (.inl (-2147483648, 2147483647))))]
set_option maxRecDepth 100000 in
theorem ev_14 : (cv_14a.all fun a => cv_14b.all fun b => cv_14c.all fun c => mz_chk [mz_s0 14, a, b, c]) = true := by decide +kernel
theorem cs_14 (xs : Nat → Int32) (h : xs 0 &&& 31 = nI 14) : ∃ E, E.length = 4 ∧ mz_Fit E xs ∧ mz_chk E = true := mz_case (by decide) ev_14 (by decide +kernel) (by decide +kernel) (by decide +kernel) xs h
