def cv_6a : List mz_V := [.inr (.inr (.inr (.inl (-2147483648, -1)))), .inl 0, .inl 1, .inr (.inr (.inr (.inl (2, 2147483647))))]
def cv_6b : List mz_V := [.inr (.inr (.inr (.inl (-2147483648, -1)))), .inl 0, .inr (.inr (.inr (.inl (1, 998)))), .inl 999, .inr (.inr (.inr (.inl (1000, 2147483647))))]
def cv_6c : List mz_V := [.inr (.inr (.inr (.inl (-2147483648, 2147483647))))]
set_option maxRecDepth 100000 in
theorem ev_6 : (cv_6a.all fun a => cv_6b.all fun b => cv_6c.all fun c => mz_chk [mz_s0 6, a, b, c]) = true := by decide +kernel
theorem cs_6 (xs : Nat → Int32) (h : xs 0 &&& 31 = nI 6) : ∃ E, E.length = 4 ∧ mz_Fit E xs ∧ mz_chk E = true := mz_case (by decide) ev_6 (by decide +kernel) (by decide +kernel) (by decide +kernel) xs h
