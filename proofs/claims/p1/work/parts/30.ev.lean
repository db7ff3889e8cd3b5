def cv_13a : List mz_V := [.inr (.inr (.inr (.inl (-2147483648, 0)))), .inl 1, .inl 2, .inl 3, .inl 4, .inl 5, .inl 6, .inl 7, .inl 8, .inl 9, .inr (.inr (.inr (.inl (10, 2147483647))))]
def cv_13b : List mz_V := [.inr (.inr (.inr (.inl (-2147483648, -1)))), .inl 0, .inl 1, .inl 2, .inr (.inr (.inr (.inl (3, 2147483647))))]
def cv_13c : List mz_V := [.inr (.inr (.inr (.inl (-2147483648, 2147483647))))]
set_option maxRecDepth 100000 in
theorem ev_13 : (cv_13a.all fun a => cv_13b.all fun b => cv_13c.all fun c => mz_chk [mz_s0 13, a, b, c]) = true := by decide +kernel
theorem cs_13 (xs : Nat → Int32) (h : xs 0 &&& 31 = nI 13) : ∃ E, E.length = 4 ∧ mz_Fit E xs ∧ mz_chk E = true := mz_case (by decide) ev_13 (by decide +kernel) (by decide +kernel) (by decide +kernel) xs h
