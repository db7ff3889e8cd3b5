def cv_5a : List mz_V := [.inr (.inr (.inr (.inl (-2147483648, -1)))), .inl 0, .inl 1, .inr (.inr (.inr (.inl (2, 2147483647))))]
def cv_5b : List mz_V := [.inr (.inr (.inr (.inl (-2147483648, -1)))), .inl 0, .inl 1, .inl 2, .inr (.inr (.inr (.inl (3, 2147483647))))]
def cv_5c : List mz_V := [.inr (.inr (.inr (.inl (-2147483648, 2147483647))))]
set_option maxRecDepth 100000 in
theorem ev_5 : (cv_5a.all fun a => cv_5b.all fun b => cv_5c.all fun c => mz_chk [mz_s0 5, a, b, c]) = true := by decide +kernel
theorem cs_5 (xs : Nat → Int32) (h : xs 0 &&& 31 = nI 5) : ∃ E, E.length = 4 ∧ mz_Fit E xs ∧ mz_chk E = true := mz_case (by decide) ev_5 (by decide +kernel) (by decide +kernel) (by decide +kernel) xs h
