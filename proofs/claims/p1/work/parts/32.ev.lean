def cv_15a : List mz_V := [.inr (.inr (.inr (.inl (-2147483648, -1)))), .inl 0, .inl 1, .inr (.inr (.inr (.inl (2, 2147483647))))]
def cv_15b : List mz_V := [.inr (.inr (.inr (.inl (-2147483648, -2)))), .inl (-1), .inl 0, .inr (.inr (.inr (.inl (1, 2147483647))))]
def cv_15c : List mz_V := [.inr (.inr (.inr (.inl (-2147483648, -1)))), .inl 0, .inl 1, .inr (.inr (.inr (.inl (2, 2147483647))))]
set_option maxRecDepth 100000 in
theorem ev_15 : (cv_15a.all fun a => cv_15b.all fun b => cv_15c.all fun c => mz_chk [mz_s0 15, a, b, c]) = true := by decide +kernel
theorem cs_15 (xs : Nat → Int32) (h : xs 0 &&& 31 = nI 15) : ∃ E, E.length = 4 ∧ mz_Fit E xs ∧ mz_chk E = true := mz_case (by decide) ev_15 (by decide +kernel) (by decide +kernel) (by decide +kernel) xs h
def cv_16a : List mz_V := [.inr (.inr (.inr (.inl (-2147483648, -1)))), .inl 0, .inl 1, .inl 2, .inl 3, .inl 4, .inr (.inr (.inr (.inl (5, 2147483647))))]
def cv_16b : List mz_V := [.inr (.inr (.inr (.inl (-2147483648, 2147483647))))]
def cv_16c : List mz_V := [.inr (.inr (.inr (.inl (-2147483648, 2147483647))))]
set_option maxRecDepth 100000 in
theorem ev_16 : (cv_16a.all fun a => cv_16b.all fun b => cv_16c.all fun c => mz_chk [mz_s0 16, a, b, c]) = true := by decide +kernel
theorem cs_16 (xs : Nat → Int32) (h : xs 0 &&& 31 = nI 16) : ∃ E, E.length = 4 ∧ mz_Fit E xs ∧ mz_chk E = true := mz_case (by decide) ev_16 (by decide +kernel) (by decide +kernel) (by decide +kernel) xs h
