def cv_7a : List mz_V := [.inr (.inr (.inr (.inl (-2147483648, -1)))), .inl 0, .inl 1, .inr (.inr (.inr (.inl (2, 2147483647))))]
def cv_7b : List mz_V := [.inr (.inr (.inr (.inl (-2147483648, 2147483647))))]
def cv_7c : List mz_V := [.inr (.inr (.inr (.inl (-2147483648, 2147483647))))]
set_option maxRecDepth 100000 in
theorem ev_7 : (cv_7a.all fun a => cv_7b.all fun b => cv_7c.all fun c => mz_chk [mz_s0 7, a, b, c]) = true := by decide +kernel
theorem cs_7 (xs : Nat → Int32) (h : xs 0 &&& 31 = nI 7) : ∃ E, E.length = 4 ∧ mz_Fit E xs ∧ mz_chk E = true := mz_case (by decide) ev_7 (by decide +kernel) (by decide +kernel) (by decide +kernel) xs h
def cv_8a : List mz_V := [.inr (.inr (.inr (.inl (-2147483648, -1)))), .inl 0, .inl 1, .inr (.inr (.inr (.inl (2, 2147483647))))]
def cv_8b : List mz_V := [.inr (.inr (.inr (.inl (-2147483648, 2147483647))))]
def cv_8c : List mz_V := [.inr (.inr (.inr (.inl (-2147483648, 2147483647))))]
set_option maxRecDepth 100000 in
theorem ev_8 : (cv_8a.all fun a => cv_8b.all fun b => cv_8c.all fun c => mz_chk [mz_s0 8, a, b, c]) = true := by decide +kernel
theorem cs_8 (xs : Nat → Int32) (h : xs 0 &&& 31 = nI 8) : ∃ E, E.length = 4 ∧ mz_Fit E xs ∧ mz_chk E = true := mz_case (by decide) ev_8 (by decide +kernel) (by decide +kernel) (by decide +kernel) xs h
def cv_9a : List mz_V := [.inr (.inr (.inr (.inl (-2147483648, -1)))), .inl 0, .inl 1, .inl 2, .inl 3, .inl 4, .inr (.inr (.inr (.inl (5, 2147483647))))]
def cv_9b : List mz_V := [.inr (.inr (.inr (.inl (-2147483648, 2147483647))))]
def cv_9c : List mz_V := [.inr (.inr (.inr (.inl (-2147483648, 2147483647))))]
set_option maxRecDepth 100000 in
theorem ev_9 : (cv_9a.all fun a => cv_9b.all fun b => cv_9c.all fun c => mz_chk [mz_s0 9, a, b, c]) = true := by decide +kernel
theorem cs_9 (xs : Nat → Int32) (h : xs 0 &&& 31 = nI 9) : ∃ E, E.length = 4 ∧ mz_Fit E xs ∧ mz_chk E = true := mz_case (by decide) ev_9 (by decide +kernel) (by decide +kernel) (by decide +kernel) xs h
def cv_10a : List mz_V := [.inr (.inr (.inr (.inl (-2147483648, -2)))), .inl (-1), .inl 0, .inr (.inr (.inr (.inl (1, 2147483647))))]
def cv_10b : List mz_V := [.inr (.inr (.inr (.inl (-2147483648, 2147483647))))]
def cv_10c : List mz_V := [.inr (.inr (.inr (.inl (-2147483648, 2147483647))))]
set_option maxRecDepth 100000 in
theorem ev_10 : (cv_10a.all fun a => cv_10b.all fun b => cv_10c.all fun c => mz_chk [mz_s0 10, a, b, c]) = true := by decide +kernel
theorem cs_10 (xs : Nat → Int32) (h : xs 0 &&& 31 = nI 10) : ∃ E, E.length = 4 ∧ mz_Fit E xs ∧ mz_chk E = true := mz_case (by decide) ev_10 (by decide +kernel) (by decide +kernel) (by decide +kernel) xs h
def cv_11b : List mz_V := [.inr (.inr (.inr (.inl (-2147483648, 0)))), .inl 1, .inl 2, .inl 3, .inl 4, .inl 5, .inl 6, .inl 7, .inl 8, .inr (.inr (.inr (.inl (9, 2147483647))))]
def cv_11c : List mz_V := [.inr (.inr (.inr (.inl (-2147483648, -1)))), .inl 0, .inr (.inr (.inr (.inl (1, 2147483647))))]
set_option maxRecDepth 100000 in
theorem ev_11 : (cv_11b.all fun b => cv_11c.all fun c => (mz_rowsOf b).all fun a => mz_chk [mz_s0 11, a, b, c]) = true := by decide +kernel
theorem cs_11 (xs : Nat → Int32) (h : xs 0 &&& 31 = nI 11) : ∃ E, E.length = 4 ∧ mz_Fit E xs ∧ mz_chk E = true := mz_case11 ev_11 (by decide +kernel) (by decide +kernel) xs h
def cv_12a : List mz_V := [.inr (.inr (.inr (.inl (-2147483648, -1)))), .inl 0, .inl 1, .inr (.inr (.inr (.inl (2, 2147483647))))]
def cv_12b : List mz_V := [.inr (.inr (.inr (.inl (-2147483648, -2)))), .inl (-1), .inl 0, .inr (.inr (.inr (.inl (1, 2147483647))))]
def cv_12c : List mz_V := [.inr (.inr (.inr (.inl (-2147483648, 2147483647))))]
set_option maxRecDepth 100000 in
theorem ev_12 : (cv_12a.all fun a => cv_12b.all fun b => cv_12c.all fun c => mz_chk [mz_s0 12, a, b, c]) = true := by decide +kernel
theorem cs_12 (xs : Nat → Int32) (h : xs 0 &&& 31 = nI 12) : ∃ E, E.length = 4 ∧ mz_Fit E xs ∧ mz_chk E = true := mz_case (by decide) ev_12 (by decide +kernel) (by decide +kernel) (by decide +kernel) xs h
