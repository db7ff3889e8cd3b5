def cv_0a : List mz_V := [.inr (.inr (.inr (.inl (-2147483648, 2147483647))))]
def cv_0b : List mz_V := [.inr (.inr (.inr (.inl (-2147483648, 2147483647))))]
def cv_0c : List mz_V := [.inr (.inr (.inr (.inl (-2147483648, 0)))), .inl 1, .inl 2, .inl 3, .inl 4, .inl 5, .inl 6, .inl 7, .inl 8, .inr (.inr (.inr (.inl (9, 2147483647))))]
set_option maxRecDepth 100000 in
theorem ev_0 : (cv_0a.all fun a => cv_0b.all fun b => cv_0c.all fun c => mz_chk [mz_s0 0, a, b, c]) = true := by decide +kernel
theorem cs_0 (xs : Nat → Int32) (h : xs 0 &&& 31 = nI 0) : ∃ E, E.length = 4 ∧ mz_Fit E xs ∧ mz_chk E = true := mz_case (by decide) ev_0 (by decide +kernel) (by decide +kernel) (by decide +kernel) xs h
def cv_1a : List mz_V := [.inr (.inr (.inr (.inl (-2147483648, 2147483647))))]
def cv_1b : List mz_V := [.inr (.inr (.inr (.inl (-2147483648, 2147483647))))]
def cv_1c : List mz_V := [.inr (.inr (.inr (.inl (-2147483648, 2147483647))))]
set_option maxRecDepth 100000 in
theorem ev_1 : (cv_1a.all fun a => cv_1b.all fun b => cv_1c.all fun c => mz_chk [mz_s0 1, a, b, c]) = true := by decide +kernel
theorem cs_1 (xs : Nat → Int32) (h : xs 0 &&& 31 = nI 1) : ∃ E, E.length = 4 ∧ mz_Fit E xs ∧ mz_chk E = true := mz_case (by decide) ev_1 (by decide +kernel) (by decide +kernel) (by decide +kernel) xs h
def cv_2a : List mz_V := [.inr (.inr (.inr (.inl (-2147483648, 2147483647))))]
def cv_2b : List mz_V := [.inr (.inr (.inr (.inl (-2147483648, 2147483647))))]
def cv_2c : List mz_V := [.inr (.inr (.inr (.inl (-2147483648, 2147483647))))]
set_option maxRecDepth 100000 in
theorem ev_2 : (cv_2a.all fun a => cv_2b.all fun b => cv_2c.all fun c => mz_chk [mz_s0 2, a, b, c]) = true := by decide +kernel
theorem cs_2 (xs : Nat → Int32) (h : xs 0 &&& 31 = nI 2) : ∃ E, E.length = 4 ∧ mz_Fit E xs ∧ mz_chk E = true := mz_case (by decide) ev_2 (by decide +kernel) (by decide +kernel) (by decide +kernel) xs h
def cv_3a : List mz_V := [.inr (.inr (.inr (.inl (-2147483648, 2147483647))))]
def cv_3b : List mz_V := [.inr (.inr (.inr (.inl (-2147483648, 2147483647))))]
def cv_3c : List mz_V := [.inr (.inr (.inr (.inl (-2147483648, 2147483647))))]
set_option maxRecDepth 100000 in
theorem ev_3 : (cv_3a.all fun a => cv_3b.all fun b => cv_3c.all fun c => mz_chk [mz_s0 3, a, b, c]) = true := by decide +kernel
theorem cs_3 (xs : Nat → Int32) (h : xs 0 &&& 31 = nI 3) : ∃ E, E.length = 4 ∧ mz_Fit E xs ∧ mz_chk E = true := mz_case (by decide) ev_3 (by decide +kernel) (by decide +kernel) (by decide +kernel) xs h
def cv_4a : List mz_V := [.inr (.inr (.inr (.inl (-2147483648, -1)))), .inl 0, .inr (.inr (.inr (.inl (1, 2147483647))))]
def cv_4b : List mz_V := [.inr (.inr (.inr (.inl (-2147483648, -1)))), .inl 0, .inl 1, .inl 2, .inl 3, .inr (.inr (.inr (.inl (4, 2147483647))))]
def cv_4c : List mz_V := [.inr (.inr (.inr (.inl (-2147483648, 2147483647))))]
set_option maxRecDepth 100000 in
theorem ev_4 : (cv_4a.all fun a => cv_4b.all fun b => cv_4c.all fun c => mz_chk [mz_s0 4, a, b, c]) = true := by decide +kernel
theorem cs_4 (xs : Nat → Int32) (h : xs 0 &&& 31 = nI 4) : ∃ E, E.length = 4 ∧ mz_Fit E xs ∧ mz_chk E = true := mz_case (by decide) ev_4 (by decide +kernel) (by decide +kernel) (by decide +kernel) xs h
