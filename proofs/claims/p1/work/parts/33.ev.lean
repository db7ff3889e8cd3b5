def cv_17a : List mz_V := [.inr (.inr (.inr (.inl (-2147483648, -1)))), .inl 0, .inr (.inr (.inr (.inl (1, 2147483647))))]
def cv_17b : List mz_V := [.inr (.inr (.inr (.inl (-2147483648, -1)))), .inl 0, .inr (.inr (.inr (.inl (1, 2147483647))))]
def cv_17c : List mz_V := [.inr (.inr (.inr (.inl (-2147483648, -1)))), .inl 0, .inl 1, .inr (.inr (.inr (.inl (2, 2147483647))))]
set_option maxRecDepth 100000 in
theorem ev_17 : (cv_17a.all fun a => cv_17b.all fun b => cv_17c.all fun c => mz_chk [mz_s0 17, a, b, c]) = true := by decide +kernel
theorem cs_17 (xs : Nat → Int32) (h : xs 0 &&& 31 = nI 17) : ∃ E, E.length = 4 ∧ mz_Fit E xs ∧ mz_chk E = true := mz_case (by decide) ev_17 (by decide +kernel) (by decide +kernel) (by decide +kernel) xs h
def cv_18a : List mz_V := [.inr (.inr (.inr (.inl (-2147483648, -1)))), .inl 0, .inr (.inr (.inr (.inl (1, 2147483647))))]
def cv_18b : List mz_V := [.inr (.inr (.inr (.inl (-2147483648, -1)))), .inl 0, .inl 1, .inr (.inr (.inr (.inl (2, 2147483647))))]
def cv_18c : List mz_V := [.inr (.inr (.inr (.inl (-2147483648, 2147483647))))]
set_option maxRecDepth 100000 in
theorem ev_18 : (cv_18a.all fun a => cv_18b.all fun b => cv_18c.all fun c => mz_chk [mz_s0 18, a, b, c]) = true := by decide +kernel
theorem cs_18 (xs : Nat → Int32) (h : xs 0 &&& 31 = nI 18) : ∃ E, E.length = 4 ∧ mz_Fit E xs ∧ mz_chk E = true := mz_case (by decide) ev_18 (by decide +kernel) (by decide +kernel) (by decide +kernel) xs h
def cv_19a : List mz_V := [.inr (.inr (.inr (.inl (-2147483648, -1)))), .inl 0, .inr (.inr (.inr (.inl (1, 2147483647))))]
def cv_19b : List mz_V := [.inr (.inr (.inr (.inl (-2147483648, -1)))), .inl 0, .inl 1, .inr (.inr (.inr (.inl (2, 2147483647))))]
def cv_19c : List mz_V := [.inr (.inr (.inr (.inl (-2147483648, -1)))), .inl 0, .inl 1, .inl 2, .inl 3, .inr (.inr (.inr (.inl (4, 2147483647))))]
set_option maxRecDepth 100000 in
theorem ev_19 : (cv_19a.all fun a => cv_19b.all fun b => cv_19c.all fun c => mz_chk [mz_s0 19, a, b, c]) = true := by decide +kernel
theorem cs_19 (xs : Nat → Int32) (h : xs 0 &&& 31 = nI 19) : ∃ E, E.length = 4 ∧ mz_Fit E xs ∧ mz_chk E = true := mz_case (by decide) ev_19 (by decide +kernel) (by decide +kernel) (by decide +kernel) xs h
def cv_20a : List mz_V := [.inr (.inr (.inr (.inl (-2147483648, 2147483647))))]
def cv_20b : List mz_V := [.inr (.inr (.inr (.inl (-2147483648, 2147483647))))]
def cv_20c : List mz_V := [.inr (.inr (.inr (.inl (-2147483648, 2147483647))))]
set_option maxRecDepth 100000 in
theorem ev_20 : (cv_20a.all fun a => cv_20b.all fun b => cv_20c.all fun c => mz_chk [mz_s0 20, a, b, c]) = true := by decide +kernel
theorem cs_20 (xs : Nat → Int32) (h : xs 0 &&& 31 = nI 20) : ∃ E, E.length = 4 ∧ mz_Fit E xs ∧ mz_chk E = true := mz_case (by decide) ev_20 (by decide +kernel) (by decide +kernel) (by decide +kernel) xs h
def cv_21a : List mz_V := [.inr (.inr (.inr (.inl (-2147483648, -1)))), .inl 0, .inl 1, .inl 2, .inl 3, .inl 4, .inl 5, .inl 6, .inr (.inr (.inr (.inl (7, 2147483647))))]
def cv_21b : List mz_V := [.inr (.inr (.inr (.inl (-2147483648, 2147483647))))]
def cv_21c : List mz_V := [.inr (.inr (.inr (.inl (-2147483648, 2147483647))))]
set_option maxRecDepth 100000 in
theorem ev_21 : (cv_21a.all fun a => cv_21b.all fun b => cv_21c.all fun c => mz_chk [mz_s0 21, a, b, c]) = true := by decide +kernel
theorem cs_21 (xs : Nat → Int32) (h : xs 0 &&& 31 = nI 21) : ∃ E, E.length = 4 ∧ mz_Fit E xs ∧ mz_chk E = true := mz_case (by decide) ev_21 (by decide +kernel) (by decide +kernel) (by decide +kernel) xs h
def cv_22a : List mz_V := [.inr (.inr (.inr (.inl (-2147483648, 2147483647))))]
def cv_22b : List mz_V := [.inr (.inr (.inr (.inl (-2147483648, 2147483647))))]
def cv_22c : List mz_V := [.inr (.inr (.inr (.inl (-2147483648, 2147483647))))]
set_option maxRecDepth 100000 in
theorem ev_22 : (cv_22a.all fun a => cv_22b.all fun b => cv_22c.all fun c => mz_chk [mz_s0 22, a, b, c]) = true := by decide +kernel
theorem cs_22 (xs : Nat → Int32) (h : xs 0 &&& 31 = nI 22) : ∃ E, E.length = 4 ∧ mz_Fit E xs ∧ mz_chk E = true := mz_case (by decide) ev_22 (by decide +kernel) (by decide +kernel) (by decide +kernel) xs h
def cv_23a : List mz_V := [.inr (.inr (.inr (.inl (-2147483648, 2147483647))))]
def cv_23b : List mz_V := [.inr (.inr (.inr (.inl (-2147483648, 2147483647))))]
def cv_23c : List mz_V := [.inr (.inr (.inr (.inl (-2147483648, 2147483647))))]
set_option maxRecDepth 100000 in
theorem ev_23 : (cv_23a.all fun a => cv_23b.all fun b => cv_23c.all fun c => mz_chk [mz_s0 23, a, b, c]) = true := by decide +kernel
theorem cs_23 (xs : Nat → Int32) (h : xs 0 &&& 31 = nI 23) : ∃ E, E.length = 4 ∧ mz_Fit E xs ∧ mz_chk E = true := mz_case (by decide) ev_23 (by decide +kernel) (by decide +kernel) (by decide +kernel) xs h
def cv_24a : List mz_V := [.inr (.inr (.inr (.inl (-2147483648, 2147483647))))]
def cv_24b : List mz_V := [.inr (.inr (.inr (.inl (-2147483648, 2147483647))))]
def cv_24c : List mz_V := [.inr (.inr (.inr (.inl (-2147483648, 2147483647))))]
set_option maxRecDepth 100000 in
theorem ev_24 : (cv_24a.all fun a => cv_24b.all fun b => cv_24c.all fun c => mz_chk [mz_s0 24, a, b, c]) = true := by decide +kernel
theorem cs_24 (xs : Nat → Int32) (h : xs 0 &&& 31 = nI 24) : ∃ E, E.length = 4 ∧ mz_Fit E xs ∧ mz_chk E = true := mz_case (by decide) ev_24 (by decide +kernel) (by decide +kernel) (by decide +kernel) xs h
def cv_25a : List mz_V := [.inr (.inr (.inr (.inl (-2147483648, 2147483647))))]
def cv_25b : List mz_V := [.inr (.inr (.inr (.inl (-2147483648, 2147483647))))]
def cv_25c : List mz_V := [.inr (.inr (.inr (.inl (-2147483648, 2147483647))))]
set_option maxRecDepth 100000 in
theorem ev_25 : (cv_25a.all fun a => cv_25b.all fun b => cv_25c.all fun c => mz_chk [mz_s0 25, a, b, c]) = true := by decide +kernel
theorem cs_25 (xs : Nat → Int32) (h : xs 0 &&& 31 = nI 25) : ∃ E, E.length = 4 ∧ mz_Fit E xs ∧ mz_chk E = true := mz_case (by decide) ev_25 (by decide +kernel) (by decide +kernel) (by decide +kernel) xs h
def cv_26a : List mz_V := [.inr (.inr (.inr (.inl (-2147483648, 2147483647))))]
def cv_26b : List mz_V := [.inr (.inr (.inr (.inl (-2147483648, 2147483647))))]
def cv_26c : List mz_V := [.inr (.inr (.inr (.inl (-2147483648, 2147483647))))]
set_option maxRecDepth 100000 in
theorem ev_26 : (cv_26a.all fun a => cv_26b.all fun b => cv_26c.all fun c => mz_chk [mz_s0 26, a, b, c]) = true := by decide +kernel
theorem cs_26 (xs : Nat → Int32) (h : xs 0 &&& 31 = nI 26) : ∃ E, E.length = 4 ∧ mz_Fit E xs ∧ mz_chk E = true := mz_case (by decide) ev_26 (by decide +kernel) (by decide +kernel) (by decide +kernel) xs h
def cv_27a : List mz_V := [.inr (.inr (.inr (.inl (-2147483648, 2147483647))))]
def cv_27b : List mz_V := [.inr (.inr (.inr (.inl (-2147483648, 2147483647))))]
def cv_27c : List mz_V := [.inr (.inr (.inr (.inl (-2147483648, 2147483647))))]
set_option maxRecDepth 100000 in
theorem ev_27 : (cv_27a.all fun a => cv_27b.all fun b => cv_27c.all fun c => mz_chk [mz_s0 27, a, b, c]) = true := by decide +kernel
theorem cs_27 (xs : Nat → Int32) (h : xs 0 &&& 31 = nI 27) : ∃ E, E.length = 4 ∧ mz_Fit E xs ∧ mz_chk E = true := mz_case (by decide) ev_27 (by decide +kernel) (by decide +kernel) (by decide +kernel) xs h
def cv_28a : List mz_V := [.inr (.inr (.inr (.inl (-2147483648, 2147483647))))]
def cv_28b : List mz_V := [.inr (.inr (.inr (.inl (-2147483648, 2147483647))))]
def cv_28c : List mz_V := [.inr (.inr (.inr (.inl (-2147483648, 2147483647))))]
set_option maxRecDepth 100000 in
theorem ev_28 : (cv_28a.all fun a => cv_28b.all fun b => cv_28c.all fun c => mz_chk [mz_s0 28, a, b, c]) = true := by decide +kernel
theorem cs_28 (xs : Nat → Int32) (h : xs 0 &&& 31 = nI 28) : ∃ E, E.length = 4 ∧ mz_Fit E xs ∧ mz_chk E = true := mz_case (by decide) ev_28 (by decide +kernel) (by decide +kernel) (by decide +kernel) xs h
def cv_29a : List mz_V := [.inr (.inr (.inr (.inl (-2147483648, 2147483647))))]
def cv_29b : List mz_V := [.inr (.inr (.inr (.inl (-2147483648, 2147483647))))]
def cv_29c : List mz_V := [.inr (.inr (.inr (.inl (-2147483648, 2147483647))))]
set_option maxRecDepth 100000 in
theorem ev_29 : (cv_29a.all fun a => cv_29b.all fun b => cv_29c.all fun c => mz_chk [mz_s0 29, a, b, c]) = true := by decide +kernel
theorem cs_29 (xs : Nat → Int32) (h : xs 0 &&& 31 = nI 29) : ∃ E, E.length = 4 ∧ mz_Fit E xs ∧ mz_chk E = true := mz_case (by decide) ev_29 (by decide +kernel) (by decide +kernel) (by decide +kernel) xs h
def cv_30a : List mz_V := [.inr (.inr (.inr (.inl (-2147483648, 2147483647))))]
def cv_30b : List mz_V := [.inr (.inr (.inr (.inl (-2147483648, 2147483647))))]
def cv_30c : List mz_V := [.inr (.inr (.inr (.inl (-2147483648, 2147483647))))]
set_option maxRecDepth 100000 in
theorem ev_30 : (cv_30a.all fun a => cv_30b.all fun b => cv_30c.all fun c => mz_chk [mz_s0 30, a, b, c]) = true := by decide +kernel
theorem cs_30 (xs : Nat → Int32) (h : xs 0 &&& 31 = nI 30) : ∃ E, E.length = 4 ∧ mz_Fit E xs ∧ mz_chk E = true := mz_case (by decide) ev_30 (by decide +kernel) (by decide +kernel) (by decide +kernel) xs h
def cv_31a : List mz_V := [.inr (.inr (.inr (.inl (-2147483648, 2147483647))))]
def cv_31b : List mz_V := [.inr (.inr (.inr (.inl (-2147483648, 2147483647))))]
def cv_31c : List mz_V := [.inr (.inr (.inr (.inl (-2147483648, 2147483647))))]
set_option maxRecDepth 100000 in
theorem ev_31 : (cv_31a.all fun a => cv_31b.all fun b => cv_31c.all fun c => mz_chk [mz_s0 31, a, b, c]) = true := by decide +kernel
theorem cs_31 (xs : Nat → Int32) (h : xs 0 &&& 31 = nI 31) : ∃ E, E.length = 4 ∧ mz_Fit E xs ∧ mz_chk E = true := mz_case (by decide) ev_31 (by decide +kernel) (by decide +kernel) (by decide +kernel) xs h
