/-! ===== sets of places below 6 as numbers ===== -/
def sq_l (S : Nat) : List Nat := (List.range 6).reverse.filter (fun j => S.testBit j)
def sq_pc (S : Nat) : Nat := (sq_l S).length
/-- the place i from above -/
def sq_bt (S i : Nat) : Nat := (sq_l S).getD i 0
/-- how many are not below x -/
def sq_ca (S x : Nat) : Nat := ((List.range 6).filter (fun j => S.testBit j && decide (x ≤ j))).length
def sq_rm (S c : Nat) : Nat := if S.testBit c = true then S - 2 ^ c else S
theorem sq_f1 : ∀ S, S < 64 → ∀ c, c < 6 → nI S &&& (((1 : Int32) <<< (nI c &&& 31)) ^^^ (-1)) = nI (sq_rm S c) := by decide +kernel
theorem sq_f2 : ∀ S, S < 64 → ∀ c, c < 6 → S.testBit c = true → sq_bt S (sq_ca S (c + 1)) = c ∧ sq_ca S c = sq_ca S (c + 1) + 1 ∧ sq_ca S (c + 1) < sq_pc S ∧ sq_pc (sq_rm S c) + 1 = sq_pc S ∧ sq_rm S c < S := by decide +kernel
theorem sq_f2b : ∀ S, S < 64 → ∀ c, c < 6 → ∀ j, j < 6 → S.testBit c = true → j < sq_pc (sq_rm S c) → sq_bt (sq_rm S c) j = sq_bt S (dt_d (sq_ca S (c + 1)) j) := by decide +kernel
theorem sq_f3 : ∀ S, S < 64 → ∀ c, c < 6 → S.testBit c = false → sq_ca S c = sq_ca S (c + 1) ∧ sq_rm S c = S := by decide +kernel
theorem sq_f4 : ∀ m, m < 7 → ∀ S, S < 64 → S < 2 ^ m → sq_ca S m = 0 ∧ sq_ca S 0 = sq_pc S ∧ sq_pc S ≤ m := by decide +kernel
theorem sq_f4b : ∀ m, m < 7 → ∀ S, S < 64 → ∀ i, i < 6 → S < 2 ^ m → i < sq_pc S → sq_bt S i < m := by decide +kernel
theorem sq_f5 : ∀ m, m < 7 → sq_pc (2 ^ m - 1) = m ∧ 2 ^ m - 1 < 64 ∧ ((1 : Int32) <<< (nI m &&& 31)) - 1 = nI (2 ^ m - 1) := by decide +kernel
theorem sq_f5b : ∀ m, m < 7 → ∀ i, i < 6 → i < m → sq_bt (2 ^ m - 1) i = m - 1 - i := by decide +kernel
theorem sq_f6 : ∀ S, S < 64 → 0 < S → 0 < sq_pc S := by decide +kernel
/-- Integer.bitCount's own way -/
def jd_bc1 (x : Int32) : Int32 := x - ((x.toUInt32 >>> ((1 : Int32).toUInt32 &&& Int32.toUInt32 31)).toInt32 &&& 1431655765)
def jd_bc2 (x : Int32) : Int32 := (x &&& 858993459) + ((x.toUInt32 >>> ((2 : Int32).toUInt32 &&& Int32.toUInt32 31)).toInt32 &&& 858993459)
def jd_bc3 (x : Int32) : Int32 := (x + (x.toUInt32 >>> ((4 : Int32).toUInt32 &&& Int32.toUInt32 31)).toInt32) &&& 252645135
def jd_bc4 (x : Int32) : Int32 := x + (x.toUInt32 >>> ((8 : Int32).toUInt32 &&& Int32.toUInt32 31)).toInt32
def jd_bc5 (x : Int32) : Int32 := x + (x.toUInt32 >>> ((16 : Int32).toUInt32 &&& Int32.toUInt32 31)).toInt32
def jd_bc (x : Int32) : Int32 := jd_bc5 (jd_bc4 (jd_bc3 (jd_bc2 (jd_bc1 x)))) &&& 63
theorem jd_bc_ok : ∀ S, S < 64 → jd_bc (nI S) = nI (sq_pc S) := by decide +kernel
