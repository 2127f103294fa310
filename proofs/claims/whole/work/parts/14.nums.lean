/-! ===== plain rows of kit/laws, pasted ===== -/
theorem fa_lt (a b : Int32) : a < b ↔ a.toInt < b.toInt := Int32.lt_iff_toInt_lt
theorem fa_le (a b : Int32) : a ≤ b ↔ a.toInt ≤ b.toInt := Int32.le_iff_toInt_le
theorem fa_eq (a b : Int32) : a = b ↔ a.toInt = b.toInt := Int32.toInt_inj.symm
theorem fa_lt64 (a b : Int64) : a < b ↔ a.toInt < b.toInt := Int64.lt_iff_toInt_lt
theorem fa_le64 (a b : Int64) : a ≤ b ↔ a.toInt ≤ b.toInt := Int64.le_iff_toInt_le
theorem fa_eq64 (a b : Int64) : a = b ↔ a.toInt = b.toInt := Int64.toInt_inj.symm
theorem fa_wide_lt (a b : Int32) : a.toInt64 < b.toInt64 ↔ a < b := by rw [fa_lt64, fa_lt, Int32.toInt_toInt64, Int32.toInt_toInt64]
theorem fa_wide_le (a b : Int32) : a.toInt64 ≤ b.toInt64 ↔ a ≤ b := by rw [fa_le64, fa_le, Int32.toInt_toInt64, Int32.toInt_toInt64]
theorem fa_wide_eq (a b : Int32) : a.toInt64 = b.toInt64 ↔ a = b := by rw [fa_eq64, fa_eq, Int32.toInt_toInt64, Int32.toInt_toInt64]
theorem fa_and (a b : Nat) : nI a &&& nI b = nI (a &&& b) := by
  apply Int32.toBitVec_inj.1
  show BitVec.ofNat 32 a &&& BitVec.ofNat 32 b = BitVec.ofNat 32 (a &&& b)
  apply BitVec.eq_of_getLsbD_eq
  intro i hi
  simp [hi]
theorem fa_or (a b : Nat) : nI a ||| nI b = nI (a ||| b) := by
  apply Int32.toBitVec_inj.1
  show BitVec.ofNat 32 a ||| BitVec.ofNat 32 b = BitVec.ofNat 32 (a ||| b)
  apply BitVec.eq_of_getLsbD_eq
  intro i hi
  simp [hi]
theorem fa_bit {n j : Nat} (hj : j < 31) : nI n &&& nI (2 ^ j) = 0 ↔ n.testBit j = false := by
  have h2 : (2 : Nat) ^ j < 2 ^ 31 := Nat.pow_lt_pow_right (by decide) hj
  have hle : n &&& 2 ^ j ≤ 2 ^ j := Nat.and_le_right
  have e : n &&& 2 ^ j = 0 ↔ n.testBit j = false := by
    constructor
    · intro h
      have h1 : (n &&& 2 ^ j).testBit j = false := by rw [h]; simp
      rw [Nat.testBit_and] at h1
      first | simpa using h1 | simpa [Nat.testBit_two_pow_self] using h1 | simpa [Nat.testBit_two_pow] using h1
    · intro h
      apply Nat.eq_of_testBit_eq
      intro i
      rw [Nat.testBit_and]
      by_cases hi : j = i
      · subst hi; simp [h]
      · first | (simp [Nat.testBit_two_pow, hi]; done) | (simp [Nat.testBit_two_pow_of_ne hi]; done)
  rw [fa_and]
  constructor
  · intro h
    apply e.mp
    rcases Nat.eq_zero_or_pos (n &&& 2 ^ j) with z | z
    · exact z
    · exact absurd h (nI_ne0 z (Nat.lt_of_le_of_lt hle h2))
  · intro h
    rw [e.mpr h]; exact nI_0
theorem mn_1shl : ∀ b, b < 12 → (1 : Int32) <<< (nI b &&& 31) = nI (2 ^ b) := by decide +kernel
/-- a row of ints, written up to i -/
def mn_fill (S : mn_S) (a i : Nat) (g : Nat → Int32) : mn_S := (fun b j => if b = a ∧ j < i then g j else S.1 b j, S.2)
theorem mn_fill_0 (S : mn_S) (a : Nat) (g : Nat → Int32) : mn_fill S a 0 g = S := by
  unfold mn_fill
  refine Prod.ext (funext fun b => funext fun j => ?_) rfl
  exact if_neg (fun h => absurd h.2 (Nat.not_lt_zero j))
theorem mn_fill_s {S : mn_S} {a i : Nat} {g : Nat → Int32} {x : Int32} (h : x = g i) : mn_wI (mn_fill S a i g) a i x = mn_fill S a (i + 1) g := by
  subst h
  have key : ∀ b j, (if b = a ∧ j = i then g i else (if b = a ∧ j < i then g j else S.1 b j)) = (if b = a ∧ j < i + 1 then g j else S.1 b j) := by
    intro b j
    by_cases hb : b = a
    · by_cases hj : j = i
      · subst hj
        rw [if_pos ⟨hb, rfl⟩, if_pos ⟨hb, Nat.lt_succ_self _⟩]
      · rw [if_neg (fun q => hj q.2)]
        by_cases hl : j < i
        · rw [if_pos ⟨hb, hl⟩, if_pos ⟨hb, by omega⟩]
        · rw [if_neg (fun q => hl q.2), if_neg (fun q => hl (by omega))]
    · rw [if_neg (fun q => hb q.1), if_neg (fun q => hb q.1), if_neg (fun q => hb q.1)]
  exact Prod.ext (funext fun b => funext fun j => key b j) rfl
theorem mn_fill_1 (S : mn_S) (a i : Nat) (g : Nat → Int32) (b j : Nat) : (mn_fill S a i g).1 b j = if b = a ∧ j < i then g j else S.1 b j := mn_hid rfl
theorem mn_fill_2 (S : mn_S) (a i : Nat) (g : Nat → Int32) : (mn_fill S a i g).2 = S.2 := mn_hid rfl
/-- a row of longs, written up to i -/
def mn_fiL (S : mn_S) (a i : Nat) (g : Nat → Int64) : mn_S := (S.1, fun b j => if b = a ∧ j < i then g j else S.2 b j)
theorem mn_fiL_0 (S : mn_S) (a : Nat) (g : Nat → Int64) : mn_fiL S a 0 g = S := by
  unfold mn_fiL
  refine Prod.ext rfl (funext fun b => funext fun j => ?_)
  exact if_neg (fun h => absurd h.2 (Nat.not_lt_zero j))
theorem mn_fiL_s {S : mn_S} {a i : Nat} {g : Nat → Int64} {x : Int64} (h : x = g i) : mn_wL (mn_fiL S a i g) a i x = mn_fiL S a (i + 1) g := by
  subst h
  have key : ∀ b j, (if b = a ∧ j = i then g i else (if b = a ∧ j < i then g j else S.2 b j)) = (if b = a ∧ j < i + 1 then g j else S.2 b j) := by
    intro b j
    by_cases hb : b = a
    · by_cases hj : j = i
      · subst hj
        rw [if_pos ⟨hb, rfl⟩, if_pos ⟨hb, Nat.lt_succ_self _⟩]
      · rw [if_neg (fun q => hj q.2)]
        by_cases hl : j < i
        · rw [if_pos ⟨hb, hl⟩, if_pos ⟨hb, by omega⟩]
        · rw [if_neg (fun q => hl q.2), if_neg (fun q => hl (by omega))]
    · rw [if_neg (fun q => hb q.1), if_neg (fun q => hb q.1), if_neg (fun q => hb q.1)]
  exact Prod.ext rfl (funext fun b => funext fun j => key b j)
theorem mn_fiL_1 (S : mn_S) (a i : Nat) (g : Nat → Int64) : (mn_fiL S a i g).1 = S.1 := mn_hid rfl
theorem mn_fiL_2 (S : mn_S) (a i : Nat) (g : Nat → Int64) (b j : Nat) : (mn_fiL S a i g).2 b j = if b = a ∧ j < i then g j else S.2 b j := mn_hid rfl
