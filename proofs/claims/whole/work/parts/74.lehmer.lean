/-! ===== a determinant as a sum over all orders of columns, each order a number ===== -/
def le_te : Nat → (Nat → Nat) → (Nat → Nat → Int) → Nat → Int
  | 0, _, _, _ => 1
  | k + 1, r, c, n => dt_sg (n % (k + 1)) * c (n % (k + 1)) (r 0) * le_te k (fun t => r (t + 1)) (dt_sk (n % (k + 1)) c) (n / (k + 1))
theorem le_te_s (k : Nat) (r : Nat → Nat) (c : Nat → Nat → Int) (n : Nat) : le_te (k + 1) r c n = dt_sg (n % (k + 1)) * c (n % (k + 1)) (r 0) * le_te k (fun t => r (t + 1)) (dt_sk (n % (k + 1)) c) (n / (k + 1)) := rfl
theorem le_te_cg : ∀ {k : Nat} {r r' : Nat → Nat} {c c' : Nat → Nat → Int} (n : Nat), (∀ i t, i < k → t < k → c i (r t) = c' i (r' t)) → le_te k r c n = le_te k r' c' n
  | 0, _, _, _, _, _, _ => rfl
  | k + 1, r, r', c, c', n, h => by
    have hm : n % (k + 1) < k + 1 := Nat.mod_lt _ (Nat.succ_pos k)
    rw [le_te_s, le_te_s, h _ 0 hm (Nat.succ_pos k)]
    rw [le_te_cg (n / (k + 1)) (r := fun t => r (t + 1)) (r' := fun t => r' (t + 1)) (c := dt_sk (n % (k + 1)) c) (c' := dt_sk (n % (k + 1)) c') (fun i t hi ht => h _ _ (by
      unfold dt_d
      split <;> omega) (by omega))]
theorem le_sm_app (p q : Nat) (f : Nat → Int) : dt_sm (p + q) f = dt_sm p f + dt_sm q (fun i => f (p + i)) := by
  induction q with
  | zero => show dt_sm p f = dt_sm p f + 0; omega
  | succ q ih => rw [← Nat.add_assoc, dt_sm_s, dt_sm_s, ih]; omega
theorem le_sm_prod (a b : Nat) (f : Nat → Nat → Int) : dt_sm (a * b) (fun n => f (n % a) (n / a)) = dt_sm a (fun i => dt_sm b (fun m => f i m)) := by
  induction b with
  | zero => exact (dt_sm_zero (fun _ _ => rfl)).symm
  | succ b ih =>
    have e : dt_sm a (fun i => dt_sm (b + 1) (fun m => f i m)) = dt_sm a (fun i => dt_sm b (fun m => f i m) + f i b) := rfl
    rw [Nat.mul_succ, le_sm_app, ih, e, dt_sm_add]
    refine congrArg _ (dt_sm_c (fun i hi => ?_))
    rw [Nat.add_comm, Nat.add_mul_mod_self_left, Nat.mod_eq_of_lt hi, Nat.add_mul_div_left _ _ (by omega), Nat.div_eq_of_lt hi, Nat.zero_add]
theorem le_dt : ∀ (k : Nat) (r : Nat → Nat) (c : Nat → Nat → Int), dt_sm (dt_fc k) (le_te k r c) = dt k r c
  | 0, r, c => rfl
  | k + 1, r, c => by
    have e : dt_sm (dt_fc (k + 1)) (le_te (k + 1) r c) = dt_sm ((k + 1) * dt_fc k) (fun n => dt_sg (n % (k + 1)) * c (n % (k + 1)) (r 0) * le_te k (fun t => r (t + 1)) (dt_sk (n % (k + 1)) c) (n / (k + 1))) := rfl
    rw [e, le_sm_prod (k + 1) (dt_fc k) (fun i m => dt_sg i * c i (r 0) * le_te k (fun t => r (t + 1)) (dt_sk i c) m), dt_s]
    refine dt_sm_c (fun i _ => ?_)
    rw [dt_sm_mul, le_dt k]
/-- the free places of a set -/
def le_fl (U : Nat) : List Nat := (List.range 6).filter (fun j => !U.testBit j)
def le_fn (U : Nat) : Nat := (le_fl U).length
def le_co (U j : Nat) : Nat := (le_fl U).getD j 0
/-- how many of them are below c -/
def le_bl (U c : Nat) : Nat := ((List.range c).filter (fun j => !U.testBit j)).length
theorem le_f1 : ∀ U, U < 64 → ∀ s, s < 6 → s < le_fn U → le_co U s < 6 ∧ U.testBit (le_co U s) = false ∧ le_bl U (le_co U s) = s ∧ (U ||| 2 ^ le_co U s) < 64 ∧ le_fn (U ||| 2 ^ le_co U s) + 1 = le_fn U := by decide +kernel
theorem le_f2 : ∀ U, U < 64 → ∀ s, s < 6 → ∀ j, j < 6 → s < le_fn U → j + 1 < le_fn U → le_co (U ||| 2 ^ le_co U s) j = le_co U (dt_d s j) := by decide +kernel
theorem le_f3 : ∀ U, U < 64 → ∀ c, c < 6 → le_bl U (c + 1) = le_bl U c + (if U.testBit c = true then 0 else 1) := by decide +kernel
theorem le_f4a : ∀ U, U < 64 → ∀ s, s < 6 → ∀ c, c < 6 → s < le_fn U → c < le_co U s → le_bl U c ≤ s := by decide +kernel
theorem le_f4b : ∀ U, U < 64 → ∀ s, s < 6 → ∀ c, c < 6 → s < le_fn U ∧ c < le_co U s ∧ U.testBit c = false → le_bl U c < s := by decide +kernel
theorem le_f4 {U s c : Nat} (hU : U < 64) (hs : s < 6) (hc : c < 6) (h : s < le_fn U) (h2 : c < le_co U s) : le_bl U c ≤ s ∧ (U.testBit c = true ∨ le_bl U c < s) := ⟨le_f4a U hU s hs c hc h h2, by
  cases d : U.testBit c
  · exact Or.inr (le_f4b U hU s hs c hc ⟨h, h2, d⟩)
  · exact Or.inl rfl⟩
theorem le_f5 : le_fn 0 = 6 ∧ ∀ j, j < 6 → le_co 0 j = j := by decide +kernel
theorem le_i1 : ∀ U, U < 64 → ∀ c, c < 6 → (nI U >>> (nI c &&& 31)) &&& 1 = mn_b (U.testBit c) := by decide +kernel
theorem le_i2 : ∀ U, U < 64 → ∀ c, c < 6 → nI U ||| ((1 : Int32) <<< (nI c &&& 31)) = nI (U ||| 2 ^ c) := by decide +kernel
theorem le_i3 : ∀ s, s < 6 → nI s - nI s / 2 * 2 = nI (s % 2) := by decide +kernel
theorem le_i4 : ∀ r, r < 6 → ∀ c, c < 6 → (6 : Int32) * nI r + nI c = nI (6 * r + c) := by decide +kernel
theorem le_i5 : ∀ m, m < 7 → nI (dt_fc m) * nI (m + 1) = nI (dt_fc (m + 1)) ∧ dt_fc m ≤ 720 := by decide +kernel
theorem le_div {a b : Nat} (ha : a < 2 ^ 31) (hb : b < 2 ^ 31) : nI a / nI b = nI (a / b) := by
  refine Int32.toInt_inj.1 ?_
  have h1 : a / b ≤ a := Nat.div_le_self a b
  rw [Int32.toInt_div, nI_toInt ha, nI_toInt hb, nI_toInt (by omega), ← Int.ofNat_tdiv]
  generalize a / b = q at *
  exact Int.bmod_eq_of_le (by omega) (by omega)
theorem le_rem {a b : Nat} (ha : a < 2 ^ 31) (hb : b < 2 ^ 31) : nI a - nI a / nI b * nI b = nI (a % b) := by
  rw [le_div ha hb]
  have h1 : a / b * b ≤ a := Nat.div_mul_le_self a b
  have h3 : a % b = a - a / b * b := by
    have := Nat.div_add_mod a b
    rw [Nat.mul_comm] at this
    omega
  have e1 : nI (a / b) * nI b = nI (a / b * b) := (Int32.ofNat_mul _ _).symm
  rw [e1, tk_I_sub h1, h3]
/-- the square's numbers, column and row -/
def md_c (S : mn_S) (j i : Nat) : Int := (S.2 38 (6 * i + j)).toInt
/-- an order's term while its rows are gone through: what is still to come -/
def le_to (c : Nat → Nat → Int) (m r U L : Nat) : Int := le_te (m - r) (fun t => r + t) (fun j i => c (le_co U j) i) L
theorem le_to_0 (c : Nat → Nat → Int) {m : Nat} (h : m ≤ 6) (n : Nat) : le_to c m 0 0 n = le_te m dt_id c n := le_te_cg n (fun i t hi ht => by
  rw [le_f5.2 i (by omega)]
  show c i (0 + t) = c i t
  rw [Nat.zero_add])
theorem le_to_s (c : Nat → Nat → Int) {m r U : Nat} (L : Nat) (hU : U < 64) (hr : r < m) (h6 : m ≤ 6) (hf : m - r ≤ le_fn U) : le_to c m r U L = dt_sg (L % (m - r)) * c (le_co U (L % (m - r))) r * le_to c m (r + 1) (U ||| 2 ^ le_co U (L % (m - r))) (L / (m - r)) := by
  obtain ⟨k, hk⟩ : ∃ k, m - r = k + 1 := ⟨m - r - 1, by omega⟩
  have hm : L % (k + 1) < k + 1 := Nat.mod_lt _ (Nat.succ_pos k)
  unfold le_to
  rw [hk, show m - (r + 1) = k by omega, le_te_s]
  refine congrArg _ (le_te_cg _ (fun i t hi ht => ?_))
  show c (le_co U (dt_d (L % (k + 1)) i)) (r + (t + 1)) = c (le_co (U ||| 2 ^ le_co U (L % (k + 1))) i) (r + 1 + t)
  rw [le_f2 U hU (L % (k + 1)) (by omega) i (by omega) (by omega) (by omega), show r + (t + 1) = r + 1 + t by omega]
