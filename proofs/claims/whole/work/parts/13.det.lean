/-! ===== determinants over Int: columns and rows by functions, expanded along the first row ===== -/
def dt_sg (i : Nat) : Int := if i % 2 = 0 then 1 else -1
theorem dt_sg_s (i : Nat) : dt_sg (i + 1) = -dt_sg i := by
  unfold dt_sg
  rcases Nat.mod_two_eq_zero_or_one i with h | h
  · rw [if_neg (by omega), if_pos h]
  · rw [if_pos (by omega), if_neg (by omega)]
    rfl
theorem dt_sg_0 : dt_sg 0 = 1 := rfl
theorem dt_sg_2 (i : Nat) : dt_sg (i + 2) = dt_sg i := by rw [dt_sg_s, dt_sg_s]; omega
theorem dt_sg_sq (i : Nat) : dt_sg i * dt_sg i = 1 := by
  unfold dt_sg
  split <;> rfl
theorem dt_sg_add (i j : Nat) : dt_sg (i + j) = dt_sg i * dt_sg j := by
  induction j with
  | zero => rw [Nat.add_zero, dt_sg_0, Int.mul_one]
  | succ j ih => rw [← Nat.add_assoc, dt_sg_s, dt_sg_s, ih, Int.mul_neg]
theorem dt_sg_par {i j : Nat} (h : i % 2 = j % 2) : dt_sg i = dt_sg j := by
  unfold dt_sg
  rw [h]
def dt_sm (n : Nat) (f : Nat → Int) : Int := match n with
  | 0 => 0
  | n + 1 => dt_sm n f + f n
theorem dt_sm_0 (f : Nat → Int) : dt_sm 0 f = 0 := rfl
theorem dt_sm_s (n : Nat) (f : Nat → Int) : dt_sm (n + 1) f = dt_sm n f + f n := rfl
theorem dt_sm_c {n : Nat} {f g : Nat → Int} (h : ∀ i, i < n → f i = g i) : dt_sm n f = dt_sm n g := by
  induction n with
  | zero => rfl
  | succ n ih => rw [dt_sm_s, dt_sm_s, ih (fun i hi => h i (by omega)), h n (by omega)]
theorem dt_sm_add (n : Nat) (f g : Nat → Int) : dt_sm n (fun i => f i + g i) = dt_sm n f + dt_sm n g := by
  induction n with
  | zero => rfl
  | succ n ih => rw [dt_sm_s, dt_sm_s, dt_sm_s, ih]; omega
theorem dt_sm_mul (n : Nat) (a : Int) (f : Nat → Int) : dt_sm n (fun i => a * f i) = a * dt_sm n f := by
  induction n with
  | zero => exact (Int.mul_zero a).symm
  | succ n ih => rw [dt_sm_s, dt_sm_s, ih, Int.mul_add]
theorem dt_sm_neg (n : Nat) (f : Nat → Int) : dt_sm n (fun i => -f i) = -dt_sm n f := by
  induction n with
  | zero => rfl
  | succ n ih => rw [dt_sm_s, dt_sm_s, ih]; omega
theorem dt_sm_zero {n : Nat} {f : Nat → Int} (h : ∀ i, i < n → f i = 0) : dt_sm n f = 0 := by
  induction n with
  | zero => rfl
  | succ n ih => rw [dt_sm_s, ih (fun i hi => h i (by omega)), h n (by omega)]; rfl
theorem dt_sm_one {n p : Nat} {f : Nat → Int} (hp : p < n) (h : ∀ i, i < n → i ≠ p → f i = 0) : dt_sm n f = f p := by
  induction n with
  | zero => omega
  | succ n ih =>
    rw [dt_sm_s]
    by_cases e : p = n
    · subst e
      rw [dt_sm_zero (fun i hi => h i (by omega) (by omega))]
      omega
    · rw [ih (by omega) (fun i hi he => h i (by omega) he), h n (by omega) (fun q => e q.symm)]
      omega
theorem dt_sm_nonneg {n : Nat} {f : Nat → Int} (h : ∀ i, i < n → 0 ≤ f i) : 0 ≤ dt_sm n f := by
  induction n with
  | zero => exact Int.le_refl 0
  | succ n ih =>
    rw [dt_sm_s]
    have := ih (fun i hi => h i (by omega))
    have := h n (by omega)
    omega
theorem dt_sm_first (n : Nat) (f : Nat → Int) : dt_sm (n + 1) f = f 0 + dt_sm n (fun i => f (i + 1)) := by
  induction n with
  | zero => show 0 + f 0 = f 0 + 0; omega
  | succ n ih => rw [dt_sm_s, ih, dt_sm_s]; omega
theorem dt_sm_swap (n m : Nat) (f : Nat → Nat → Int) : dt_sm n (fun i => dt_sm m (fun j => f i j)) = dt_sm m (fun j => dt_sm n (fun i => f i j)) := by
  induction n with
  | zero => exact (dt_sm_zero (fun _ _ => rfl)).symm
  | succ n ih =>
    rw [dt_sm_s, ih, ← dt_sm_add]
    rfl
theorem dt_sm_rev (n : Nat) (f : Nat → Int) : dt_sm n f = dt_sm n (fun i => f (n - 1 - i)) := by
  induction n with
  | zero => rfl
  | succ n ih =>
    rw [dt_sm_first n (fun i => f (n + 1 - 1 - i)), dt_sm_s, ih, show n + 1 - 1 - 0 = n by omega, Int.add_comm]
    congr 1
    exact dt_sm_c (fun i hi => by congr 1; omega)
/-- the place j when place i is left out -/
def dt_d (i j : Nat) : Nat := if j < i then j else j + 1
def dt_sk {α : Type} (i : Nat) (c : Nat → α) : Nat → α := fun j => c (dt_d i j)
def dt_up {α : Type} (c : Nat → α) (p : Nat) (u : α) : Nat → α := fun j => if j = p then u else c j
theorem dt_sk_lt {α : Type} {i j : Nat} (c : Nat → α) (h : j < i) : dt_sk i c j = c j := by unfold dt_sk dt_d; rw [if_pos h]
theorem dt_sk_ge {α : Type} {i j : Nat} (c : Nat → α) (h : i ≤ j) : dt_sk i c j = c (j + 1) := by unfold dt_sk dt_d; rw [if_neg (by omega)]
theorem dt_sk_sk {α : Type} (c : Nat → α) {i j : Nat} (h : j < i) : dt_sk j (dt_sk i c) = dt_sk (i - 1) (dt_sk j c) := by
  funext k
  unfold dt_sk dt_d
  by_cases h1 : k < j
  · rw [if_pos h1, if_pos (show k < i by omega), if_pos (show k < i - 1 by omega), if_pos h1]
  · rw [if_neg h1]
    by_cases h2 : k + 1 < i
    · rw [if_pos h2, if_pos (show k < i - 1 by omega), if_neg h1]
    · rw [if_neg h2, if_neg (show ¬ k < i - 1 by omega), if_neg (show ¬ k + 1 < j by omega)]
theorem dt_sk_up_eq {α : Type} (c : Nat → α) (p : Nat) (u : α) : dt_sk p (dt_up c p u) = dt_sk p c := by
  funext k
  unfold dt_sk dt_up dt_d
  by_cases h : k < p
  · rw [if_pos h, if_neg (by omega)]
  · rw [if_neg h, if_neg (by omega)]
theorem dt_sk_up_lt {α : Type} (c : Nat → α) {i p : Nat} (u : α) (h : i < p) : dt_sk i (dt_up c p u) = dt_up (dt_sk i c) (p - 1) u := by
  funext k
  unfold dt_sk dt_up dt_d
  dsimp only
  by_cases h1 : k < i
  · rw [if_pos h1, if_neg (by omega), if_neg (by omega)]
  · rw [if_neg h1]
    by_cases h2 : k + 1 = p
    · rw [if_pos h2, if_pos (by omega)]
    · rw [if_neg h2, if_neg (by omega)]
theorem dt_sk_up_gt {α : Type} (c : Nat → α) {i p : Nat} (u : α) (h : p < i) : dt_sk i (dt_up c p u) = dt_up (dt_sk i c) p u := by
  funext k
  unfold dt_sk dt_up dt_d
  dsimp only
  by_cases h1 : k < i
  · rw [if_pos h1]
  · rw [if_neg h1, if_neg (by omega), if_neg (by omega)]
/-- the determinant of the rows r 0 .. r (k-1) and the columns c 0 .. c (k-1) -/
def dt (k : Nat) (r : Nat → Nat) (c : Nat → Nat → Int) : Int := match k with
  | 0 => 1
  | k + 1 => dt_sm (k + 1) (fun i => dt_sg i * c i (r 0) * dt k (fun t => r (t + 1)) (dt_sk i c))
theorem dt_0 (r : Nat → Nat) (c : Nat → Nat → Int) : dt 0 r c = 1 := rfl
theorem dt_s (k : Nat) (r : Nat → Nat) (c : Nat → Nat → Int) : dt (k + 1) r c = dt_sm (k + 1) (fun i => dt_sg i * c i (r 0) * dt k (fun t => r (t + 1)) (dt_sk i c)) := rfl
theorem dt_cg {k : Nat} {r r' : Nat → Nat} {c c' : Nat → Nat → Int} (h : ∀ i t, i < k → t < k → c i (r t) = c' i (r' t)) : dt k r c = dt k r' c' := by
  induction k generalizing r r' c c' with
  | zero => rfl
  | succ k ih =>
    rw [dt_s, dt_s]
    apply dt_sm_c
    intro i hi
    rw [h i 0 hi (by omega)]
    congr 1
    apply ih
    intro j t hj ht
    unfold dt_sk dt_d
    split
    · exact h j (t + 1) (by omega) (by omega)
    · exact h (j + 1) (t + 1) (by omega) (by omega)
/-- sums over pairs of two places -/
theorem dt_pairs (n : Nat) (A : Nat → Nat → Int) (i : Nat) (hi : i ≤ n) : dt_sm n (fun j => A i (dt_d i j)) = dt_sm (n + 1) (fun j => if j = i then 0 else A i j) := by
  induction n with
  | zero =>
    have : i = 0 := by omega
    subst this
    rfl
  | succ n ih =>
    rw [dt_sm_s]
    by_cases e : i = n + 1
    · subst e
      rw [dt_sm_s (n + 1), if_pos rfl, dt_sm_s n]
      have h1 : dt_d (n + 1) n = n := by unfold dt_d; rw [if_pos (by omega)]
      rw [h1, if_neg (by omega), Int.add_zero]
      congr 1
      apply dt_sm_c
      intro j hj
      unfold dt_d
      rw [if_pos (by omega), if_neg (by omega)]
    · rw [ih (by omega), dt_sm_s (n + 1)]
      have h1 : dt_d i n = n + 1 := by unfold dt_d; rw [if_neg (by omega)]
      rw [h1, if_neg (fun q => e q.symm)]
theorem dt_exch (n : Nat) (A B : Nat → Nat → Int) (h : ∀ i j, i < n + 1 → j < n + 1 → i ≠ j → A i j = B i j) : dt_sm (n + 1) (fun i => dt_sm n (fun j => A i (dt_d i j))) = dt_sm (n + 1) (fun j => dt_sm n (fun i => B (dt_d j i) j)) := by
  have h1 : dt_sm (n + 1) (fun i => dt_sm n (fun j => A i (dt_d i j))) = dt_sm (n + 1) (fun i => dt_sm (n + 1) (fun j => if j = i then 0 else A i j)) := dt_sm_c (fun i hi => dt_pairs n A i (by omega))
  have h2 : dt_sm (n + 1) (fun j => dt_sm n (fun i => B (dt_d j i) j)) = dt_sm (n + 1) (fun j => dt_sm (n + 1) (fun i => if i = j then 0 else B i j)) := dt_sm_c (fun j hj => dt_pairs n (fun a b => B b a) j (by omega))
  rw [h1, h2, dt_sm_swap]
  apply dt_sm_c
  intro j hj
  apply dt_sm_c
  intro i hi
  by_cases e : i = j
  · rw [if_pos e.symm, if_pos e]
  · rw [if_neg (fun q => e q.symm), if_neg e, h i j hi hj e]
/-- expanded along the last row -/
theorem dt_last (k : Nat) : ∀ (r : Nat → Nat) (c : Nat → Nat → Int), dt (k + 1) r c = dt_sm (k + 1) (fun i => dt_sg (k - i) * c i (r k) * dt k r (dt_sk i c)) := by
  induction k with
  | zero => intro r c; rfl
  | succ k ih =>
    intro r c
    let A : Nat → Nat → Int := fun i b => dt_sg i * c i (r 0) * (dt_sg (k - (if b < i then b else b - 1)) * c b (r (k + 1)) * dt k (fun t => r (t + 1)) (dt_sk (if b < i then b else b - 1) (dt_sk i c)))
    let B : Nat → Nat → Int := fun i b => dt_sg (k + 1 - b) * c b (r (k + 1)) * (dt_sg (if i < b then i else i - 1) * c i (r 0) * dt k (fun t => r (t + 1)) (dt_sk (if i < b then i else i - 1) (dt_sk b c)))
    have e1 : dt (k + 2) r c = dt_sm (k + 2) (fun i => dt_sm (k + 1) (fun j => A i (dt_d i j))) := by
      rw [dt_s]
      apply dt_sm_c
      intro i hi
      rw [ih, ← dt_sm_mul]
      apply dt_sm_c
      intro j hj
      have hj2 : (if dt_d i j < i then dt_d i j else dt_d i j - 1) = j := by
        unfold dt_d
        by_cases z : j < i
        · rw [if_pos z, if_pos z]
        · rw [if_neg z, if_neg (by omega)]
          omega
      show _ = dt_sg i * c i (r 0) * (dt_sg (k - (if dt_d i j < i then dt_d i j else dt_d i j - 1)) * c (dt_d i j) (r (k + 1)) * dt k (fun t => r (t + 1)) (dt_sk (if dt_d i j < i then dt_d i j else dt_d i j - 1) (dt_sk i c)))
      rw [hj2]
      rfl
    have e2 : dt_sm (k + 2) (fun b => dt_sg (k + 1 - b) * c b (r (k + 1)) * dt (k + 1) r (dt_sk b c)) = dt_sm (k + 2) (fun b => dt_sm (k + 1) (fun i => B (dt_d b i) b)) := by
      apply dt_sm_c
      intro b hb
      rw [dt_s, ← dt_sm_mul]
      apply dt_sm_c
      intro i hi
      have hi2 : (if dt_d b i < b then dt_d b i else dt_d b i - 1) = i := by
        unfold dt_d
        by_cases z : i < b
        · rw [if_pos z, if_pos z]
        · rw [if_neg z, if_neg (by omega)]
          omega
      show _ = dt_sg (k + 1 - b) * c b (r (k + 1)) * (dt_sg (if dt_d b i < b then dt_d b i else dt_d b i - 1) * c (dt_d b i) (r 0) * dt k (fun t => r (t + 1)) (dt_sk (if dt_d b i < b then dt_d b i else dt_d b i - 1) (dt_sk b c)))
      rw [hi2]
      rfl
    rw [e1, e2]
    apply dt_exch
    intro i b hi hb hne
    show dt_sg i * c i (r 0) * (dt_sg (k - (if b < i then b else b - 1)) * c b (r (k + 1)) * dt k (fun t => r (t + 1)) (dt_sk (if b < i then b else b - 1) (dt_sk i c))) = dt_sg (k + 1 - b) * c b (r (k + 1)) * (dt_sg (if i < b then i else i - 1) * c i (r 0) * dt k (fun t => r (t + 1)) (dt_sk (if i < b then i else i - 1) (dt_sk b c)))
    by_cases h : b < i
    · rw [if_pos h, if_neg (show ¬ i < b by omega), dt_sk_sk c h]
      have s1 : dt_sg i = -dt_sg (i - 1) := by rw [← dt_sg_s]; congr 1; omega
      have s2 : dt_sg (k + 1 - b) = -dt_sg (k - b) := by rw [← dt_sg_s]; congr 1; omega
      rw [s1, s2]
      grind
    · have h2 : i < b := by omega
      rw [if_neg h, if_pos h2, dt_sk_sk c h2]
      have s1 : k - (b - 1) = k + 1 - b := by omega
      rw [s1]
      grind
/-- the rows and the columns both from their ends: the same -/
theorem dt_rev (k : Nat) : ∀ (r : Nat → Nat) (c : Nat → Nat → Int), dt k (fun t => r (k - 1 - t)) (fun i => c (k - 1 - i)) = dt k r c := by
  induction k with
  | zero => intro r c; rfl
  | succ k ih =>
    intro r c
    rw [dt_s, dt_last, dt_sm_rev (k + 1) (fun i => dt_sg (k - i) * c i (r k) * dt k r (dt_sk i c))]
    apply dt_sm_c
    intro i hi
    have e1 : k - (k + 1 - 1 - i) = i := by omega
    have e2 : dt k (fun t => (fun t => r (k + 1 - 1 - t)) (t + 1)) (dt_sk i (fun i => c (k + 1 - 1 - i))) = dt k r (dt_sk (k + 1 - 1 - i) c) := by
      rw [← ih r (dt_sk (k + 1 - 1 - i) c)]
      apply dt_cg
      intro j t hj ht
      unfold dt_sk dt_d
      dsimp only
      by_cases h : j < i
      · rw [if_pos h, if_neg (by omega), show k + 1 - 1 - j = k - 1 - j + 1 by omega, show k + 1 - 1 - (t + 1) = k - 1 - t by omega]
      · rw [if_neg h, if_pos (by omega), show k + 1 - 1 - (j + 1) = k - 1 - j by omega, show k + 1 - 1 - (t + 1) = k - 1 - t by omega]
    rw [e2]
    show dt_sg i * c (k + 1 - 1 - i) (r (k + 1 - 1 - 0)) * _ = dt_sg (k - (k + 1 - 1 - i)) * c (k + 1 - 1 - i) (r k) * _
    rw [e1]
    rfl
-- columns
theorem dt_up_cm {α : Type} (c : Nat → α) {p q : Nat} (u v : α) (h : p ≠ q) : dt_up (dt_up c p u) q v = dt_up (dt_up c q v) p u := by
  funext k
  unfold dt_up
  by_cases h1 : k = q
  · rw [if_pos h1, if_neg (by omega), if_pos h1]
  · rw [if_neg h1, if_neg h1]
theorem dt_up_eq {α : Type} (c : Nat → α) (p : Nat) (u v : α) : dt_up (dt_up c p u) p v = dt_up c p v := by
  funext k
  unfold dt_up
  by_cases h1 : k = p
  · rw [if_pos h1, if_pos h1]
  · rw [if_neg h1, if_neg h1, if_neg h1]
theorem dt_up_self {α : Type} (c : Nat → α) (p : Nat) : dt_up c p (c p) = c := by
  funext k
  unfold dt_up
  by_cases h1 : k = p
  · rw [if_pos h1, h1]
  · rw [if_neg h1]
theorem dt_up_at {α : Type} (c : Nat → α) (p : Nat) (u : α) : dt_up c p u p = u := if_pos rfl
theorem dt_up_ne {α : Type} (c : Nat → α) {p k : Nat} (u : α) (h : k ≠ p) : dt_up c p u k = c k := if_neg h
/-- linear in a column -/
theorem dt_lin (k : Nat) : ∀ (r : Nat → Nat) (c : Nat → Nat → Int) (p : Nat) (u v : Nat → Int) (t : Int), p < k → dt k r (dt_up c p (fun a => u a + t * v a)) = dt k r (dt_up c p u) + t * dt k r (dt_up c p v) := by
  induction k with
  | zero => intro r c p u v t h; omega
  | succ k ih =>
    intro r c p u v t hp
    rw [dt_s, dt_s, dt_s, ← dt_sm_mul, ← dt_sm_add]
    apply dt_sm_c
    intro i hi
    by_cases e : i = p
    · subst e
      rw [dt_sk_up_eq, dt_sk_up_eq, dt_sk_up_eq, dt_up_at, dt_up_at, dt_up_at]
      grind
    · rw [dt_up_ne _ _ e, dt_up_ne _ _ e, dt_up_ne _ _ e]
      rcases Nat.lt_or_gt_of_ne e with h | h
      · rw [dt_sk_up_lt c _ h, dt_sk_up_lt c _ h, dt_sk_up_lt c _ h, ih _ _ _ _ _ _ (by omega)]
        grind
      · rw [dt_sk_up_gt c _ h, dt_sk_up_gt c _ h, dt_sk_up_gt c _ h, ih _ _ _ _ _ _ (by omega)]
        grind
theorem dt_add {k p : Nat} (r : Nat → Nat) (c : Nat → Nat → Int) (u v : Nat → Int) (hp : p < k) : dt k r (dt_up c p (fun a => u a + v a)) = dt k r (dt_up c p u) + dt k r (dt_up c p v) := by
  have h := dt_lin k r c p u v 1 hp
  rw [Int.one_mul] at h
  rw [← h]
  congr 2
  funext a
  rw [Int.one_mul]
theorem dt_zero {k p : Nat} (r : Nat → Nat) (c : Nat → Nat → Int) (hp : p < k) (h : ∀ t, t < k → c p (r t) = 0) : dt k r c = 0 := by
  have h1 := dt_lin k r c p (c p) (c p) (-1) hp
  rw [dt_up_self] at h1
  have h2 : dt k r (dt_up c p (fun a => c p a + -1 * c p a)) = dt k r c := by
    apply dt_cg
    intro i t hi ht
    by_cases e : i = p
    · subst e
      rw [dt_up_at]
      have := h t ht
      omega
    · rw [dt_up_ne _ _ e]
  rw [h2] at h1
  omega
/-- two neighbouring columns change places -/
theorem dt_nb (k : Nat) : ∀ (r : Nat → Nat) (c : Nat → Nat → Int) (p : Nat) (u v : Nat → Int), p + 1 < k → dt k r (dt_up (dt_up c p u) (p + 1) v) = -dt k r (dt_up (dt_up c p v) (p + 1) u) := by
  induction k with
  | zero => intro r c p u v h; omega
  | succ k ih =>
    intro r c p u v hp
    rw [dt_s, dt_s, ← dt_sm_neg]
    -- the terms of p and p + 1 change places, each other one by induction
    have key : ∀ i, i < k + 1 → i ≠ p → i ≠ p + 1 → dt_sg i * dt_up (dt_up c p u) (p + 1) v i (r 0) * dt k (fun t => r (t + 1)) (dt_sk i (dt_up (dt_up c p u) (p + 1) v)) = -(dt_sg i * dt_up (dt_up c p v) (p + 1) u i (r 0) * dt k (fun t => r (t + 1)) (dt_sk i (dt_up (dt_up c p v) (p + 1) u))) := by
      intro i hi h1 h2
      rw [dt_up_ne _ _ h2, dt_up_ne _ _ h1, dt_up_ne _ _ h2, dt_up_ne _ _ h1]
      rcases Nat.lt_or_gt_of_ne h1 with h | h
      · have e : p - 1 + 1 = p := by omega
        rw [dt_sk_up_lt _ _ (show i < p + 1 by omega), dt_sk_up_lt _ _ h, dt_sk_up_lt _ _ (show i < p + 1 by omega), dt_sk_up_lt _ _ h, show p + 1 - 1 = p - 1 + 1 by omega, ih _ _ _ _ _ (by omega)]
        grind
      · rw [dt_sk_up_gt _ _ (show p + 1 < i by omega), dt_sk_up_gt _ _ h, dt_sk_up_gt _ _ (show p + 1 < i by omega), dt_sk_up_gt _ _ h, ih _ _ _ _ _ (by omega)]
        grind
    have a1 : dt_sk p (dt_up (dt_up c p u) (p + 1) v) = dt_up (dt_sk p c) p v := by
      rw [dt_sk_up_lt _ _ (show p < p + 1 by omega), dt_sk_up_eq]
      rfl
    have a2 : dt_sk (p + 1) (dt_up (dt_up c p u) (p + 1) v) = dt_up (dt_sk (p + 1) c) p u := by
      rw [dt_sk_up_eq, dt_sk_up_gt _ _ (show p < p + 1 by omega)]
    have b1 : dt_sk p (dt_up (dt_up c p v) (p + 1) u) = dt_up (dt_sk p c) p u := by
      rw [dt_sk_up_lt _ _ (show p < p + 1 by omega), dt_sk_up_eq]
      rfl
    have b2 : dt_sk (p + 1) (dt_up (dt_up c p v) (p + 1) u) = dt_up (dt_sk (p + 1) c) p v := by
      rw [dt_sk_up_eq, dt_sk_up_gt _ _ (show p < p + 1 by omega)]
    have s1 : dt_sk p c = dt_sk p c := rfl
    have s2 : ∀ w : Nat → Int, dt_up (dt_sk (p + 1) c) p w = dt_up (dt_sk p c) p w := by
      intro w
      funext j
      unfold dt_up
      by_cases h : j = p
      · rw [if_pos h, if_pos h]
      · rw [if_neg h, if_neg h]
        unfold dt_sk dt_d
        by_cases h2 : j < p
        · rw [if_pos (by omega), if_pos h2]
        · rw [if_neg (by omega), if_neg h2]
    have hsum : ∀ (f g : Nat → Int), (∀ i, i < k + 1 → i ≠ p → i ≠ p + 1 → f i = g i) → f p + f (p + 1) = g p + g (p + 1) → dt_sm (k + 1) f = dt_sm (k + 1) g := by
      intro f g hfg hpp
      have e := dt_sm_zero (n := k + 1) (f := fun i => if i = p ∨ i = p + 1 then 0 else f i - g i) (fun i hi => by
        by_cases h : i = p ∨ i = p + 1
        · rw [if_pos h]
        · rw [if_neg h, hfg i hi (fun q => h (Or.inl q)) (fun q => h (Or.inr q))]
          omega)
      have e2 : ∀ (n : Nat) (F : Nat → Int), p + 1 < n → dt_sm n F = dt_sm n (fun i => if i = p ∨ i = p + 1 then 0 else F i) + F p + F (p + 1) := by
        intro n F hn
        have h1 : dt_sm n F = dt_sm n (fun i => (if i = p ∨ i = p + 1 then 0 else F i) + ((if i = p then F p else 0) + (if i = p + 1 then F (p + 1) else 0))) := dt_sm_c (fun i hi => by
          by_cases c1 : i = p
          · subst c1
            rw [if_pos (Or.inl rfl), if_pos rfl, if_neg (by omega)]
            omega
          · by_cases c2 : i = p + 1
            · subst c2
              rw [if_pos (Or.inr rfl), if_neg (by omega), if_pos rfl]
              omega
            · rw [if_neg (fun q => q.elim c1 c2), if_neg c1, if_neg c2]
              omega)
        rw [h1, dt_sm_add, dt_sm_add, dt_sm_one (p := p) (by omega) (fun i _ h => if_neg h), dt_sm_one (p := p + 1) hn (fun i _ h => if_neg h), if_pos rfl, if_pos rfl]
        omega
      rw [e2 _ f (by omega), e2 _ g (by omega)]
      have e3 : dt_sm (k + 1) (fun i => if i = p ∨ i = p + 1 then 0 else f i) = dt_sm (k + 1) (fun i => if i = p ∨ i = p + 1 then 0 else g i) := dt_sm_c (fun i hi => by
        by_cases h : i = p ∨ i = p + 1
        · rw [if_pos h, if_pos h]
        · rw [if_neg h, if_neg h, hfg i hi (fun q => h (Or.inl q)) (fun q => h (Or.inr q))])
      rw [e3]
      omega
    apply hsum
    · exact key
    · rw [a1, a2, b1, b2, s2 u, s2 v, dt_up_at, dt_up_at, dt_up_ne _ _ (show p ≠ p + 1 by omega), dt_up_ne _ _ (show p ≠ p + 1 by omega), dt_up_at, dt_up_at, dt_sg_s]
      grind

/-- equal columns -/
theorem dt_same (k : Nat) (r : Nat → Nat) (c : Nat → Nat → Int) : ∀ (d p : Nat), p + 1 + d < k → ∀ u : Nat → Int, dt k r (dt_up (dt_up c p u) (p + 1 + d) u) = 0
  | 0, p, h, u => by
    have := dt_nb k r c p u u h
    rw [Nat.add_zero]
    omega
  | d + 1, p, h, u => by
    -- the column at p + 1 + d + 1 goes one place down, by a change with its neighbour
    have e1 : dt_up (dt_up c p u) (p + 1 + (d + 1)) u = dt_up (dt_up (dt_up c p u) (p + 1 + d) (c (p + 1 + d))) (p + 1 + d + 1) u := by
      have e2 : dt_up (dt_up c p u) (p + 1 + d) (c (p + 1 + d)) = dt_up c p u := by
        have := dt_up_self (dt_up c p u) (p + 1 + d)
        rw [dt_up_ne _ _ (show p + 1 + d ≠ p by omega)] at this
        exact this
      rw [e2]
      rfl
    rw [e1, dt_nb k r _ (p + 1 + d) _ _ (by omega)]
    have e3 : dt_up (dt_up (dt_up c p u) (p + 1 + d) u) (p + 1 + d + 1) (c (p + 1 + d)) = dt_up (dt_up (dt_up c (p + 1 + d + 1) (c (p + 1 + d))) p u) (p + 1 + d) u := by
      rw [dt_up_cm _ _ _ (show p + 1 + d ≠ p + 1 + d + 1 by omega), dt_up_cm _ _ _ (show p ≠ p + 1 + d + 1 by omega)]
    rw [e3, dt_same k r (dt_up c (p + 1 + d + 1) (c (p + 1 + d))) d p (by omega) u]
    rfl
theorem dt_eq0 {k p q : Nat} (r : Nat → Nat) (c : Nat → Nat → Int) (hp : p < k) (hq : q < k) (h : p ≠ q) (u : Nat → Int) : dt k r (dt_up (dt_up c p u) q u) = 0 := by
  rcases Nat.lt_or_gt_of_ne h with l | l
  · have := dt_same k r c (q - (p + 1)) p (by omega) u
    rw [show p + 1 + (q - (p + 1)) = q by omega] at this
    exact this
  · rw [dt_up_cm _ _ _ h]
    have := dt_same k r c (p - (q + 1)) q (by omega) u
    rw [show q + 1 + (p - (q + 1)) = p by omega] at this
    exact this
/-- two columns change places -/
theorem dt_swp {k p q : Nat} (r : Nat → Nat) (c : Nat → Nat → Int) (hp : p < k) (hq : q < k) (h : p ≠ q) (u v : Nat → Int) : dt k r (dt_up (dt_up c p u) q v) = -dt k r (dt_up (dt_up c p v) q u) := by
  have h0 := dt_eq0 r c hp hq h (fun a => u a + v a)
  rw [dt_add r _ u v hq, dt_up_cm _ _ _ h, dt_up_cm c _ v h, dt_add r _ u v hp, dt_add r _ u v hp, ← dt_up_cm c u u h, ← dt_up_cm c v v h, dt_eq0 r c hp hq h u, dt_eq0 r c hp hq h v, ← dt_up_cm c v u h, ← dt_up_cm c u v h] at h0
  omega
/-- a column with a 1 in one row and 0 in the others: what is left without that row and that column -/
theorem dt_cof (k : Nat) : ∀ (r : Nat → Nat) (c : Nat → Nat → Int) (p q : Nat) (e : Nat → Int), p < k + 1 → q < k + 1 → (∀ t, t < k + 1 → e (r t) = if t = q then 1 else 0) → dt (k + 1) r (dt_up c p e) = dt_sg (p + q) * dt k (dt_sk q r) (dt_sk p c) := by
  induction k with
  | zero =>
    intro r c p q e hp hq he
    have h1 : p = 0 := by omega
    have h2 : q = 0 := by omega
    subst h1
    subst h2
    show 0 + dt_sg 0 * dt_up c 0 e 0 (r 0) * 1 = dt_sg 0 * 1
    rw [dt_up_at, he 0 (by omega)]
    rfl
  | succ k ih =>
    intro r c p q e hp hq he
    rw [dt_s]
    by_cases hq0 : q = 0
    · subst hq0
      rw [dt_sm_one (p := p) hp]
      · rw [dt_up_at, he 0 (by omega), if_pos rfl, dt_sk_up_eq, Int.mul_one]
        rfl
      · intro i hi hne
        have hz : dt (k + 1) (fun t => r (t + 1)) (dt_sk i (dt_up c p e)) = 0 := by
          rcases Nat.lt_or_gt_of_ne hne with l | l
          · rw [dt_sk_up_lt c e l]
            refine dt_zero (p := p - 1) _ _ (by omega) (fun t ht => ?_)
            rw [dt_up_at, he (t + 1) (by omega), if_neg (by omega)]
          · rw [dt_sk_up_gt c e l]
            refine dt_zero (p := p) _ _ (by omega) (fun t ht => ?_)
            rw [dt_up_at, he (t + 1) (by omega), if_neg (by omega)]
        rw [hz, Int.mul_zero]
    · -- the first row stays
      have hr0 : dt_sk q r 0 = r 0 := dt_sk_lt r (by omega)
      have hrs : (fun t => dt_sk q r (t + 1)) = dt_sk (q - 1) (fun t => r (t + 1)) := by
        funext t
        unfold dt_sk dt_d
        by_cases l : t + 1 < q
        · rw [if_pos l, if_pos (by omega)]
        · rw [if_neg l, if_neg (by omega)]
      have hterm : ∀ i, i < k + 2 → i ≠ p → dt_sg i * dt_up c p e i (r 0) * dt (k + 1) (fun t => r (t + 1)) (dt_sk i (dt_up c p e)) = dt_sg (p + q) * (dt_sg (if i < p then i else i - 1) * c i (r 0) * dt k (dt_sk (q - 1) (fun t => r (t + 1))) (dt_sk (if i < p then i else i - 1) (dt_sk p c))) := by
        intro i hi hne
        rw [dt_up_ne _ _ hne]
        have he2 : ∀ t, t < k + 1 → e (r (t + 1)) = if t = q - 1 then 1 else 0 := by
          intro t ht
          rw [he (t + 1) (by omega)]
          by_cases z : t = q - 1
          · rw [if_pos z, if_pos (by omega)]
          · rw [if_neg z, if_neg (by omega)]
        rcases Nat.lt_or_gt_of_ne hne with l | l
        · rw [dt_sk_up_lt c e l, ih (fun t => r (t + 1)) (dt_sk i c) (p - 1) (q - 1) e (by omega) (by omega) he2, if_pos l, ← dt_sk_sk c l]
          have s1 : dt_sg (p - 1 + (q - 1)) = dt_sg (p + q) := dt_sg_par (by omega)
          rw [s1]
          grind
        · rw [dt_sk_up_gt c e l, ih (fun t => r (t + 1)) (dt_sk i c) p (q - 1) e (by omega) (by omega) he2, if_neg (by omega), dt_sk_sk c l]
          have s1 : dt_sg (p + (q - 1)) = -dt_sg (p + q) := by rw [← dt_sg_s]; exact dt_sg_par (by omega)
          have s2 : dt_sg i = -dt_sg (i - 1) := by rw [← dt_sg_s]; exact dt_sg_par (by omega)
          rw [s1, s2]
          grind
      have hz : dt_sg p * dt_up c p e p (r 0) * dt (k + 1) (fun t => r (t + 1)) (dt_sk p (dt_up c p e)) = 0 := by
        rw [dt_up_at, he 0 (by omega), if_neg (by omega), Int.mul_zero, Int.zero_mul]
      have e1 : dt_sm (k + 2) (fun i => dt_sg i * dt_up c p e i (r 0) * dt (k + 1) (fun t => r (t + 1)) (dt_sk i (dt_up c p e))) = dt_sm (k + 1 + 1) (fun i => if i = p then 0 else (fun _ i => dt_sg (p + q) * (dt_sg (if i < p then i else i - 1) * c i (r 0) * dt k (dt_sk (q - 1) (fun t => r (t + 1))) (dt_sk (if i < p then i else i - 1) (dt_sk p c)))) p i) := by
        apply dt_sm_c
        intro i hi
        by_cases z : i = p
        · subst z
          rw [if_pos rfl]
          exact hz
        · rw [if_neg z]
          exact hterm i hi z
      rw [e1, ← dt_pairs (k + 1) (fun _ i => dt_sg (p + q) * (dt_sg (if i < p then i else i - 1) * c i (r 0) * dt k (dt_sk (q - 1) (fun t => r (t + 1))) (dt_sk (if i < p then i else i - 1) (dt_sk p c)))) p (by omega), dt_s, ← dt_sm_mul, hr0, hrs]
      apply dt_sm_c
      intro j hj
      have hj2 : (if dt_d p j < p then dt_d p j else dt_d p j - 1) = j := by
        unfold dt_d
        by_cases z : j < p
        · rw [if_pos z, if_pos z]
        · rw [if_neg z, if_neg (by omega)]
          omega
      show dt_sg (p + q) * (dt_sg (if dt_d p j < p then dt_d p j else dt_d p j - 1) * c (dt_d p j) (r 0) * dt k (dt_sk (q - 1) (fun t => r (t + 1))) (dt_sk (if dt_d p j < p then dt_d p j else dt_d p j - 1) (dt_sk p c))) = _
      rw [hj2]
      rfl
/-- the columns together are nothing: the determinant is 0 -/
theorem dt_sum0 {k : Nat} (r : Nat → Nat) (c : Nat → Nat → Int) (h : ∀ t, t < k + 1 → dt_sm (k + 1) (fun j => c j (r t)) = 0) : dt (k + 1) r c = 0 := by
  have key : ∀ m, m ≤ k → dt (k + 1) r (dt_up c 0 (fun a => c 0 a + dt_sm m (fun j => c (j + 1) a))) = dt (k + 1) r c := by
    intro m
    induction m with
    | zero =>
      intro _
      have : (fun a => c 0 a + dt_sm 0 (fun j => c (j + 1) a)) = c 0 := funext fun a => Int.add_zero _
      rw [this, dt_up_self]
    | succ m ih =>
      intro hm
      have : (fun a => c 0 a + dt_sm (m + 1) (fun j => c (j + 1) a)) = (fun a => (fun a => c 0 a + dt_sm m (fun j => c (j + 1) a)) a + c (m + 1) a) := funext fun a => by
        show c 0 a + dt_sm (m + 1) (fun j => c (j + 1) a) = c 0 a + dt_sm m (fun j => c (j + 1) a) + c (m + 1) a
        rw [dt_sm_s]
        omega
      rw [this, dt_add r c _ _ (Nat.succ_pos k), ih (by omega)]
      have e2 : dt_up c 0 (c (m + 1)) = dt_up (dt_up c 0 (c (m + 1))) (m + 1) (c (m + 1)) := by
        have := dt_up_self (dt_up c 0 (c (m + 1))) (m + 1)
        rw [dt_up_ne _ _ (show m + 1 ≠ 0 by omega)] at this
        exact this.symm
      rw [e2, dt_eq0 r c (Nat.succ_pos k) (by omega) (by omega)]
      omega
  rw [← key k (Nat.le_refl k)]
  refine dt_zero (p := 0) _ _ (Nat.succ_pos k) (fun t ht => ?_)
  rw [dt_up_at]
  have := h t ht
  rw [dt_sm_first] at this
  exact this
