/-! ===== squares whose rows outweigh what they take: their determinants, and those with a column put in, are not below 0; above 0 where all is led ===== -/
def dt_id : Nat → Nat := fun t => t
def dt_e (q : Nat) : Nat → Int := fun a => if a = q then 1 else 0
def dt_A (k : Nat) (w : Nat → Nat → Int) (s : Nat → Int) : Nat → Nat → Int := fun j i => if i = j then s i + dt_sm k (fun b => if b = i then 0 else w i b) else -w i j
def dt_w' (p : Nat) (w : Nat → Nat → Int) : Nat → Nat → Int := fun i j => w (dt_d p i) (dt_d p j)
def dt_s' (p : Nat) (w : Nat → Nat → Int) (s : Nat → Int) : Nat → Int := fun i => s (dt_d p i) + w (dt_d p i) p
theorem dt_d_ne (p i : Nat) : dt_d p i ≠ p := by
  unfold dt_d
  split <;> omega
theorem dt_d_lt {p i k : Nat} (h : i < k) : dt_d p i < k + 1 := by
  unfold dt_d
  split <;> omega
theorem dt_d_inj {p i j : Nat} (h : dt_d p i = dt_d p j) : i = j := by
  unfold dt_d at h
  split at h <;> split at h <;> omega
theorem dt_d_sur {p j : Nat} (h : j ≠ p) : ∃ i, dt_d p i = j ∧ (∀ k, j < k + 1 → p < k + 1 → i < k) := by
  by_cases l : j < p
  · exact ⟨j, by unfold dt_d; rw [if_pos l], fun k _ _ => by omega⟩
  · exact ⟨j - 1, by unfold dt_d; rw [if_neg (by omega)]; omega, fun k _ _ => by omega⟩
/-- leaving out a place -/
theorem dt_A_ent {k p i : Nat} (j : Nat) (w : Nat → Nat → Int) (s : Nat → Int) (hp : p < k + 1) : dt_A (k + 1) w s (dt_d p j) (dt_d p i) = dt_A k (dt_w' p w) (dt_s' p w s) j i := by
  show (if dt_d p i = dt_d p j then s (dt_d p i) + dt_sm (k + 1) (fun b => if b = dt_d p i then 0 else w (dt_d p i) b) else -w (dt_d p i) (dt_d p j)) = (if i = j then (s (dt_d p i) + w (dt_d p i) p) + dt_sm k (fun b => if b = i then 0 else w (dt_d p i) (dt_d p b)) else -w (dt_d p i) (dt_d p j))
  by_cases e : i = j
  · subst e
    rw [if_pos rfl, if_pos rfl]
    have h1 : dt_sm k (fun b => if b = i then 0 else w (dt_d p i) (dt_d p b)) = dt_sm k (fun b => if dt_d p b = dt_d p i then 0 else w (dt_d p i) (dt_d p b)) := by
      apply dt_sm_c
      intro b hb
      by_cases z : b = i
      · rw [if_pos z, if_pos (by rw [z])]
      · rw [if_neg z, if_neg (fun q => z (dt_d_inj q))]
    have h2 : dt_sm k (fun b => if dt_d p b = dt_d p i then 0 else w (dt_d p i) (dt_d p b)) = dt_sm (k + 1) (fun b => if b = p then 0 else (if b = dt_d p i then 0 else w (dt_d p i) b)) := dt_pairs k (fun _ x => if x = dt_d p i then 0 else w (dt_d p i) x) p (by omega)
    rw [h1, h2]
    have h3 : dt_sm (k + 1) (fun b => if b = dt_d p i then 0 else w (dt_d p i) b) = dt_sm (k + 1) (fun b => (if b = p then w (dt_d p i) p else 0) + (if b = p then 0 else (if b = dt_d p i then 0 else w (dt_d p i) b))) := by
      apply dt_sm_c
      intro b hb
      by_cases z : b = p
      · subst z
        rw [if_pos rfl, if_pos rfl, if_neg (fun q => dt_d_ne b i q.symm)]
        omega
      · rw [if_neg z, if_neg z]
        exact (Int.zero_add _).symm
    rw [h3, dt_sm_add, dt_sm_one (p := p) hp (fun b _ z => if_neg z), if_pos rfl]
    omega
  · rw [if_neg e, if_neg (fun q => e (dt_d_inj q))]
theorem dt_A_min (k p : Nat) (w : Nat → Nat → Int) (s : Nat → Int) (hp : p < k + 1) : dt k (dt_sk p dt_id) (dt_sk p (dt_A (k + 1) w s)) = dt k dt_id (dt_A k (dt_w' p w) (dt_s' p w s)) := dt_cg (fun j i _ _ => dt_A_ent j w s hp)
/-- nothing below 0 -/
def dt_nn (k : Nat) (w : Nat → Nat → Int) (s : Nat → Int) : Prop := (∀ i j, i < k → j < k → 0 ≤ w i j) ∧ ∀ i, i < k → 0 ≤ s i
theorem dt_nn' {k p : Nat} {w : Nat → Nat → Int} {s : Nat → Int} (h : dt_nn (k + 1) w s) (hp : p < k + 1) : dt_nn k (dt_w' p w) (dt_s' p w s) := by
  refine ⟨fun i j hi hj => h.1 _ _ (dt_d_lt hi) (dt_d_lt hj), fun i hi => ?_⟩
  have h1 := h.2 _ (dt_d_lt (p := p) hi)
  have h2 := h.1 _ _ (dt_d_lt (p := p) hi) hp
  show 0 ≤ s (dt_d p i) + w (dt_d p i) p
  omega
/-- the slack of one taken away -/
theorem dt_A_lin {k i : Nat} (w : Nat → Nat → Int) (s : Nat → Int) (hi : i < k + 1) : dt (k + 1) dt_id (dt_A (k + 1) w s) = dt (k + 1) dt_id (dt_A (k + 1) w (dt_up s i 0)) + s i * dt k dt_id (dt_A k (dt_w' i w) (dt_s' i w s)) := by
  have h1 := dt_lin (k + 1) dt_id (dt_A (k + 1) w (dt_up s i 0)) i (dt_A (k + 1) w (dt_up s i 0) i) (dt_e i) (s i) hi
  rw [dt_up_self, dt_cof k dt_id _ i i (dt_e i) hi hi (fun t _ => rfl), dt_A_min k i w (dt_up s i 0) hi] at h1
  have e0 : dt_sg (i + i) = 1 := by rw [dt_sg_add, dt_sg_sq]
  have e1 : dt_s' i w (dt_up s i 0) = dt_s' i w s := funext fun a => by
    show dt_up s i 0 (dt_d i a) + _ = s (dt_d i a) + _
    rw [dt_up_ne _ _ (dt_d_ne i a)]
  rw [e0, Int.one_mul, e1] at h1
  rw [← h1]
  apply dt_cg
  intro j t hj ht
  by_cases z : j = i
  · subst z
    rw [dt_up_at]
    show (if t = j then s t + _ else _) = (if t = j then dt_up s j 0 t + _ else _) + s j * (if t = j then 1 else 0)
    by_cases y : t = j
    · subst y
      rw [if_pos rfl, if_pos rfl, if_pos rfl, dt_up_at]
      omega
    · rw [if_neg y, if_neg y, if_neg y]
      omega
  · rw [dt_up_ne _ _ z]
    show (if t = j then s t + _ else _) = (if t = j then dt_up s i 0 t + _ else _)
    by_cases y : t = j
    · subst y
      rw [if_pos rfl, if_pos rfl, dt_up_ne _ _ z]
    · rw [if_neg y, if_neg y]
theorem dt_A_0 (k : Nat) (w : Nat → Nat → Int) (s : Nat → Int) (h : ∀ i, i < k + 1 → s i = 0) : dt (k + 1) dt_id (dt_A (k + 1) w s) = 0 := by
  apply dt_sum0
  intro t ht
  have e : dt_sm (k + 1) (fun j => dt_A (k + 1) w s j t) = dt_sm (k + 1) (fun j => (if j = t then dt_sm (k + 1) (fun b => if b = t then 0 else w t b) else 0) + -(if j = t then 0 else w t j)) := by
    apply dt_sm_c
    intro j hj
    show (if t = j then s t + _ else _) = _
    by_cases z : j = t
    · subst z
      rw [if_pos rfl, if_pos rfl, if_pos rfl, h j hj]
      omega
    · rw [if_neg z, if_neg z, if_neg (fun q => z q.symm)]
      omega
  show dt_sm (k + 1) (fun j => dt_A (k + 1) w s j t) = 0
  rw [e, dt_sm_add, dt_sm_neg, dt_sm_one (p := t) ht (fun b _ z => if_neg z), if_pos rfl]
  omega
theorem dt_A_nn (k : Nat) : ∀ (w : Nat → Nat → Int) (s : Nat → Int), dt_nn k w s → 0 ≤ dt k dt_id (dt_A k w s) := by
  induction k with
  | zero => intro w s _; show (0 : Int) ≤ 1; decide
  | succ k ih =>
    intro w s h
    have key : ∀ m (s : Nat → Int), dt_nn (k + 1) w s → (∀ i, i < k + 1 → i < k + 1 - m → s i = 0) → 0 ≤ dt (k + 1) dt_id (dt_A (k + 1) w s) := by
      intro m
      induction m with
      | zero => intro s _ hz; rw [dt_A_0 k w s (fun i hi => hz i hi (by omega))]; exact Int.le_refl 0
      | succ m ihm =>
        intro s hs hz
        by_cases hm : m < k + 1
        · rw [dt_A_lin w s (show k - m < k + 1 by omega)]
          have h1 := ihm (dt_up s (k - m) 0) ⟨hs.1, fun i hi => by
            by_cases z : i = k - m
            · rw [z, dt_up_at]; exact Int.le_refl 0
            · rw [dt_up_ne _ _ z]; exact hs.2 i hi⟩ (fun i hi hl => by
            by_cases z : i = k - m
            · rw [z, dt_up_at]
            · rw [dt_up_ne _ _ z]; exact hz i hi (by omega))
          have h2 := ih _ _ (dt_nn' hs (show k - m < k + 1 by omega))
          have h3 := Int.mul_nonneg (hs.2 (k - m) (by omega)) h2
          omega
        · exact ihm s hs (fun i hi hl => hz i hi (by omega))
    exact key (k + 1) s h (fun i hi hl => by omega)
/-- all is led: no set of places without slack keeps to itself -/
def dt_gd (k : Nat) (w : Nat → Nat → Int) (s : Nat → Int) : Prop := ∀ T : Nat → Prop, (∃ i, i < k ∧ T i) → (∀ i, i < k → T i → s i = 0) → ∃ i j, i < k ∧ j < k ∧ T i ∧ ¬ T j ∧ 0 < w i j
theorem dt_A_pos (k : Nat) : ∀ (w : Nat → Nat → Int) (s : Nat → Int), dt_nn k w s → dt_gd k w s → 0 < dt k dt_id (dt_A k w s) := by
  induction k with
  | zero => intro w s _ _; show (0 : Int) < 1; decide
  | succ k ih =>
    intro w s h hg
    have hex : ∃ i, i < k + 1 ∧ 0 < s i := by
      apply Classical.byContradiction
      intro hno
      obtain ⟨i, j, -, -, -, q, -⟩ := hg (fun _ => True) ⟨0, by omega, trivial⟩ (fun i hi _ => by
        have h1 := h.2 i hi
        have h2 : ¬ 0 < s i := fun q => hno ⟨i, hi, q⟩
        omega)
      exact q trivial
    obtain ⟨i, hi, hs⟩ := hex
    rw [dt_A_lin w s hi]
    have h1 := dt_A_nn (k + 1) w (dt_up s i 0) ⟨h.1, fun j hj => by
      by_cases z : j = i
      · rw [z, dt_up_at]; exact Int.le_refl 0
      · rw [dt_up_ne _ _ z]; exact h.2 j hj⟩
    have h2 := ih _ _ (dt_nn' h hi) (fun T ⟨a, ha, hT⟩ hz => by
      obtain ⟨x, y, hx, hy, hTx, hTy, hw⟩ := hg (fun b => ∃ a, a < k ∧ T a ∧ dt_d i a = b) ⟨dt_d i a, dt_d_lt ha, a, ha, hT, rfl⟩ (fun b hb ⟨a, ha, hTa, e⟩ => by
        have := hz a ha hTa
        have g1 := h.2 _ (dt_d_lt (p := i) ha)
        have g2 := h.1 _ _ (dt_d_lt (p := i) ha) hi
        subst e
        have : s (dt_d i a) + w (dt_d i a) i = 0 := this
        omega)
      obtain ⟨a', ha', hTa', rfl⟩ := hTx
      have hne : y ≠ i := by
        intro e
        subst e
        have := hz a' ha' hTa'
        have g1 := h.2 _ (dt_d_lt (p := y) ha')
        have : s (dt_d y a') + w (dt_d y a') y = 0 := this
        omega
      obtain ⟨b', hb', hlt⟩ := dt_d_sur hne
      have hbk := hlt k hy hi
      subst hb'
      exact ⟨a', b', ha', hbk, hTa', fun q => hTy ⟨b', hbk, q, rfl⟩, hw⟩)
    have h3 := Int.mul_pos hs h2
    omega
theorem dt_lins {k q : Nat} (r : Nat → Nat) (c : Nat → Nat → Int) (hq : q < k) (x : Nat → Int) (v : Nat → Nat → Int) : ∀ m, dt k r (dt_up c q (fun a => dt_sm m (fun j => x j * v j a))) = dt_sm m (fun j => x j * dt k r (dt_up c q (v j)))
  | 0 => by
    refine dt_zero (p := q) _ _ hq (fun t _ => ?_)
    rw [dt_up_at]
    rfl
  | m + 1 => by
    have e : (fun a => dt_sm (m + 1) (fun j => x j * v j a)) = (fun a => (fun a => dt_sm m (fun j => x j * v j a)) a + x m * v m a) := rfl
    rw [e, dt_lin k r c q _ _ _ hq, dt_lins r c hq x v m]
    rfl
/-- a column with a 1 in one row, put in -/
theorem dt_A_col (k : Nat) : ∀ (w : Nat → Nat → Int) (s : Nat → Int), dt_nn k w s → ∀ p q, p < k → q < k → 0 ≤ dt k dt_id (dt_up (dt_A k w s) p (dt_e q)) := by
  induction k with
  | zero => intro w s _ p q hp; omega
  | succ k ih =>
    intro w s h p q hp hq
    by_cases e : p = q
    · subst e
      rw [dt_cof k dt_id _ p p (dt_e p) hp hp (fun t _ => rfl), dt_sg_add, dt_sg_sq, Int.one_mul, dt_A_min k p w s hp]
      exact dt_A_nn k _ _ (dt_nn' h hp)
    · -- the column q is what it takes from each, and its own
      have h0 : dt (k + 1) dt_id (dt_up (dt_A (k + 1) w s) p (dt_e q)) = dt (k + 1) dt_id (dt_up (dt_up (dt_A (k + 1) w s) p (dt_e q)) q (fun a => (fun a => dt_sm (k + 1) (fun j => (if j = q then 0 else -w j q) * dt_e j a)) a + dt_A (k + 1) w s q q * dt_e q a)) := by
        apply dt_cg
        intro j t hj ht
        by_cases z : j = q
        · subst z
          rw [dt_up_at, dt_up_ne _ _ (fun y => e y.symm)]
          show dt_A (k + 1) w s j t = dt_sm (k + 1) (fun i => (if i = j then 0 else -w i j) * dt_e i t) + dt_A (k + 1) w s j j * (if t = j then 1 else 0)
          rw [dt_sm_one (p := t) ht (fun i _ y => by
            show (if i = j then 0 else -w i j) * (if t = i then 1 else 0) = (0 : Int)
            rw [if_neg (show ¬ t = i from fun q => y q.symm), Int.mul_zero])]
          show _ = (if t = j then 0 else -w t j) * (if t = t then 1 else 0) + _
          rw [if_pos rfl, Int.mul_one]
          by_cases y : t = j
          · rw [if_pos y, if_pos y, y, Int.mul_one, Int.zero_add]
          · rw [if_neg y, if_neg y, Int.mul_zero, Int.add_zero]
            exact if_neg y
        · rw [dt_up_ne _ _ z]
      rw [h0, dt_lin (k + 1) dt_id _ q _ _ _ hq, dt_eq0 dt_id _ hp hq e (dt_e q), Int.mul_zero, Int.add_zero, dt_lins dt_id _ hq]
      apply dt_sm_nonneg
      intro j hj
      by_cases z : j = q
      · rw [if_pos z, Int.zero_mul]
        exact Int.le_refl 0
      · rw [if_neg z, dt_swp dt_id _ hp hq e, Int.neg_mul_neg]
        apply Int.mul_nonneg (h.1 j q hj hq)
        rw [dt_cof k dt_id _ q q (dt_e q) hq hq (fun t _ => rfl), dt_sg_add, dt_sg_sq, Int.one_mul]
        obtain ⟨j', hj', hlt⟩ := dt_d_sur z
        have hjk := hlt k hj hq
        obtain ⟨p', hp', hlt2⟩ := dt_d_sur e
        have hpk := hlt2 k hp hq
        have e2 : dt k (dt_sk q dt_id) (dt_sk q (dt_up (dt_A (k + 1) w s) p (dt_e j))) = dt k dt_id (dt_up (dt_A k (dt_w' q w) (dt_s' q w s)) p' (dt_e j')) := by
          apply dt_cg
          intro x t hx ht
          show dt_up (dt_A (k + 1) w s) p (dt_e j) (dt_d q x) (dt_d q t) = dt_up (dt_A k (dt_w' q w) (dt_s' q w s)) p' (dt_e j') x t
          by_cases y : x = p'
          · subst y
            rw [hp', dt_up_at, dt_up_at]
            show (if dt_d q t = j then 1 else 0) = (if t = j' then 1 else 0)
            by_cases y2 : t = j'
            · rw [if_pos y2, if_pos (by rw [y2, hj'])]
            · rw [if_neg y2, if_neg (fun z2 => y2 (dt_d_inj (z2.trans hj'.symm)))]
          · rw [dt_up_ne _ _ y, dt_up_ne _ _ (fun z2 => y (dt_d_inj (z2.trans hp'.symm)))]
            exact dt_A_ent x w s hq
        rw [e2]
        exact ih _ _ (dt_nn' h hq) p' j' hpk hjk

-- bounds
def dt_fc (k : Nat) : Nat := match k with
  | 0 => 1
  | k + 1 => (k + 1) * dt_fc k
theorem dt_sm_bd {n B : Nat} {f : Nat → Int} (h : ∀ i, i < n → (f i).natAbs ≤ B) : (dt_sm n f).natAbs ≤ n * B := by
  induction n with
  | zero => exact Nat.zero_le _
  | succ n ih =>
    rw [dt_sm_s, Nat.succ_mul]
    exact Nat.le_trans (Int.natAbs_add_le _ _) (Nat.add_le_add (ih (fun i hi => h i (by omega))) (h n (by omega)))
theorem dt_sg_abs (i : Nat) : (dt_sg i).natAbs = 1 := by
  unfold dt_sg
  split <;> rfl
theorem dt_bd (k : Nat) : ∀ (r : Nat → Nat) (c : Nat → Nat → Int) (M : Nat), (∀ i t, i < k → t < k → (c i (r t)).natAbs ≤ M) → (dt k r c).natAbs ≤ dt_fc k * M ^ k := by
  induction k with
  | zero => intro r c M _; exact Nat.le_refl 1
  | succ k ih =>
    intro r c M h
    rw [dt_s]
    refine Nat.le_trans (dt_sm_bd (B := M * (dt_fc k * M ^ k)) (fun i hi => ?_)) (Nat.le_of_eq ?_)
    · rw [Int.natAbs_mul, Int.natAbs_mul, dt_sg_abs, Nat.one_mul]
      refine Nat.mul_le_mul (h i 0 hi (by omega)) (ih _ _ M (fun j t hj ht => ?_))
      unfold dt_sk dt_d
      split
      · exact h _ _ (by omega) (by omega)
      · exact h _ _ (by omega) (by omega)
    · show (k + 1) * (M * (dt_fc k * M ^ k)) = (k + 1) * dt_fc k * M ^ (k + 1)
      rw [Nat.pow_succ]
      grind
theorem dt_bdp (k : Nat) : ∀ (r : Nat → Nat) (c : Nat → Nat → Int) (p M B : Nat), p < k → (∀ i t, i < k → t < k → i ≠ p → (c i (r t)).natAbs ≤ M) → (∀ t, t < k → (c p (r t)).natAbs ≤ B) → (dt k r c).natAbs ≤ dt_fc k * (M ^ (k - 1) * B) := by
  induction k with
  | zero => intro r c p M B hp; omega
  | succ k ih =>
    intro r c p M B hp h h2
    rw [dt_s]
    refine Nat.le_trans (dt_sm_bd (B := dt_fc k * (M ^ k * B)) (fun i hi => ?_)) (Nat.le_of_eq ?_)
    · rw [Int.natAbs_mul, Int.natAbs_mul, dt_sg_abs, Nat.one_mul]
      by_cases e : i = p
      · subst e
        refine Nat.le_trans (Nat.mul_le_mul (h2 0 (by omega)) (dt_bd k _ _ M (fun j t hj ht => ?_))) (Nat.le_of_eq (by grind))
        unfold dt_sk dt_d
        split
        · exact h _ _ (by omega) (by omega) (by omega)
        · exact h _ _ (by omega) (by omega) (by omega)
      · obtain ⟨p', hp', hlt⟩ := dt_d_sur (show p ≠ i from fun q => e q.symm)
        have hpk := hlt k hp hi
        refine Nat.le_trans (Nat.mul_le_mul (h i 0 hi (by omega) e) (ih _ _ p' M B hpk (fun j t hj ht hne => ?_) (fun t ht => ?_))) (Nat.le_of_eq ?_)
        · exact h _ _ (dt_d_lt hj) (by omega) (fun q => hne (dt_d_inj (q.trans hp'.symm)))
        · show (c (dt_d i p') (r (t + 1))).natAbs ≤ B
          rw [hp']
          exact h2 _ (by omega)
        · obtain ⟨k', rfl⟩ : ∃ k', k = k' + 1 := ⟨k - 1, by omega⟩
          rw [Nat.pow_succ, show k' + 1 - 1 = k' by omega]
          grind
    · show (k + 1) * (dt_fc k * (M ^ k * B)) = (k + 1) * dt_fc k * (M ^ (k + 1 - 1) * B)
      rw [show k + 1 - 1 = k by omega, Nat.mul_assoc]
