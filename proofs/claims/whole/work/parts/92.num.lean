/-! ===== the bounds of shares' and rest's numbers, and that they are not below 0 ===== -/
theorem dt_sm_le {n : Nat} {f g : Nat → Int} (h : ∀ i, i < n → f i ≤ g i) : dt_sm n f ≤ dt_sm n g := by
  induction n with
  | zero => exact Int.le_refl 0
  | succ n ih =>
    rw [dt_sm_s, dt_sm_s]
    have h1 := ih (fun i hi => h i (by omega))
    have h2 := h n (by omega)
    omega
theorem dt_sm_cst (c : Int) : ∀ n : Nat, dt_sm n (fun _ => c) = (n : Int) * c
  | 0 => (Int.zero_mul c).symm
  | n + 1 => by
    rw [dt_sm_s, dt_sm_cst c n, Int.natCast_add, Int.add_mul]
    omega
theorem dt_sm_pos {n p : Nat} {f : Nat → Int} (h : ∀ i, i < n → 0 ≤ f i) (hp : p < n) (h2 : 0 < f p) : 0 < dt_sm n f := by
  induction n with
  | zero => omega
  | succ n ih =>
    rw [dt_sm_s]
    have h3 := dt_sm_nonneg (n := n) (f := f) (fun i hi => h i (by omega))
    have h4 := h n (by omega)
    rcases Nat.lt_or_ge p n with z | z
    · have := ih (fun i hi => h i (by omega)) z
      omega
    · rw [show p = n by omega] at h2
      omega
theorem dt_sm_eq0 {n p : Nat} {f : Nat → Int} (h : ∀ i, i < n → 0 ≤ f i) (h0 : dt_sm n f = 0) (hp : p < n) : f p = 0 := by
  have h1 := h p hp
  rcases Int.lt_or_le 0 (f p) with z | z
  · have := dt_sm_pos h hp z
    omega
  · omega
/-- sums without one place -/
theorem dt_sk_bd {n i : Nat} {f : Nat → Int} {c : Int} (hi : i < n) (h : ∀ b, b < n → 0 ≤ f b ∧ f b ≤ c) : 0 ≤ dt_sm n (fun b => if b = i then 0 else f b) ∧ dt_sm n (fun b => if b = i then 0 else f b) ≤ (n : Int) * c - c := by
  refine ⟨dt_sm_nonneg (fun b hb => ?_), ?_⟩
  · have := h b hb
    split
    · exact Int.le_refl 0
    · exact this.1
  · have e := dt_sm_skip (n := n) (i := i) (fun _ => c) hi
    rw [dt_sm_cst] at e
    rw [← e]
    refine dt_sm_le (fun b hb => ?_)
    have := h b hb
    split
    · exact Int.le_refl 0
    · exact this.2
def nb_w (w : Nat → Nat → Int) (n : Nat) : Prop := ∀ i b, i < n → b < n → 0 ≤ w i b ∧ w i b ≤ 9
/-- one leads another at once, by the weights -/
def nb_E (w : Nat → Nat → Int) (a b : Nat) : Bool := decide (0 < w b a)
theorem nb_le (S : mn_S) (n a b : Nat) : ln_tc n (ln_le S) a b ↔ ln_tc n (nb_E (sh_w S)) a b := ln_tc_cg (fun x y _ _ => by
  unfold ln_le nb_E sh_w
  by_cases c : S.1 (100 + 3 * y) x ≤ 0
  · rw [decide_eq_true c, decide_eq_false (by
      rw [fa_le] at c
      have e0 : ((0 : Int32)).toInt = 0 := by decide
      omega)]
    rfl
  · rw [decide_eq_false c, decide_eq_true (by
      rw [fa_le] at c
      have e0 : ((0 : Int32)).toInt = 0 := by decide
      omega)]
    rfl) a b
/-- who leads into a set that nobody leads into from outside stands in it -/
theorem nb_back {n : Nat} {w : Nat → Nat → Int} {X : Nat → Prop} (h : ∀ a b, a < n → b < n → 0 < w b a → X b → X a) {o i : Nat} (t : ln_tc n (nb_E w) o i) (hi : X i) : X o := t (fun a b => X b → X a) (fun a b ha hb e hb2 => h a b ha hb (of_decide_eq_true e) hb2) (fun _ _ _ _ _ _ t1 t2 q => t1 (t2 q)) hi
-- shares
theorem ns_m_pos {n i : Nat} {w : Nat → Nat → Int} (hw : nb_w w n) (hi : i < n) (h : ∀ x, x < n → ln_tc n (nb_E w) i x) : 0 < dt n dt_id (dt_up (dt_A n w (fun _ => 0)) i (dt_e i)) := by
  obtain ⟨m, rfl⟩ : ∃ m, n = m + 1 := ⟨n - 1, by omega⟩
  have e : dt_sg (i + i) = 1 := by rw [dt_sg_add, dt_sg_sq]
  rw [dt_cof m dt_id _ i i (dt_e i) hi hi (fun t _ => rfl), e, Int.one_mul, dt_A_min m i w _ hi]
  have dlt : ∀ a, a < m → dt_d i a < m + 1 := fun a ha => dt_d_lt ha
  refine dt_A_pos m _ _ ⟨fun a b ha hb => (hw _ _ (dlt a ha) (dlt b hb)).1, fun a ha => ?_⟩ (fun T hT hs => ?_)
  · show 0 ≤ (0 : Int) + w (dt_d i a) i
    have := (hw _ i (dlt a ha) hi).1
    omega
  · refine Classical.byContradiction fun hno => ?_
    obtain ⟨t, ht, hTt⟩ := hT
    have hX : ∀ a b, a < m + 1 → b < m + 1 → 0 < w b a → (∃ r, r < m ∧ T r ∧ b = dt_d i r) → ∃ r, r < m ∧ T r ∧ a = dt_d i r := fun a b ha hb hab hb2 => by
      obtain ⟨r, r1, r2, rfl⟩ := hb2
      have hsr : (0 : Int) + w (dt_d i r) i = 0 := hs r r1 r2
      by_cases c : a = i
      · rw [c] at hab
        omega
      · obtain ⟨k, k1, k2⟩ := dt_d_sur (p := i) (j := a) c
        have k3 := k2 m (by omega) hi
        refine Classical.byContradiction fun hq => hno ⟨r, k, r1, k3, r2, fun hTk => hq ⟨k, k3, hTk, k1.symm⟩, ?_⟩
        show 0 < w (dt_d i r) (dt_d i k)
        rw [k1]
        exact hab
    have := nb_back (X := fun b => ∃ r, r < m ∧ T r ∧ b = dt_d i r) hX (h (dt_d i t) (dlt t ht)) ⟨t, ht, hTt, rfl⟩
    obtain ⟨r, -, -, e⟩ := this
    exact dt_d_ne i r e.symm
theorem ns_fc : ∀ m, m < 6 → dt_fc m * 54 ^ m ≤ 55099802880 := by decide +kernel
theorem ns_m_bd {n i : Nat} {w : Nat → Nat → Int} (hw : nb_w w n) (h6 : n ≤ 6) (hi : i < n) : (dt n dt_id (dt_up (dt_A n w (fun _ => 0)) i (dt_e i))).natAbs ≤ 55099802880 := by
  obtain ⟨m, rfl⟩ : ∃ m, n = m + 1 := ⟨n - 1, by omega⟩
  have e : dt_sg (i + i) = 1 := by rw [dt_sg_add, dt_sg_sq]
  rw [dt_cof m dt_id _ i i (dt_e i) hi hi (fun t _ => rfl), e, Int.one_mul]
  refine Nat.le_trans (dt_bd m _ _ 54 (fun a t ha ht => ?_)) (ns_fc m (by omega))
  show (dt_A (m + 1) w (fun _ => 0) (dt_d i a) (dt_d i t)).natAbs ≤ 54
  have ga := dt_d_lt (p := i) ha
  have gt := dt_d_lt (p := i) ht
  unfold dt_A
  by_cases c : dt_d i t = dt_d i a
  · rw [if_pos c]
    have := dt_sk_bd (n := m + 1) (i := dt_d i t) (f := w (dt_d i t)) (c := 9) gt (fun b hb => hw _ b gt hb)
    show ((0 : Int) + dt_sm (m + 1) (fun b => if b = dt_d i t then 0 else w (dt_d i t) b)).natAbs ≤ 54
    omega
  · rw [if_neg c]
    have := hw _ _ gt ga
    omega
theorem ns_all {n i : Nat} {w : Nat → Nat → Int} (hw : nb_w w n) (h12 : n ≤ 12) (hi : i < n) : 0 ≤ dt_sm n (w i) ∧ dt_sm n (w i) ≤ 9 * n := by
  refine ⟨dt_sm_nonneg (fun b hb => (hw i b hi hb).1), ?_⟩
  have := dt_sm_le (n := n) (f := w i) (g := fun _ => 9) (fun b hb => (hw i b hi hb).2)
  rw [dt_sm_cst] at this
  omega
theorem ns_all_pos {n i j : Nat} {w : Nat → Nat → Int} (hw : nb_w w n) (hi : i < n) (hj : j < n) (h : ln_tc n (nb_E w) j i) : 0 < dt_sm n (w i) := by
  have := h (fun a b => b = i → ∃ c, c < n ∧ 0 < w i c) (fun a b ha hb e hb2 => ⟨a, ha, by rw [← hb2]; exact of_decide_eq_true e⟩) (fun x y z _ _ _ _ t2 q => t2 q) rfl
  obtain ⟨c, hc, hc2⟩ := this
  exact dt_sm_pos (fun b hb => (hw i b hi hb).1) hc hc2
/-- what shares' numbers are like -/
theorem ns_ok {S : mn_S} {n : Nat} (h12 : n ≤ 12) (hw : sh_ok S n) (h : sh_th S n) : (∀ i, i < n → 0 < sh_p S n i ∧ sh_p S n i ≤ 2975389355520) := fun i hi => by
  have hw2 : nb_w (sh_w S) n := hw
  have h6 := h.2.1
  have t : ∀ a b, a < n → b < n → ln_tc n (nb_E (sh_w S)) a b := fun a b ha hb => (nb_le S n a b).mp (h.2.2 a b ha hb)
  have m1 := ns_m_pos hw2 hi (fun x hx => t i x hi hx)
  have m2 := ns_m_bd hw2 h6 hi
  have a1 := ns_all hw2 h12 hi
  have a2 := ns_all_pos hw2 hi hi (t i i hi hi)
  unfold sh_p sh_m
  generalize dt n dt_id (dt_up (dt_A n (sh_w S) (fun _ => 0)) i (dt_e i)) = x at *
  generalize dt_sm n (sh_w S i) = y at *
  refine ⟨Int.mul_pos m1 a2, ?_⟩
  have e : x * y ≤ 55099802880 * 54 := Int.mul_le_mul (by omega) (by omega) (by omega) (by omega)
  omega
theorem ns_sum {n : Nat} {f : Nat → Int} (h6 : n ≤ 6) {c : Int} (hc : 0 ≤ c) (h : ∀ i, i < n → 0 ≤ f i ∧ f i ≤ c) : 0 ≤ dt_sm n f ∧ dt_sm n f ≤ 6 * c := by
  refine ⟨dt_sm_nonneg (fun i hi => (h i hi).1), ?_⟩
  have e := dt_sm_le (n := n) (f := f) (g := fun _ => c) (fun i hi => (h i hi).2)
  rw [dt_sm_cst] at e
  have : (n : Int) * c ≤ 6 * c := Int.mul_le_mul_of_nonneg_right (by omega) hc
  omega
-- rest
def nr_t (t : Nat → Int) (n : Nat) : Prop := ∀ i, i < n → 0 ≤ t i ∧ t i ≤ 1000
def nr_th (mv : Nat → Bool) (n : Nat) (w : Nat → Nat → Int) : Prop := ∀ i, i < n → mv i = true → ∃ o, o < n ∧ mv o = false ∧ ln_tc n (nb_E w) o i
theorem nr_A_bd {mv : Nat → Bool} {n : Nat} {w : Nat → Nat → Int} (hw : nb_w w n) (h12 : n ≤ 12) {r c : Nat} (hr : r < rs_k mv n) (hc : c < rs_k mv n) : (rs_A mv n w c r).natAbs ≤ 99 := by
  obtain ⟨r1, -, -⟩ := rs_at_in hr
  obtain ⟨c1, -, -⟩ := rs_at_in hc
  by_cases e : r = c
  · subst e
    have := dt_sk_bd (n := n) (i := rs_at mv n r) (f := w (rs_at mv n r)) (c := 9) r1 (fun b hb => hw _ b r1 hb)
    rw [dt_sm_skip _ r1] at this
    rw [md_diag hr]
    omega
  · rw [md_off e]
    have := hw _ _ r1 c1
    omega
theorem nr_b_bd {mv : Nat → Bool} {n : Nat} {w : Nat → Nat → Int} {t : Nat → Int} (hw : nb_w w n) (ht : nr_t t n) (h12 : n ≤ 12) {r : Nat} (hr : r < rs_k mv n) : 0 ≤ rs_b mv n w t r ∧ rs_b mv n w t r ≤ 99000 := by
  obtain ⟨r1, r2, -⟩ := rs_at_in hr
  have pr : ∀ b, b < n → 0 ≤ w (rs_at mv n r) b * t b ∧ w (rs_at mv n r) b * t b ≤ 9000 := fun b hb => by
    have a1 := hw _ b r1 hb
    have a2 := ht b hb
    refine ⟨Int.mul_nonneg a1.1 a2.1, ?_⟩
    have : w (rs_at mv n r) b * t b ≤ 9 * 1000 := Int.mul_le_mul a1.2 a2.2 a2.1 (by omega)
    omega
  have s := dt_sk_bd (n := n) (i := rs_at mv n r) (f := fun b => w (rs_at mv n r) b * t b) (c := 9000) r1 pr
  unfold rs_b
  refine ⟨dt_sm_nonneg (fun b hb => ?_), ?_⟩
  · split
    · exact Int.le_refl 0
    · exact (pr b hb).1
  · have e : dt_sm n (fun b => if mv b = true then 0 else w (rs_at mv n r) b * t b) ≤ dt_sm n (fun b => if b = rs_at mv n r then 0 else w (rs_at mv n r) b * t b) := dt_sm_le (fun b hb => by
      by_cases c : b = rs_at mv n r
      · rw [if_pos c, if_pos (by rw [c]; exact r2)]
        exact Int.le_refl 0
      · rw [if_neg c]
        split
        · exact (pr b hb).1
        · exact Int.le_refl _)
    omega
theorem nr_nn {mv : Nat → Bool} {n : Nat} {w : Nat → Nat → Int} (hw : nb_w w n) : dt_nn (rs_k mv n) (rs_W mv n w) (rs_s mv n w) := ⟨fun r c hr hc => (hw _ _ (rs_at_in hr).1 (rs_at_in hc).1).1, fun r hr => dt_sm_nonneg (fun b hb => by
  split
  · exact Int.le_refl 0
  · exact (hw _ b (rs_at_in hr).1 hb).1)⟩
theorem nr_lo_pos {mv : Nat → Bool} {n : Nat} {w : Nat → Nat → Int} (hw : nb_w w n) (h : nr_th mv n w) : 0 < rs_lo mv n w := by
  refine dt_A_pos _ _ _ (nr_nn hw) (fun T hT hs => ?_)
  refine Classical.byContradiction fun hno => ?_
  obtain ⟨r, hr, hTr⟩ := hT
  obtain ⟨r1, r2, r3⟩ := rs_at_in hr
  obtain ⟨o, o1, o2, o3⟩ := h _ r1 r2
  have hX : ∀ a b, a < n → b < n → 0 < w b a → (∃ r, r < rs_k mv n ∧ T r ∧ b = rs_at mv n r) → ∃ r, r < rs_k mv n ∧ T r ∧ a = rs_at mv n r := fun a b ha hb hab hb2 => by
    obtain ⟨q, q1, q2, rfl⟩ := hb2
    cases c : mv a
    · have hsq := hs q q1 q2
      unfold rs_s at hsq
      have := dt_sm_eq0 (n := n) (p := a) (f := fun b => if mv b = true then 0 else w (rs_at mv n q) b) (fun b hb => by
        split
        · exact Int.le_refl 0
        · exact (hw _ b (rs_at_in q1).1 hb).1) hsq ha
      rw [c, if_neg Bool.false_ne_true] at this
      omega
    · have ka := rs_k_lt ha c
      have ea := rs_at_k ha c
      refine Classical.byContradiction fun hq => hno ⟨q, rs_k mv a, q1, ka, q2, fun hTk => hq ⟨rs_k mv a, ka, hTk, ea.symm⟩, ?_⟩
      show 0 < w (rs_at mv n q) (rs_at mv n (rs_k mv a))
      rw [ea]
      exact hab
  obtain ⟨q, q1, q2, e⟩ := nb_back (X := fun b => ∃ r, r < rs_k mv n ∧ T r ∧ b = rs_at mv n r) hX o3 ⟨r, hr, hTr, rfl⟩
  have := (rs_at_in q1).2.1
  rw [← e, o2] at this
  cases this
theorem nr_up_nn {mv : Nat → Bool} {n : Nat} {w : Nat → Nat → Int} {t : Nat → Int} (hw : nb_w w n) (ht : nr_t t n) (h12 : n ≤ 12) {i : Nat} (hi : i < n) : 0 ≤ rs_up mv n w t i := by
  unfold rs_up
  by_cases c : mv i = true
  · rw [if_pos c]
    have ki := rs_k_lt hi c
    have e : dt (rs_k mv n) dt_id (dt_up (rs_A mv n w) (rs_k mv i) (rs_b mv n w t)) = dt (rs_k mv n) dt_id (dt_up (rs_A mv n w) (rs_k mv i) (fun a => dt_sm (rs_k mv n) (fun j => rs_b mv n w t j * dt_e j a))) := dt_cg (fun y x hy hx => by
      unfold dt_up
      split
      · show rs_b mv n w t x = dt_sm (rs_k mv n) (fun j => rs_b mv n w t j * dt_e j x)
        rw [dt_sm_one (p := x) hx (fun j _ hj => by
          unfold dt_e
          rw [if_neg (fun q => hj q.symm), Int.mul_zero])]
        unfold dt_e
        rw [if_pos rfl, Int.mul_one]
      · rfl)
    rw [e, dt_lins dt_id (rs_A mv n w) ki (rs_b mv n w t) dt_e]
    exact dt_sm_nonneg (fun q hq => Int.mul_nonneg (nr_b_bd hw ht h12 hq).1 (dt_A_col _ _ _ (nr_nn hw) _ q ki hq))
  · rw [if_neg c]
    exact Int.mul_nonneg (ht i hi).1 (dt_A_nn _ _ _ (nr_nn hw))
theorem nr_fc : ∀ k, k < 7 → dt_fc k * (99 ^ (k - 1) * 99000) ≤ 677865707568720000 ∧ dt_fc k * 99 ^ k ≤ 677865707568720 := by decide +kernel
theorem nr_lo_bd {mv : Nat → Bool} {n : Nat} {w : Nat → Nat → Int} (hw : nb_w w n) (h12 : n ≤ 12) (h6 : rs_k mv n ≤ 6) : (rs_lo mv n w).natAbs ≤ 677865707568720 := Nat.le_trans (dt_bd _ _ _ 99 (fun _ _ hc hr => nr_A_bd hw h12 hr hc)) (nr_fc _ (by omega)).2
theorem nr_up_bd {mv : Nat → Bool} {n : Nat} {w : Nat → Nat → Int} {t : Nat → Int} (hw : nb_w w n) (ht : nr_t t n) (h12 : n ≤ 12) (h6 : rs_k mv n ≤ 6) {i : Nat} (hi : i < n) : (rs_up mv n w t i).natAbs ≤ 677865707568720000 := by
  unfold rs_up
  by_cases c : mv i = true
  · rw [if_pos c]
    have ki := rs_k_lt hi c
    refine Nat.le_trans (dt_bdp _ _ _ (rs_k mv i) 99 99000 ki (fun y x hy hx hne => ?_) (fun x hx => ?_)) (nr_fc _ (by omega)).1
    · rw [dt_up_ne _ _ hne]
      exact nr_A_bd hw h12 hx hy
    · rw [dt_up_at]
      have := nr_b_bd hw ht h12 (r := x) hx
      show (rs_b mv n w t x).natAbs ≤ 99000
      omega
  · rw [if_neg c, Int.natAbs_mul]
    have a := ht i hi
    have b := nr_lo_bd hw h12 h6
    have : (t i).natAbs * (rs_lo mv n w).natAbs ≤ 1000 * 677865707568720 := Nat.mul_le_mul (by omega) b
    omega
theorem nr_sum {n : Nat} {f : Nat → Int} (h12 : n ≤ 12) (h : ∀ i, i < n → 0 ≤ f i ∧ (f i).natAbs ≤ 677865707568720000) : 0 ≤ dt_sm n f ∧ dt_sm n f ≤ 8134388490824640000 := by
  refine ⟨dt_sm_nonneg (fun i hi => (h i hi).1), ?_⟩
  have e := dt_sm_le (n := n) (f := f) (g := fun _ => 677865707568720000) (fun i hi => by
    have := h i hi
    omega)
  rw [dt_sm_cst] at e
  omega
