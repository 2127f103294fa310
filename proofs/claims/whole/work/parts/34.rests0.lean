/-! ===== those that move, numbered ===== -/
def rs_k (mv : Nat → Bool) : Nat → Nat
  | 0 => 0
  | i + 1 => if mv i = true then rs_k mv i + 1 else rs_k mv i
def rs_at (mv : Nat → Bool) : Nat → Nat → Nat
  | 0, _ => 0
  | i + 1, r => if mv i = true ∧ rs_k mv i = r then i else rs_at mv i r
theorem rs_k_t {mv : Nat → Bool} {i : Nat} (h : mv i = true) : rs_k mv (i + 1) = rs_k mv i + 1 := if_pos h
theorem rs_k_f {mv : Nat → Bool} {i : Nat} (h : mv i = false) : rs_k mv (i + 1) = rs_k mv i := if_neg (by rw [h]; decide)
theorem rs_k_le (mv : Nat → Bool) : ∀ {i j : Nat}, i ≤ j → rs_k mv i ≤ rs_k mv j := by
  intro i j h
  induction h with
  | refl => exact Nat.le_refl _
  | step _ ih =>
    refine Nat.le_trans ih ?_
    show _ ≤ if _ then _ else _
    split
    · exact Nat.le_succ _
    · exact Nat.le_refl _
theorem rs_k_n (mv : Nat → Bool) : ∀ i, rs_k mv i ≤ i
  | 0 => Nat.le_refl 0
  | i + 1 => by
    have := rs_k_n mv i
    cases e : mv i
    · rw [rs_k_f e]
      omega
    · rw [rs_k_t e]
      omega
theorem rs_k_lt {mv : Nat → Bool} {i n : Nat} (h : i < n) (hm : mv i = true) : rs_k mv i < rs_k mv n := by
  have := rs_k_le mv (show i + 1 ≤ n by omega)
  rw [rs_k_t hm] at this
  omega
theorem rs_k_inj {mv : Nat → Bool} {i j : Nat} (hi : mv i = true) (hj : mv j = true) (h : rs_k mv i = rs_k mv j) : i = j := by
  rcases Nat.lt_trichotomy i j with q | q | q
  · have := rs_k_lt q hi
    omega
  · exact q
  · have := rs_k_lt q hj
    omega
theorem rs_at_k {mv : Nat → Bool} : ∀ {n i : Nat}, i < n → mv i = true → rs_at mv n (rs_k mv i) = i
  | 0, i, h, _ => absurd h (Nat.not_lt_zero i)
  | n + 1, i, h, hm => by
    show (if _ then _ else _) = _
    by_cases e : i = n
    · subst e
      exact if_pos ⟨hm, rfl⟩
    · rw [if_neg (fun q => e (rs_k_inj hm q.1 q.2.symm))]
      exact rs_at_k (by omega) hm
theorem rs_at_in {mv : Nat → Bool} : ∀ {n r : Nat}, r < rs_k mv n → rs_at mv n r < n ∧ mv (rs_at mv n r) = true ∧ rs_k mv (rs_at mv n r) = r
  | 0, r, h => absurd h (Nat.not_lt_zero r)
  | n + 1, r, h => by
    unfold rs_at
    by_cases c : mv n = true ∧ rs_k mv n = r
    · rw [if_pos c]
      exact ⟨Nat.lt_succ_self n, c⟩
    · rw [if_neg c]
      have h2 : r < rs_k mv n := by
        cases e : mv n
        · rw [rs_k_f e] at h
          exact h
        · rw [rs_k_t e] at h
          have : rs_k mv n ≠ r := fun q => c ⟨e, q⟩
          omega
      obtain ⟨g1, g2⟩ := rs_at_in h2
      exact ⟨by omega, g2⟩
theorem rs_at_s {mv : Nat → Bool} {n r : Nat} (h : r < rs_k mv n) : rs_at mv (n + 1) r = rs_at mv n r := if_neg (fun q => by omega)
/-- over those that move, by person or by place -/
theorem rs_sum (mv : Nat → Bool) (f : Nat → Int) : ∀ n, dt_sm n (fun b => if mv b = true then f b else 0) = dt_sm (rs_k mv n) (fun r => f (rs_at mv n r))
  | 0 => rfl
  | n + 1 => by
    have h : dt_sm (rs_k mv n) (fun r => f (rs_at mv n r)) = dt_sm (rs_k mv n) (fun r => f (rs_at mv (n + 1) r)) := dt_sm_c (fun r hr => by rw [rs_at_s hr])
    rw [dt_sm_s, rs_sum mv f n, h]
    cases e : mv n
    · rw [rs_k_f e]
      exact Int.add_zero _
    · rw [rs_k_t e, dt_sm_s, rs_at_k (Nat.lt_succ_self n) e]
      rfl
theorem rs_one {mv : Nat → Bool} {n c : Nat} (f : Nat → Int) (h : c < rs_k mv n) : dt_sm n (fun b => if mv b = true ∧ rs_k mv b = c then f b else 0) = f (rs_at mv n c) := by
  obtain ⟨g1, g2, g3⟩ := rs_at_in h
  rw [dt_sm_one g1 (fun b hb hne => if_neg (fun q => hne (rs_k_inj q.1 g2 (q.2.trans g3.symm))))]
  exact if_pos ⟨g2, g3⟩
/-- the square of those that move, and what stands beside -/
def rs_W (mv : Nat → Bool) (n : Nat) (w : Nat → Nat → Int) (r c : Nat) : Int := w (rs_at mv n r) (rs_at mv n c)
def rs_s (mv : Nat → Bool) (n : Nat) (w : Nat → Nat → Int) (r : Nat) : Int := dt_sm n (fun b => if mv b = true then 0 else w (rs_at mv n r) b)
def rs_b (mv : Nat → Bool) (n : Nat) (w : Nat → Nat → Int) (t : Nat → Int) (r : Nat) : Int := dt_sm n (fun b => if mv b = true then 0 else w (rs_at mv n r) b * t b)
def rs_A (mv : Nat → Bool) (n : Nat) (w : Nat → Nat → Int) : Nat → Nat → Int := dt_A (rs_k mv n) (rs_W mv n w) (rs_s mv n w)
def rs_lo (mv : Nat → Bool) (n : Nat) (w : Nat → Nat → Int) : Int := dt (rs_k mv n) dt_id (rs_A mv n w)
def rs_up (mv : Nat → Bool) (n : Nat) (w : Nat → Nat → Int) (t : Nat → Int) (i : Nat) : Int := if mv i = true then dt (rs_k mv n) dt_id (dt_up (rs_A mv n w) (rs_k mv i) (rs_b mv n w t)) else t i * rs_lo mv n w
/-- a row while it is filled -/
def rs_z (i : Nat) (w : Nat → Int) (b : Nat) : Int := if b = i then 0 else w b
def rs_c (mv : Nat → Bool) (w : Nat → Int) (i q c : Nat) : Int := (if c = rs_k mv i then dt_sm q (rs_z i w) else 0) - dt_sm q (fun b => if mv b = true ∧ rs_k mv b = c then rs_z i w b else 0)
def rs_d (mv : Nat → Bool) (w t : Nat → Int) (i q : Nat) : Int := dt_sm q (fun b => if mv b = true then 0 else rs_z i w b * t b)
theorem rs_c_0 (mv : Nat → Bool) (w : Nat → Int) (i c : Nat) : rs_c mv w i 0 c = 0 := by
  unfold rs_c
  rw [dt_sm_0, dt_sm_0]
  split <;> rfl
theorem rs_c_s (mv : Nat → Bool) (w : Nat → Int) (i q c : Nat) : rs_c mv w i (q + 1) c = rs_c mv w i q c + (if c = rs_k mv i then rs_z i w q else 0) + (if mv q = true ∧ rs_k mv q = c then -rs_z i w q else 0) := by
  unfold rs_c
  rw [dt_sm_s, dt_sm_s]
  by_cases h1 : c = rs_k mv i
  · rw [if_pos h1, if_pos h1, if_pos h1]
    split <;> omega
  · rw [if_neg h1, if_neg h1, if_neg h1]
    split <;> omega
theorem rs_c_n {mv : Nat → Bool} (w : Nat → Nat → Int) {n i c : Nat} (hi : i < n) (hm : mv i = true) (hc : c < rs_k mv n) : rs_c mv (w i) i n c = rs_A mv n w c (rs_k mv i) := by
  unfold rs_c rs_A dt_A
  rw [rs_one (rs_z i (w i)) hc]
  obtain ⟨g1, g2, g3⟩ := rs_at_in hc
  have ai : rs_at mv n (rs_k mv i) = i := rs_at_k hi hm
  by_cases h : rs_k mv i = c
  · rw [if_pos h.symm, if_pos h]
    have e1 : rs_at mv n c = i := by rw [← h, ai]
    have e2 : rs_z i (w i) (rs_at mv n c) = 0 := by
      rw [e1]
      exact if_pos rfl
    rw [e2]
    have e3 : rs_s mv n w (rs_k mv i) = dt_sm n (fun b => if mv b = true then 0 else rs_z i (w i) b) := by
      unfold rs_s
      rw [ai]
      refine dt_sm_c (fun b _ => ?_)
      by_cases d : mv b = true
      · rw [if_pos d, if_pos d]
      · rw [if_neg d, if_neg d]
        unfold rs_z
        rw [if_neg (fun q => d (by rw [q]; exact hm))]
    have e4 : dt_sm (rs_k mv n) (fun b => if b = rs_k mv i then 0 else rs_W mv n w (rs_k mv i) b) = dt_sm n (fun b => if mv b = true then rs_z i (w i) b else 0) := by
      rw [rs_sum]
      refine dt_sm_c (fun r hr => ?_)
      obtain ⟨k1, k2, k3⟩ := rs_at_in hr
      unfold rs_z rs_W
      rw [ai]
      by_cases d : r = rs_k mv i
      · rw [if_pos d, d, ai, if_pos rfl]
      · rw [if_neg d, if_neg (fun q => d (by rw [← k3, q]))]
    rw [e3, e4, ← dt_sm_add]
    have e5 : dt_sm n (rs_z i (w i)) = dt_sm n (fun b => (if mv b = true then 0 else rs_z i (w i) b) + (if mv b = true then rs_z i (w i) b else 0)) := dt_sm_c (fun b _ => by
      split <;> omega)
    rw [e5]
    omega
  · rw [if_neg (fun q => h q.symm), if_neg h]
    unfold rs_z rs_W
    rw [ai, if_neg (fun q => h (by rw [← g3, q]))]
    omega
theorem rs_d_n {mv : Nat → Bool} (w : Nat → Nat → Int) (t : Nat → Int) {n i : Nat} (hi : i < n) (hm : mv i = true) : rs_d mv (w i) t i n = rs_b mv n w t (rs_k mv i) := by
  unfold rs_d rs_b
  rw [rs_at_k hi hm]
  refine dt_sm_c (fun b _ => ?_)
  by_cases d : mv b = true
  · rw [if_pos d, if_pos d]
  · rw [if_neg d, if_neg d]
    unfold rs_z
    rw [if_neg (fun q => d (by rw [q]; exact hm))]
