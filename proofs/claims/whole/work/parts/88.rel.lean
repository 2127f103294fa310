/-! ===== class and reference side by side: what both tell is the same ===== -/
def pe_eq (S S' : mn_S) : Prop := S'.1 1 3 = S.1 1 3 ∧ S'.1 1 4 = S.1 1 4 ∧ (∀ j, S'.1 2 j = S.1 2 j) ∧ (∀ j, S'.1 3 j = S.1 3 j) ∧ ∀ i j, i < 12 → j < 12 → S'.1 (100 + 3 * i) j = S.1 (100 + 3 * i) j
theorem pq_has {S S' : mn_S} (h : pe_eq S S') : pe_has S' = pe_has S := funext fun one => by
  unfold pe_has
  rw [h.1]
theorem pq_th {S S' : mn_S} (h : pe_eq S S') : pe_th S' = pe_th S := funext fun one => by
  unfold pe_th
  rw [pq_has h, h.2.2.1]
theorem pq_he {S S' : mn_S} (h : pe_eq S S') : pe_he S' = pe_he S := funext fun one => funext fun other => by
  unfold pe_he
  rw [pq_has h]
  cases c : pe_has S one
  · rw [Bool.false_and, Bool.false_and, Bool.false_and]
  · cases d : pe_has S other
    · rw [Bool.and_false, Bool.false_and, Bool.false_and]
    · rw [h.2.2.2.2 _ _ (pe_has_lt c) (pe_has_lt d), h.2.1, h.2.2.1, h.2.2.1]
theorem pq_aw {S S' : mn_S} (h : pe_eq S S') {one : Int32} (ho : pe_has S one = true) {b : Nat} (hb : b < 12) : pe_aw S' one b = pe_aw S one b := by
  unfold pe_aw
  rw [pq_he h, h.2.2.2.2 _ _ (pe_has_lt ho) hb]
theorem pq_sw {S S' : mn_S} (h : pe_eq S S') {one : Int32} (ho : pe_has S one = true) {b : Nat} (hb : b < 12) : pe_sw S' one b = pe_sw S one b := by
  unfold pe_sw
  rw [pq_he h, h.2.2.2.2 _ _ (pe_has_lt ho) hb, h.2.2.1]
theorem pq_nx {S S' : mn_S} {n : Nat} (h : pe_eq S S') (h12 : n ≤ 12) : ro_nx S' n = ro_nx S n := funext fun j => by
  unfold ro_nx pe_nx
  rw [pq_has h, pq_th h, h.2.2.2.1, h.2.2.1]
  cases c : pe_has S (nI j)
  · rw [if_neg (fun q => Bool.false_ne_true q.1), if_neg (fun q => Bool.false_ne_true q.1)]
  · rw [mn_sum_c (fun b hb => pq_aw h c (show b < 12 by omega)), mn_sum_c (fun b hb => pq_sw h c (show b < 12 by omega))]
theorem pq_S {S S' : mn_S} {n : Nat} (h : pe_eq S S') (h12 : n ≤ 12) : pe_eq (ro_S S n) (ro_S S' n) := by
  unfold ro_S
  rw [pq_nx h h12]
  refine ⟨?_, ?_, fun j => ?_, fun j => ?_, fun i j hi hj => ?_⟩
  · rw [mn_fill_1, if_neg (fun q => by omega), mn_fill_1, if_neg (fun q => by omega), mn_fill_1, if_neg (fun q => by omega), mn_fill_1, if_neg (fun q => by omega)]
    exact h.1
  · rw [mn_fill_1, if_neg (fun q => by omega), mn_fill_1, if_neg (fun q => by omega), mn_fill_1, if_neg (fun q => by omega), mn_fill_1, if_neg (fun q => by omega)]
    exact h.2.1
  · by_cases c : 2 = 2 ∧ j < n
    · rw [mn_fill_1, if_pos c, mn_fill_1, if_pos c]
    · rw [mn_fill_1, if_neg c, mn_fill_1, if_neg (fun q => by omega), mn_fill_1, if_neg c, mn_fill_1, if_neg (fun q => by omega)]
      exact h.2.2.1 j
  · rw [mn_fill_1, if_neg (fun q => by omega), mn_fill_1, if_neg (fun q => by omega), mn_fill_1, if_neg (fun q => by omega), mn_fill_1, if_neg (fun q => by omega)]
    exact h.2.2.2.1 j
  · rw [mn_fill_1, if_neg (fun q => by omega), mn_fill_1, if_neg (fun q => by omega), mn_fill_1, if_neg (fun q => by omega), mn_fill_1, if_neg (fun q => by omega)]
    exact h.2.2.2.2 i j hi hj
theorem pq_it {S S' : mn_S} {n : Nat} (h : pe_eq S S') (h12 : n ≤ 12) : ∀ k, pe_eq (ro_it S n k) (ro_it S' n k)
  | 0 => h
  | k + 1 => pq_S (pq_it h h12 k) h12
theorem pq_c {S S' : mn_S} {n : Nat} (h : pe_eq S S') (h12 : n ≤ 12) : ro_c S' n = ro_c S n := by
  unfold ro_c
  rw [pq_nx h h12, show S'.1 2 = S.1 2 from funext h.2.2.1]
theorem pq_ci {S S' : mn_S} {n : Nat} (h : pe_eq S S') (h12 : n ≤ 12) (k : Nat) : ro_c (ro_it S' n k) n = ro_c (ro_it S n k) n := pq_c (pq_it h h12 k) h12
theorem pq_ha {S S' : mn_S} (h : pe_eq S S') : ln_ha S' = ln_ha S := funext fun a => funext fun b => by
  unfold ln_ha
  rw [pq_he h]
theorem pq_gr {S S' : mn_S} (h : pe_eq S S') (n : Nat) (g : Nat → Bool) : gr_is S' n g ↔ gr_is S n g := by
  unfold gr_is
  rw [pq_ha h]
theorem pq_e {S S' : mn_S} (h : pe_eq S S') (x : Int32) : pe_eq (mn_wI S 1 4 x) (mn_wI S' 1 4 x) := by
  refine ⟨?_, ?_, fun j => ?_, fun j => ?_, fun i j hi hj => ?_⟩
  · rw [mn_wI_1, if_neg (fun q => by omega), mn_wI_1, if_neg (fun q => by omega)]
    exact h.1
  · rw [mn_wI_1, if_pos ⟨rfl, rfl⟩, mn_wI_1, if_pos ⟨rfl, rfl⟩]
  · rw [mn_wI_1, if_neg (fun q => by omega), mn_wI_1, if_neg (fun q => by omega)]
    exact h.2.2.1 j
  · rw [mn_wI_1, if_neg (fun q => by omega), mn_wI_1, if_neg (fun q => by omega)]
    exact h.2.2.2.1 j
  · rw [mn_wI_1, if_neg (fun q => by omega), mn_wI_1, if_neg (fun q => by omega)]
    exact h.2.2.2.2 i j hi hj
theorem pq_wd {S S' : mn_S} {n : Nat} (h : pe_eq S S') (h12 : n ≤ 12) (t G : Nat) : wd_ok S' n t G ↔ wd_ok S n t G := by
  have e := pq_e h (nI t)
  unfold wd_ok
  constructor
  · rintro ⟨r, h1, h2, h3, g, h4, h5⟩
    exact ⟨r, h1, fun j hj => by rw [← pq_ci e h12]; exact h2 j hj, by rw [← pq_ci e h12]; exact h3, g, (pq_gr (pq_it e h12 _) n g).mp h4, h5⟩
  · rintro ⟨r, h1, h2, h3, g, h4, h5⟩
    exact ⟨r, h1, fun j hj => by rw [pq_ci e h12]; exact h2 j hj, by rw [pq_ci e h12]; exact h3, g, (pq_gr (pq_it e h12 _) n g).mpr h4, h5⟩
theorem ln_tc_cg {n : Nat} {E E' : Nat → Nat → Bool} (h : ∀ x y, x < n → y < n → E x y = E' x y) (a b : Nat) : ln_tc n E a b ↔ ln_tc n E' a b :=
  ⟨fun q T h1 h2 => q T (fun x y hx hy e => h1 x y hx hy (by rw [← h x y hx hy]; exact e)) h2, fun q T h1 h2 => q T (fun x y hx hy e => h1 x y hx hy (by rw [h x y hx hy]; exact e)) h2⟩
theorem pq_le {S S' : mn_S} {n : Nat} (h : pe_eq S S') (h12 : n ≤ 12) (a b : Nat) : ln_tc n (ln_le S') a b ↔ ln_tc n (ln_le S) a b := ln_tc_cg (fun x y hx hy => by
  unfold ln_le
  rw [h.2.2.2.2 y x (by omega) (by omega)]) a b
theorem pq_w {S S' : mn_S} (h : pe_eq S S') {i b : Nat} (hi : i < 12) (hb : b < 12) : sh_w S' i b = sh_w S i b := by
  unfold sh_w
  rw [h.2.2.2.2 i b hi hb]
theorem pq_mv {S S' : mn_S} (h : pe_eq S S') : rs_mv S' = rs_mv S := funext fun i => by
  unfold rs_mv
  rw [h.2.2.2.1]
theorem pq_t {S S' : mn_S} (h : pe_eq S S') : rs_t S' = rs_t S := funext fun i => by
  unfold rs_t
  rw [h.2.2.1]
theorem pq_sth {S S' : mn_S} {n : Nat} (h : pe_eq S S') (h12 : n ≤ 12) : sh_th S' n ↔ sh_th S n := by
  unfold sh_th
  constructor
  · rintro ⟨h1, h2, h3⟩
    exact ⟨h1, h2, fun i j hi hj => (pq_le h h12 i j).mp (h3 i j hi hj)⟩
  · rintro ⟨h1, h2, h3⟩
    exact ⟨h1, h2, fun i j hi hj => (pq_le h h12 i j).mpr (h3 i j hi hj)⟩
theorem pq_rth {S S' : mn_S} {n : Nat} (h : pe_eq S S') (h12 : n ≤ 12) : rs_th S' n ↔ rs_th S n := by
  unfold rs_th
  rw [pq_mv h]
  constructor
  · rintro ⟨h1, h2, h3⟩
    refine ⟨h1, h2, fun i hi hm => ?_⟩
    obtain ⟨o, o1, o2, o3⟩ := h3 i hi hm
    exact ⟨o, o1, o2, (pq_le h h12 o i).mp o3⟩
  · rintro ⟨h1, h2, h3⟩
    refine ⟨h1, h2, fun i hi hm => ?_⟩
    obtain ⟨o, o1, o2, o3⟩ := h3 i hi hm
    exact ⟨o, o1, o2, (pq_le h h12 o i).mpr o3⟩
theorem pq_ok {S S' : mn_S} {n : Nat} (h : pe_eq S S') (h12 : n ≤ 12) (q : sh_ok S n) : sh_ok S' n := fun i b hi hb => by
  rw [pq_w h (by omega) (by omega)]
  exact q i b hi hb
theorem dt_A_cg {n : Nat} {w w' : Nat → Nat → Int} {s : Nat → Int} (h : ∀ i b, i < n → b < n → w i b = w' i b) {i j : Nat} (hi : i < n) (hj : j < n) : dt_A n w s j i = dt_A n w' s j i := by
  unfold dt_A
  by_cases c : i = j
  · rw [if_pos c, if_pos c]
    refine congrArg _ (dt_sm_c (fun b hb => ?_))
    by_cases d : b = i
    · rw [if_pos d, if_pos d]
    · rw [if_neg d, if_neg d, h i b hi hb]
  · rw [if_neg c, if_neg c, h i j hi hj]
theorem pq_p {S S' : mn_S} {n : Nat} (h : pe_eq S S') (h12 : n ≤ 12) {i : Nat} (hi : i < n) : sh_p S' n i = sh_p S n i := by
  have hw : ∀ a b, a < n → b < n → sh_w S' a b = sh_w S a b := fun a b ha hb => pq_w h (by omega) (by omega)
  unfold sh_p sh_m
  rw [dt_sm_c (fun b hb => hw i b hi hb)]
  refine congrArg (· * dt_sm n (sh_w S i)) (dt_cg (fun j t hj ht => ?_))
  unfold dt_up
  split
  · rfl
  · exact dt_A_cg hw ht hj
theorem pq_sp {S S' : mn_S} {n : Nat} (h : pe_eq S S') (h12 : n ≤ 12) : dt_sm n (sh_p S' n) = dt_sm n (sh_p S n) := dt_sm_c (fun _ hi => pq_p h h12 hi)
/-- rest's numbers are of the weights among the people alone -/
theorem rs_A_cg {mv : Nat → Bool} {n : Nat} {w w' : Nat → Nat → Int} (h : ∀ i b, i < n → b < n → w i b = w' i b) {r c : Nat} (hr : r < rs_k mv n) (hc : c < rs_k mv n) : rs_A mv n w c r = rs_A mv n w' c r := by
  obtain ⟨r1, -, -⟩ := rs_at_in hr
  obtain ⟨c1, -, -⟩ := rs_at_in hc
  by_cases e : r = c
  · subst e
    rw [md_diag hr, md_diag hr, h _ _ r1 r1, dt_sm_c (fun b hb => h _ b r1 hb)]
  · rw [md_off e, md_off e, h _ _ r1 c1]
theorem rs_lo_cg {mv : Nat → Bool} {n : Nat} {w w' : Nat → Nat → Int} (h : ∀ i b, i < n → b < n → w i b = w' i b) : rs_lo mv n w = rs_lo mv n w' := dt_cg (fun _ _ hc hr => rs_A_cg h hr hc)
theorem rs_up_cg {mv : Nat → Bool} {n : Nat} {w w' : Nat → Nat → Int} {t t' : Nat → Int} (h : ∀ i b, i < n → b < n → w i b = w' i b) (ht : ∀ i, i < n → t i = t' i) {i : Nat} (hi : i < n) : rs_up mv n w t i = rs_up mv n w' t' i := by
  unfold rs_up
  by_cases c : mv i = true
  · rw [if_pos c, if_pos c]
    refine dt_cg (fun y x hy hx => ?_)
    show dt_up (rs_A mv n w) (rs_k mv i) (rs_b mv n w t) y x = dt_up (rs_A mv n w') (rs_k mv i) (rs_b mv n w' t') y x
    unfold dt_up
    split
    · obtain ⟨x1, -, -⟩ := rs_at_in hx
      unfold rs_b
      refine dt_sm_c (fun b hb => ?_)
      rw [h _ b x1 hb, ht b hb]
    · exact rs_A_cg h hx hy
  · rw [if_neg c, if_neg c, rs_lo_cg h, ht i hi]
