/-! ===== class and reference side by side: rounds, talk, what is told ===== -/
theorem ro_ch_f {g f : Nat → Int32} : ∀ {n : Nat}, ro_ch g f n = false → ∀ i, i < n → g i = f i
  | 0, _, i, hi => absurd hi (Nat.not_lt_zero i)
  | n + 1, h, i, hi => by
    unfold ro_ch at h
    rw [Bool.or_eq_false_iff] at h
    by_cases e : i = n
    · subst e
      have := h.2
      rw [Bool.not_eq_false', decide_eq_true_iff] at this
      exact this
    · exact ro_ch_f h.1 i (by omega)
theorem ro_still {S : mn_S} {n : Nat} (h : ro_c S n = false) : pe_fr S (ro_S S n) := fun b j hb => by
  unfold ro_S
  rw [mn_fill_1]
  by_cases c : b = 2 ∧ j < n
  · rw [if_pos c, ro_ch_f h j c.2, c.1]
  · rw [if_neg c, mn_fill_1, if_neg (fun q => by omega)]
theorem ro_still_it {S : mn_S} {n : Nat} (h : ro_c S n = false) : ∀ k, pe_fr S (ro_it S n k)
  | 0 => pe_fr_r S
  | k + 1 => pe_fr_t (ro_still h) (ro_S_cg (ro_still_it h k) n)
theorem ro_add (S : mn_S) (n r : Nat) : ∀ d, ro_it S n (r + d) = ro_it (ro_it S n r) n d
  | 0 => rfl
  | d + 1 => by
    show ro_S (ro_it S n (r + d)) n = ro_S (ro_it (ro_it S n r) n d) n
    rw [ro_add S n r d]
theorem ro_end {S : mn_S} {n r k : Nat} (h : ro_c (ro_it S n r) n = false) (hk : r ≤ k) : pe_fr (ro_it S n r) (ro_it S n k) ∧ ro_c (ro_it S n k) n = false := by
  obtain ⟨d, rfl⟩ : ∃ d, k = r + d := ⟨k - r, by omega⟩
  rw [ro_add]
  have e := ro_still_it h d
  exact ⟨e, (ro_c_cg e n 0).trans h⟩
theorem rs_k_all {f : Nat → Bool} : ∀ {r : Nat}, (∀ j, j < r → f j = true) → rs_k f r = r
  | 0, _ => rfl
  | r + 1, h => by rw [rs_k_t (h r (Nat.lt_succ_self r)), rs_k_all (fun j hj => h j (Nat.lt_succ_of_lt hj))]
theorem rs_k_none {f : Nat → Bool} {r : Nat} : ∀ {d : Nat}, (∀ j, r ≤ j → j < r + d → f j = false) → rs_k f (r + d) = rs_k f r
  | 0, _ => rfl
  | d + 1, h => by
    rw [← Nat.add_assoc, rs_k_f (h (r + d) (by omega) (by omega)), rs_k_none (fun j h1 h2 => h j h1 (by omega))]
theorem ro_run (f : Nat → Bool) : ∀ q, (∀ j, j < q → f j = true) ∨ ∃ r, r < q ∧ (∀ j, j < r → f j = true) ∧ f r = false
  | 0 => Or.inl (fun j hj => absurd hj (Nat.not_lt_zero j))
  | q + 1 => by
    rcases ro_run f q with h | ⟨r, h1, h2, h3⟩
    · cases c : f q
      · exact Or.inr ⟨q, Nat.lt_succ_self q, h, c⟩
      · exact Or.inl (fun j hj => by
          rcases Nat.lt_or_ge j q with z | z
          · exact h j z
          · rw [show j = q by omega]
            exact c)
    · exact Or.inr ⟨r, by omega, h2, h3⟩
/-- thoughts keep their bounds -/
def ro_rg (S : mn_S) : Prop := (∀ j, lw_T (S.1 2 j)) ∧ ∀ i j, i < 12 → j < 12 → lw_W (S.1 (100 + 3 * i) j)
theorem nx_sum {S : mn_S} {n j : Nat} (hn : pe_n S n) (hr : ro_rg S) (hj : j < n) : ∀ q, q ≤ n → ∃ A B : Nat, mn_sum (pe_aw S (nI j)) q = nI A ∧ mn_sum (pe_sw S (nI j)) q = nI B ∧ A ≤ 9 * q ∧ B ≤ 1000 * A
  | 0, _ => ⟨0, 0, rfl, rfl, by omega, by omega⟩
  | q + 1, hq => by
    have h12 := hn.2
    obtain ⟨A, B, h1, h2, h3, h4⟩ := nx_sum hn hr hj q (by omega)
    rw [mn_sum_s, mn_sum_s, h1, h2]
    unfold pe_aw pe_sw
    rw [mn_cl_i (show j ≤ 5000 by omega)]
    cases c : pe_he S (nI j) (nI q)
    · exact ⟨A, B, by rw [if_neg (by decide), Int32.add_zero], by rw [if_neg (by decide), Int32.add_zero], by omega, h4⟩
    · obtain ⟨w, w9, ew⟩ := hr.2 j q (by omega) (by omega)
      obtain ⟨t, t9, et⟩ := hr.1 q
      have em : nI w * nI t = nI (w * t) := (Int32.ofNat_mul w t).symm
      refine ⟨A + w, B + w * t, by rw [if_pos rfl, ew, nI_add], by rw [if_pos rfl, ew, et, em, nI_add], by omega, ?_⟩
      have : w * t ≤ w * 1000 := Nat.mul_le_mul_left w t9
      omega
theorem nx_T {S : mn_S} {n j : Nat} (hn : pe_n S n) (hr : ro_rg S) (hj : j < n) : lw_T (pe_nx S (nI j) n) := by
  have h12 := hn.2
  unfold pe_nx
  by_cases c : pe_has S (nI j) = true ∧ S.1 3 (nI j).toNatClampNeg = 0
  · rw [if_pos c]
    obtain ⟨A, B, h1, h2, h3, h4⟩ := nx_sum hn hr hj n (Nat.le_refl n)
    rw [h1, h2]
    by_cases d : nI A = 0
    · rw [if_pos d]
      exact hr.1 _
    · rw [if_neg d, le_div (by omega) (by omega)]
      refine ⟨B / A, ?_, rfl⟩
      exact Nat.div_le_of_le_mul (by rw [Nat.mul_comm]; exact h4)
  · rw [if_neg c, pe_th_t hn hj]
    exact hr.1 j
theorem ro_rg_S {S : mn_S} {n : Nat} (hn : pe_n S n) (hr : ro_rg S) : ro_rg (ro_S S n) := by
  unfold ro_S
  refine ⟨fun j => ?_, fun i j hi hj => ?_⟩
  · rw [mn_fill_1]
    by_cases c : 2 = 2 ∧ j < n
    · rw [if_pos c]
      exact nx_T hn hr c.2
    · rw [if_neg c, mn_fill_1, if_neg (fun q => by omega)]
      exact hr.1 j
  · rw [mn_fill_1, if_neg (fun q => by omega), mn_fill_1, if_neg (fun q => by omega)]
    exact hr.2 i j hi hj
theorem ro_rg_it {S : mn_S} {n : Nat} (hn : pe_n S n) (hr : ro_rg S) : ∀ k, ro_rg (ro_it S n k)
  | 0 => hr
  | k + 1 => ro_rg_S (ro_it_n hn k) (ro_rg_it hn hr k)
theorem lw_rg {S : mn_S} {n : Nat} (h : lw_R S n) : ro_rg S := ⟨h.2.2.2.2.2.2.1, h.2.2.2.2.2.2.2.1⟩
/-- the class's rounds touch none of the reference's cells -/
theorem ro_it_m (S : mn_S) (n k : Nat) : lw_m S (ro_it S n k) := fun b j h1 h2 => (ro_it_fr S n k).1 b j (by omega) (by omega)
/-- k rounds there, k' rounds here, with the same thoughts behind -/
theorem lw_R_ro {S : mn_S} {n k k' : Nat} (hR : lw_R S n) (h : ∀ j, (ro_it S n k').1 2 j = (ro_it S n k).1 2 j) : lw_R (rd_it (ro_it S n k) n k') n := by
  obtain ⟨f1, f2, f3⟩ := ro_it_fr S n k
  obtain ⟨g1, g2, g3⟩ := rd_it_fr (ro_it S n k) n k'
  refine lw_R_th (f := fun j => (ro_it S n k).1 2 j) hR (fun b j hb q1 q2 => ?_) (fun j => ?_) (fun j => ?_) (fun j => (ro_rg_it hR.1 (lw_rg hR) k).1 j)
  · have z : b ≠ 34 ∧ b ≠ 6 := by
      unfold lw_k at hb
      omega
    rw [g1 b j q2 z.1, f1 b j q1 z.2]
  · rw [g1 2 j (by omega) (by omega)]
  · have e := rd_it_vw (ro_it S n k) n k' 2 j (by omega)
    rw [vw_t] at e
    rw [e, lw_m_vw (ro_it_m S n k), (pq_it (lw_eq hR) hR.1.2 k').2.2.1 j]
    exact h j
theorem lw_rd_f {S : mn_S} {n k : Nat} (hR : lw_R S n) (j : Nat) : rd_f (ro_it S n k) n j = ro_c (ro_it S n j) n := by
  unfold rd_f
  rw [lw_m_vw (ro_it_m S n k), pq_ci (lw_eq hR) hR.1.2]
theorem lw_md_it {S : mn_S} {n k : Nat} (hR : lw_R S n) : md_n (ro_it S n k) n := ⟨by rw [ro_it_m S n k 29 3 (by omega) (by omega)]; exact (lw_md hR).1, hR.1.2⟩
theorem lc_rounds (x : Int32) : lw_CI sp_X8_rounds sp_X9_rounds [.int x] := by
  intro S n hR
  refine (sp_X8_rounds_c _ _ _ _).mpr ⟨rfl, n, hR.1, fun c => ⟨-2, rfl, (sp_X9_rounds_c _ _ _ _).mpr ⟨rfl, n, lw_md hR, fun _ => ⟨rfl, n, hR⟩, fun d => absurd d (by rw [c]; decide)⟩⟩, fun c => ?_⟩
  obtain ⟨q, hq, rfl⟩ := ro_ok_x c
  refine ⟨q, hq, rfl, fun r hr h1 h2 => ⟨nI r, rfl, (sp_X9_rounds_c _ _ _ _).mpr ⟨rfl, n, lw_md_it hR, fun d => absurd d (by rw [c]; decide), fun _ q' hq' e => ?_⟩⟩⟩
  have eq : q' = q := ((nI_eq (by omega) (by omega)).mp e).symm
  subst eq
  have ef : rd_f (ro_it S n (if r < q' then r + 1 else r)) n = fun j => ro_c (ro_it S n j) n := funext fun j => lw_rd_f hR j
  rw [ef]
  rcases Nat.lt_or_ge r q' with z | z
  · have hs := h2 z
    rw [if_pos z]
    have hc : rs_k (fun j => ro_c (ro_it S n j) n) q' = r := by
      obtain ⟨d, rfl⟩ : ∃ d, q' = r + d := ⟨q' - r, by omega⟩
      rw [rs_k_none (fun j j1 _ => (ro_end hs j1).2), rs_k_all h1]
    rw [hc]
    refine ⟨rfl, n, lw_R_ro hR (fun j => ?_)⟩
    rw [(ro_end hs (show r ≤ q' by omega)).1 2 j (by omega), (ro_end hs (show r ≤ r + 1 by omega)).1 2 j (by omega)]
  · have e : r = q' := by omega
    subst e
    rw [if_neg (Nat.lt_irrefl r), rs_k_all h1]
    exact ⟨rfl, n, lw_R_ro hR (fun j => rfl)⟩
theorem lc_settle : lw_CI sp_X8_settle sp_X9_settle [] := by
  intro S n hR
  refine (sp_X8_settle_c _ _ _).mpr ⟨rfl, n, hR.1, fun r hr h1 h2 => ⟨_, rfl, (sp_X9_settle_c _ _ _).mpr ⟨rfl, n, lw_md_it hR, fun r' hr' g1 g2 => ?_, fun g => ?_⟩⟩, fun h1 => ⟨_, rfl, (sp_X9_settle_c _ _ _).mpr ⟨rfl, n, lw_md_it hR, fun r' hr' g1 g2 => ?_, fun g => ⟨rfl, n, lw_R_ro hR (fun j => rfl)⟩⟩⟩⟩
  · have e : r = r' := ro_first (f := fun j => ro_c (ro_it S n j) n) h1 h2 (fun j hj => by rw [← lw_rd_f (k := r + 1) hR]; exact g1 j hj) (by rw [← lw_rd_f (k := r + 1) hR]; exact g2)
    subst e
    exact ⟨rfl, n, lw_R_ro hR (fun j => rfl)⟩
  · have := g r hr
    rw [lw_rd_f hR, h2] at this
    cases this
  · rw [lw_rd_f hR, h1 r' hr'] at g2
    cases g2
theorem lw_T_h {a b : Int32} (ha : lw_T a) (hb : lw_T b) : lw_T ((a + b) / 2) ∧ lw_T (a + b - (a + b) / 2) := by
  obtain ⟨s, s9, rfl⟩ := ha
  obtain ⟨t, t9, rfl⟩ := hb
  rw [nI_add, tk_half (by omega), tk_I_sub (by omega)]
  exact ⟨⟨_, by omega, rfl⟩, ⟨_, by omega, rfl⟩⟩
theorem lc_talk (a b : Int32) : lw_CI sp_X8_talk sp_X9_talk [.int a, .int b] := by
  intro S n hR
  have hR0 := hR
  obtain ⟨h1, h2, h3, h4, h5, h6, h7, h8, h9, h10⟩ := hR
  have h12 := h1.2
  have i1 := lw_is h1 (lw_md hR0) a
  have i2 := lw_is h1 (lw_md hR0) b
  refine (sp_X8_talk_c _ _ _ _ _).mpr ⟨rfl, fun c => ⟨-1, rfl, (sp_X9_talk_c _ _ _ _ _).mpr ⟨rfl, fun _ => ⟨rfl, n, hR0⟩, fun d => absurd d (by rw [i1, i2, c]; decide)⟩⟩, fun c => ?_⟩
  have c2 := c
  rw [Bool.and_eq_true, Bool.and_eq_true] at c2
  obtain ⟨i, hi, rfl⟩ := lw_has hR0 c2.1.1
  obtain ⟨j, hj, rfl⟩ := lw_has hR0 c2.1.2
  have hij : i ≠ j := fun q => by
    rw [q, decide_eq_true rfl] at c2
    exact absurd c2.2 (by decide)
  have ti := pe_th_t h1 hi
  have tj := pe_th_t h1 hj
  have ri : pe_re S (nI i) (ta_a S (nI i) (nI j)) = mn_wI S 2 i (ta_a S (nI i) (nI j)) := pe_re_t h1 hi _
  have hn1 : pe_n (mn_wI S 2 i (ta_a S (nI i) (nI j))) n := ⟨by rw [mn_wI_1, if_neg (fun q => by omega)]; exact h1.1, h12⟩
  rw [ri, pe_re_t hn1 hj]
  generalize hA : ta_a S (nI i) (nI j) = x
  generalize hB : ta_b S (nI i) (nI j) = y
  unfold ta_a at hA
  unfold ta_b at hB
  rw [ti, tj] at hA hB
  rw [ti, tj]
  have m30 : ∀ k, (mn_wI (mn_wI S 2 i x) 2 j y).1 30 k = S.1 2 k := fun k => by
    rw [mn_wI_1, if_neg (fun q => by omega), mn_wI_1, if_neg (fun q => by omega)]
    exact h4 k
  have hm2 : md_n (mn_wI (mn_wI S 2 i x) 2 j y) n := ⟨by rw [mn_wI_1, if_neg (fun q => by omega), mn_wI_1, if_neg (fun q => by omega)]; exact (lw_md hR0).1, h12⟩
  have lem : tl_c (mn_wI (mn_wI S 2 i x) 2 j y) i j = (decide (S.1 2 i < S.1 2 j) || decide (S.1 2 i = S.1 2 j) && decide (i < j)) := by
    unfold tl_c
    rw [m30, m30]
  have eh : tl_h (mn_wI (mn_wI S 2 i x) 2 j y) i j = (S.1 2 i + S.1 2 j) / 2 := by
    unfold tl_h
    rw [m30, m30]
  have el : tl_l (mn_wI (mn_wI S 2 i x) 2 j y) i j = S.1 2 i + S.1 2 j - (S.1 2 i + S.1 2 j) / 2 := by
    unfold tl_l
    rw [m30, m30]
  have key : (if tl_c (mn_wI (mn_wI S 2 i x) 2 j y) i j = true then tl_h (mn_wI (mn_wI S 2 i x) 2 j y) i j else tl_l (mn_wI (mn_wI S 2 i x) 2 j y) i j) = x ∧ (if tl_c (mn_wI (mn_wI S 2 i x) 2 j y) i j = true then tl_l (mn_wI (mn_wI S 2 i x) 2 j y) i j else tl_h (mn_wI (mn_wI S 2 i x) 2 j y) i j) = y := by
    rw [lem, eh, el, ← hA, ← hB]
    obtain ⟨s, s9, es⟩ := h7 i
    obtain ⟨t, t9, et⟩ := h7 j
    rw [es, et]
    rw [decide_eq_decide.mpr (nI_ltI (a := s) (b := t) (by omega) (by omega)), decide_eq_decide.mpr (nI_eq (a := s) (b := t) (by omega) (by omega))]
    by_cases l : t < s
    · rw [if_pos ((nI_ltI (by omega) (by omega)).mpr l), if_pos ((nI_ltI (by omega) (by omega)).mpr l), decide_eq_false (by omega), decide_eq_false (show ¬ s = t by omega)]
      exact ⟨rfl, rfl⟩
    · rw [if_neg (fun q => l ((nI_ltI (by omega) (by omega)).mp q)), if_neg (fun q => l ((nI_ltI (by omega) (by omega)).mp q))]
      by_cases m : s < t
      · rw [decide_eq_true m]
        exact ⟨rfl, rfl⟩
      · have e : s = t := by omega
        subst e
        rw [decide_eq_false (Nat.lt_irrefl s), decide_eq_true rfl, nI_add, tk_half (by omega), tk_I_sub (by omega)]
        have e2 : s + s - (s + s) / 2 = (s + s) / 2 := by omega
        rw [e2]
        by_cases o : i < j
        · rw [decide_eq_true o]
          exact ⟨rfl, rfl⟩
        · rw [decide_eq_false o]
          exact ⟨rfl, rfl⟩
  refine ⟨_, rfl, (sp_X9_talk_c _ _ _ _ _).mpr ⟨rfl, fun d => absurd d (by rw [lw_is h1 hm2, lw_is h1 hm2, c]; decide), fun _ => ⟨i, j, by omega, by omega, rfl, rfl, ?_, n, ?_⟩⟩⟩
  · rw [m30, m30, md_abs]
  · rw [key.1, key.2]
    have tt := lw_T_h (h7 i) (h7 j)
    have Tx : lw_T x := by
      rw [← hA]
      split
      · exact tt.2
      · exact tt.1
    have Ty : lw_T y := by
      rw [← hB]
      split
      · exact tt.1
      · exact tt.2
    refine lw_R_th (f := fun k => if k = j then y else if k = i then x else S.1 2 k) hR0 (fun b k _ q1 q2 => ?_) (fun k => ?_) (fun k => ?_) (fun k => ?_)
    · rw [mn_wI_1, if_neg (fun q => q2 q.1), mn_wI_1, if_neg (fun q => q2 q.1), mn_wI_1, if_neg (fun q => q1 q.1), mn_wI_1, if_neg (fun q => q1 q.1)]
    · rw [mn_wI_1, if_neg (fun q => by omega), mn_wI_1, if_neg (fun q => by omega), mn_wI_1]
      by_cases e : k = j
      · rw [if_pos ⟨rfl, e⟩, if_pos e]
      · rw [if_neg (fun q => e q.2), if_neg e, mn_wI_1]
        by_cases e2 : k = i
        · rw [if_pos ⟨rfl, e2⟩, if_pos e2]
        · rw [if_neg (fun q => e2 q.2), if_neg e2]
    · rw [mn_wI_1]
      by_cases e : k = j
      · rw [if_pos ⟨rfl, e⟩, if_pos e]
      · rw [if_neg (fun q => e q.2), if_neg e, mn_wI_1]
        by_cases e2 : k = i
        · rw [if_pos ⟨rfl, e2⟩, if_pos e2]
        · rw [if_neg (fun q => e2 q.2), if_neg e2]
          exact m30 k
    · split
      · exact Ty
      · split
        · exact Tx
        · exact h7 k
