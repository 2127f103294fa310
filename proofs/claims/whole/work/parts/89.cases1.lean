/-! ===== class and reference side by side: the plain calls ===== -/
def lw_T (x : Int32) : Prop := ∃ t : Nat, t ≤ 1000 ∧ x = nI t
def lw_W (x : Int32) : Prop := ∃ w : Nat, w ≤ 9 ∧ x = nI w
def lw_kp (S : mn_S) (n : Nat) : Prop := S.1 29 7 = S.1 10 2 ∧ (S.1 10 2 = 0 ∨ S.1 10 2 = 1 ∧ ∃ q, q ≤ n ∧ S.1 10 1 = nI q ∧ S.1 29 6 = nI q ∧ ∀ i, i < q → S.1 33 i = S.1 11 i ∧ lw_T (S.1 11 i))
/-- what binds the class's cells and the reference's -/
def lw_R (S : mn_S) (n : Nat) : Prop := pe_n S n ∧ S.1 29 3 = S.1 1 3 ∧ S.1 29 4 = S.1 1 4 ∧ (∀ j, S.1 30 j = S.1 2 j) ∧ (∀ j, S.1 31 j = S.1 3 j) ∧ (∀ i j, i < 12 → j < 12 → S.1 32 (12 * i + j) = S.1 (100 + 3 * i) j) ∧ (∀ j, lw_T (S.1 2 j)) ∧ (∀ i j, i < 12 → j < 12 → lw_W (S.1 (100 + 3 * i) j)) ∧ lw_kp S n ∧ S.1 29 22 = S.1 25 3
/-- the cells that it speaks of -/
def lw_k (b j : Nat) : Prop := b = 1 ∨ b = 2 ∨ b = 3 ∨ 100 ≤ b ∨ b = 10 ∨ b = 11 ∨ (b = 25 ∧ j = 3) ∨ (b = 29 ∧ (j = 3 ∨ j = 4 ∨ j = 6 ∨ j = 7 ∨ j = 22)) ∨ b = 30 ∨ b = 31 ∨ b = 32 ∨ b = 33
def lw_fr (S S' : mn_S) : Prop := ∀ b j, lw_k b j → S'.1 b j = S.1 b j
theorem lw_fr_r (S : mn_S) : lw_fr S S := fun _ _ _ => rfl
theorem lw_fr_t {S S' S'' : mn_S} (h : lw_fr S S') (h2 : lw_fr S' S'') : lw_fr S S'' := fun b j hb => (h2 b j hb).trans (h b j hb)
theorem lw_kp_fr {S S' : mn_S} {n n' : Nat} (hf : ∀ b j, b = 10 ∨ b = 11 ∨ b = 33 ∨ (b = 29 ∧ (j = 6 ∨ j = 7)) → S'.1 b j = S.1 b j) (hn : n ≤ n') (h : lw_kp S n) : lw_kp S' n' := by
  obtain ⟨h1, h2⟩ := h
  refine ⟨by rw [hf 29 7 (by omega), hf 10 2 (by omega)]; exact h1, ?_⟩
  rcases h2 with h2 | ⟨h2, q, h3, h4, h5, h6⟩
  · exact Or.inl (by rw [hf 10 2 (by omega)]; exact h2)
  · exact Or.inr ⟨by rw [hf 10 2 (by omega)]; exact h2, q, by omega, by rw [hf 10 1 (by omega)]; exact h4, by rw [hf 29 6 (by omega)]; exact h5, fun i hi => by rw [hf 33 i (by omega), hf 11 i (by omega)]; exact h6 i hi⟩
theorem lw_R_fr {S S' : mn_S} {n : Nat} (h : lw_R S n) (hf : lw_fr S S') : lw_R S' n := by
  obtain ⟨h1, h2, h3, h4, h5, h6, h7, h8, h9, h10⟩ := h
  refine ⟨⟨by rw [hf 1 3 (Or.inl rfl)]; exact h1.1, h1.2⟩, ?_, ?_, fun j => ?_, fun j => ?_, fun i j hi hj => ?_, fun j => ?_, fun i j hi hj => ?_, lw_kp_fr (fun b j hb => hf b j (by unfold lw_k; omega)) (Nat.le_refl n) h9, ?_⟩
  · rw [hf 29 3 (by unfold lw_k; omega), hf 1 3 (by unfold lw_k; omega)]; exact h2
  · rw [hf 29 4 (by unfold lw_k; omega), hf 1 4 (by unfold lw_k; omega)]; exact h3
  · rw [hf 30 j (by unfold lw_k; omega), hf 2 j (by unfold lw_k; omega)]; exact h4 j
  · rw [hf 31 j (by unfold lw_k; omega), hf 3 j (by unfold lw_k; omega)]; exact h5 j
  · rw [hf 32 _ (by unfold lw_k; omega), hf (100 + 3 * i) j (by unfold lw_k; omega)]; exact h6 i j hi hj
  · rw [hf 2 j (by unfold lw_k; omega)]; exact h7 j
  · rw [hf (100 + 3 * i) j (by unfold lw_k; omega)]; exact h8 i j hi hj
  · rw [hf 29 22 (by unfold lw_k; omega), hf 25 3 (by unfold lw_k; omega)]; exact h10
/-- thoughts are told anew on both sides -/
theorem lw_R_th {S S' : mn_S} {n : Nat} {f : Nat → Int32} (h : lw_R S n) (hf : ∀ b j, lw_k b j → b ≠ 2 → b ≠ 30 → S'.1 b j = S.1 b j) (f2 : ∀ j, S'.1 2 j = f j) (f30 : ∀ j, S'.1 30 j = f j) (hT : ∀ j, lw_T (f j)) : lw_R S' n := by
  obtain ⟨h1, h2, h3, h4, h5, h6, h7, h8, h9, h10⟩ := h
  refine ⟨⟨by rw [hf 1 3 (Or.inl rfl) (by omega) (by omega)]; exact h1.1, h1.2⟩, ?_, ?_, fun j => ?_, fun j => ?_, fun i j hi hj => ?_, fun j => ?_, fun i j hi hj => ?_, lw_kp_fr (fun b j hb => hf b j (by unfold lw_k; omega) (by omega) (by omega)) (Nat.le_refl n) h9, ?_⟩
  · rw [hf 29 3 (by unfold lw_k; omega) (by omega) (by omega), hf 1 3 (by unfold lw_k; omega) (by omega) (by omega)]; exact h2
  · rw [hf 29 4 (by unfold lw_k; omega) (by omega) (by omega), hf 1 4 (by unfold lw_k; omega) (by omega) (by omega)]; exact h3
  · rw [f30, f2]
  · rw [hf 31 j (by unfold lw_k; omega) (by omega) (by omega), hf 3 j (by unfold lw_k; omega) (by omega) (by omega)]; exact h5 j
  · rw [hf 32 _ (by unfold lw_k; omega) (by omega) (by omega), hf (100 + 3 * i) j (by unfold lw_k; omega) (by omega) (by omega)]; exact h6 i j hi hj
  · rw [f2]; exact hT j
  · rw [hf (100 + 3 * i) j (by unfold lw_k; omega) (by omega) (by omega)]; exact h8 i j hi hj
  · rw [hf 29 22 (by unfold lw_k; omega) (by omega) (by omega), hf 25 3 (by unfold lw_k; omega) (by omega) (by omega)]; exact h10
theorem lw_eq {S : mn_S} {n : Nat} (h : lw_R S n) : pe_eq S (vw S) := by
  obtain ⟨h1, h2, h3, h4, h5, h6, h7, h8, h9, h10⟩ := h
  exact ⟨by rw [vw_n]; exact h2, by rw [vw_e]; exact h3, fun j => by rw [vw_t]; exact h4 j, fun j => by rw [vw_s]; exact h5 j, fun i j hi hj => by rw [vw_w]; exact h6 i j hi hj⟩
theorem lw_md {S : mn_S} {n : Nat} (h : lw_R S n) : md_n S n := ⟨h.2.1.trans h.1.1, h.1.2⟩
/-- the reference's cells of people are the same -/
def lw_m (S S' : mn_S) : Prop := ∀ b j, 29 ≤ b → b < 100 → S'.1 b j = S.1 b j
theorem lw_m_fr {S S' : mn_S} (h : lw_m S S') : md_fr S S' := fun b j hb => h b j (by omega) (by omega)
theorem lw_m_vw {S S' : mn_S} (h : lw_m S S') : vw S' = vw S := md_fr_vw (lw_m_fr h)
theorem lw_is {S : mn_S} {n : Nat} (h1 : pe_n S n) {S' : mn_S} (h2 : md_n S' n) (x : Int32) : md_is S' x = pe_has S x := by
  unfold md_is pe_has
  rw [h2.1, h1.1]
  have h12 := h1.2
  by_cases c : x < 0
  · rw [decide_eq_true c, decide_eq_true (show x.toInt64 < 0 from (fa_wide_lt x 0).mpr c), Bool.not_true, Bool.false_and, Bool.false_and, Bool.false_and]
  · rw [decide_eq_false c, decide_eq_false (show ¬ x.toInt64 < 0 from fun q => c ((fa_wide_lt x 0).mp q))]
    obtain ⟨j, hj, rfl⟩ := nI_of c
    rw [show (12 : Int32) = nI 12 from rfl, decide_eq_decide.mpr (nI_leI (a := 12) (b := j) (by omega) hj), decide_eq_decide.mpr (nI_leI (a := n) (b := j) (by omega) hj)]
    have e : ((nI n - 1).toInt64 < (nI j).toInt64) ↔ n ≤ j := by
      rcases Nat.eq_zero_or_pos n with z | z
      · subst z
        refine ⟨fun _ => Nat.zero_le j, fun _ => ?_⟩
        rw [fa_wide_lt, fa_lt, nI_toInt hj]
        have : (nI 0 - 1 : Int32).toInt = -1 := by decide
        omega
      · rw [show nI n - 1 = nI (n - 1) from tk_I_sub (b := 1) z, fa_wide_lt, nI_ltI (by omega) hj]
        omega
    rw [decide_eq_decide.mpr e]
    by_cases d : n ≤ j
    · rw [decide_eq_true d, Bool.not_true, Bool.and_false, Bool.false_and]
    · rw [decide_eq_false d, decide_eq_false (by omega)]
      rfl
def lw_KI (sp9 : mn_Sp) (as : List Value) : mn_K := fun v1 S1 => ∃ x, v1 = some (.int x) ∧ sp9 (.ref 29 :: as) S1 (fun v2 S2 => v2 = some (.int x) ∧ ∃ n, lw_R S2 n)
def lw_KL (sp9 : mn_Sp) (as : List Value) : mn_K := fun v1 S1 => ∃ x, v1 = some (.long x) ∧ sp9 (.ref 29 :: as) S1 (fun v2 S2 => v2 = some (.long x) ∧ ∃ n, lw_R S2 n)
/-- two calls with the same arguments, one behind the other, answer the same (ints; longs) -/
def lw_CI (sp8 sp9 : mn_Sp) (as : List Value) : Prop := ∀ (S : mn_S) (n : Nat), lw_R S n → sp8 (.ref 0 :: as) S (lw_KI sp9 as)
def lw_CL (sp8 sp9 : mn_Sp) (as : List Value) : Prop := ∀ (S : mn_S) (n : Nat), lw_R S n → sp8 (.ref 0 :: as) S (lw_KL sp9 as)
theorem th_ok_T {x : Int32} (h : th_ok x = true) : lw_T x := by
  unfold th_ok at h
  simp only [Bool.and_eq_true, Bool.not_eq_true', decide_eq_false_iff_not] at h
  obtain ⟨h1, h2⟩ := h
  obtain ⟨j, hj, rfl⟩ := nI_of h1
  rw [show (1000 : Int32) = nI 1000 from rfl, nI_ltI (by omega) hj] at h2
  exact ⟨j, by omega, rfl⟩
theorem we_ok_W {x : Int32} (h : we_ok x = true) : lw_W x := by
  unfold we_ok at h
  simp only [Bool.and_eq_true, Bool.not_eq_true', decide_eq_false_iff_not] at h
  obtain ⟨h1, h2⟩ := h
  obtain ⟨j, hj, rfl⟩ := nI_of h1
  rw [show (9 : Int32) = nI 9 from rfl, nI_ltI (by omega) hj] at h2
  exact ⟨j, by omega, rfl⟩
theorem lc_one (x : Int32) : lw_CI sp_X8_one sp_X9_one [.int x] := by
  intro S n hR
  have hR0 := hR
  obtain ⟨h1, h2, h3, h4, h5, h6, h7, h8, h9, h10⟩ := hR
  have h12 := h1.2
  have hm := lw_md hR0
  refine (sp_X8_one_c _ _ _ _).mpr ⟨rfl, n, h1, fun c => ⟨-2, rfl, (sp_X9_one_c _ _ _ _).mpr ⟨rfl, n, hm, fun _ => ⟨rfl, n, hR0⟩, fun d => absurd d (by rw [c]; decide), fun d => absurd d (by rw [c]; decide)⟩⟩, fun c e => ⟨-4, rfl, (sp_X9_one_c _ _ _ _).mpr ⟨rfl, n, hm, fun d => absurd d (by rw [c]; decide), fun _ _ => ⟨rfl, n, hR0⟩, fun _ d => by omega⟩⟩, fun c e => ⟨nI n, rfl, (sp_X9_one_c _ _ _ _).mpr ⟨rfl, n, ⟨by rw [mn_wI_1, if_neg (fun q => by omega), mn_wI_1, if_neg (fun q => by omega), mn_wI_1, if_neg (fun q => by omega)]; exact hm.1, h12⟩, fun d => absurd d (by rw [c]; decide), fun _ d => by omega, fun _ _ => ⟨rfl, n + 1, ?_⟩⟩⟩⟩
  have oth : ∀ b j, ¬ (b = 1 ∧ j = 3) → ¬ (b = 2 ∧ j = n) → ¬ (b = 100 + 3 * n ∧ j = n) → ¬ (b = 30 ∧ j = n) → ¬ (b = 32 ∧ j = 12 * n + n) → ¬ (b = 29 ∧ j = 3) → (mn_wI (mn_wI (mn_wI (mn_wI (mn_wI (mn_wI S 1 3 (nI (n + 1))) 2 n x) (100 + 3 * n) n 1) 30 n x) 32 (12 * n + n) 1) 29 3 (nI (n + 1))).1 b j = S.1 b j := fun b j q1 q2 q3 q4 q5 q6 => by
    rw [mn_wI_1, if_neg q6, mn_wI_1, if_neg q5, mn_wI_1, if_neg q4, mn_wI_1, if_neg q3, mn_wI_1, if_neg q2, mn_wI_1, if_neg q1]
  have e13 : (mn_wI (mn_wI (mn_wI (mn_wI (mn_wI (mn_wI S 1 3 (nI (n + 1))) 2 n x) (100 + 3 * n) n 1) 30 n x) 32 (12 * n + n) 1) 29 3 (nI (n + 1))).1 1 3 = nI (n + 1) := by
    rw [mn_wI_1, if_neg (fun q => by omega), mn_wI_1, if_neg (fun q => by omega), mn_wI_1, if_neg (fun q => by omega), mn_wI_1, if_neg (fun q => by omega), mn_wI_1, if_neg (fun q => by omega), mn_wI_1, if_pos ⟨rfl, rfl⟩]
  have e2 : ∀ j, (mn_wI (mn_wI (mn_wI (mn_wI (mn_wI (mn_wI S 1 3 (nI (n + 1))) 2 n x) (100 + 3 * n) n 1) 30 n x) 32 (12 * n + n) 1) 29 3 (nI (n + 1))).1 2 j = if j = n then x else S.1 2 j := fun j => by
    by_cases d : j = n
    · rw [if_pos d, mn_wI_1, if_neg (fun q => by omega), mn_wI_1, if_neg (fun q => by omega), mn_wI_1, if_neg (fun q => by omega), mn_wI_1, if_neg (fun q => by omega), mn_wI_1, if_pos ⟨rfl, d⟩]
    · rw [if_neg d]
      exact oth 2 j (by omega) (by omega) (by omega) (by omega) (by omega) (by omega)
  have e30 : ∀ j, (mn_wI (mn_wI (mn_wI (mn_wI (mn_wI (mn_wI S 1 3 (nI (n + 1))) 2 n x) (100 + 3 * n) n 1) 30 n x) 32 (12 * n + n) 1) 29 3 (nI (n + 1))).1 30 j = if j = n then x else S.1 30 j := fun j => by
    by_cases d : j = n
    · rw [if_pos d, mn_wI_1, if_neg (fun q => by omega), mn_wI_1, if_neg (fun q => by omega), mn_wI_1, if_pos ⟨rfl, d⟩]
    · rw [if_neg d]
      exact oth 30 j (by omega) (by omega) (by omega) (by omega) (by omega) (by omega)
  have ew : ∀ i j, (mn_wI (mn_wI (mn_wI (mn_wI (mn_wI (mn_wI S 1 3 (nI (n + 1))) 2 n x) (100 + 3 * n) n 1) 30 n x) 32 (12 * n + n) 1) 29 3 (nI (n + 1))).1 (100 + 3 * i) j = if i = n ∧ j = n then 1 else S.1 (100 + 3 * i) j := fun i j => by
    by_cases d : i = n ∧ j = n
    · rw [if_pos d, mn_wI_1, if_neg (fun q => by omega), mn_wI_1, if_neg (fun q => by omega), mn_wI_1, if_neg (fun q => by omega), mn_wI_1, if_pos ⟨by omega, by omega⟩]
    · rw [if_neg d]
      exact oth (100 + 3 * i) j (by omega) (by omega) (by omega) (by omega) (by omega) (by omega)
  have e32 : ∀ i j, i < 12 → j < 12 → (mn_wI (mn_wI (mn_wI (mn_wI (mn_wI (mn_wI S 1 3 (nI (n + 1))) 2 n x) (100 + 3 * n) n 1) 30 n x) 32 (12 * n + n) 1) 29 3 (nI (n + 1))).1 32 (12 * i + j) = if i = n ∧ j = n then 1 else S.1 32 (12 * i + j) := fun i j hi hj => by
    by_cases d : i = n ∧ j = n
    · rw [if_pos d, mn_wI_1, if_neg (fun q => by omega), mn_wI_1, if_pos ⟨rfl, by omega⟩]
    · rw [if_neg d]
      exact oth 32 _ (by omega) (by omega) (by omega) (by omega) (by omega) (by omega)
  refine ⟨⟨e13, by omega⟩, ?_, ?_, fun j => ?_, fun j => ?_, fun i j hi hj => ?_, fun j => ?_, fun i j hi hj => ?_, lw_kp_fr (fun b j hb => oth b j (by omega) (by omega) (by omega) (by omega) (by omega) (by omega)) (Nat.le_succ n) h9, ?_⟩
  · rw [e13, mn_wI_1, if_pos ⟨rfl, rfl⟩]
  · rw [oth 29 4 (by omega) (by omega) (by omega) (by omega) (by omega) (by omega), oth 1 4 (by omega) (by omega) (by omega) (by omega) (by omega) (by omega)]
    exact h3
  · rw [e30, e2, h4]
  · rw [oth 31 j (by omega) (by omega) (by omega) (by omega) (by omega) (by omega), oth 3 j (by omega) (by omega) (by omega) (by omega) (by omega) (by omega)]
    exact h5 j
  · rw [e32 i j hi hj, ew, h6 i j hi hj]
  · rw [e2]
    split
    · exact th_ok_T c
    · exact h7 j
  · rw [ew]
    split
    · exact ⟨1, by omega, rfl⟩
    · exact h8 i j hi hj
  · rw [oth 29 22 (by omega) (by omega) (by omega) (by omega) (by omega) (by omega), oth 25 3 (by omega) (by omega) (by omega) (by omega) (by omega) (by omega)]
    exact h10
theorem lw_has {S : mn_S} {n : Nat} (h : lw_R S n) {one : Int32} (c : pe_has S one = true) : ∃ i, i < n ∧ one = nI i := pe_has_x h.1 c
theorem lc_think (one x : Int32) : lw_CI sp_X8_think sp_X9_think [.int one, .int x] := by
  intro S n hR
  have h12 := hR.1.2
  refine (sp_X8_think_c _ _ _ _ _).mpr ⟨rfl, fun c => ⟨-1, rfl, (sp_X9_think_c _ _ _ _ _).mpr ⟨rfl, fun _ => ⟨rfl, n, hR⟩, fun d => absurd d (by rw [lw_is hR.1 (lw_md hR), c]; decide), fun d => absurd d (by rw [lw_is hR.1 (lw_md hR), c]; decide)⟩⟩, fun c d => ⟨-2, rfl, (sp_X9_think_c _ _ _ _ _).mpr ⟨rfl, fun e => absurd e (by rw [lw_is hR.1 (lw_md hR), c]; decide), fun _ _ => ⟨rfl, n, hR⟩, fun _ e => absurd e (by rw [d]; decide)⟩⟩, fun c d => ?_⟩
  obtain ⟨i, hi, rfl⟩ := lw_has hR c
  have et := pe_th_t hR.1 hi
  have er := pe_re_t hR.1 hi x
  rw [et, er]
  have e30 : (mn_wI S 2 i x).1 30 i = S.1 2 i := by
    rw [mn_wI_1, if_neg (fun q => by omega)]
    exact hR.2.2.2.1 i
  refine ⟨_, rfl, (sp_X9_think_c _ _ _ _ _).mpr ⟨rfl, fun e => absurd e ?_, fun _ e => absurd e (by rw [d]; decide), fun _ _ => ⟨i, by omega, rfl, by rw [e30], n, ?_⟩⟩⟩
  · rw [lw_is hR.1 (S' := mn_wI S 2 i x) ⟨by rw [mn_wI_1, if_neg (fun q => by omega)]; exact (lw_md hR).1, h12⟩, c]
    decide
  · refine lw_R_th (f := fun j => if j = i then x else S.1 2 j) hR (fun b j _ q1 q2 => by rw [mn_wI_1, if_neg (fun q => q2 q.1), mn_wI_1, if_neg (fun q => q1 q.1)]) (fun j => ?_) (fun j => ?_) (fun j => ?_)
    · rw [mn_wI_1, if_neg (fun q => by omega), mn_wI_1]
      by_cases e : j = i
      · rw [if_pos ⟨rfl, e⟩, if_pos e]
      · rw [if_neg (fun q => e q.2), if_neg e]
    · rw [mn_wI_1]
      by_cases e : j = i
      · rw [if_pos ⟨rfl, e⟩, if_pos e]
      · rw [if_neg (fun q => e q.2), if_neg e, mn_wI_1, if_neg (fun q => by omega)]
        exact hR.2.2.2.1 j
    · split
      · exact th_ok_T d
      · exact hR.2.2.2.2.2.2.1 j
theorem lc_stubborn (one x : Int32) : lw_CI sp_X8_stubborn sp_X9_stubborn [.int one, .int x] := by
  intro S n hR
  have hR0 := hR
  obtain ⟨h1, h2, h3, h4, h5, h6, h7, h8, h9, h10⟩ := hR
  have h12 := h1.2
  refine (sp_X8_stubborn_c _ _ _ _ _).mpr ⟨rfl, fun c => ⟨-1, rfl, (sp_X9_stubborn_c _ _ _ _ _).mpr ⟨rfl, fun _ => ⟨rfl, n, hR0⟩, fun d => absurd d (by rw [lw_is h1 (lw_md hR0), c]; decide)⟩⟩, fun c => ?_⟩
  obtain ⟨i, hi, rfl⟩ := lw_has hR0 c
  have es := rs_sb h1 hi
  have em := pe_ms_t h1 hi x
  rw [es, em]
  have e31 : (mn_wI S 3 i (x &&& 1)).1 31 i = S.1 3 i := by
    rw [mn_wI_1, if_neg (fun q => by omega)]
    exact h5 i
  refine ⟨_, rfl, (sp_X9_stubborn_c _ _ _ _ _).mpr ⟨rfl, fun e => absurd e ?_, fun _ => ⟨i, by omega, rfl, by rw [e31]; rfl, n, ?_⟩⟩⟩
  · rw [lw_is h1 (S' := mn_wI S 3 i (x &&& 1)) ⟨by rw [mn_wI_1, if_neg (fun q => by omega)]; exact (lw_md hR0).1, h12⟩, c]
    decide
  · have oth : ∀ b j, ¬ (b = 3 ∧ j = i) → ¬ (b = 31 ∧ j = i) → (mn_wI (mn_wI S 3 i (x &&& 1)) 31 i (x &&& 1)).1 b j = S.1 b j := fun b j q1 q2 => by rw [mn_wI_1, if_neg q2, mn_wI_1, if_neg q1]
    refine ⟨⟨by rw [oth 1 3 (by omega) (by omega)]; exact h1.1, h12⟩, by rw [oth 29 3 (by omega) (by omega), oth 1 3 (by omega) (by omega)]; exact h2, by rw [oth 29 4 (by omega) (by omega), oth 1 4 (by omega) (by omega)]; exact h3, fun j => by rw [oth 30 j (by omega) (by omega), oth 2 j (by omega) (by omega)]; exact h4 j, fun j => ?_, fun a j ha hj => by rw [oth 32 _ (by omega) (by omega), oth (100 + 3 * a) j (by omega) (by omega)]; exact h6 a j ha hj, fun j => by rw [oth 2 j (by omega) (by omega)]; exact h7 j, fun a j ha hj => by rw [oth (100 + 3 * a) j (by omega) (by omega)]; exact h8 a j ha hj, lw_kp_fr (fun b j hb => oth b j (by omega) (by omega)) (Nat.le_refl n) h9, by rw [oth 29 22 (by omega) (by omega), oth 25 3 (by omega) (by omega)]; exact h10⟩
    by_cases e : j = i
    · rw [mn_wI_1, if_pos ⟨rfl, e⟩, mn_wI_1, if_neg (fun q => by omega), mn_wI_1, if_pos ⟨rfl, e⟩]
    · rw [oth 31 j (by omega) (by omega), oth 3 j (by omega) (by omega)]
      exact h5 j
theorem lc_weight (one other x : Int32) : lw_CI sp_X8_weight sp_X9_weight [.int one, .int other, .int x] := by
  intro S n hR
  have hR0 := hR
  obtain ⟨h1, h2, h3, h4, h5, h6, h7, h8, h9, h10⟩ := hR
  have h12 := h1.2
  have i1 := lw_is h1 (lw_md hR0) one
  have i2 := lw_is h1 (lw_md hR0) other
  refine (sp_X8_weight_c _ _ _ _ _ _).mpr ⟨rfl, fun c => ⟨-1, rfl, (sp_X9_weight_c _ _ _ _ _ _).mpr ⟨rfl, fun _ => ⟨rfl, n, hR0⟩, fun d => absurd d (by rw [i1, i2, c]; decide), fun d => absurd d (by rw [i1, i2, c]; decide)⟩⟩, fun c d => ⟨-2, rfl, (sp_X9_weight_c _ _ _ _ _ _).mpr ⟨rfl, fun e => absurd e (by rw [i1, i2, c]; decide), fun _ _ => ⟨rfl, n, hR0⟩, fun _ e => absurd e (by rw [d]; decide)⟩⟩, fun c d => ?_⟩
  have c2 := c
  rw [Bool.and_eq_true] at c2
  obtain ⟨i, hi, rfl⟩ := lw_has hR0 c2.1
  obtain ⟨j, hj, rfl⟩ := lw_has hR0 c2.2
  have et := pe_wt_t h1 hi hj
  have ew : pe_we S (nI i) (nI j) x = mn_wI S (100 + 3 * i) j x := by
    unfold pe_we
    rw [if_pos c2, mn_cl_i (by omega), mn_cl_i (by omega)]
  rw [et, ew]
  have hm2 : md_n (mn_wI S (100 + 3 * i) j x) n := ⟨by rw [mn_wI_1, if_neg (fun q => by omega)]; exact (lw_md hR0).1, h12⟩
  have e32 : (mn_wI S (100 + 3 * i) j x).1 32 (12 * i + j) = S.1 (100 + 3 * i) j := by
    rw [mn_wI_1, if_neg (fun q => by omega)]
    exact h6 i j (by omega) (by omega)
  refine ⟨_, rfl, (sp_X9_weight_c _ _ _ _ _ _).mpr ⟨rfl, fun e => absurd e (by rw [lw_is h1 hm2, lw_is h1 hm2, c]; decide), fun _ e => absurd e (by rw [d]; decide), fun _ _ => ⟨i, j, by omega, by omega, rfl, rfl, by rw [e32], n, ?_⟩⟩⟩
  have oth : ∀ a b, ¬ (a = 100 + 3 * i ∧ b = j) → ¬ (a = 32 ∧ b = 12 * i + j) → (mn_wI (mn_wI S (100 + 3 * i) j x) 32 (12 * i + j) x).1 a b = S.1 a b := fun a b q1 q2 => by rw [mn_wI_1, if_neg q2, mn_wI_1, if_neg q1]
  have eA : ∀ a b, (mn_wI (mn_wI S (100 + 3 * i) j x) 32 (12 * i + j) x).1 (100 + 3 * a) b = if a = i ∧ b = j then x else S.1 (100 + 3 * a) b := fun a b => by
    by_cases e : a = i ∧ b = j
    · rw [if_pos e, mn_wI_1, if_neg (fun q => by omega), mn_wI_1, if_pos ⟨by omega, by omega⟩]
    · rw [if_neg e]
      exact oth _ b (by omega) (by omega)
  refine ⟨⟨by rw [oth 1 3 (by omega) (by omega)]; exact h1.1, h12⟩, by rw [oth 29 3 (by omega) (by omega), oth 1 3 (by omega) (by omega)]; exact h2, by rw [oth 29 4 (by omega) (by omega), oth 1 4 (by omega) (by omega)]; exact h3, fun b => by rw [oth 30 b (by omega) (by omega), oth 2 b (by omega) (by omega)]; exact h4 b, fun b => by rw [oth 31 b (by omega) (by omega), oth 3 b (by omega) (by omega)]; exact h5 b, fun a b ha hb => ?_, fun b => by rw [oth 2 b (by omega) (by omega)]; exact h7 b, fun a b ha hb => ?_, lw_kp_fr (fun a b hb => oth a b (by omega) (by omega)) (Nat.le_refl n) h9, by rw [oth 29 22 (by omega) (by omega), oth 25 3 (by omega) (by omega)]; exact h10⟩
  · rw [eA]
    by_cases e : a = i ∧ b = j
    · rw [if_pos e, mn_wI_1, if_pos ⟨rfl, by omega⟩]
    · rw [if_neg e, oth 32 _ (by omega) (by omega)]
      exact h6 a b ha hb
  · rw [eA]
    split
    · exact we_ok_W d
    · exact h8 a b ha hb
theorem lc_ear (x : Int32) : lw_CI sp_X8_ear sp_X9_ear [.int x] := by
  intro S n hR
  have hR0 := hR
  obtain ⟨h1, h2, h3, h4, h5, h6, h7, h8, h9, h10⟩ := hR
  have h12 := h1.2
  refine (sp_X8_ear_c _ _ _ _).mpr ⟨rfl, fun c => ⟨-2, rfl, (sp_X9_ear_c _ _ _ _).mpr ⟨rfl, fun _ => ⟨rfl, n, hR0⟩, fun d => absurd d (by rw [c]; decide)⟩⟩, fun c => ⟨_, rfl, (sp_X9_ear_c _ _ _ _).mpr ⟨rfl, fun d => absurd d (by rw [c]; decide), fun _ => ⟨?_, n, ?_⟩⟩⟩⟩
  · rw [mn_wI_1, if_neg (fun q => by omega), h3]
  · have oth : ∀ b j, ¬ (b = 1 ∧ j = 4) → ¬ (b = 29 ∧ j = 4) → (mn_wI (mn_wI S 1 4 x) 29 4 x).1 b j = S.1 b j := fun b j q1 q2 => by rw [mn_wI_1, if_neg q2, mn_wI_1, if_neg q1]
    exact ⟨⟨by rw [oth 1 3 (by omega) (by omega)]; exact h1.1, h12⟩, by rw [oth 29 3 (by omega) (by omega), oth 1 3 (by omega) (by omega)]; exact h2, by rw [mn_wI_1, if_pos ⟨rfl, rfl⟩, mn_wI_1, if_neg (fun q => by omega), mn_wI_1, if_pos ⟨rfl, rfl⟩], fun j => by rw [oth 30 j (by omega) (by omega), oth 2 j (by omega) (by omega)]; exact h4 j, fun j => by rw [oth 31 j (by omega) (by omega), oth 3 j (by omega) (by omega)]; exact h5 j, fun a j ha hj => by rw [oth 32 _ (by omega) (by omega), oth (100 + 3 * a) j (by omega) (by omega)]; exact h6 a j ha hj, fun j => by rw [oth 2 j (by omega) (by omega)]; exact h7 j, fun a j ha hj => by rw [oth (100 + 3 * a) j (by omega) (by omega)]; exact h8 a j ha hj, lw_kp_fr (fun b j hb => oth b j (by omega) (by omega)) (Nat.le_refl n) h9, by rw [oth 29 22 (by omega) (by omega), oth 25 3 (by omega) (by omega)]; exact h10⟩
theorem lc_found : lw_CI sp_X8_found sp_X9_found [] := by
  intro S n hR
  exact (sp_X8_found_c _ _ _).mpr ⟨rfl, _, rfl, (sp_X9_found_c _ _ _).mpr ⟨rfl, by rw [hR.2.2.2.2.2.2.2.2.2], n, hR⟩⟩
theorem lc_keep : lw_CI sp_X8_keep sp_X9_keep [] := by
  intro S n hR
  have hR0 := hR
  obtain ⟨h1, h2, h3, h4, h5, h6, h7, h8, h9, h10⟩ := hR
  have h12 := h1.2
  refine (sp_X8_keep_c _ _ _).mpr ⟨rfl, n, h1, _, rfl, (sp_X9_keep_c _ _ _).mpr ⟨rfl, n, ⟨by rw [mn_fill_1, if_neg (fun q => by omega), mn_wI_1, if_neg (fun q => by omega), mn_wI_1, if_neg (fun q => by omega)]; exact (lw_md hR0).1, h12⟩, rfl, n, ?_⟩⟩
  generalize hA : mn_fill (mn_wI (mn_wI S 10 2 1) 10 1 (nI n)) 11 n (S.1 2) = A
  have oA : ∀ b j, b ≠ 10 → b ≠ 11 → A.1 b j = S.1 b j := fun b j q1 q2 => by
    rw [← hA, mn_fill_1, if_neg (fun q => q2 q.1), mn_wI_1, if_neg (fun q => q1 q.1), mn_wI_1, if_neg (fun q => q1 q.1)]
  have oth : ∀ b j, b ≠ 10 → b ≠ 11 → b ≠ 33 → ¬ (b = 29 ∧ (j = 6 ∨ j = 7)) → (mn_wI (mn_wI (mn_fill A 33 n (A.1 30)) 29 6 (nI n)) 29 7 1).1 b j = S.1 b j := fun b j q1 q2 q3 q4 => by
    rw [mn_wI_1, if_neg (fun q => by omega), mn_wI_1, if_neg (fun q => by omega), mn_fill_1, if_neg (fun q => q3 q.1)]
    exact oA b j q1 q2
  have o10 : ∀ b j, b = 10 ∨ b = 11 → (mn_wI (mn_wI (mn_fill A 33 n (A.1 30)) 29 6 (nI n)) 29 7 1).1 b j = A.1 b j := fun b j hb => by
    rw [mn_wI_1, if_neg (fun q => by omega), mn_wI_1, if_neg (fun q => by omega), mn_fill_1, if_neg (fun q => by omega)]
  have a102 : A.1 10 2 = 1 := by
    rw [← hA, mn_fill_1, if_neg (fun q => by omega), mn_wI_1, if_neg (fun q => by omega), mn_wI_1, if_pos ⟨rfl, rfl⟩]
  have a101 : A.1 10 1 = nI n := by
    rw [← hA, mn_fill_1, if_neg (fun q => by omega), mn_wI_1, if_pos ⟨rfl, rfl⟩]
  have a11 : ∀ i, i < n → A.1 11 i = S.1 2 i := fun i hi => by
    rw [← hA, mn_fill_1, if_pos ⟨rfl, hi⟩]
  refine ⟨⟨by rw [oth 1 3 (by omega) (by omega) (by omega) (by omega)]; exact h1.1, h12⟩, by rw [oth 29 3 (by omega) (by omega) (by omega) (by omega), oth 1 3 (by omega) (by omega) (by omega) (by omega)]; exact h2, by rw [oth 29 4 (by omega) (by omega) (by omega) (by omega), oth 1 4 (by omega) (by omega) (by omega) (by omega)]; exact h3, fun j => by rw [oth 30 j (by omega) (by omega) (by omega) (by omega), oth 2 j (by omega) (by omega) (by omega) (by omega)]; exact h4 j, fun j => by rw [oth 31 j (by omega) (by omega) (by omega) (by omega), oth 3 j (by omega) (by omega) (by omega) (by omega)]; exact h5 j, fun a j ha hj => by rw [oth 32 _ (by omega) (by omega) (by omega) (by omega), oth (100 + 3 * a) j (by omega) (by omega) (by omega) (by omega)]; exact h6 a j ha hj, fun j => by rw [oth 2 j (by omega) (by omega) (by omega) (by omega)]; exact h7 j, fun a j ha hj => by rw [oth (100 + 3 * a) j (by omega) (by omega) (by omega) (by omega)]; exact h8 a j ha hj, ⟨?_, Or.inr ⟨?_, n, Nat.le_refl n, ?_, ?_, fun i hi => ⟨?_, ?_⟩⟩⟩, by rw [oth 29 22 (by omega) (by omega) (by omega) (by omega), oth 25 3 (by omega) (by omega) (by omega) (by omega)]; exact h10⟩
  · rw [o10 10 2 (Or.inl rfl), a102, mn_wI_1, if_pos ⟨rfl, rfl⟩]
  · rw [o10 10 2 (Or.inl rfl), a102]
  · rw [o10 10 1 (Or.inl rfl), a101]
  · rw [mn_wI_1, if_neg (fun q => by omega), mn_wI_1, if_pos ⟨rfl, rfl⟩]
  · rw [o10 11 i (Or.inr rfl), a11 i hi, mn_wI_1, if_neg (fun q => by omega), mn_wI_1, if_neg (fun q => by omega), mn_fill_1, if_pos ⟨rfl, hi⟩, oA 30 i (by omega) (by omega)]
    exact h4 i
  · rw [o10 11 i (Or.inr rfl), a11 i hi]
    exact h7 i
theorem lc_back : lw_CI sp_X8_back sp_X9_back [] := by
  intro S n hR
  have hR0 := hR
  obtain ⟨h1, h2, h3, h4, h5, h6, h7, h8, ⟨k1, k2⟩, h10⟩ := hR
  have h12 := h1.2
  refine (sp_X8_back_c _ _ _).mpr ⟨rfl, fun c => ⟨-3, rfl, (sp_X9_back_c _ _ _).mpr ⟨rfl, fun _ => ⟨rfl, n, hR0⟩, fun d => absurd (k1.trans c) d⟩⟩, fun c => ?_⟩
  rcases k2 with k2 | ⟨k2, q, q1, q2, q3, q4⟩
  · exact absurd k2 c
  · refine ⟨k2, n, q, h1, q2, q1, _, rfl, (sp_X9_back_c _ _ _).mpr ⟨rfl, fun d => absurd d ?_, fun _ => ⟨q, ?_, by omega, rfl, n, ?_⟩⟩⟩
    · rw [mn_fill_1, if_neg (fun q => by omega), k1, k2]
      decide
    · rw [mn_fill_1, if_neg (fun q => by omega)]
      exact q3
    · refine lw_R_th (f := fun j => if j < q then S.1 11 j else S.1 2 j) hR0 (fun b j _ z1 z2 => by rw [mn_fill_1, if_neg (fun q => z2 q.1), mn_fill_1, if_neg (fun q => z1 q.1)]) (fun j => ?_) (fun j => ?_) (fun j => ?_)
      · rw [mn_fill_1, if_neg (fun q => by omega), mn_fill_1]
        by_cases e : j < q
        · rw [if_pos ⟨rfl, e⟩, if_pos e]
        · rw [if_neg (fun q => e q.2), if_neg e]
      · rw [mn_fill_1]
        by_cases e : j < q
        · rw [if_pos ⟨rfl, e⟩, if_pos e, mn_fill_1, if_neg (fun q => by omega)]
          exact (q4 j e).1
        · rw [if_neg (fun q => e q.2), if_neg e, mn_fill_1, if_neg (fun q => by omega)]
          exact h4 j
      · split
        · rename_i e
          exact (q4 j e).2
        · exact h7 j
