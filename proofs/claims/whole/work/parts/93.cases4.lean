/-! ===== class and reference side by side: share, end, rest, pull, fewest ===== -/
theorem lw_ok {S : mn_S} {n : Nat} (hR : lw_R S n) : sh_ok S n := fun i b hi hb => by
  have h12 := hR.1.2
  obtain ⟨w, w9, e⟩ := hR.2.2.2.2.2.2.2.1 i b (by omega) (by omega)
  unfold sh_w
  rw [e, nI_toInt (by omega)]
  omega
theorem lw_tk {S : mn_S} {n : Nat} (hR : lw_R S n) : rs_tk S n := fun i _ => by
  obtain ⟨t, t9, e⟩ := hR.2.2.2.2.2.2.1 i
  unfold rs_t
  rw [e, nI_toInt (by omega)]
  omega
theorem lw_i63 {x : Int} (h0 : 0 ≤ x) (h1 : x ≤ 9000000000000000000) : ∃ A : Nat, A < 2 ^ 63 ∧ x = (A : Int) := ⟨x.toNat, by omega, by omega⟩
theorem lw_nat {A B : Nat} (h : (A : Int) = (B : Int)) : A = B := by omega
/-- shares of both -/
theorem lw_sh {S S' : mn_S} {n : Nat} (hR : lw_R S n) (hm : lw_m S S') : (sh_th (vw S') n ↔ sh_th S n) ∧ sh_ok (vw S') n ∧ (∀ i, i < n → sh_p (vw S') n i = sh_p S n i) ∧ dt_sm n (sh_p (vw S') n) = dt_sm n (sh_p S n) ∧ dt_sm n (fun i => sh_p (vw S') n i * rs_t (vw S') i) = dt_sm n (fun i => sh_p S n i * rs_t S i) := by
  rw [lw_m_vw hm]
  have e := lw_eq hR
  have h12 := hR.1.2
  refine ⟨pq_sth e h12, pq_ok e h12 (lw_ok hR), fun i hi => pq_p e h12 hi, pq_sp e h12, dt_sm_c (fun i hi => ?_)⟩
  rw [pq_p e h12 hi, pq_t e]
theorem lc_share (one x : Int32) : lw_CL sp_X8_share sp_X9_share [.int one, .int x] := by
  intro S n hR
  have hm := lw_md hR
  have h12 := hR.1.2
  have no : ∀ {S' : mn_S} {P : Prop}, lw_m S S' → pe_has S one = true → md_is S' one = false → P := fun m1 c d => absurd d (by rw [lw_is hR.1 (lw_m_n m1 hm), c]; decide)
  refine (sp_X8_share_c _ _ _ _ _).mpr ⟨rfl, n, hR.1, fun c => ⟨_, rfl, (sp_X9_share_c _ _ _ _ _).mpr ⟨rfl, n, hm, fun _ => ⟨rfl, n, hR⟩, fun d => absurd d (by rw [lw_is hR.1 hm, c]; decide), fun d => absurd d (by rw [lw_is hR.1 hm, c]; decide)⟩⟩, fun c d => ⟨_, rfl, (sp_X9_share_c _ _ _ _ _).mpr ⟨rfl, n, hm, no (fun _ _ _ _ => rfl) c, fun _ _ => ⟨rfl, n, hR⟩, fun _ e => absurd e (by rw [d]; decide)⟩⟩, fun c d => ?_⟩
  obtain ⟨i, hi, rfl⟩ := lw_has hR c
  refine ⟨i, hi, rfl, fun hno S' q1 => ⟨_, rfl, ?_⟩, fun hth => ?_⟩
  · have m1 := lw_m_ne q1
    obtain ⟨s1, s2, s3, s4, s5⟩ := lw_sh hR m1
    exact (sp_X9_share_c _ _ _ _ _).mpr ⟨rfl, n, lw_m_n m1 hm, no m1 c, fun _ e => absurd e (by rw [d]; decide), fun _ _ => ⟨i, hi, rfl, fun _ S2 z => ⟨rfl, n, lw_R_fr hR (lw_fr_t (lw_fr_ne q1) (lw_fr_mx z))⟩, fun e => absurd (s1.mp e) hno⟩⟩
  · have ok := ns_ok h12 (lw_ok hR) hth
    have sm := ns_sum hth.2.1 (c := 2975389355520) (by omega) (fun i hi => ⟨Int.le_of_lt (ok i hi).1, (ok i hi).2⟩)
    have sp := dt_sm_pos (fun i hi => Int.le_of_lt (ok i hi).1) hi (ok i hi).1
    obtain ⟨A, hA, eA⟩ := lw_i63 (Int.le_of_lt (ok i hi).1) (by have := (ok i hi).2; omega)
    obtain ⟨B, hB, eB⟩ := lw_i63 sm.1 (by omega)
    refine ⟨lw_ok hR, A, B, hA, hB, by omega, eA, eB, fun S' q1 => ⟨_, rfl, ?_⟩⟩
    have m1 := lw_m_ne q1
    obtain ⟨s1, s2, s3, s4, s5⟩ := lw_sh hR m1
    exact (sp_X9_share_c _ _ _ _ _).mpr ⟨rfl, n, lw_m_n m1 hm, no m1 c, fun _ e => absurd e (by rw [d]; decide), fun _ _ => ⟨i, hi, rfl, fun e => absurd (s1.mpr hth) e, fun _ => ⟨s2, A, B, hA, hB, by omega, (s3 i hi).trans eA, s4.trans eB, fun S2 z => ⟨rfl, n, lw_R_fr hR (lw_fr_t (lw_fr_ne q1) (lw_fr_mx z))⟩⟩⟩⟩
theorem lc_end (x : Int32) : lw_CL sp_X8_end sp_X9_end [.int x] := by
  intro S n hR
  have hm := lw_md hR
  have h12 := hR.1.2
  refine (sp_X8_end_c _ _ _ _).mpr ⟨rfl, n, hR.1, fun d => ⟨_, rfl, (sp_X9_end_c _ _ _ _).mpr ⟨rfl, n, hm, fun _ => ⟨rfl, n, hR⟩, fun e => absurd e (by rw [d]; decide)⟩⟩, fun d => ⟨fun hno S' q1 => ⟨_, rfl, ?_⟩, fun hth => ?_⟩⟩
  · have m1 := lw_m_ne q1
    obtain ⟨s1, s2, s3, s4, s5⟩ := lw_sh hR m1
    exact (sp_X9_end_c _ _ _ _).mpr ⟨rfl, n, lw_m_n m1 hm, fun e => absurd e (by rw [d]; decide), fun _ => ⟨fun _ S2 z => ⟨rfl, n, lw_R_fr hR (lw_fr_t (lw_fr_ne q1) (lw_fr_mx z))⟩, fun e => absurd (s1.mp e) hno⟩⟩
  · have ok := ns_ok h12 (lw_ok hR) hth
    have tk := lw_tk hR
    have h2 := hth.1
    have sm := ns_sum hth.2.1 (c := 2975389355520) (by omega) (fun i hi => ⟨Int.le_of_lt (ok i hi).1, (ok i hi).2⟩)
    have sp := dt_sm_pos (p := 0) (n := n) (fun i hi => Int.le_of_lt (ok i hi).1) (by omega) (ok 0 (by omega)).1
    have st := ns_sum (f := fun i => sh_p S n i * rs_t S i) hth.2.1 (c := 2975389355520 * 1000) (by omega) (fun i hi => ⟨Int.mul_nonneg (Int.le_of_lt (ok i hi).1) (tk i hi).1, Int.mul_le_mul (ok i hi).2 (tk i hi).2 (tk i hi).1 (by omega)⟩)
    obtain ⟨A, hA, eA⟩ := lw_i63 st.1 (by omega)
    obtain ⟨B, hB, eB⟩ := lw_i63 sm.1 (by omega)
    refine ⟨lw_ok hR, A, B, hA, hB, by omega, fun i hi => by have := ok i hi; omega, eA, eB, fun S' q1 => ⟨_, rfl, ?_⟩⟩
    have m1 := lw_m_ne q1
    obtain ⟨s1, s2, s3, s4, s5⟩ := lw_sh hR m1
    exact (sp_X9_end_c _ _ _ _).mpr ⟨rfl, n, lw_m_n m1 hm, fun e => absurd e (by rw [d]; decide), fun _ => ⟨fun e => absurd (s1.mpr hth) e, fun _ => ⟨s2, A, B, hA, hB, by omega, s5.trans eA, s4.trans eB, fun S2 z => ⟨rfl, n, lw_R_fr hR (lw_fr_t (lw_fr_ne q1) (lw_fr_mx z))⟩⟩⟩⟩
/-- rest of both -/
theorem lw_rs {S S' : mn_S} {n : Nat} (hR : lw_R S n) (hm : lw_m S S') : (rs_th (vw S') n ↔ rs_th S n) ∧ sh_ok (vw S') n ∧ rs_tk (vw S') n ∧ rs_mv (vw S') = rs_mv S ∧ rs_t (vw S') = rs_t S ∧ (∀ i b, i < n → b < n → sh_w (vw S') i b = sh_w S i b) := by
  rw [lw_m_vw hm]
  have e := lw_eq hR
  have h12 := hR.1.2
  refine ⟨pq_rth e h12, pq_ok e h12 (lw_ok hR), ?_, pq_mv e, pq_t e, fun i b hi hb => pq_w e (by omega) (by omega)⟩
  unfold rs_tk
  rw [pq_t e]
  exact lw_tk hR
theorem lw_nth {S : mn_S} {n : Nat} (h : rs_th S n) : nr_th (rs_mv S) n (sh_w S) := fun i hi hm => by
  obtain ⟨o, o1, o2, o3⟩ := h.2.2 i hi hm
  exact ⟨o, o1, o2, (nb_le S n o i).mp o3⟩
theorem lc_rest (one x : Int32) : lw_CL sp_X8_rest sp_X9_rest [.int one, .int x] := by
  intro S n hR
  have hm := lw_md hR
  have h12 := hR.1.2
  have no : ∀ {S' : mn_S} {P : Prop}, lw_m S S' → pe_has S one = true → md_is S' one = false → P := fun m1 c d => absurd d (by rw [lw_is hR.1 (lw_m_n m1 hm), c]; decide)
  refine (sp_X8_rest_c _ _ _ _ _).mpr ⟨rfl, n, hR.1, fun c => ⟨_, rfl, (sp_X9_rest_c _ _ _ _ _).mpr ⟨rfl, n, hm, fun _ => ⟨rfl, n, hR⟩, fun d => absurd d (by rw [lw_is hR.1 hm, c]; decide), fun d => absurd d (by rw [lw_is hR.1 hm, c]; decide)⟩⟩, fun c d => ⟨_, rfl, (sp_X9_rest_c _ _ _ _ _).mpr ⟨rfl, n, hm, no (fun _ _ _ _ => rfl) c, fun _ _ => ⟨rfl, n, hR⟩, fun _ e => absurd e (by rw [d]; decide)⟩⟩, fun c d => ?_⟩
  obtain ⟨i, hi, rfl⟩ := lw_has hR c
  refine ⟨i, hi, rfl, fun hno S' q1 => ⟨_, rfl, ?_⟩, fun hth => ?_⟩
  · have m1 := lw_m_ne q1
    obtain ⟨s1, s2, s3, s4, s5, s6⟩ := lw_rs hR m1
    exact (sp_X9_rest_c _ _ _ _ _).mpr ⟨rfl, n, lw_m_n m1 hm, no m1 c, fun _ e => absurd e (by rw [d]; decide), fun _ _ => ⟨i, hi, rfl, fun _ S2 z => ⟨rfl, n, lw_R_fr hR (lw_fr_t (lw_fr_ne q1) (lw_fr_mx z))⟩, fun e => absurd (s1.mp e) hno⟩⟩
  · have ok : nb_w (sh_w S) n := lw_ok hR
    have tk : nr_t (rs_t S) n := lw_tk hR
    have u0 := nr_up_nn (mv := rs_mv S) ok tk h12 hi
    have u1 := nr_up_bd (mv := rs_mv S) ok tk h12 hth.2.1 hi
    have l0 := nr_lo_pos ok (lw_nth hth)
    have l1 := nr_lo_bd (mv := rs_mv S) ok h12 hth.2.1
    obtain ⟨A, hA, eA⟩ := lw_i63 u0 (by omega)
    obtain ⟨B, hB, eB⟩ := lw_i63 (Int.le_of_lt l0) (by omega)
    refine ⟨lw_ok hR, lw_tk hR, A, B, hA, hB, by omega, eA, eB, fun S' q1 => ⟨_, rfl, ?_⟩⟩
    have m1 := lw_m_ne q1
    obtain ⟨s1, s2, s3, s4, s5, s6⟩ := lw_rs hR m1
    exact (sp_X9_rest_c _ _ _ _ _).mpr ⟨rfl, n, lw_m_n m1 hm, no m1 c, fun _ e => absurd e (by rw [d]; decide), fun _ _ => ⟨i, hi, rfl, fun e => absurd (s1.mpr hth) e, fun _ => ⟨s2, s3, A, B, hA, hB, by omega, by
      rw [s4, s5, rs_up_cg s6 (fun _ _ => rfl) hi]
      exact eA, by
      rw [s4, rs_lo_cg s6]
      exact eB, fun S2 z => ⟨rfl, n, lw_R_fr hR (lw_fr_t (lw_fr_ne q1) (lw_fr_mx z))⟩⟩⟩⟩
theorem pl_some {mv : Nat → Bool} {SU LO : Nat → Nat} : ∀ {n : Nat}, 1 ≤ rs_k mv n → ∃ b, pl_f mv SU LO n = some b
  | 0, h => absurd h (by
    show ¬ 1 ≤ 0
    omega)
  | n + 1, h => by
    unfold pl_f
    cases c : mv n
    · rw [rs_k_f c] at h
      rw [if_neg (by decide)]
      exact pl_some h
    · rw [if_pos rfl]
      cases pl_f mv SU LO n with
      | none => exact ⟨n, rfl⟩
      | some b =>
        dsimp only
        split
        · exact ⟨n, rfl⟩
        · exact ⟨b, rfl⟩
theorem lc_pull (x : Int32) : lw_CI sp_X8_pull sp_X9_pull [.int x] := by
  intro S n hR
  have hm := lw_md hR
  have h12 := hR.1.2
  refine (sp_X8_pull_c _ _ _ _).mpr ⟨rfl, n, hR.1, fun d => ⟨_, rfl, (sp_X9_pull_c _ _ _ _).mpr ⟨rfl, n, hm, fun _ => ⟨rfl, n, hR⟩, fun e => absurd e (by rw [d]; decide)⟩⟩, fun d => ⟨fun hno S' q1 => ⟨_, rfl, ?_⟩, fun hth => ?_⟩⟩
  · have m1 := lw_m_ne q1
    obtain ⟨s1, s2, s3, s4, s5, s6⟩ := lw_rs hR m1
    refine (sp_X9_pull_c _ _ _ _).mpr ⟨rfl, n, lw_m_n m1 hm, fun e => absurd e (by rw [d]; decide), fun _ => ⟨fun _ S2 z => ⟨rfl, n, lw_R_fr hR (lw_fr_t (lw_fr_ne q1) (lw_fr_mx z))⟩, fun e => absurd ?_ hno⟩⟩
    rw [s4] at e
    exact ⟨s1.mp e.1, e.2⟩
  · have ok : nb_w (sh_w S) n := lw_ok hR
    have tk : nr_t (rs_t S) n := lw_tk hR
    obtain ⟨t, t9, ex⟩ := th_ok_T d
    have xb : 0 ≤ x.toInt ∧ x.toInt ≤ 1000 := by
      rw [ex, nI_toInt (by omega)]
      omega
    have nth := lw_nth hth.1
    have hk6 : ∀ i, rs_k (hl_mv S i) n ≤ 6 := fun i => Nat.le_trans (rs_k_mono (fun a ha => by
      unfold hl_mv at ha
      cases z : rs_mv S a
      · rw [z] at ha
        cases ha
      · rfl) n) hth.1.2.1
    have tki : ∀ i, nr_t (hl_t S i x) n := fun i a ha => by
      unfold hl_t
      split
      · exact xb
      · exact tk a ha
    have nti : ∀ i, nr_th (hl_mv S i) n (sh_w S) := fun i a ha hma => by
      unfold hl_mv at hma
      obtain ⟨o, o1, o2, o3⟩ := nth a ha (by
        cases z : rs_mv S a
        · rw [z] at hma
          cases hma
        · rfl)
      exact ⟨o, o1, by unfold hl_mv; rw [o2]; rfl, o3⟩
    have sums : ∀ i, 0 ≤ dt_sm n (rs_up (hl_mv S i) n (sh_w S) (hl_t S i x)) ∧ dt_sm n (rs_up (hl_mv S i) n (sh_w S) (hl_t S i x)) ≤ 8134388490824640000 := fun i => nr_sum h12 (fun a ha => ⟨nr_up_nn ok (tki i) h12 ha, nr_up_bd ok (tki i) h12 (hk6 i) ha⟩)
    have los : ∀ i, 0 < rs_lo (hl_mv S i) n (sh_w S) := fun i => nr_lo_pos ok (nti i)
    have lob : ∀ i, (rs_lo (hl_mv S i) n (sh_w S)).natAbs ≤ 677865707568720 := fun i => nr_lo_bd ok h12 (hk6 i)
    have N0 : ∀ i, (dt_sm n (rs_up (hl_mv S i) n (sh_w S) (hl_t S i x))).toNat < 2 ^ 63 ∧ (rs_lo (hl_mv S i) n (sh_w S)).toNat < 2 ^ 63 ∧ 0 < (rs_lo (hl_mv S i) n (sh_w S)).toNat ∧ dt_sm n (rs_up (hl_mv S i) n (sh_w S) (hl_t S i x)) = ((dt_sm n (rs_up (hl_mv S i) n (sh_w S) (hl_t S i x))).toNat : Int) ∧ rs_lo (hl_mv S i) n (sh_w S) = ((rs_lo (hl_mv S i) n (sh_w S)).toNat : Int) := fun i => by
      have a := sums i
      have b := los i
      have c := lob i
      refine ⟨by omega, by omega, by omega, by omega, by omega⟩
    refine ⟨lw_ok hR, lw_tk hR, xb, fun i => (dt_sm n (rs_up (hl_mv S i) n (sh_w S) (hl_t S i x))).toNat, fun i => (rs_lo (hl_mv S i) n (sh_w S)).toNat, fun i hi _ => ⟨(N0 i).1, (N0 i).2.1, (N0 i).2.2.1, fun a ha => Nat.le_trans (nr_up_bd ok (tki i) h12 (hk6 i) ha) (by omega), (N0 i).2.2.2.1, (N0 i).2.2.2.2⟩, fun S' q1 => ⟨_, rfl, ?_⟩⟩
    have m1 := lw_m_ne q1
    obtain ⟨s1, s2, s3, s4, s5, s6⟩ := lw_rs hR m1
    have e1 : ∀ i, hl_mv (vw S') i = hl_mv S i := fun i => funext fun a => by
      unfold hl_mv
      rw [s4]
    have e2 : ∀ i, hl_t (vw S') i x = hl_t S i x := fun i => funext fun a => by
      unfold hl_t
      rw [s5]
    refine (sp_X9_pull_c _ _ _ _).mpr ⟨rfl, n, lw_m_n m1 hm, fun e => absurd e (by rw [d]; decide), fun _ => ⟨fun e => absurd ⟨s1.mpr hth.1, by rw [s4]; exact hth.2⟩ e, fun _ => ⟨s2, s3, xb, fun i => (dt_sm n (rs_up (hl_mv S i) n (sh_w S) (hl_t S i x))).toNat, fun i => (rs_lo (hl_mv S i) n (sh_w S)).toNat, fun i hi _ => ⟨(N0 i).1, (N0 i).2.1, (N0 i).2.2.1, ?_, ?_⟩, fun S2 z => ⟨?_, n, lw_R_fr hR (lw_fr_t (lw_fr_ne q1) (lw_fr_mx z))⟩⟩⟩⟩
    · rw [e1, e2, dt_sm_c (fun a ha => rs_up_cg s6 (fun _ _ => rfl) ha)]
      exact (N0 i).2.2.2.1
    · rw [e1, rs_lo_cg s6]
      exact (N0 i).2.2.2.2
    · rw [s4]
      obtain ⟨b, hb⟩ := pl_some (mv := rs_mv S) (SU := fun i => (dt_sm n (rs_up (hl_mv S i) n (sh_w S) (hl_t S i x))).toNat) (LO := fun i => (rs_lo (hl_mv S i) n (sh_w S)).toNat) (n := n) (by have := hth.2; omega)
      rw [hb]
      rfl
theorem tk_L_det {n d c1 c2 : Nat} {v : Nat → Nat} {r1 r2 : Int32} (h1 : tk_L n d v c1 r1) (h2 : tk_L n d v c2 r2) : c1 = c2 ∧ r1 = r2 := by
  by_cases c : tk_sp n v ≤ d
  · obtain ⟨a1, a2⟩ := h1.1 c
    obtain ⟨b1, b2⟩ := h2.1 c
    exact ⟨a1.trans b1.symm, a2.trans b2.symm⟩
  · exact tk_R_det (h1.2 c) (h2.2 c)
theorem fe_ok_N {x : Int32} (h : fe_ok x = true) : ∃ N : Nat, 2 ≤ N ∧ N ≤ 4 ∧ x = nI N := by
  unfold fe_ok at h
  simp only [Bool.and_eq_true, Bool.not_eq_true', decide_eq_false_iff_not] at h
  obtain ⟨h1, h2⟩ := h
  have h0 : ¬ x < 0 := fun q => h1 (by
    rw [fa_lt] at q ⊢
    have e0 : ((0 : Int32)).toInt = 0 := by decide
    have e1 : ((2 : Int32)).toInt = 2 := by decide
    omega)
  obtain ⟨j, hj, rfl⟩ := nI_of h0
  rw [show (4 : Int32) = nI 4 from rfl, nI_ltI (by omega) hj] at h2
  rw [show (2 : Int32) = nI 2 from rfl, nI_ltI hj (by omega)] at h1
  exact ⟨j, by omega, by omega, rfl⟩
theorem lc_fewest (x d : Int32) : lw_CI sp_X8_fewest sp_X9_fewest [.int x, .int d] := by
  intro S n hR
  have hm := lw_md hR
  have h12 := hR.1.2
  refine (sp_X8_fewest_c _ _ _ _ _).mpr ⟨rfl, n, hR.1, fun c => ⟨_, rfl, (sp_X9_fewest_c _ _ _ _ _).mpr ⟨rfl, n, hm, fun _ => ⟨rfl, n, hR⟩, fun e => absurd e (by rw [c]; decide)⟩⟩, fun c => ?_⟩
  have c2 := c
  rw [Bool.and_eq_true] at c2
  obtain ⟨N, n2, n4, rfl⟩ := fe_ok_N c2.1
  obtain ⟨D, hD, rfl⟩ := th_ok_T c2.2
  have hv : ∀ i, i < N → lw_v S i ≤ 1000 ∧ S.1 2 i = nI (lw_v S i) := fun i _ => lw_v_t hR i
  refine ⟨N, D, lw_v S, by omega, n4, hD, rfl, rfl, fun z => ⟨_, rfl, (sp_X9_fewest_c _ _ _ _ _).mpr ⟨rfl, n, hm, fun e => absurd e (by rw [c]; decide), fun _ => ⟨N, D, lw_v S, by omega, n4, hD, rfl, rfl, fun _ => ⟨rfl, n, hR⟩, fun y => by omega⟩⟩⟩, fun z => ⟨hv, fun S' c' r q1 q2 q3 q4 => ⟨_, rfl, ?_⟩⟩⟩
  have m1 : lw_m S S' := fun b j h1 h2 => q1.1 b j (by omega)
  refine (sp_X9_fewest_c _ _ _ _ _).mpr ⟨rfl, n, lw_m_n m1 hm, fun e => absurd e (by rw [c]; decide), fun _ => ⟨N, D, lw_v S, by omega, n4, hD, rfl, rfl, fun y => by omega, fun _ => ⟨fun i hi => ⟨?_, (hv i hi).1⟩, fun S2 c2' r2 z1 z2 z3 z4 => ?_⟩⟩⟩
  · rw [m1 30 i (by omega) (by omega), hR.2.2.2.1 i]
    exact (hv i hi).2
  · obtain ⟨e1, e2⟩ := tk_L_det q4 z4
    subst e1
    subst e2
    refine ⟨rfl, n, ?_⟩
    have oth : ∀ b j, lw_k b j → ¬ (b = 25 ∧ j = 3) → ¬ (b = 29 ∧ j = 22) → S2.1 b j = S.1 b j := fun b j hb y1 y2 => by
      have y3 : b ≠ 36 ∧ b ≠ 42 ∧ b ≠ 43 ∧ (b < 25 ∨ 28 < b) := by
        unfold lw_k at hb
        omega
      rw [z1 b j y3.1 y3.2.1 y3.2.2.1 y2]
      exact q1.1 b j y3.2.2.2
    obtain ⟨h1, h2, h3, h4, h5, h6, h7, h8, h9, h10⟩ := hR
    refine ⟨⟨by rw [oth 1 3 (by unfold lw_k; omega) (by omega) (by omega)]; exact h1.1, h1.2⟩, ?_, ?_, fun j => ?_, fun j => ?_, fun i j hi hj => ?_, fun j => ?_, fun i j hi hj => ?_, lw_kp_fr (fun b j hb => oth b j (by unfold lw_k; omega) (by omega) (by omega)) (Nat.le_refl n) h9, ?_⟩
    · rw [oth 29 3 (by unfold lw_k; omega) (by omega) (by omega), oth 1 3 (by unfold lw_k; omega) (by omega) (by omega)]; exact h2
    · rw [oth 29 4 (by unfold lw_k; omega) (by omega) (by omega), oth 1 4 (by unfold lw_k; omega) (by omega) (by omega)]; exact h3
    · rw [oth 30 j (by unfold lw_k; omega) (by omega) (by omega), oth 2 j (by unfold lw_k; omega) (by omega) (by omega)]; exact h4 j
    · rw [oth 31 j (by unfold lw_k; omega) (by omega) (by omega), oth 3 j (by unfold lw_k; omega) (by omega) (by omega)]; exact h5 j
    · rw [oth 32 _ (by unfold lw_k; omega) (by omega) (by omega), oth (100 + 3 * i) j (by unfold lw_k; omega) (by omega) (by omega)]; exact h6 i j hi hj
    · rw [oth 2 j (by unfold lw_k; omega) (by omega) (by omega)]; exact h7 j
    · rw [oth (100 + 3 * i) j (by unfold lw_k; omega) (by omega) (by omega)]; exact h8 i j hi hj
    · rw [z2, z1 25 3 (by omega) (by omega) (by omega) (by omega)]
      exact q2.symm
