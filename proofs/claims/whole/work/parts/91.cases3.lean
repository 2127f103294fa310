/-! ===== class and reference side by side: about, told, leads, width ===== -/
theorem lw_fr_ln {S S' : mn_S} (h : ln_fr S S') : lw_fr S S' := fun b j hb => h.2 b j (by unfold lw_k at hb; omega) (by unfold lw_k at hb; omega)
theorem lw_fr_ne {S S' : mn_S} (h : ne_fr S S') : lw_fr S S' := fun b j hb => h.1 b j (by unfold lw_k at hb; omega)
theorem lw_fr_gp {S S' : mn_S} (h : gp_fr S S') : lw_fr S S' := fun b j hb => h.1 b j (by unfold lw_k at hb; omega)
theorem lw_fr_ld {S S' : mn_S} (h : ld_fr S S') : lw_fr S S' := fun b j hb => h.1 b j (by unfold lw_k at hb; omega)
theorem lw_fr_mx {S S' : mn_S} (h : mx_fr S S') : lw_fr S S' := fun b j hb => h b j (by unfold lw_k at hb; omega) (by unfold lw_k at hb; omega) (by unfold lw_k at hb; omega)
theorem lw_fr_wm {S S' : mn_S} (h : wm_fr S S') : lw_fr S S' := fun b j hb => h.1 b j (by unfold lw_k at hb; omega) (by unfold lw_k at hb; omega) (by unfold lw_k at hb; omega)
theorem lw_m_ln {S S' : mn_S} (h : ln_fr S S') : lw_m S S' := fun b j h1 h2 => h.2 b j (by omega) (by omega)
theorem lw_m_ne {S S' : mn_S} (h : ne_fr S S') : lw_m S S' := fun b j h1 h2 => h.1 b j (by omega)
theorem lw_m_n {S S' : mn_S} {n : Nat} (h : lw_m S S') (hn : md_n S n) : md_n S' n := md_fr_n (lw_m_fr h) hn
theorem gr_is_p {S : mn_S} {n : Nat} {g g' : Nat → Bool} (h : gr_is S n g) (h' : gr_is S n g') {a : Nat} (ha : a < n) : g a = g' a := by
  have e := (h a ha).trans (h' a ha).symm
  cases c : g a
  · cases c' : g' a
    · rfl
    · have := e.mpr c'
      rw [c] at this
      exact this
  · exact (e.mp c).symm
/-- the reference's labels, in the class's words -/
theorem lw_gr {S S' : mn_S} {n : Nat} {G : Nat → Nat} (hR : lw_R S n) (hm : lw_m S S') (h : fg_L S' n G) : gr_is S n (fun a => decide (G a = a)) := by
  have e := fg_gr h
  rw [lw_m_vw hm] at e
  exact (pq_gr (lw_eq hR) n _).mp e
theorem lw_fL {S S' : mn_S} {n : Nat} {G : Nat → Nat} (hR : lw_R S n) (hm : lw_m S S') (h : fg_L S' n G) : ∀ a, a < n → G a ≤ a ∧ ln_tc n (ln_ha S) a (G a) ∧ ∀ j, j < G a → ¬ ln_tc n (ln_ha S) a j := by
  unfold fg_L at h
  rw [lw_m_vw hm, pq_ha (lw_eq hR)] at h
  exact h
theorem lc_about (one x : Int32) : lw_CI sp_X8_about sp_X9_about [.int one, .int x] := by
  intro S n hR
  have hm := lw_md hR
  have i1 := lw_is hR.1 hm one
  refine (sp_X8_about_c _ _ _ _ _).mpr ⟨rfl, n, hR.1, fun c => ⟨-1, rfl, (sp_X9_about_c _ _ _ _ _).mpr ⟨rfl, n, hm, fun _ => ⟨rfl, n, hR⟩, fun d => absurd d (by rw [i1, c]; decide)⟩⟩, fun c => ?_⟩
  obtain ⟨i, hi, rfl⟩ := lw_has hR c
  have no : ∀ {P : Prop}, md_is S (nI i) = false → P := fun d => absurd d (by rw [i1, c]; decide)
  refine ⟨fun e => ?_, fun e => ?_, fun e => ?_, fun e => ?_, fun e0 e1 e2 e3 => ?_⟩
  · subst e
    rw [pe_th_t hR.1 hi]
    exact ⟨_, rfl, (sp_X9_about_c _ _ _ _ _).mpr ⟨rfl, n, hm, no, fun _ => ⟨i, hi, rfl, fun _ => ⟨by rw [hR.2.2.2.1 i], n, hR⟩, fun q => absurd q (by decide), fun q => absurd q (by decide), fun q => absurd q (by decide), fun q => absurd rfl q⟩⟩⟩
  · subst e
    rw [rs_sb hR.1 hi]
    exact ⟨_, rfl, (sp_X9_about_c _ _ _ _ _).mpr ⟨rfl, n, hm, no, fun _ => ⟨i, hi, rfl, fun q => absurd q (by decide), fun _ => ⟨by rw [hR.2.2.2.2.1 i]; rfl, n, hR⟩, fun q => absurd q (by decide), fun q => absurd q (by decide), fun _ q => absurd rfl q⟩⟩⟩
  · subst e
    refine ⟨_, rfl, (sp_X9_about_c _ _ _ _ _).mpr ⟨rfl, n, hm, no, fun _ => ⟨i, hi, rfl, fun q => absurd q (by decide), fun q => absurd q (by decide), fun _ => ⟨?_, n, hR⟩, fun q => absurd q (by decide), fun _ _ q => absurd rfl q⟩⟩⟩
    have e : pe_chf (vw S) (nI i) = pe_chf S (nI i) := funext fun b => by
      unfold pe_chf
      rw [pq_he (lw_eq hR)]
    rw [e]
  · subst e
    refine ⟨i, hi, rfl, fun S' g r q1 q2 q3 q4 q5 => ⟨_, rfl, ?_⟩⟩
    have m1 := lw_m_ln q1
    have no2 : ∀ {P : Prop}, md_is S' (nI i) = false → P := fun d => absurd d (by rw [lw_is hR.1 (lw_m_n m1 hm), c]; decide)
    refine (sp_X9_about_c _ _ _ _ _).mpr ⟨rfl, n, lw_m_n m1 hm, no2, fun _ => ⟨i, hi, rfl, fun q => absurd q (by decide), fun q => absurd q (by decide), fun q => absurd q (by decide), fun _ S2 G z1 z2 => ⟨?_, n, lw_R_fr hR (lw_fr_t (lw_fr_ln q1) (lw_fr_gp z1))⟩, fun _ _ _ q => absurd rfl q⟩⟩
    obtain ⟨f1, f2, f3⟩ := lw_fL hR m1 z2 i hi
    have er : G i = r := by
      rcases Nat.lt_trichotomy (G i) r with w | w | w
      · exact absurd f2 (q4 _ w)
      · exact w
      · exact absurd (q5 (by omega)) (f3 r w)
    rw [er, rs_k_cg (g := fun a => decide (G a = a)) (g' := g) (fun a ha => gr_is_p (lw_gr hR m1 z2) q2 (show a < n by omega))]
  · exact ⟨_, rfl, (sp_X9_about_c _ _ _ _ _).mpr ⟨rfl, n, hm, no, fun _ => ⟨i, hi, rfl, fun q => absurd q e0, fun q => absurd q e1, fun q => absurd q e2, fun q => absurd q e3, fun _ _ _ _ => ⟨rfl, n, hR⟩⟩⟩⟩
/-- thoughts as numbers -/
def lw_v (S : mn_S) (j : Nat) : Nat := (S.1 2 j).toNatClampNeg
theorem lw_v_t {S : mn_S} {n : Nat} (hR : lw_R S n) (j : Nat) : lw_v S j ≤ 1000 ∧ S.1 2 j = nI (lw_v S j) := by
  obtain ⟨t, t9, e⟩ := hR.2.2.2.2.2.2.1 j
  unfold lw_v
  rw [e, nI_clamp (by omega)]
  exact ⟨t9, rfl⟩
theorem lw_lohi {S : mn_S} {n : Nat} (hR : lw_R S n) : ∀ m, pe_lo (S.1 2 0) (S.1 2) m = nI (tk_mn (lw_v S) m) ∧ pe_hi (S.1 2 0) (S.1 2) m = nI (tk_mx (lw_v S) m) ∧ tk_mn (lw_v S) m ≤ 1000 ∧ tk_mx (lw_v S) m ≤ 1000 ∧ tk_mn (lw_v S) m ≤ tk_mx (lw_v S) m
  | 0 => ⟨(lw_v_t hR 0).2, (lw_v_t hR 0).2, (lw_v_t hR 0).1, (lw_v_t hR 0).1, Nat.le_refl _⟩
  | m + 1 => by
    obtain ⟨h1, h2, h3, h4, h5⟩ := lw_lohi hR m
    obtain ⟨v1, v2⟩ := lw_v_t hR (m + 1)
    refine ⟨?_, ?_, ?_, ?_, ?_⟩
    · show (if S.1 2 (m + 1) < pe_lo (S.1 2 0) (S.1 2) m then S.1 2 (m + 1) else pe_lo (S.1 2 0) (S.1 2) m) = nI (min (tk_mn (lw_v S) m) (lw_v S (m + 1)))
      rw [h1, v2, tk_I_min (by omega) (by omega)]
    · show (if pe_hi (S.1 2 0) (S.1 2) m < S.1 2 (m + 1) then S.1 2 (m + 1) else pe_hi (S.1 2 0) (S.1 2) m) = nI (max (tk_mx (lw_v S) m) (lw_v S (m + 1)))
      rw [h2, v2, tk_I_max (by omega) (by omega)]
    · show min (tk_mn (lw_v S) m) (lw_v S (m + 1)) ≤ 1000
      omega
    · show max (tk_mx (lw_v S) m) (lw_v S (m + 1)) ≤ 1000
      omega
    · show min (tk_mn (lw_v S) m) (lw_v S (m + 1)) ≤ max (tk_mx (lw_v S) m) (lw_v S (m + 1))
      omega
theorem lw_spread {S : mn_S} {n : Nat} (hR : lw_R S n) : pe_hi (pe_th S 0) (S.1 2) (n - 1) - pe_lo (pe_th S 0) (S.1 2) (n - 1) = nI (tk_sp n (lw_v S)) := by
  rcases Nat.eq_zero_or_pos n with z | z
  · subst z
    have e : pe_th S 0 = 0 := by
      unfold pe_th
      rw [if_neg (fun q => by
        obtain ⟨i, hi, -⟩ := lw_has hR q
        omega)]
    have e2 : tk_sp 0 (lw_v S) = 0 := Nat.sub_self _
    rw [e, e2]
    show (0 : Int32) - 0 = 0
    decide
  · have e : pe_th S 0 = S.1 2 0 := pe_th_t (i := 0) hR.1 z
    obtain ⟨h1, h2, h3, h4, h5⟩ := lw_lohi hR (n - 1)
    rw [e, h1, h2, tk_I_sub h5]
    rfl
theorem lw_abs0 : ∀ d, d < 1001 → pe_abs (nI d) = nI d ∧ pe_abs (0 - nI d) = nI d := by decide +kernel
theorem lw_abs {s t : Nat} (hs : s ≤ 1000) (ht : t ≤ 1000) : pe_abs (nI s - nI t) = pe_abs (nI t - nI s) := by
  have key : ∀ s t : Nat, s ≤ t → t ≤ 1000 → pe_abs (nI s - nI t) = pe_abs (nI t - nI s) := fun s t h1 h2 => by
    have e1 : nI t - nI s = nI (t - s) := tk_I_sub h1
    have e2 : nI s - nI t = 0 - nI (t - s) := by
      rw [← e1]
      rw [Int32.zero_sub, Int32.neg_sub]
    rw [e1, e2, (lw_abs0 (t - s) (by omega)).1, (lw_abs0 (t - s) (by omega)).2]
  rcases Nat.le_total s t with h | h
  · exact key s t h ht
  · exact (key t s h hs).symm
theorem mn_sum_add (f g : Nat → Int32) : ∀ n, mn_sum (fun i => f i + g i) n = mn_sum f n + mn_sum g n
  | 0 => rfl
  | n + 1 => by
    rw [mn_sum_s, mn_sum_s, mn_sum_s, mn_sum_add f g n, Int32.add_assoc, Int32.add_assoc, ← Int32.add_assoc (mn_sum g n), Int32.add_comm (mn_sum g n) (f n), Int32.add_assoc (f n)]
theorem mn_sum_z {f : Nat → Int32} : ∀ {n : Nat}, (∀ i, i < n → f i = 0) → mn_sum f n = 0
  | 0, _ => rfl
  | n + 1, h => by
    rw [mn_sum_s, h n (Nat.lt_succ_self n), mn_sum_z (fun i hi => h i (Nat.lt_succ_of_lt hi))]
    rfl
theorem mn_tri (f : Nat → Nat → Int32) : ∀ n, mn_sum (fun i => mn_sum (fun b => if i < b then f i b else 0) n) n = mn_sum (fun a => mn_sum (fun b => f b a) a) n
  | 0 => rfl
  | n + 1 => by
    have e1 : mn_sum (fun i => mn_sum (fun b => if i < b then f i b else 0) (n + 1)) n = mn_sum (fun i => mn_sum (fun b => if i < b then f i b else 0) n + f i n) n := mn_sum_c (fun i hi => by
      rw [mn_sum_s, if_pos hi])
    have e2 : mn_sum (fun b => if n < b then f n b else 0) (n + 1) = 0 := mn_sum_z (fun b hb => if_neg (by omega))
    rw [mn_sum_s, e1, e2, mn_sum_add, mn_tri f n, Int32.add_zero, mn_sum_s]
theorem lw_discord {S S' : mn_S} {n : Nat} (hR : lw_R S n) (hm : lw_m S S') : mn_sum (md_dd S') n = mn_sum (pe_di S n) n := by
  have e1 : mn_sum (pe_di S n) n = mn_sum (fun i => mn_sum (fun b => if i < b then pe_abs (S.1 2 i - S.1 2 b) else 0) n) n := rfl
  rw [e1, mn_tri (fun i b => pe_abs (S.1 2 i - S.1 2 b)) n]
  refine mn_sum_c (fun a _ => mn_sum_c (fun b _ => ?_))
  unfold md_d
  rw [hm 30 a (by omega) (by omega), hm 30 b (by omega) (by omega), hR.2.2.2.1 a, hR.2.2.2.1 b, ← md_abs]
  obtain ⟨a1, a2⟩ := lw_v_t hR a
  obtain ⟨b1, b2⟩ := lw_v_t hR b
  rw [a2, b2]
  exact lw_abs a1 b1
theorem lc_told (x : Int32) : lw_CI sp_X8_told sp_X9_told [.int x] := by
  intro S n hR
  have hm := lw_md hR
  refine (sp_X8_told_c _ _ _ _).mpr ⟨rfl, n, hR.1, fun e => ?_, fun e => ?_, fun e => ?_, fun e => ?_, fun e => ?_, fun e => ?_, fun e => ?_, fun e0 e1 e2 e3 e4 e5 e6 => ?_⟩
  · subst e
    exact ⟨_, rfl, (sp_X9_told_c _ _ _ _).mpr ⟨rfl, n, hm, fun _ => ⟨rfl, n, hR⟩, fun q => absurd q (by decide), fun q => absurd q (by decide), fun q => absurd q (by decide), fun q => absurd q (by decide), fun q => absurd q (by decide), fun q => absurd q (by decide), fun q => absurd rfl q⟩⟩
  · subst e
    exact ⟨_, rfl, (sp_X9_told_c _ _ _ _).mpr ⟨rfl, n, hm, fun q => absurd q (by decide), fun _ => ⟨by rw [hR.2.2.1], n, hR⟩, fun q => absurd q (by decide), fun q => absurd q (by decide), fun q => absurd q (by decide), fun q => absurd q (by decide), fun q => absurd q (by decide), fun _ q => absurd rfl q⟩⟩
  · subst e
    refine fun S' g q1 q2 => ⟨_, rfl, (sp_X9_told_c _ _ _ _).mpr ⟨rfl, n, lw_m_n (lw_m_ln q1) hm, fun q => absurd q (by decide), fun q => absurd q (by decide), fun _ S2 G z1 z2 => ⟨?_, n, lw_R_fr hR (lw_fr_t (lw_fr_ln q1) (lw_fr_gp z1))⟩, fun q => absurd q (by decide), fun q => absurd q (by decide), fun q => absurd q (by decide), fun q => absurd q (by decide), fun _ _ q => absurd rfl q⟩⟩
    rw [gr_is_u (lw_gr hR (lw_m_ln q1) z2) q2]
  · subst e
    rw [lw_spread hR]
    exact ⟨_, rfl, (sp_X9_told_c _ _ _ _).mpr ⟨rfl, n, hm, fun q => absurd q (by decide), fun q => absurd q (by decide), fun q => absurd q (by decide), fun _ => ⟨lw_v S, fun i _ => ⟨(lw_v_t hR i).1, by rw [hR.2.2.2.1 i]; exact (lw_v_t hR i).2⟩, rfl, n, hR⟩, fun q => absurd q (by decide), fun q => absurd q (by decide), fun q => absurd q (by decide), fun _ _ _ q => absurd rfl q⟩⟩
  · subst e
    exact ⟨_, rfl, (sp_X9_told_c _ _ _ _).mpr ⟨rfl, n, hm, fun q => absurd q (by decide), fun q => absurd q (by decide), fun q => absurd q (by decide), fun q => absurd q (by decide), fun _ => ⟨by rw [lw_discord hR (fun _ _ _ _ => rfl)], n, hR⟩, fun q => absurd q (by decide), fun q => absurd q (by decide), fun _ _ _ _ q => absurd rfl q⟩⟩
  · subst e
    exact ⟨_, rfl, (sp_X9_told_c _ _ _ _).mpr ⟨rfl, n, hm, fun q => absurd q (by decide), fun q => absurd q (by decide), fun q => absurd q (by decide), fun q => absurd q (by decide), fun q => absurd q (by decide), fun _ => ⟨by rw [show S.1 30 = S.1 2 from funext hR.2.2.2.1], n, hR⟩, fun q => absurd q (by decide), fun _ _ _ _ _ q => absurd rfl q⟩⟩
  · subst e
    refine ⟨_, rfl, (sp_X9_told_c _ _ _ _).mpr ⟨rfl, n, hm, fun q => absurd q (by decide), fun q => absurd q (by decide), fun q => absurd q (by decide), fun q => absurd q (by decide), fun q => absurd q (by decide), fun q => absurd q (by decide), fun _ => ⟨?_, n, hR⟩, fun _ _ _ _ _ _ q => absurd rfl q⟩⟩
    have e : mn_sum (md_cs S) n = mn_sum (pe_cs S) n := mn_sum_c (fun i hi => by
      unfold md_cs pe_cs
      rw [rs_sb hR.1 hi, hR.2.2.2.2.1 i]
      rfl)
    rw [e]
  · exact ⟨_, rfl, (sp_X9_told_c _ _ _ _).mpr ⟨rfl, n, hm, fun q => absurd q e0, fun q => absurd q e1, fun q => absurd q e2, fun q => absurd q e3, fun q => absurd q e4, fun q => absurd q e5, fun q => absurd q e6, fun _ _ _ _ _ _ _ => ⟨rfl, n, hR⟩⟩⟩
theorem lc_leads (one other : Int32) : lw_CI sp_X8_leads sp_X9_leads [.int one, .int other] := by
  intro S n hR
  have hm := lw_md hR
  refine (sp_X8_leads_c _ _ _ _ _).mpr ⟨rfl, n, hR.1, fun c => ⟨-1, rfl, (sp_X9_leads_c _ _ _ _ _).mpr ⟨rfl, n, hm, fun _ => ⟨rfl, n, hR⟩, fun d => absurd d (by rw [lw_is hR.1 hm, lw_is hR.1 hm, c]; decide)⟩⟩, fun c => ?_⟩
  have c2 := c
  rw [Bool.and_eq_true] at c2
  obtain ⟨i, hi, rfl⟩ := lw_has hR c2.1
  obtain ⟨j, hj, rfl⟩ := lw_has hR c2.2
  refine ⟨i, j, hi, hj, rfl, rfl, fun S' b q1 q2 => ⟨_, rfl, ?_⟩⟩
  have m1 := lw_m_ln q1
  refine (sp_X9_leads_c _ _ _ _ _).mpr ⟨rfl, n, lw_m_n m1 hm, fun d => absurd d (by rw [lw_is hR.1 (lw_m_n m1 hm), lw_is hR.1 (lw_m_n m1 hm), c]; decide), fun _ => ⟨i, j, hi, hj, rfl, rfl, fun S2 b' z1 z2 => ⟨?_, n, lw_R_fr hR (lw_fr_t (lw_fr_ln q1) (lw_fr_ld z1))⟩⟩⟩
  rw [← md_le_vw, lw_m_vw m1, pq_le (lw_eq hR) hR.1.2] at z2
  have e : b' = b := by
    have e := z2.trans q2.symm
    cases b'
    · cases b
      · rfl
      · exact absurd (e.mpr rfl) (by decide)
    · exact (e.mp rfl).symm
  rw [e]
theorem lw_wi {a b g : Int32} (h : wi_ok a b g = true) : ∃ A B G : Nat, a = nI A ∧ b = nI B ∧ g = nI G ∧ A ≤ B ∧ B ≤ 1000 ∧ G ≤ 12 := by
  unfold wi_ok at h
  simp only [Bool.and_eq_true, Bool.not_eq_true', decide_eq_false_iff_not] at h
  obtain ⟨⟨⟨h1, h2⟩, h3, h4⟩, h5, h6⟩ := h
  obtain ⟨A, hA, rfl⟩ := th_ok_T h1
  obtain ⟨B, hB, rfl⟩ := th_ok_T h2
  have g0 : ¬ g < 0 := fun q => h5 (by
    rw [fa_lt] at q ⊢
    have e0 : ((0 : Int32)).toInt = 0 := by decide
    have e1 : ((1 : Int32)).toInt = 1 := by decide
    omega)
  obtain ⟨G, hG, rfl⟩ := nI_of g0
  rw [show (12 : Int32) = nI 12 from rfl, nI_ltI (by omega) hG] at h6
  rw [nI_ltI (by omega) (by omega)] at h3
  exact ⟨A, B, G, rfl, rfl, rfl, by omega, hB, by omega⟩
theorem lc_width (a b g : Int32) : lw_CI sp_X8_width sp_X9_width [.int a, .int b, .int g] := by
  intro S n hR
  have hm := lw_md hR
  refine (sp_X8_width_c _ _ _ _ _ _).mpr ⟨rfl, n, hR.1, fun c => ⟨-2, rfl, (sp_X9_width_c _ _ _ _ _ _).mpr ⟨rfl, n, hm, fun _ => ⟨rfl, n, hR⟩, fun d => absurd d (by rw [c]; decide)⟩⟩, fun c => ?_⟩
  obtain ⟨A, B, G, rfl, rfl, rfl, hAB, hB, hG⟩ := lw_wi c
  refine ⟨A, B, G, rfl, rfl, rfl, hAB, hB, hG, fun S' q1 => ?_⟩
  have m1 := lw_m_ne q1
  have ew : ∀ u, wd_ok (vw S') n u G ↔ wd_ok S n u G := fun u => by
    rw [lw_m_vw m1]
    exact pq_wd (lw_eq hR) hR.1.2 u G
  have fin : ∀ S2, wm_fr S' S2 → ∃ n, lw_R S2 n := fun S2 z => ⟨n, lw_R_fr hR (lw_fr_t (lw_fr_ne q1) (lw_fr_wm z))⟩
  refine ⟨fun t t1 t2 t3 t4 => ⟨_, rfl, (sp_X9_width_c _ _ _ _ _ _).mpr ⟨rfl, n, lw_m_n m1 hm, fun d => absurd d (by rw [c]; decide), fun _ => ⟨A, B, G, rfl, rfl, rfl, hAB, hB, hG, fun S2 z => ⟨fun t' s1 s2 s3 s4 => ⟨?_, fin S2 z⟩, fun s => absurd ((ew t).mpr t4) (s t t1 t2)⟩⟩⟩⟩, fun t => ⟨_, rfl, (sp_X9_width_c _ _ _ _ _ _).mpr ⟨rfl, n, lw_m_n m1 hm, fun d => absurd d (by rw [c]; decide), fun _ => ⟨A, B, G, rfl, rfl, rfl, hAB, hB, hG, fun S2 z => ⟨fun t' s1 s2 s3 s4 => absurd ((ew t').mp s4) (t t' s1 s2), fun _ => ⟨rfl, fin S2 z⟩⟩⟩⟩⟩⟩
  have e : t' = t := by
    rcases Nat.lt_trichotomy t' t with w | w | w
    · exact absurd ((ew t').mp s4) (t3 t' s1 w)
    · exact w
    · exact absurd ((ew t).mpr t4) (s3 t t1 w)
  rw [e]
