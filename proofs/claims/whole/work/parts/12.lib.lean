/-! ===== rows that step the abstract machine by rewriting, head first ===== -/
/-- an equation that rewriting is to leave a trace of (else the kernel looks for a way by unfolding) -/
theorem mn_hid {α : Sort _} {a b : α} (h : a = b) : a = b := h
theorem mn_cat_i (x : Int32) : ¬ (Value.int x).category = 2 := by
  show ¬ (1 : Nat) = 2
  decide
theorem mn_live_s {k : Nat} (h : k < 44) : mn_live k := by
  unfold mn_live
  rw [if_pos (by omega)]
  exact h
theorem mn_live_w (i : Nat) : mn_live (100 + 3 * i) ↔ i < 12 := by
  unfold mn_live
  rw [if_neg (by omega), if_pos (by omega), show (100 + 3 * i - 100) / 3 = i by omega]
theorem mn_live_q0 (i : Nat) : mn_live (101 + 3 * i) ↔ i < 6 := by
  unfold mn_live
  rw [if_neg (by omega), if_neg (by omega), show (101 + 3 * i - 100) / 3 = i by omega]
theorem mn_live_q1 (i : Nat) : mn_live (102 + 3 * i) ↔ i < 6 := by
  unfold mn_live
  rw [if_neg (by omega), if_neg (by omega), show (102 + 3 * i - 100) / 3 = i by omega]
theorem mn_sh_w (i : Nat) : mn_sh (100 + 3 * i) = .inl (0, 12) := by
  unfold mn_sh
  rw [if_neg (by omega), if_pos (by omega)]
theorem mn_sh_q0 (i : Nat) : mn_sh (101 + 3 * i) = .inl (2, 6) := by
  unfold mn_sh
  rw [if_neg (by omega), if_neg (by omega)]
theorem mn_sh_q1 (i : Nat) : mn_sh (102 + 3 * i) = .inl (2, 6) := by
  unfold mn_sh
  rw [if_neg (by omega), if_neg (by omega)]
theorem mn_gf_of {a ci j : Nat} {S : mn_S} {f : Value → Prop} {fs : List (Nat × Nat)} {w : Nat × Nat} (hl : mn_live a) (hs : mn_sh a = .inr (ci, fs)) (hw : fs[j]? = some w) : mn_gf a ci j S f = f (mn_fv S a j w) := by
  unfold mn_gf
  rw [hs]
  unfold mn_fi
  dsimp only
  rw [hw]
  exact propext ⟨fun h => h.2.2, fun h => ⟨hl, rfl, h⟩⟩
theorem mn_pf_of0 {a ci j n : Nat} {S : mn_S} {f : mn_S → Prop} {x : Int32} {fs : List (Nat × Nat)} (hl : mn_live a) (hs : mn_sh a = .inr (ci, fs)) (hw : fs[j]? = some (0, n)) : mn_pf a ci j (.int x) S f = f (mn_wI S a j x) := by
  unfold mn_pf
  rw [hs]
  unfold mn_fi
  dsimp only
  rw [hw]
  exact propext ⟨fun h => h.2.2, fun h => ⟨hl, rfl, h⟩⟩
theorem mn_pf_of3 {a ci j n : Nat} {S : mn_S} {f : mn_S → Prop} {x : Int32} {fs : List (Nat × Nat)} (hl : mn_live a) (hs : mn_sh a = .inr (ci, fs)) (hw : fs[j]? = some (3, n)) : mn_pf a ci j (.int x) S f = (x &&& 1 = x ∧ f (mn_wI S a j x)) := by
  unfold mn_pf
  rw [hs]
  unfold mn_fi
  dsimp only
  rw [hw]
  exact propext ⟨fun h => h.2.2, fun h => ⟨hl, rfl, h⟩⟩
theorem mn_pf_of1 {a ci j n : Nat} {S : mn_S} {f : mn_S → Prop} {x : Int64} {fs : List (Nat × Nat)} (hl : mn_live a) (hs : mn_sh a = .inr (ci, fs)) (hw : fs[j]? = some (1, n)) : mn_pf a ci j (.long x) S f = f (mn_wL S a j x) := by
  unfold mn_pf
  rw [hs]
  unfold mn_fi
  dsimp only
  rw [hw]
  exact propext ⟨fun h => h.2.2, fun h => ⟨hl, rfl, h⟩⟩
theorem mn_ia_of {a t n : Nat} {i : Int32} {P : Prop} (hl : mn_live a) (hs : mn_sh a = .inl (t, n)) : mn_ia a t i P = (vp_in i n ∧ P) := by
  unfold mn_ia
  rw [hs]
  unfold mn_aI
  exact propext ⟨fun h => h.2.2, fun h => ⟨hl, rfl, h⟩⟩
theorem mn_ia_ofL {a t n : Nat} {c : Prop} {i : Int32} {P : Prop} (hl : mn_live a ↔ c) (hs : mn_sh a = .inl (t, n)) : mn_ia a t i P = (c ∧ vp_in i n ∧ P) := by
  unfold mn_ia
  rw [hs]
  unfold mn_aI
  exact propext ⟨fun h => ⟨hl.mp h.1, h.2.2⟩, fun h => ⟨hl.mpr h.1, rfl, h.2⟩⟩
theorem mn_al_of {a t n : Nat} {f : Int32 → Prop} (hl : mn_live a) (hs : mn_sh a = .inl (t, n)) (ht : t < 5) : mn_al a f = f (Int32.ofNat n) := by
  unfold mn_al
  rw [hs]
  unfold mn_aN
  exact propext ⟨fun h => h.2.2, fun h => ⟨hl, ht, h⟩⟩
theorem mn_aa_of {a t n : Nat} {i : Int32} {f : Nat → Prop} (hl : mn_live a) (hs : mn_sh a = .inl (t, n)) (ht : t = 3 ∨ t = 4) : mn_aa a i f = (vp_in i n ∧ f (mn_rf a i.toNatClampNeg)) := by
  unfold mn_aa
  rw [hs]
  unfold mn_aI
  rcases ht with rfl | rfl
  · exact propext ⟨fun h => h.2.elim (fun q => q.2) (fun q => absurd q.1 (by decide)), fun h => ⟨hl, Or.inl ⟨rfl, h⟩⟩⟩
  · exact propext ⟨fun h => h.2.elim (fun q => absurd q.1 (by decide)) (fun q => q.2), fun h => ⟨hl, Or.inr ⟨rfl, h⟩⟩⟩
theorem mn_ps_of {lv lv' : mn_L} {i : Nat} {v : Value} {f : mn_L → Prop} (h : i < lv.length) (e : mn_pt lv i v = lv') : mn_ps lv i v f = f lv' := by
  unfold mn_ps
  rw [e]
  exact propext ⟨fun q => q.2, fun q => ⟨h, q⟩⟩
theorem mn_ps2_of {lv lv' : mn_L} {i : Nat} {v : Value} {f : mn_L → Prop} (h : i + 1 < lv.length) (e : mn_pt2 lv i v = lv') : mn_ps2 lv i v f = f lv' := by
  unfold mn_ps2
  rw [e]
  exact propext ⟨fun q => q.2, fun q => ⟨h, q⟩⟩
theorem mn_pI_c (x : Int32) (r : List Value) (f : Int32 → List Value → Prop) : mn_pI (.int x :: r) f = f x r := mn_hid rfl
theorem mn_pL_c (x : Int64) (r : List Value) (f : Int64 → List Value → Prop) : mn_pL (.long x :: r) f = f x r := mn_hid rfl
theorem mn_pR_c (x : Nat) (r : List Value) (f : Nat → List Value → Prop) : mn_pR (.ref x :: r) f = f x r := mn_hid rfl
theorem mn_pV_c (x : Value) (r : List Value) (f : Value → List Value → Prop) : mn_pV (x :: r) f = f x r := mn_hid rfl
theorem mn_pE_c (P : Prop) : mn_pE [] P = P := mn_hid rfl
theorem mn_dp_i (x : Int32) (r : List Value) (f : Value → List Value → Prop) : mn_dp (.int x :: r) f = f (.int x) r := propext ⟨fun h => h.2, fun h => ⟨rfl, h⟩⟩
theorem mn_dp_r (x : Nat) (r : List Value) (f : Value → List Value → Prop) : mn_dp (.ref x :: r) f = f (.ref x) r := propext ⟨fun h => h.2, fun h => ⟨rfl, h⟩⟩
theorem mn_d2_l (x : Int64) (r : List Value) (f : List Value → Prop) : mn_d2 (.long x :: r) f = f (.long x :: .long x :: r) := propext ⟨fun h => h.1 rfl, fun h => ⟨fun _ => h, fun q => absurd rfl q⟩⟩
theorem mn_d2_ir (x : Int32) (y : Nat) (r : List Value) (f : List Value → Prop) : mn_d2 (.int x :: .ref y :: r) f = f (.int x :: .ref y :: .int x :: .ref y :: r) := propext ⟨fun h => (h.2 (mn_cat_i x)).2, fun h => ⟨fun q => absurd q (mn_cat_i x), fun _ => ⟨rfl, h⟩⟩⟩
theorem mn_rt_s (v : Value) (r : List Value) (f : List Value → Prop) : mn_rt (some v) r f = f (v :: r) := mn_hid rfl
theorem mn_rt_n (r : List Value) (f : List Value → Prop) : mn_rt none r f = f r := mn_hid rfl
theorem mn_ii_i (x : Int32) (P : Prop) : mn_ii (some .int) x P = P := propext ⟨fun h => h.2, fun h => ⟨Or.inl rfl, h⟩⟩
theorem mn_ii_z (x : Int32) (P : Prop) : mn_ii (some .boolean) x P = (x &&& 1 = x ∧ P) := propext ⟨fun h => ⟨h.1.elim (fun q => by cases q) (fun q => q.2), h.2⟩, fun h => ⟨Or.inr ⟨rfl, h.1⟩, h.2⟩⟩
theorem mn_cn_1 (sp : mn_Sp) (v1 : Value) (r : List Value) (S : mn_S) (f : Option Value → List Value → mn_S → Prop) : mn_cn 1 sp (v1 :: r) S f = (mn_wt r ≤ 8 ∧ sp [v1] S (fun v S => f v r S)) := mn_hid rfl
theorem mn_cn_2 (sp : mn_Sp) (v1 v2 : Value) (r : List Value) (S : mn_S) (f : Option Value → List Value → mn_S → Prop) : mn_cn 2 sp (v2 :: v1 :: r) S f = (mn_wt r ≤ 8 ∧ sp [v1, v2] S (fun v S => f v r S)) := mn_hid rfl
theorem mn_cn_3 (sp : mn_Sp) (v1 v2 v3 : Value) (r : List Value) (S : mn_S) (f : Option Value → List Value → mn_S → Prop) : mn_cn 3 sp (v3 :: v2 :: v1 :: r) S f = (mn_wt r ≤ 8 ∧ sp [v1, v2, v3] S (fun v S => f v r S)) := mn_hid rfl
theorem mn_cn_4 (sp : mn_Sp) (v1 v2 v3 v4 : Value) (r : List Value) (S : mn_S) (f : Option Value → List Value → mn_S → Prop) : mn_cn 4 sp (v4 :: v3 :: v2 :: v1 :: r) S f = (mn_wt r ≤ 8 ∧ sp [v1, v2, v3, v4] S (fun v S => f v r S)) := mn_hid rfl
theorem mn_cn_5 (sp : mn_Sp) (v1 v2 v3 v4 v5 : Value) (r : List Value) (S : mn_S) (f : Option Value → List Value → mn_S → Prop) : mn_cn 5 sp (v5 :: v4 :: v3 :: v2 :: v1 :: r) S f = (mn_wt r ≤ 8 ∧ sp [v1, v2, v3, v4, v5] S (fun v S => f v r S)) := mn_hid rfl
theorem mn_cn_6 (sp : mn_Sp) (v1 v2 v3 v4 v5 v6 : Value) (r : List Value) (S : mn_S) (f : Option Value → List Value → mn_S → Prop) : mn_cn 6 sp (v6 :: v5 :: v4 :: v3 :: v2 :: v1 :: r) S f = (mn_wt r ≤ 8 ∧ sp [v1, v2, v3, v4, v5, v6] S (fun v S => f v r S)) := mn_hid rfl
theorem mn_cn_7 (sp : mn_Sp) (v1 v2 v3 v4 v5 v6 v7 : Value) (r : List Value) (S : mn_S) (f : Option Value → List Value → mn_S → Prop) : mn_cn 7 sp (v7 :: v6 :: v5 :: v4 :: v3 :: v2 :: v1 :: r) S f = (mn_wt r ≤ 8 ∧ sp [v1, v2, v3, v4, v5, v6, v7] S (fun v S => f v r S)) := mn_hid rfl
theorem mn_cn_8 (sp : mn_Sp) (v1 v2 v3 v4 v5 v6 v7 v8 : Value) (r : List Value) (S : mn_S) (f : Option Value → List Value → mn_S → Prop) : mn_cn 8 sp (v8 :: v7 :: v6 :: v5 :: v4 :: v3 :: v2 :: v1 :: r) S f = (mn_wt r ≤ 8 ∧ sp [v1, v2, v3, v4, v5, v6, v7, v8] S (fun v S => f v r S)) := mn_hid rfl
theorem mn_wt_n : mn_wt [] = 0 := mn_hid rfl
theorem mn_wt_i (x : Int32) (r : List Value) : mn_wt (.int x :: r) = mn_wt r + 1 := Nat.add_comm _ _
theorem mn_wt_l (x : Int64) (r : List Value) : mn_wt (.long x :: r) = mn_wt r + 2 := Nat.add_comm _ _
theorem mn_wt_r (x : Nat) (r : List Value) : mn_wt (.ref x :: r) = mn_wt r + 1 := Nat.add_comm _ _
theorem mn_gI_0 (x : Int32) (r : mn_L) (f : Int32 → Prop) : mn_gI (some (.int x) :: r) 0 f = f x := mn_hid rfl
theorem mn_gI_1 (o0 : Option Value) (x : Int32) (r : mn_L) (f : Int32 → Prop) : mn_gI (o0 :: some (.int x) :: r) 1 f = f x := mn_hid rfl
theorem mn_gI_2 (o0 o1 : Option Value) (x : Int32) (r : mn_L) (f : Int32 → Prop) : mn_gI (o0 :: o1 :: some (.int x) :: r) 2 f = f x := mn_hid rfl
theorem mn_gI_3 (o0 o1 o2 : Option Value) (x : Int32) (r : mn_L) (f : Int32 → Prop) : mn_gI (o0 :: o1 :: o2 :: some (.int x) :: r) 3 f = f x := mn_hid rfl
theorem mn_gI_4 (o0 o1 o2 o3 : Option Value) (x : Int32) (r : mn_L) (f : Int32 → Prop) : mn_gI (o0 :: o1 :: o2 :: o3 :: some (.int x) :: r) 4 f = f x := mn_hid rfl
theorem mn_gI_5 (o0 o1 o2 o3 o4 : Option Value) (x : Int32) (r : mn_L) (f : Int32 → Prop) : mn_gI (o0 :: o1 :: o2 :: o3 :: o4 :: some (.int x) :: r) 5 f = f x := mn_hid rfl
theorem mn_gI_6 (o0 o1 o2 o3 o4 o5 : Option Value) (x : Int32) (r : mn_L) (f : Int32 → Prop) : mn_gI (o0 :: o1 :: o2 :: o3 :: o4 :: o5 :: some (.int x) :: r) 6 f = f x := mn_hid rfl
theorem mn_gI_7 (o0 o1 o2 o3 o4 o5 o6 : Option Value) (x : Int32) (r : mn_L) (f : Int32 → Prop) : mn_gI (o0 :: o1 :: o2 :: o3 :: o4 :: o5 :: o6 :: some (.int x) :: r) 7 f = f x := mn_hid rfl
theorem mn_gI_8 (o0 o1 o2 o3 o4 o5 o6 o7 : Option Value) (x : Int32) (r : mn_L) (f : Int32 → Prop) : mn_gI (o0 :: o1 :: o2 :: o3 :: o4 :: o5 :: o6 :: o7 :: some (.int x) :: r) 8 f = f x := mn_hid rfl
theorem mn_gI_9 (o0 o1 o2 o3 o4 o5 o6 o7 o8 : Option Value) (x : Int32) (r : mn_L) (f : Int32 → Prop) : mn_gI (o0 :: o1 :: o2 :: o3 :: o4 :: o5 :: o6 :: o7 :: o8 :: some (.int x) :: r) 9 f = f x := mn_hid rfl
theorem mn_gI_10 (o0 o1 o2 o3 o4 o5 o6 o7 o8 o9 : Option Value) (x : Int32) (r : mn_L) (f : Int32 → Prop) : mn_gI (o0 :: o1 :: o2 :: o3 :: o4 :: o5 :: o6 :: o7 :: o8 :: o9 :: some (.int x) :: r) 10 f = f x := mn_hid rfl
theorem mn_gI_11 (o0 o1 o2 o3 o4 o5 o6 o7 o8 o9 o10 : Option Value) (x : Int32) (r : mn_L) (f : Int32 → Prop) : mn_gI (o0 :: o1 :: o2 :: o3 :: o4 :: o5 :: o6 :: o7 :: o8 :: o9 :: o10 :: some (.int x) :: r) 11 f = f x := mn_hid rfl
theorem mn_gI_12 (o0 o1 o2 o3 o4 o5 o6 o7 o8 o9 o10 o11 : Option Value) (x : Int32) (r : mn_L) (f : Int32 → Prop) : mn_gI (o0 :: o1 :: o2 :: o3 :: o4 :: o5 :: o6 :: o7 :: o8 :: o9 :: o10 :: o11 :: some (.int x) :: r) 12 f = f x := mn_hid rfl
theorem mn_gI_13 (o0 o1 o2 o3 o4 o5 o6 o7 o8 o9 o10 o11 o12 : Option Value) (x : Int32) (r : mn_L) (f : Int32 → Prop) : mn_gI (o0 :: o1 :: o2 :: o3 :: o4 :: o5 :: o6 :: o7 :: o8 :: o9 :: o10 :: o11 :: o12 :: some (.int x) :: r) 13 f = f x := mn_hid rfl
theorem mn_gI_14 (o0 o1 o2 o3 o4 o5 o6 o7 o8 o9 o10 o11 o12 o13 : Option Value) (x : Int32) (r : mn_L) (f : Int32 → Prop) : mn_gI (o0 :: o1 :: o2 :: o3 :: o4 :: o5 :: o6 :: o7 :: o8 :: o9 :: o10 :: o11 :: o12 :: o13 :: some (.int x) :: r) 14 f = f x := mn_hid rfl
theorem mn_gI_15 (o0 o1 o2 o3 o4 o5 o6 o7 o8 o9 o10 o11 o12 o13 o14 : Option Value) (x : Int32) (r : mn_L) (f : Int32 → Prop) : mn_gI (o0 :: o1 :: o2 :: o3 :: o4 :: o5 :: o6 :: o7 :: o8 :: o9 :: o10 :: o11 :: o12 :: o13 :: o14 :: some (.int x) :: r) 15 f = f x := mn_hid rfl
theorem mn_gI_16 (o0 o1 o2 o3 o4 o5 o6 o7 o8 o9 o10 o11 o12 o13 o14 o15 : Option Value) (x : Int32) (r : mn_L) (f : Int32 → Prop) : mn_gI (o0 :: o1 :: o2 :: o3 :: o4 :: o5 :: o6 :: o7 :: o8 :: o9 :: o10 :: o11 :: o12 :: o13 :: o14 :: o15 :: some (.int x) :: r) 16 f = f x := mn_hid rfl
theorem mn_gI_17 (o0 o1 o2 o3 o4 o5 o6 o7 o8 o9 o10 o11 o12 o13 o14 o15 o16 : Option Value) (x : Int32) (r : mn_L) (f : Int32 → Prop) : mn_gI (o0 :: o1 :: o2 :: o3 :: o4 :: o5 :: o6 :: o7 :: o8 :: o9 :: o10 :: o11 :: o12 :: o13 :: o14 :: o15 :: o16 :: some (.int x) :: r) 17 f = f x := mn_hid rfl
theorem mn_gI_18 (o0 o1 o2 o3 o4 o5 o6 o7 o8 o9 o10 o11 o12 o13 o14 o15 o16 o17 : Option Value) (x : Int32) (r : mn_L) (f : Int32 → Prop) : mn_gI (o0 :: o1 :: o2 :: o3 :: o4 :: o5 :: o6 :: o7 :: o8 :: o9 :: o10 :: o11 :: o12 :: o13 :: o14 :: o15 :: o16 :: o17 :: some (.int x) :: r) 18 f = f x := mn_hid rfl
theorem mn_gI_19 (o0 o1 o2 o3 o4 o5 o6 o7 o8 o9 o10 o11 o12 o13 o14 o15 o16 o17 o18 : Option Value) (x : Int32) (r : mn_L) (f : Int32 → Prop) : mn_gI (o0 :: o1 :: o2 :: o3 :: o4 :: o5 :: o6 :: o7 :: o8 :: o9 :: o10 :: o11 :: o12 :: o13 :: o14 :: o15 :: o16 :: o17 :: o18 :: some (.int x) :: r) 19 f = f x := mn_hid rfl
theorem mn_gI_20 (o0 o1 o2 o3 o4 o5 o6 o7 o8 o9 o10 o11 o12 o13 o14 o15 o16 o17 o18 o19 : Option Value) (x : Int32) (r : mn_L) (f : Int32 → Prop) : mn_gI (o0 :: o1 :: o2 :: o3 :: o4 :: o5 :: o6 :: o7 :: o8 :: o9 :: o10 :: o11 :: o12 :: o13 :: o14 :: o15 :: o16 :: o17 :: o18 :: o19 :: some (.int x) :: r) 20 f = f x := mn_hid rfl
theorem mn_gI_21 (o0 o1 o2 o3 o4 o5 o6 o7 o8 o9 o10 o11 o12 o13 o14 o15 o16 o17 o18 o19 o20 : Option Value) (x : Int32) (r : mn_L) (f : Int32 → Prop) : mn_gI (o0 :: o1 :: o2 :: o3 :: o4 :: o5 :: o6 :: o7 :: o8 :: o9 :: o10 :: o11 :: o12 :: o13 :: o14 :: o15 :: o16 :: o17 :: o18 :: o19 :: o20 :: some (.int x) :: r) 21 f = f x := mn_hid rfl
theorem mn_gL_0 (x : Int64) (r : mn_L) (f : Int64 → Prop) : mn_gL (some (.long x) :: r) 0 f = f x := mn_hid rfl
theorem mn_gL_1 (o0 : Option Value) (x : Int64) (r : mn_L) (f : Int64 → Prop) : mn_gL (o0 :: some (.long x) :: r) 1 f = f x := mn_hid rfl
theorem mn_gL_2 (o0 o1 : Option Value) (x : Int64) (r : mn_L) (f : Int64 → Prop) : mn_gL (o0 :: o1 :: some (.long x) :: r) 2 f = f x := mn_hid rfl
theorem mn_gL_3 (o0 o1 o2 : Option Value) (x : Int64) (r : mn_L) (f : Int64 → Prop) : mn_gL (o0 :: o1 :: o2 :: some (.long x) :: r) 3 f = f x := mn_hid rfl
theorem mn_gL_4 (o0 o1 o2 o3 : Option Value) (x : Int64) (r : mn_L) (f : Int64 → Prop) : mn_gL (o0 :: o1 :: o2 :: o3 :: some (.long x) :: r) 4 f = f x := mn_hid rfl
theorem mn_gL_5 (o0 o1 o2 o3 o4 : Option Value) (x : Int64) (r : mn_L) (f : Int64 → Prop) : mn_gL (o0 :: o1 :: o2 :: o3 :: o4 :: some (.long x) :: r) 5 f = f x := mn_hid rfl
theorem mn_gL_6 (o0 o1 o2 o3 o4 o5 : Option Value) (x : Int64) (r : mn_L) (f : Int64 → Prop) : mn_gL (o0 :: o1 :: o2 :: o3 :: o4 :: o5 :: some (.long x) :: r) 6 f = f x := mn_hid rfl
theorem mn_gL_7 (o0 o1 o2 o3 o4 o5 o6 : Option Value) (x : Int64) (r : mn_L) (f : Int64 → Prop) : mn_gL (o0 :: o1 :: o2 :: o3 :: o4 :: o5 :: o6 :: some (.long x) :: r) 7 f = f x := mn_hid rfl
theorem mn_gL_8 (o0 o1 o2 o3 o4 o5 o6 o7 : Option Value) (x : Int64) (r : mn_L) (f : Int64 → Prop) : mn_gL (o0 :: o1 :: o2 :: o3 :: o4 :: o5 :: o6 :: o7 :: some (.long x) :: r) 8 f = f x := mn_hid rfl
theorem mn_gL_9 (o0 o1 o2 o3 o4 o5 o6 o7 o8 : Option Value) (x : Int64) (r : mn_L) (f : Int64 → Prop) : mn_gL (o0 :: o1 :: o2 :: o3 :: o4 :: o5 :: o6 :: o7 :: o8 :: some (.long x) :: r) 9 f = f x := mn_hid rfl
theorem mn_gL_10 (o0 o1 o2 o3 o4 o5 o6 o7 o8 o9 : Option Value) (x : Int64) (r : mn_L) (f : Int64 → Prop) : mn_gL (o0 :: o1 :: o2 :: o3 :: o4 :: o5 :: o6 :: o7 :: o8 :: o9 :: some (.long x) :: r) 10 f = f x := mn_hid rfl
theorem mn_gL_11 (o0 o1 o2 o3 o4 o5 o6 o7 o8 o9 o10 : Option Value) (x : Int64) (r : mn_L) (f : Int64 → Prop) : mn_gL (o0 :: o1 :: o2 :: o3 :: o4 :: o5 :: o6 :: o7 :: o8 :: o9 :: o10 :: some (.long x) :: r) 11 f = f x := mn_hid rfl
theorem mn_gL_12 (o0 o1 o2 o3 o4 o5 o6 o7 o8 o9 o10 o11 : Option Value) (x : Int64) (r : mn_L) (f : Int64 → Prop) : mn_gL (o0 :: o1 :: o2 :: o3 :: o4 :: o5 :: o6 :: o7 :: o8 :: o9 :: o10 :: o11 :: some (.long x) :: r) 12 f = f x := mn_hid rfl
theorem mn_gL_13 (o0 o1 o2 o3 o4 o5 o6 o7 o8 o9 o10 o11 o12 : Option Value) (x : Int64) (r : mn_L) (f : Int64 → Prop) : mn_gL (o0 :: o1 :: o2 :: o3 :: o4 :: o5 :: o6 :: o7 :: o8 :: o9 :: o10 :: o11 :: o12 :: some (.long x) :: r) 13 f = f x := mn_hid rfl
theorem mn_gL_14 (o0 o1 o2 o3 o4 o5 o6 o7 o8 o9 o10 o11 o12 o13 : Option Value) (x : Int64) (r : mn_L) (f : Int64 → Prop) : mn_gL (o0 :: o1 :: o2 :: o3 :: o4 :: o5 :: o6 :: o7 :: o8 :: o9 :: o10 :: o11 :: o12 :: o13 :: some (.long x) :: r) 14 f = f x := mn_hid rfl
theorem mn_gL_15 (o0 o1 o2 o3 o4 o5 o6 o7 o8 o9 o10 o11 o12 o13 o14 : Option Value) (x : Int64) (r : mn_L) (f : Int64 → Prop) : mn_gL (o0 :: o1 :: o2 :: o3 :: o4 :: o5 :: o6 :: o7 :: o8 :: o9 :: o10 :: o11 :: o12 :: o13 :: o14 :: some (.long x) :: r) 15 f = f x := mn_hid rfl
theorem mn_gL_16 (o0 o1 o2 o3 o4 o5 o6 o7 o8 o9 o10 o11 o12 o13 o14 o15 : Option Value) (x : Int64) (r : mn_L) (f : Int64 → Prop) : mn_gL (o0 :: o1 :: o2 :: o3 :: o4 :: o5 :: o6 :: o7 :: o8 :: o9 :: o10 :: o11 :: o12 :: o13 :: o14 :: o15 :: some (.long x) :: r) 16 f = f x := mn_hid rfl
theorem mn_gL_17 (o0 o1 o2 o3 o4 o5 o6 o7 o8 o9 o10 o11 o12 o13 o14 o15 o16 : Option Value) (x : Int64) (r : mn_L) (f : Int64 → Prop) : mn_gL (o0 :: o1 :: o2 :: o3 :: o4 :: o5 :: o6 :: o7 :: o8 :: o9 :: o10 :: o11 :: o12 :: o13 :: o14 :: o15 :: o16 :: some (.long x) :: r) 17 f = f x := mn_hid rfl
theorem mn_gL_18 (o0 o1 o2 o3 o4 o5 o6 o7 o8 o9 o10 o11 o12 o13 o14 o15 o16 o17 : Option Value) (x : Int64) (r : mn_L) (f : Int64 → Prop) : mn_gL (o0 :: o1 :: o2 :: o3 :: o4 :: o5 :: o6 :: o7 :: o8 :: o9 :: o10 :: o11 :: o12 :: o13 :: o14 :: o15 :: o16 :: o17 :: some (.long x) :: r) 18 f = f x := mn_hid rfl
theorem mn_gL_19 (o0 o1 o2 o3 o4 o5 o6 o7 o8 o9 o10 o11 o12 o13 o14 o15 o16 o17 o18 : Option Value) (x : Int64) (r : mn_L) (f : Int64 → Prop) : mn_gL (o0 :: o1 :: o2 :: o3 :: o4 :: o5 :: o6 :: o7 :: o8 :: o9 :: o10 :: o11 :: o12 :: o13 :: o14 :: o15 :: o16 :: o17 :: o18 :: some (.long x) :: r) 19 f = f x := mn_hid rfl
theorem mn_gL_20 (o0 o1 o2 o3 o4 o5 o6 o7 o8 o9 o10 o11 o12 o13 o14 o15 o16 o17 o18 o19 : Option Value) (x : Int64) (r : mn_L) (f : Int64 → Prop) : mn_gL (o0 :: o1 :: o2 :: o3 :: o4 :: o5 :: o6 :: o7 :: o8 :: o9 :: o10 :: o11 :: o12 :: o13 :: o14 :: o15 :: o16 :: o17 :: o18 :: o19 :: some (.long x) :: r) 20 f = f x := mn_hid rfl
theorem mn_gL_21 (o0 o1 o2 o3 o4 o5 o6 o7 o8 o9 o10 o11 o12 o13 o14 o15 o16 o17 o18 o19 o20 : Option Value) (x : Int64) (r : mn_L) (f : Int64 → Prop) : mn_gL (o0 :: o1 :: o2 :: o3 :: o4 :: o5 :: o6 :: o7 :: o8 :: o9 :: o10 :: o11 :: o12 :: o13 :: o14 :: o15 :: o16 :: o17 :: o18 :: o19 :: o20 :: some (.long x) :: r) 21 f = f x := mn_hid rfl
theorem mn_gR_0 (x : Nat) (r : mn_L) (f : Nat → Prop) : mn_gR (some (.ref x) :: r) 0 f = f x := mn_hid rfl
theorem mn_gR_1 (o0 : Option Value) (x : Nat) (r : mn_L) (f : Nat → Prop) : mn_gR (o0 :: some (.ref x) :: r) 1 f = f x := mn_hid rfl
theorem mn_gR_2 (o0 o1 : Option Value) (x : Nat) (r : mn_L) (f : Nat → Prop) : mn_gR (o0 :: o1 :: some (.ref x) :: r) 2 f = f x := mn_hid rfl
theorem mn_gR_3 (o0 o1 o2 : Option Value) (x : Nat) (r : mn_L) (f : Nat → Prop) : mn_gR (o0 :: o1 :: o2 :: some (.ref x) :: r) 3 f = f x := mn_hid rfl
theorem mn_gR_4 (o0 o1 o2 o3 : Option Value) (x : Nat) (r : mn_L) (f : Nat → Prop) : mn_gR (o0 :: o1 :: o2 :: o3 :: some (.ref x) :: r) 4 f = f x := mn_hid rfl
theorem mn_gR_5 (o0 o1 o2 o3 o4 : Option Value) (x : Nat) (r : mn_L) (f : Nat → Prop) : mn_gR (o0 :: o1 :: o2 :: o3 :: o4 :: some (.ref x) :: r) 5 f = f x := mn_hid rfl
theorem mn_gR_6 (o0 o1 o2 o3 o4 o5 : Option Value) (x : Nat) (r : mn_L) (f : Nat → Prop) : mn_gR (o0 :: o1 :: o2 :: o3 :: o4 :: o5 :: some (.ref x) :: r) 6 f = f x := mn_hid rfl
theorem mn_gR_7 (o0 o1 o2 o3 o4 o5 o6 : Option Value) (x : Nat) (r : mn_L) (f : Nat → Prop) : mn_gR (o0 :: o1 :: o2 :: o3 :: o4 :: o5 :: o6 :: some (.ref x) :: r) 7 f = f x := mn_hid rfl
theorem mn_gR_8 (o0 o1 o2 o3 o4 o5 o6 o7 : Option Value) (x : Nat) (r : mn_L) (f : Nat → Prop) : mn_gR (o0 :: o1 :: o2 :: o3 :: o4 :: o5 :: o6 :: o7 :: some (.ref x) :: r) 8 f = f x := mn_hid rfl
theorem mn_ps_0n (oa : Option Value) (v : Value) (r : mn_L) (f : mn_L → Prop) : mn_ps (oa :: r) 0 v f = f (some v :: r) := mn_ps_of (by simp only [List.length_cons]; omega) rfl
theorem mn_ps_1n (oa : Option Value) (v : Value) (r : mn_L) (f : mn_L → Prop) : mn_ps (none :: oa :: r) 1 v f = f (none :: some v :: r) := mn_ps_of (by simp only [List.length_cons]; omega) rfl
theorem mn_ps_1i (oa : Option Value) (y : Int32) (v : Value) (r : mn_L) (f : mn_L → Prop) : mn_ps (some (.int y) :: oa :: r) 1 v f = f (some (.int y) :: some v :: r) := mn_ps_of (by simp only [List.length_cons]; omega) rfl
theorem mn_ps_1r (oa : Option Value) (y : Nat) (v : Value) (r : mn_L) (f : mn_L → Prop) : mn_ps (some (.ref y) :: oa :: r) 1 v f = f (some (.ref y) :: some v :: r) := mn_ps_of (by simp only [List.length_cons]; omega) rfl
theorem mn_ps_1l (oa : Option Value) (y : Int64) (v : Value) (r : mn_L) (f : mn_L → Prop) : mn_ps (some (.long y) :: oa :: r) 1 v f = f (none :: some v :: r) := mn_ps_of (by simp only [List.length_cons]; omega) rfl
theorem mn_ps_2n (o0 oa : Option Value) (v : Value) (r : mn_L) (f : mn_L → Prop) : mn_ps (o0 :: none :: oa :: r) 2 v f = f (o0 :: none :: some v :: r) := mn_ps_of (by simp only [List.length_cons]; omega) rfl
theorem mn_ps_2i (o0 oa : Option Value) (y : Int32) (v : Value) (r : mn_L) (f : mn_L → Prop) : mn_ps (o0 :: some (.int y) :: oa :: r) 2 v f = f (o0 :: some (.int y) :: some v :: r) := mn_ps_of (by simp only [List.length_cons]; omega) rfl
theorem mn_ps_2r (o0 oa : Option Value) (y : Nat) (v : Value) (r : mn_L) (f : mn_L → Prop) : mn_ps (o0 :: some (.ref y) :: oa :: r) 2 v f = f (o0 :: some (.ref y) :: some v :: r) := mn_ps_of (by simp only [List.length_cons]; omega) rfl
theorem mn_ps_2l (o0 oa : Option Value) (y : Int64) (v : Value) (r : mn_L) (f : mn_L → Prop) : mn_ps (o0 :: some (.long y) :: oa :: r) 2 v f = f (o0 :: none :: some v :: r) := mn_ps_of (by simp only [List.length_cons]; omega) rfl
theorem mn_ps_3n (o0 o1 oa : Option Value) (v : Value) (r : mn_L) (f : mn_L → Prop) : mn_ps (o0 :: o1 :: none :: oa :: r) 3 v f = f (o0 :: o1 :: none :: some v :: r) := mn_ps_of (by simp only [List.length_cons]; omega) rfl
theorem mn_ps_3i (o0 o1 oa : Option Value) (y : Int32) (v : Value) (r : mn_L) (f : mn_L → Prop) : mn_ps (o0 :: o1 :: some (.int y) :: oa :: r) 3 v f = f (o0 :: o1 :: some (.int y) :: some v :: r) := mn_ps_of (by simp only [List.length_cons]; omega) rfl
theorem mn_ps_3r (o0 o1 oa : Option Value) (y : Nat) (v : Value) (r : mn_L) (f : mn_L → Prop) : mn_ps (o0 :: o1 :: some (.ref y) :: oa :: r) 3 v f = f (o0 :: o1 :: some (.ref y) :: some v :: r) := mn_ps_of (by simp only [List.length_cons]; omega) rfl
theorem mn_ps_3l (o0 o1 oa : Option Value) (y : Int64) (v : Value) (r : mn_L) (f : mn_L → Prop) : mn_ps (o0 :: o1 :: some (.long y) :: oa :: r) 3 v f = f (o0 :: o1 :: none :: some v :: r) := mn_ps_of (by simp only [List.length_cons]; omega) rfl
theorem mn_ps_4n (o0 o1 o2 oa : Option Value) (v : Value) (r : mn_L) (f : mn_L → Prop) : mn_ps (o0 :: o1 :: o2 :: none :: oa :: r) 4 v f = f (o0 :: o1 :: o2 :: none :: some v :: r) := mn_ps_of (by simp only [List.length_cons]; omega) rfl
theorem mn_ps_4i (o0 o1 o2 oa : Option Value) (y : Int32) (v : Value) (r : mn_L) (f : mn_L → Prop) : mn_ps (o0 :: o1 :: o2 :: some (.int y) :: oa :: r) 4 v f = f (o0 :: o1 :: o2 :: some (.int y) :: some v :: r) := mn_ps_of (by simp only [List.length_cons]; omega) rfl
theorem mn_ps_4r (o0 o1 o2 oa : Option Value) (y : Nat) (v : Value) (r : mn_L) (f : mn_L → Prop) : mn_ps (o0 :: o1 :: o2 :: some (.ref y) :: oa :: r) 4 v f = f (o0 :: o1 :: o2 :: some (.ref y) :: some v :: r) := mn_ps_of (by simp only [List.length_cons]; omega) rfl
theorem mn_ps_4l (o0 o1 o2 oa : Option Value) (y : Int64) (v : Value) (r : mn_L) (f : mn_L → Prop) : mn_ps (o0 :: o1 :: o2 :: some (.long y) :: oa :: r) 4 v f = f (o0 :: o1 :: o2 :: none :: some v :: r) := mn_ps_of (by simp only [List.length_cons]; omega) rfl
theorem mn_ps_5n (o0 o1 o2 o3 oa : Option Value) (v : Value) (r : mn_L) (f : mn_L → Prop) : mn_ps (o0 :: o1 :: o2 :: o3 :: none :: oa :: r) 5 v f = f (o0 :: o1 :: o2 :: o3 :: none :: some v :: r) := mn_ps_of (by simp only [List.length_cons]; omega) rfl
theorem mn_ps_5i (o0 o1 o2 o3 oa : Option Value) (y : Int32) (v : Value) (r : mn_L) (f : mn_L → Prop) : mn_ps (o0 :: o1 :: o2 :: o3 :: some (.int y) :: oa :: r) 5 v f = f (o0 :: o1 :: o2 :: o3 :: some (.int y) :: some v :: r) := mn_ps_of (by simp only [List.length_cons]; omega) rfl
theorem mn_ps_5r (o0 o1 o2 o3 oa : Option Value) (y : Nat) (v : Value) (r : mn_L) (f : mn_L → Prop) : mn_ps (o0 :: o1 :: o2 :: o3 :: some (.ref y) :: oa :: r) 5 v f = f (o0 :: o1 :: o2 :: o3 :: some (.ref y) :: some v :: r) := mn_ps_of (by simp only [List.length_cons]; omega) rfl
theorem mn_ps_5l (o0 o1 o2 o3 oa : Option Value) (y : Int64) (v : Value) (r : mn_L) (f : mn_L → Prop) : mn_ps (o0 :: o1 :: o2 :: o3 :: some (.long y) :: oa :: r) 5 v f = f (o0 :: o1 :: o2 :: o3 :: none :: some v :: r) := mn_ps_of (by simp only [List.length_cons]; omega) rfl
theorem mn_ps_6n (o0 o1 o2 o3 o4 oa : Option Value) (v : Value) (r : mn_L) (f : mn_L → Prop) : mn_ps (o0 :: o1 :: o2 :: o3 :: o4 :: none :: oa :: r) 6 v f = f (o0 :: o1 :: o2 :: o3 :: o4 :: none :: some v :: r) := mn_ps_of (by simp only [List.length_cons]; omega) rfl
theorem mn_ps_6i (o0 o1 o2 o3 o4 oa : Option Value) (y : Int32) (v : Value) (r : mn_L) (f : mn_L → Prop) : mn_ps (o0 :: o1 :: o2 :: o3 :: o4 :: some (.int y) :: oa :: r) 6 v f = f (o0 :: o1 :: o2 :: o3 :: o4 :: some (.int y) :: some v :: r) := mn_ps_of (by simp only [List.length_cons]; omega) rfl
theorem mn_ps_6r (o0 o1 o2 o3 o4 oa : Option Value) (y : Nat) (v : Value) (r : mn_L) (f : mn_L → Prop) : mn_ps (o0 :: o1 :: o2 :: o3 :: o4 :: some (.ref y) :: oa :: r) 6 v f = f (o0 :: o1 :: o2 :: o3 :: o4 :: some (.ref y) :: some v :: r) := mn_ps_of (by simp only [List.length_cons]; omega) rfl
theorem mn_ps_6l (o0 o1 o2 o3 o4 oa : Option Value) (y : Int64) (v : Value) (r : mn_L) (f : mn_L → Prop) : mn_ps (o0 :: o1 :: o2 :: o3 :: o4 :: some (.long y) :: oa :: r) 6 v f = f (o0 :: o1 :: o2 :: o3 :: o4 :: none :: some v :: r) := mn_ps_of (by simp only [List.length_cons]; omega) rfl
theorem mn_ps_7n (o0 o1 o2 o3 o4 o5 oa : Option Value) (v : Value) (r : mn_L) (f : mn_L → Prop) : mn_ps (o0 :: o1 :: o2 :: o3 :: o4 :: o5 :: none :: oa :: r) 7 v f = f (o0 :: o1 :: o2 :: o3 :: o4 :: o5 :: none :: some v :: r) := mn_ps_of (by simp only [List.length_cons]; omega) rfl
theorem mn_ps_7i (o0 o1 o2 o3 o4 o5 oa : Option Value) (y : Int32) (v : Value) (r : mn_L) (f : mn_L → Prop) : mn_ps (o0 :: o1 :: o2 :: o3 :: o4 :: o5 :: some (.int y) :: oa :: r) 7 v f = f (o0 :: o1 :: o2 :: o3 :: o4 :: o5 :: some (.int y) :: some v :: r) := mn_ps_of (by simp only [List.length_cons]; omega) rfl
theorem mn_ps_7r (o0 o1 o2 o3 o4 o5 oa : Option Value) (y : Nat) (v : Value) (r : mn_L) (f : mn_L → Prop) : mn_ps (o0 :: o1 :: o2 :: o3 :: o4 :: o5 :: some (.ref y) :: oa :: r) 7 v f = f (o0 :: o1 :: o2 :: o3 :: o4 :: o5 :: some (.ref y) :: some v :: r) := mn_ps_of (by simp only [List.length_cons]; omega) rfl
theorem mn_ps_7l (o0 o1 o2 o3 o4 o5 oa : Option Value) (y : Int64) (v : Value) (r : mn_L) (f : mn_L → Prop) : mn_ps (o0 :: o1 :: o2 :: o3 :: o4 :: o5 :: some (.long y) :: oa :: r) 7 v f = f (o0 :: o1 :: o2 :: o3 :: o4 :: o5 :: none :: some v :: r) := mn_ps_of (by simp only [List.length_cons]; omega) rfl
theorem mn_ps_8n (o0 o1 o2 o3 o4 o5 o6 oa : Option Value) (v : Value) (r : mn_L) (f : mn_L → Prop) : mn_ps (o0 :: o1 :: o2 :: o3 :: o4 :: o5 :: o6 :: none :: oa :: r) 8 v f = f (o0 :: o1 :: o2 :: o3 :: o4 :: o5 :: o6 :: none :: some v :: r) := mn_ps_of (by simp only [List.length_cons]; omega) rfl
theorem mn_ps_8i (o0 o1 o2 o3 o4 o5 o6 oa : Option Value) (y : Int32) (v : Value) (r : mn_L) (f : mn_L → Prop) : mn_ps (o0 :: o1 :: o2 :: o3 :: o4 :: o5 :: o6 :: some (.int y) :: oa :: r) 8 v f = f (o0 :: o1 :: o2 :: o3 :: o4 :: o5 :: o6 :: some (.int y) :: some v :: r) := mn_ps_of (by simp only [List.length_cons]; omega) rfl
theorem mn_ps_8r (o0 o1 o2 o3 o4 o5 o6 oa : Option Value) (y : Nat) (v : Value) (r : mn_L) (f : mn_L → Prop) : mn_ps (o0 :: o1 :: o2 :: o3 :: o4 :: o5 :: o6 :: some (.ref y) :: oa :: r) 8 v f = f (o0 :: o1 :: o2 :: o3 :: o4 :: o5 :: o6 :: some (.ref y) :: some v :: r) := mn_ps_of (by simp only [List.length_cons]; omega) rfl
theorem mn_ps_8l (o0 o1 o2 o3 o4 o5 o6 oa : Option Value) (y : Int64) (v : Value) (r : mn_L) (f : mn_L → Prop) : mn_ps (o0 :: o1 :: o2 :: o3 :: o4 :: o5 :: o6 :: some (.long y) :: oa :: r) 8 v f = f (o0 :: o1 :: o2 :: o3 :: o4 :: o5 :: o6 :: none :: some v :: r) := mn_ps_of (by simp only [List.length_cons]; omega) rfl
theorem mn_ps_9n (o0 o1 o2 o3 o4 o5 o6 o7 oa : Option Value) (v : Value) (r : mn_L) (f : mn_L → Prop) : mn_ps (o0 :: o1 :: o2 :: o3 :: o4 :: o5 :: o6 :: o7 :: none :: oa :: r) 9 v f = f (o0 :: o1 :: o2 :: o3 :: o4 :: o5 :: o6 :: o7 :: none :: some v :: r) := mn_ps_of (by simp only [List.length_cons]; omega) rfl
theorem mn_ps_9i (o0 o1 o2 o3 o4 o5 o6 o7 oa : Option Value) (y : Int32) (v : Value) (r : mn_L) (f : mn_L → Prop) : mn_ps (o0 :: o1 :: o2 :: o3 :: o4 :: o5 :: o6 :: o7 :: some (.int y) :: oa :: r) 9 v f = f (o0 :: o1 :: o2 :: o3 :: o4 :: o5 :: o6 :: o7 :: some (.int y) :: some v :: r) := mn_ps_of (by simp only [List.length_cons]; omega) rfl
theorem mn_ps_9r (o0 o1 o2 o3 o4 o5 o6 o7 oa : Option Value) (y : Nat) (v : Value) (r : mn_L) (f : mn_L → Prop) : mn_ps (o0 :: o1 :: o2 :: o3 :: o4 :: o5 :: o6 :: o7 :: some (.ref y) :: oa :: r) 9 v f = f (o0 :: o1 :: o2 :: o3 :: o4 :: o5 :: o6 :: o7 :: some (.ref y) :: some v :: r) := mn_ps_of (by simp only [List.length_cons]; omega) rfl
theorem mn_ps_9l (o0 o1 o2 o3 o4 o5 o6 o7 oa : Option Value) (y : Int64) (v : Value) (r : mn_L) (f : mn_L → Prop) : mn_ps (o0 :: o1 :: o2 :: o3 :: o4 :: o5 :: o6 :: o7 :: some (.long y) :: oa :: r) 9 v f = f (o0 :: o1 :: o2 :: o3 :: o4 :: o5 :: o6 :: o7 :: none :: some v :: r) := mn_ps_of (by simp only [List.length_cons]; omega) rfl
theorem mn_ps_10n (o0 o1 o2 o3 o4 o5 o6 o7 o8 oa : Option Value) (v : Value) (r : mn_L) (f : mn_L → Prop) : mn_ps (o0 :: o1 :: o2 :: o3 :: o4 :: o5 :: o6 :: o7 :: o8 :: none :: oa :: r) 10 v f = f (o0 :: o1 :: o2 :: o3 :: o4 :: o5 :: o6 :: o7 :: o8 :: none :: some v :: r) := mn_ps_of (by simp only [List.length_cons]; omega) rfl
theorem mn_ps_10i (o0 o1 o2 o3 o4 o5 o6 o7 o8 oa : Option Value) (y : Int32) (v : Value) (r : mn_L) (f : mn_L → Prop) : mn_ps (o0 :: o1 :: o2 :: o3 :: o4 :: o5 :: o6 :: o7 :: o8 :: some (.int y) :: oa :: r) 10 v f = f (o0 :: o1 :: o2 :: o3 :: o4 :: o5 :: o6 :: o7 :: o8 :: some (.int y) :: some v :: r) := mn_ps_of (by simp only [List.length_cons]; omega) rfl
theorem mn_ps_10r (o0 o1 o2 o3 o4 o5 o6 o7 o8 oa : Option Value) (y : Nat) (v : Value) (r : mn_L) (f : mn_L → Prop) : mn_ps (o0 :: o1 :: o2 :: o3 :: o4 :: o5 :: o6 :: o7 :: o8 :: some (.ref y) :: oa :: r) 10 v f = f (o0 :: o1 :: o2 :: o3 :: o4 :: o5 :: o6 :: o7 :: o8 :: some (.ref y) :: some v :: r) := mn_ps_of (by simp only [List.length_cons]; omega) rfl
theorem mn_ps_10l (o0 o1 o2 o3 o4 o5 o6 o7 o8 oa : Option Value) (y : Int64) (v : Value) (r : mn_L) (f : mn_L → Prop) : mn_ps (o0 :: o1 :: o2 :: o3 :: o4 :: o5 :: o6 :: o7 :: o8 :: some (.long y) :: oa :: r) 10 v f = f (o0 :: o1 :: o2 :: o3 :: o4 :: o5 :: o6 :: o7 :: o8 :: none :: some v :: r) := mn_ps_of (by simp only [List.length_cons]; omega) rfl
theorem mn_ps_11n (o0 o1 o2 o3 o4 o5 o6 o7 o8 o9 oa : Option Value) (v : Value) (r : mn_L) (f : mn_L → Prop) : mn_ps (o0 :: o1 :: o2 :: o3 :: o4 :: o5 :: o6 :: o7 :: o8 :: o9 :: none :: oa :: r) 11 v f = f (o0 :: o1 :: o2 :: o3 :: o4 :: o5 :: o6 :: o7 :: o8 :: o9 :: none :: some v :: r) := mn_ps_of (by simp only [List.length_cons]; omega) rfl
theorem mn_ps_11i (o0 o1 o2 o3 o4 o5 o6 o7 o8 o9 oa : Option Value) (y : Int32) (v : Value) (r : mn_L) (f : mn_L → Prop) : mn_ps (o0 :: o1 :: o2 :: o3 :: o4 :: o5 :: o6 :: o7 :: o8 :: o9 :: some (.int y) :: oa :: r) 11 v f = f (o0 :: o1 :: o2 :: o3 :: o4 :: o5 :: o6 :: o7 :: o8 :: o9 :: some (.int y) :: some v :: r) := mn_ps_of (by simp only [List.length_cons]; omega) rfl
theorem mn_ps_11r (o0 o1 o2 o3 o4 o5 o6 o7 o8 o9 oa : Option Value) (y : Nat) (v : Value) (r : mn_L) (f : mn_L → Prop) : mn_ps (o0 :: o1 :: o2 :: o3 :: o4 :: o5 :: o6 :: o7 :: o8 :: o9 :: some (.ref y) :: oa :: r) 11 v f = f (o0 :: o1 :: o2 :: o3 :: o4 :: o5 :: o6 :: o7 :: o8 :: o9 :: some (.ref y) :: some v :: r) := mn_ps_of (by simp only [List.length_cons]; omega) rfl
theorem mn_ps_11l (o0 o1 o2 o3 o4 o5 o6 o7 o8 o9 oa : Option Value) (y : Int64) (v : Value) (r : mn_L) (f : mn_L → Prop) : mn_ps (o0 :: o1 :: o2 :: o3 :: o4 :: o5 :: o6 :: o7 :: o8 :: o9 :: some (.long y) :: oa :: r) 11 v f = f (o0 :: o1 :: o2 :: o3 :: o4 :: o5 :: o6 :: o7 :: o8 :: o9 :: none :: some v :: r) := mn_ps_of (by simp only [List.length_cons]; omega) rfl
theorem mn_ps_12n (o0 o1 o2 o3 o4 o5 o6 o7 o8 o9 o10 oa : Option Value) (v : Value) (r : mn_L) (f : mn_L → Prop) : mn_ps (o0 :: o1 :: o2 :: o3 :: o4 :: o5 :: o6 :: o7 :: o8 :: o9 :: o10 :: none :: oa :: r) 12 v f = f (o0 :: o1 :: o2 :: o3 :: o4 :: o5 :: o6 :: o7 :: o8 :: o9 :: o10 :: none :: some v :: r) := mn_ps_of (by simp only [List.length_cons]; omega) rfl
theorem mn_ps_12i (o0 o1 o2 o3 o4 o5 o6 o7 o8 o9 o10 oa : Option Value) (y : Int32) (v : Value) (r : mn_L) (f : mn_L → Prop) : mn_ps (o0 :: o1 :: o2 :: o3 :: o4 :: o5 :: o6 :: o7 :: o8 :: o9 :: o10 :: some (.int y) :: oa :: r) 12 v f = f (o0 :: o1 :: o2 :: o3 :: o4 :: o5 :: o6 :: o7 :: o8 :: o9 :: o10 :: some (.int y) :: some v :: r) := mn_ps_of (by simp only [List.length_cons]; omega) rfl
theorem mn_ps_12r (o0 o1 o2 o3 o4 o5 o6 o7 o8 o9 o10 oa : Option Value) (y : Nat) (v : Value) (r : mn_L) (f : mn_L → Prop) : mn_ps (o0 :: o1 :: o2 :: o3 :: o4 :: o5 :: o6 :: o7 :: o8 :: o9 :: o10 :: some (.ref y) :: oa :: r) 12 v f = f (o0 :: o1 :: o2 :: o3 :: o4 :: o5 :: o6 :: o7 :: o8 :: o9 :: o10 :: some (.ref y) :: some v :: r) := mn_ps_of (by simp only [List.length_cons]; omega) rfl
theorem mn_ps_12l (o0 o1 o2 o3 o4 o5 o6 o7 o8 o9 o10 oa : Option Value) (y : Int64) (v : Value) (r : mn_L) (f : mn_L → Prop) : mn_ps (o0 :: o1 :: o2 :: o3 :: o4 :: o5 :: o6 :: o7 :: o8 :: o9 :: o10 :: some (.long y) :: oa :: r) 12 v f = f (o0 :: o1 :: o2 :: o3 :: o4 :: o5 :: o6 :: o7 :: o8 :: o9 :: o10 :: none :: some v :: r) := mn_ps_of (by simp only [List.length_cons]; omega) rfl
theorem mn_ps_13n (o0 o1 o2 o3 o4 o5 o6 o7 o8 o9 o10 o11 oa : Option Value) (v : Value) (r : mn_L) (f : mn_L → Prop) : mn_ps (o0 :: o1 :: o2 :: o3 :: o4 :: o5 :: o6 :: o7 :: o8 :: o9 :: o10 :: o11 :: none :: oa :: r) 13 v f = f (o0 :: o1 :: o2 :: o3 :: o4 :: o5 :: o6 :: o7 :: o8 :: o9 :: o10 :: o11 :: none :: some v :: r) := mn_ps_of (by simp only [List.length_cons]; omega) rfl
theorem mn_ps_13i (o0 o1 o2 o3 o4 o5 o6 o7 o8 o9 o10 o11 oa : Option Value) (y : Int32) (v : Value) (r : mn_L) (f : mn_L → Prop) : mn_ps (o0 :: o1 :: o2 :: o3 :: o4 :: o5 :: o6 :: o7 :: o8 :: o9 :: o10 :: o11 :: some (.int y) :: oa :: r) 13 v f = f (o0 :: o1 :: o2 :: o3 :: o4 :: o5 :: o6 :: o7 :: o8 :: o9 :: o10 :: o11 :: some (.int y) :: some v :: r) := mn_ps_of (by simp only [List.length_cons]; omega) rfl
theorem mn_ps_13r (o0 o1 o2 o3 o4 o5 o6 o7 o8 o9 o10 o11 oa : Option Value) (y : Nat) (v : Value) (r : mn_L) (f : mn_L → Prop) : mn_ps (o0 :: o1 :: o2 :: o3 :: o4 :: o5 :: o6 :: o7 :: o8 :: o9 :: o10 :: o11 :: some (.ref y) :: oa :: r) 13 v f = f (o0 :: o1 :: o2 :: o3 :: o4 :: o5 :: o6 :: o7 :: o8 :: o9 :: o10 :: o11 :: some (.ref y) :: some v :: r) := mn_ps_of (by simp only [List.length_cons]; omega) rfl
theorem mn_ps_13l (o0 o1 o2 o3 o4 o5 o6 o7 o8 o9 o10 o11 oa : Option Value) (y : Int64) (v : Value) (r : mn_L) (f : mn_L → Prop) : mn_ps (o0 :: o1 :: o2 :: o3 :: o4 :: o5 :: o6 :: o7 :: o8 :: o9 :: o10 :: o11 :: some (.long y) :: oa :: r) 13 v f = f (o0 :: o1 :: o2 :: o3 :: o4 :: o5 :: o6 :: o7 :: o8 :: o9 :: o10 :: o11 :: none :: some v :: r) := mn_ps_of (by simp only [List.length_cons]; omega) rfl
theorem mn_ps_14n (o0 o1 o2 o3 o4 o5 o6 o7 o8 o9 o10 o11 o12 oa : Option Value) (v : Value) (r : mn_L) (f : mn_L → Prop) : mn_ps (o0 :: o1 :: o2 :: o3 :: o4 :: o5 :: o6 :: o7 :: o8 :: o9 :: o10 :: o11 :: o12 :: none :: oa :: r) 14 v f = f (o0 :: o1 :: o2 :: o3 :: o4 :: o5 :: o6 :: o7 :: o8 :: o9 :: o10 :: o11 :: o12 :: none :: some v :: r) := mn_ps_of (by simp only [List.length_cons]; omega) rfl
theorem mn_ps_14i (o0 o1 o2 o3 o4 o5 o6 o7 o8 o9 o10 o11 o12 oa : Option Value) (y : Int32) (v : Value) (r : mn_L) (f : mn_L → Prop) : mn_ps (o0 :: o1 :: o2 :: o3 :: o4 :: o5 :: o6 :: o7 :: o8 :: o9 :: o10 :: o11 :: o12 :: some (.int y) :: oa :: r) 14 v f = f (o0 :: o1 :: o2 :: o3 :: o4 :: o5 :: o6 :: o7 :: o8 :: o9 :: o10 :: o11 :: o12 :: some (.int y) :: some v :: r) := mn_ps_of (by simp only [List.length_cons]; omega) rfl
theorem mn_ps_14r (o0 o1 o2 o3 o4 o5 o6 o7 o8 o9 o10 o11 o12 oa : Option Value) (y : Nat) (v : Value) (r : mn_L) (f : mn_L → Prop) : mn_ps (o0 :: o1 :: o2 :: o3 :: o4 :: o5 :: o6 :: o7 :: o8 :: o9 :: o10 :: o11 :: o12 :: some (.ref y) :: oa :: r) 14 v f = f (o0 :: o1 :: o2 :: o3 :: o4 :: o5 :: o6 :: o7 :: o8 :: o9 :: o10 :: o11 :: o12 :: some (.ref y) :: some v :: r) := mn_ps_of (by simp only [List.length_cons]; omega) rfl
theorem mn_ps_14l (o0 o1 o2 o3 o4 o5 o6 o7 o8 o9 o10 o11 o12 oa : Option Value) (y : Int64) (v : Value) (r : mn_L) (f : mn_L → Prop) : mn_ps (o0 :: o1 :: o2 :: o3 :: o4 :: o5 :: o6 :: o7 :: o8 :: o9 :: o10 :: o11 :: o12 :: some (.long y) :: oa :: r) 14 v f = f (o0 :: o1 :: o2 :: o3 :: o4 :: o5 :: o6 :: o7 :: o8 :: o9 :: o10 :: o11 :: o12 :: none :: some v :: r) := mn_ps_of (by simp only [List.length_cons]; omega) rfl
theorem mn_ps_15n (o0 o1 o2 o3 o4 o5 o6 o7 o8 o9 o10 o11 o12 o13 oa : Option Value) (v : Value) (r : mn_L) (f : mn_L → Prop) : mn_ps (o0 :: o1 :: o2 :: o3 :: o4 :: o5 :: o6 :: o7 :: o8 :: o9 :: o10 :: o11 :: o12 :: o13 :: none :: oa :: r) 15 v f = f (o0 :: o1 :: o2 :: o3 :: o4 :: o5 :: o6 :: o7 :: o8 :: o9 :: o10 :: o11 :: o12 :: o13 :: none :: some v :: r) := mn_ps_of (by simp only [List.length_cons]; omega) rfl
theorem mn_ps_15i (o0 o1 o2 o3 o4 o5 o6 o7 o8 o9 o10 o11 o12 o13 oa : Option Value) (y : Int32) (v : Value) (r : mn_L) (f : mn_L → Prop) : mn_ps (o0 :: o1 :: o2 :: o3 :: o4 :: o5 :: o6 :: o7 :: o8 :: o9 :: o10 :: o11 :: o12 :: o13 :: some (.int y) :: oa :: r) 15 v f = f (o0 :: o1 :: o2 :: o3 :: o4 :: o5 :: o6 :: o7 :: o8 :: o9 :: o10 :: o11 :: o12 :: o13 :: some (.int y) :: some v :: r) := mn_ps_of (by simp only [List.length_cons]; omega) rfl
theorem mn_ps_15r (o0 o1 o2 o3 o4 o5 o6 o7 o8 o9 o10 o11 o12 o13 oa : Option Value) (y : Nat) (v : Value) (r : mn_L) (f : mn_L → Prop) : mn_ps (o0 :: o1 :: o2 :: o3 :: o4 :: o5 :: o6 :: o7 :: o8 :: o9 :: o10 :: o11 :: o12 :: o13 :: some (.ref y) :: oa :: r) 15 v f = f (o0 :: o1 :: o2 :: o3 :: o4 :: o5 :: o6 :: o7 :: o8 :: o9 :: o10 :: o11 :: o12 :: o13 :: some (.ref y) :: some v :: r) := mn_ps_of (by simp only [List.length_cons]; omega) rfl
theorem mn_ps_15l (o0 o1 o2 o3 o4 o5 o6 o7 o8 o9 o10 o11 o12 o13 oa : Option Value) (y : Int64) (v : Value) (r : mn_L) (f : mn_L → Prop) : mn_ps (o0 :: o1 :: o2 :: o3 :: o4 :: o5 :: o6 :: o7 :: o8 :: o9 :: o10 :: o11 :: o12 :: o13 :: some (.long y) :: oa :: r) 15 v f = f (o0 :: o1 :: o2 :: o3 :: o4 :: o5 :: o6 :: o7 :: o8 :: o9 :: o10 :: o11 :: o12 :: o13 :: none :: some v :: r) := mn_ps_of (by simp only [List.length_cons]; omega) rfl
theorem mn_ps_16n (o0 o1 o2 o3 o4 o5 o6 o7 o8 o9 o10 o11 o12 o13 o14 oa : Option Value) (v : Value) (r : mn_L) (f : mn_L → Prop) : mn_ps (o0 :: o1 :: o2 :: o3 :: o4 :: o5 :: o6 :: o7 :: o8 :: o9 :: o10 :: o11 :: o12 :: o13 :: o14 :: none :: oa :: r) 16 v f = f (o0 :: o1 :: o2 :: o3 :: o4 :: o5 :: o6 :: o7 :: o8 :: o9 :: o10 :: o11 :: o12 :: o13 :: o14 :: none :: some v :: r) := mn_ps_of (by simp only [List.length_cons]; omega) rfl
theorem mn_ps_16i (o0 o1 o2 o3 o4 o5 o6 o7 o8 o9 o10 o11 o12 o13 o14 oa : Option Value) (y : Int32) (v : Value) (r : mn_L) (f : mn_L → Prop) : mn_ps (o0 :: o1 :: o2 :: o3 :: o4 :: o5 :: o6 :: o7 :: o8 :: o9 :: o10 :: o11 :: o12 :: o13 :: o14 :: some (.int y) :: oa :: r) 16 v f = f (o0 :: o1 :: o2 :: o3 :: o4 :: o5 :: o6 :: o7 :: o8 :: o9 :: o10 :: o11 :: o12 :: o13 :: o14 :: some (.int y) :: some v :: r) := mn_ps_of (by simp only [List.length_cons]; omega) rfl
theorem mn_ps_16r (o0 o1 o2 o3 o4 o5 o6 o7 o8 o9 o10 o11 o12 o13 o14 oa : Option Value) (y : Nat) (v : Value) (r : mn_L) (f : mn_L → Prop) : mn_ps (o0 :: o1 :: o2 :: o3 :: o4 :: o5 :: o6 :: o7 :: o8 :: o9 :: o10 :: o11 :: o12 :: o13 :: o14 :: some (.ref y) :: oa :: r) 16 v f = f (o0 :: o1 :: o2 :: o3 :: o4 :: o5 :: o6 :: o7 :: o8 :: o9 :: o10 :: o11 :: o12 :: o13 :: o14 :: some (.ref y) :: some v :: r) := mn_ps_of (by simp only [List.length_cons]; omega) rfl
theorem mn_ps_16l (o0 o1 o2 o3 o4 o5 o6 o7 o8 o9 o10 o11 o12 o13 o14 oa : Option Value) (y : Int64) (v : Value) (r : mn_L) (f : mn_L → Prop) : mn_ps (o0 :: o1 :: o2 :: o3 :: o4 :: o5 :: o6 :: o7 :: o8 :: o9 :: o10 :: o11 :: o12 :: o13 :: o14 :: some (.long y) :: oa :: r) 16 v f = f (o0 :: o1 :: o2 :: o3 :: o4 :: o5 :: o6 :: o7 :: o8 :: o9 :: o10 :: o11 :: o12 :: o13 :: o14 :: none :: some v :: r) := mn_ps_of (by simp only [List.length_cons]; omega) rfl
theorem mn_ps_17n (o0 o1 o2 o3 o4 o5 o6 o7 o8 o9 o10 o11 o12 o13 o14 o15 oa : Option Value) (v : Value) (r : mn_L) (f : mn_L → Prop) : mn_ps (o0 :: o1 :: o2 :: o3 :: o4 :: o5 :: o6 :: o7 :: o8 :: o9 :: o10 :: o11 :: o12 :: o13 :: o14 :: o15 :: none :: oa :: r) 17 v f = f (o0 :: o1 :: o2 :: o3 :: o4 :: o5 :: o6 :: o7 :: o8 :: o9 :: o10 :: o11 :: o12 :: o13 :: o14 :: o15 :: none :: some v :: r) := mn_ps_of (by simp only [List.length_cons]; omega) rfl
theorem mn_ps_17i (o0 o1 o2 o3 o4 o5 o6 o7 o8 o9 o10 o11 o12 o13 o14 o15 oa : Option Value) (y : Int32) (v : Value) (r : mn_L) (f : mn_L → Prop) : mn_ps (o0 :: o1 :: o2 :: o3 :: o4 :: o5 :: o6 :: o7 :: o8 :: o9 :: o10 :: o11 :: o12 :: o13 :: o14 :: o15 :: some (.int y) :: oa :: r) 17 v f = f (o0 :: o1 :: o2 :: o3 :: o4 :: o5 :: o6 :: o7 :: o8 :: o9 :: o10 :: o11 :: o12 :: o13 :: o14 :: o15 :: some (.int y) :: some v :: r) := mn_ps_of (by simp only [List.length_cons]; omega) rfl
theorem mn_ps_17r (o0 o1 o2 o3 o4 o5 o6 o7 o8 o9 o10 o11 o12 o13 o14 o15 oa : Option Value) (y : Nat) (v : Value) (r : mn_L) (f : mn_L → Prop) : mn_ps (o0 :: o1 :: o2 :: o3 :: o4 :: o5 :: o6 :: o7 :: o8 :: o9 :: o10 :: o11 :: o12 :: o13 :: o14 :: o15 :: some (.ref y) :: oa :: r) 17 v f = f (o0 :: o1 :: o2 :: o3 :: o4 :: o5 :: o6 :: o7 :: o8 :: o9 :: o10 :: o11 :: o12 :: o13 :: o14 :: o15 :: some (.ref y) :: some v :: r) := mn_ps_of (by simp only [List.length_cons]; omega) rfl
theorem mn_ps_17l (o0 o1 o2 o3 o4 o5 o6 o7 o8 o9 o10 o11 o12 o13 o14 o15 oa : Option Value) (y : Int64) (v : Value) (r : mn_L) (f : mn_L → Prop) : mn_ps (o0 :: o1 :: o2 :: o3 :: o4 :: o5 :: o6 :: o7 :: o8 :: o9 :: o10 :: o11 :: o12 :: o13 :: o14 :: o15 :: some (.long y) :: oa :: r) 17 v f = f (o0 :: o1 :: o2 :: o3 :: o4 :: o5 :: o6 :: o7 :: o8 :: o9 :: o10 :: o11 :: o12 :: o13 :: o14 :: o15 :: none :: some v :: r) := mn_ps_of (by simp only [List.length_cons]; omega) rfl
theorem mn_ps_18n (o0 o1 o2 o3 o4 o5 o6 o7 o8 o9 o10 o11 o12 o13 o14 o15 o16 oa : Option Value) (v : Value) (r : mn_L) (f : mn_L → Prop) : mn_ps (o0 :: o1 :: o2 :: o3 :: o4 :: o5 :: o6 :: o7 :: o8 :: o9 :: o10 :: o11 :: o12 :: o13 :: o14 :: o15 :: o16 :: none :: oa :: r) 18 v f = f (o0 :: o1 :: o2 :: o3 :: o4 :: o5 :: o6 :: o7 :: o8 :: o9 :: o10 :: o11 :: o12 :: o13 :: o14 :: o15 :: o16 :: none :: some v :: r) := mn_ps_of (by simp only [List.length_cons]; omega) rfl
theorem mn_ps_18i (o0 o1 o2 o3 o4 o5 o6 o7 o8 o9 o10 o11 o12 o13 o14 o15 o16 oa : Option Value) (y : Int32) (v : Value) (r : mn_L) (f : mn_L → Prop) : mn_ps (o0 :: o1 :: o2 :: o3 :: o4 :: o5 :: o6 :: o7 :: o8 :: o9 :: o10 :: o11 :: o12 :: o13 :: o14 :: o15 :: o16 :: some (.int y) :: oa :: r) 18 v f = f (o0 :: o1 :: o2 :: o3 :: o4 :: o5 :: o6 :: o7 :: o8 :: o9 :: o10 :: o11 :: o12 :: o13 :: o14 :: o15 :: o16 :: some (.int y) :: some v :: r) := mn_ps_of (by simp only [List.length_cons]; omega) rfl
theorem mn_ps_18r (o0 o1 o2 o3 o4 o5 o6 o7 o8 o9 o10 o11 o12 o13 o14 o15 o16 oa : Option Value) (y : Nat) (v : Value) (r : mn_L) (f : mn_L → Prop) : mn_ps (o0 :: o1 :: o2 :: o3 :: o4 :: o5 :: o6 :: o7 :: o8 :: o9 :: o10 :: o11 :: o12 :: o13 :: o14 :: o15 :: o16 :: some (.ref y) :: oa :: r) 18 v f = f (o0 :: o1 :: o2 :: o3 :: o4 :: o5 :: o6 :: o7 :: o8 :: o9 :: o10 :: o11 :: o12 :: o13 :: o14 :: o15 :: o16 :: some (.ref y) :: some v :: r) := mn_ps_of (by simp only [List.length_cons]; omega) rfl
theorem mn_ps_18l (o0 o1 o2 o3 o4 o5 o6 o7 o8 o9 o10 o11 o12 o13 o14 o15 o16 oa : Option Value) (y : Int64) (v : Value) (r : mn_L) (f : mn_L → Prop) : mn_ps (o0 :: o1 :: o2 :: o3 :: o4 :: o5 :: o6 :: o7 :: o8 :: o9 :: o10 :: o11 :: o12 :: o13 :: o14 :: o15 :: o16 :: some (.long y) :: oa :: r) 18 v f = f (o0 :: o1 :: o2 :: o3 :: o4 :: o5 :: o6 :: o7 :: o8 :: o9 :: o10 :: o11 :: o12 :: o13 :: o14 :: o15 :: o16 :: none :: some v :: r) := mn_ps_of (by simp only [List.length_cons]; omega) rfl
theorem mn_ps_19n (o0 o1 o2 o3 o4 o5 o6 o7 o8 o9 o10 o11 o12 o13 o14 o15 o16 o17 oa : Option Value) (v : Value) (r : mn_L) (f : mn_L → Prop) : mn_ps (o0 :: o1 :: o2 :: o3 :: o4 :: o5 :: o6 :: o7 :: o8 :: o9 :: o10 :: o11 :: o12 :: o13 :: o14 :: o15 :: o16 :: o17 :: none :: oa :: r) 19 v f = f (o0 :: o1 :: o2 :: o3 :: o4 :: o5 :: o6 :: o7 :: o8 :: o9 :: o10 :: o11 :: o12 :: o13 :: o14 :: o15 :: o16 :: o17 :: none :: some v :: r) := mn_ps_of (by simp only [List.length_cons]; omega) rfl
theorem mn_ps_19i (o0 o1 o2 o3 o4 o5 o6 o7 o8 o9 o10 o11 o12 o13 o14 o15 o16 o17 oa : Option Value) (y : Int32) (v : Value) (r : mn_L) (f : mn_L → Prop) : mn_ps (o0 :: o1 :: o2 :: o3 :: o4 :: o5 :: o6 :: o7 :: o8 :: o9 :: o10 :: o11 :: o12 :: o13 :: o14 :: o15 :: o16 :: o17 :: some (.int y) :: oa :: r) 19 v f = f (o0 :: o1 :: o2 :: o3 :: o4 :: o5 :: o6 :: o7 :: o8 :: o9 :: o10 :: o11 :: o12 :: o13 :: o14 :: o15 :: o16 :: o17 :: some (.int y) :: some v :: r) := mn_ps_of (by simp only [List.length_cons]; omega) rfl
theorem mn_ps_19r (o0 o1 o2 o3 o4 o5 o6 o7 o8 o9 o10 o11 o12 o13 o14 o15 o16 o17 oa : Option Value) (y : Nat) (v : Value) (r : mn_L) (f : mn_L → Prop) : mn_ps (o0 :: o1 :: o2 :: o3 :: o4 :: o5 :: o6 :: o7 :: o8 :: o9 :: o10 :: o11 :: o12 :: o13 :: o14 :: o15 :: o16 :: o17 :: some (.ref y) :: oa :: r) 19 v f = f (o0 :: o1 :: o2 :: o3 :: o4 :: o5 :: o6 :: o7 :: o8 :: o9 :: o10 :: o11 :: o12 :: o13 :: o14 :: o15 :: o16 :: o17 :: some (.ref y) :: some v :: r) := mn_ps_of (by simp only [List.length_cons]; omega) rfl
theorem mn_ps_19l (o0 o1 o2 o3 o4 o5 o6 o7 o8 o9 o10 o11 o12 o13 o14 o15 o16 o17 oa : Option Value) (y : Int64) (v : Value) (r : mn_L) (f : mn_L → Prop) : mn_ps (o0 :: o1 :: o2 :: o3 :: o4 :: o5 :: o6 :: o7 :: o8 :: o9 :: o10 :: o11 :: o12 :: o13 :: o14 :: o15 :: o16 :: o17 :: some (.long y) :: oa :: r) 19 v f = f (o0 :: o1 :: o2 :: o3 :: o4 :: o5 :: o6 :: o7 :: o8 :: o9 :: o10 :: o11 :: o12 :: o13 :: o14 :: o15 :: o16 :: o17 :: none :: some v :: r) := mn_ps_of (by simp only [List.length_cons]; omega) rfl
theorem mn_ps_20n (o0 o1 o2 o3 o4 o5 o6 o7 o8 o9 o10 o11 o12 o13 o14 o15 o16 o17 o18 oa : Option Value) (v : Value) (r : mn_L) (f : mn_L → Prop) : mn_ps (o0 :: o1 :: o2 :: o3 :: o4 :: o5 :: o6 :: o7 :: o8 :: o9 :: o10 :: o11 :: o12 :: o13 :: o14 :: o15 :: o16 :: o17 :: o18 :: none :: oa :: r) 20 v f = f (o0 :: o1 :: o2 :: o3 :: o4 :: o5 :: o6 :: o7 :: o8 :: o9 :: o10 :: o11 :: o12 :: o13 :: o14 :: o15 :: o16 :: o17 :: o18 :: none :: some v :: r) := mn_ps_of (by simp only [List.length_cons]; omega) rfl
theorem mn_ps_20i (o0 o1 o2 o3 o4 o5 o6 o7 o8 o9 o10 o11 o12 o13 o14 o15 o16 o17 o18 oa : Option Value) (y : Int32) (v : Value) (r : mn_L) (f : mn_L → Prop) : mn_ps (o0 :: o1 :: o2 :: o3 :: o4 :: o5 :: o6 :: o7 :: o8 :: o9 :: o10 :: o11 :: o12 :: o13 :: o14 :: o15 :: o16 :: o17 :: o18 :: some (.int y) :: oa :: r) 20 v f = f (o0 :: o1 :: o2 :: o3 :: o4 :: o5 :: o6 :: o7 :: o8 :: o9 :: o10 :: o11 :: o12 :: o13 :: o14 :: o15 :: o16 :: o17 :: o18 :: some (.int y) :: some v :: r) := mn_ps_of (by simp only [List.length_cons]; omega) rfl
theorem mn_ps_20r (o0 o1 o2 o3 o4 o5 o6 o7 o8 o9 o10 o11 o12 o13 o14 o15 o16 o17 o18 oa : Option Value) (y : Nat) (v : Value) (r : mn_L) (f : mn_L → Prop) : mn_ps (o0 :: o1 :: o2 :: o3 :: o4 :: o5 :: o6 :: o7 :: o8 :: o9 :: o10 :: o11 :: o12 :: o13 :: o14 :: o15 :: o16 :: o17 :: o18 :: some (.ref y) :: oa :: r) 20 v f = f (o0 :: o1 :: o2 :: o3 :: o4 :: o5 :: o6 :: o7 :: o8 :: o9 :: o10 :: o11 :: o12 :: o13 :: o14 :: o15 :: o16 :: o17 :: o18 :: some (.ref y) :: some v :: r) := mn_ps_of (by simp only [List.length_cons]; omega) rfl
theorem mn_ps_20l (o0 o1 o2 o3 o4 o5 o6 o7 o8 o9 o10 o11 o12 o13 o14 o15 o16 o17 o18 oa : Option Value) (y : Int64) (v : Value) (r : mn_L) (f : mn_L → Prop) : mn_ps (o0 :: o1 :: o2 :: o3 :: o4 :: o5 :: o6 :: o7 :: o8 :: o9 :: o10 :: o11 :: o12 :: o13 :: o14 :: o15 :: o16 :: o17 :: o18 :: some (.long y) :: oa :: r) 20 v f = f (o0 :: o1 :: o2 :: o3 :: o4 :: o5 :: o6 :: o7 :: o8 :: o9 :: o10 :: o11 :: o12 :: o13 :: o14 :: o15 :: o16 :: o17 :: o18 :: none :: some v :: r) := mn_ps_of (by simp only [List.length_cons]; omega) rfl
theorem mn_ps_21n (o0 o1 o2 o3 o4 o5 o6 o7 o8 o9 o10 o11 o12 o13 o14 o15 o16 o17 o18 o19 oa : Option Value) (v : Value) (r : mn_L) (f : mn_L → Prop) : mn_ps (o0 :: o1 :: o2 :: o3 :: o4 :: o5 :: o6 :: o7 :: o8 :: o9 :: o10 :: o11 :: o12 :: o13 :: o14 :: o15 :: o16 :: o17 :: o18 :: o19 :: none :: oa :: r) 21 v f = f (o0 :: o1 :: o2 :: o3 :: o4 :: o5 :: o6 :: o7 :: o8 :: o9 :: o10 :: o11 :: o12 :: o13 :: o14 :: o15 :: o16 :: o17 :: o18 :: o19 :: none :: some v :: r) := mn_ps_of (by simp only [List.length_cons]; omega) rfl
theorem mn_ps_21i (o0 o1 o2 o3 o4 o5 o6 o7 o8 o9 o10 o11 o12 o13 o14 o15 o16 o17 o18 o19 oa : Option Value) (y : Int32) (v : Value) (r : mn_L) (f : mn_L → Prop) : mn_ps (o0 :: o1 :: o2 :: o3 :: o4 :: o5 :: o6 :: o7 :: o8 :: o9 :: o10 :: o11 :: o12 :: o13 :: o14 :: o15 :: o16 :: o17 :: o18 :: o19 :: some (.int y) :: oa :: r) 21 v f = f (o0 :: o1 :: o2 :: o3 :: o4 :: o5 :: o6 :: o7 :: o8 :: o9 :: o10 :: o11 :: o12 :: o13 :: o14 :: o15 :: o16 :: o17 :: o18 :: o19 :: some (.int y) :: some v :: r) := mn_ps_of (by simp only [List.length_cons]; omega) rfl
theorem mn_ps_21r (o0 o1 o2 o3 o4 o5 o6 o7 o8 o9 o10 o11 o12 o13 o14 o15 o16 o17 o18 o19 oa : Option Value) (y : Nat) (v : Value) (r : mn_L) (f : mn_L → Prop) : mn_ps (o0 :: o1 :: o2 :: o3 :: o4 :: o5 :: o6 :: o7 :: o8 :: o9 :: o10 :: o11 :: o12 :: o13 :: o14 :: o15 :: o16 :: o17 :: o18 :: o19 :: some (.ref y) :: oa :: r) 21 v f = f (o0 :: o1 :: o2 :: o3 :: o4 :: o5 :: o6 :: o7 :: o8 :: o9 :: o10 :: o11 :: o12 :: o13 :: o14 :: o15 :: o16 :: o17 :: o18 :: o19 :: some (.ref y) :: some v :: r) := mn_ps_of (by simp only [List.length_cons]; omega) rfl
theorem mn_ps_21l (o0 o1 o2 o3 o4 o5 o6 o7 o8 o9 o10 o11 o12 o13 o14 o15 o16 o17 o18 o19 oa : Option Value) (y : Int64) (v : Value) (r : mn_L) (f : mn_L → Prop) : mn_ps (o0 :: o1 :: o2 :: o3 :: o4 :: o5 :: o6 :: o7 :: o8 :: o9 :: o10 :: o11 :: o12 :: o13 :: o14 :: o15 :: o16 :: o17 :: o18 :: o19 :: some (.long y) :: oa :: r) 21 v f = f (o0 :: o1 :: o2 :: o3 :: o4 :: o5 :: o6 :: o7 :: o8 :: o9 :: o10 :: o11 :: o12 :: o13 :: o14 :: o15 :: o16 :: o17 :: o18 :: o19 :: none :: some v :: r) := mn_ps_of (by simp only [List.length_cons]; omega) rfl
theorem mn_ps2_0n (oa ob : Option Value) (v : Value) (r : mn_L) (f : mn_L → Prop) : mn_ps2 (oa :: ob :: r) 0 v f = f (some v :: none :: r) := mn_ps2_of (by simp only [List.length_cons]; omega) rfl
theorem mn_ps2_1n (oa ob : Option Value) (v : Value) (r : mn_L) (f : mn_L → Prop) : mn_ps2 (none :: oa :: ob :: r) 1 v f = f (none :: some v :: none :: r) := mn_ps2_of (by simp only [List.length_cons]; omega) rfl
theorem mn_ps2_1i (oa ob : Option Value) (y : Int32) (v : Value) (r : mn_L) (f : mn_L → Prop) : mn_ps2 (some (.int y) :: oa :: ob :: r) 1 v f = f (some (.int y) :: some v :: none :: r) := mn_ps2_of (by simp only [List.length_cons]; omega) rfl
theorem mn_ps2_1r (oa ob : Option Value) (y : Nat) (v : Value) (r : mn_L) (f : mn_L → Prop) : mn_ps2 (some (.ref y) :: oa :: ob :: r) 1 v f = f (some (.ref y) :: some v :: none :: r) := mn_ps2_of (by simp only [List.length_cons]; omega) rfl
theorem mn_ps2_1l (oa ob : Option Value) (y : Int64) (v : Value) (r : mn_L) (f : mn_L → Prop) : mn_ps2 (some (.long y) :: oa :: ob :: r) 1 v f = f (none :: some v :: none :: r) := mn_ps2_of (by simp only [List.length_cons]; omega) rfl
theorem mn_ps2_2n (o0 oa ob : Option Value) (v : Value) (r : mn_L) (f : mn_L → Prop) : mn_ps2 (o0 :: none :: oa :: ob :: r) 2 v f = f (o0 :: none :: some v :: none :: r) := mn_ps2_of (by simp only [List.length_cons]; omega) rfl
theorem mn_ps2_2i (o0 oa ob : Option Value) (y : Int32) (v : Value) (r : mn_L) (f : mn_L → Prop) : mn_ps2 (o0 :: some (.int y) :: oa :: ob :: r) 2 v f = f (o0 :: some (.int y) :: some v :: none :: r) := mn_ps2_of (by simp only [List.length_cons]; omega) rfl
theorem mn_ps2_2r (o0 oa ob : Option Value) (y : Nat) (v : Value) (r : mn_L) (f : mn_L → Prop) : mn_ps2 (o0 :: some (.ref y) :: oa :: ob :: r) 2 v f = f (o0 :: some (.ref y) :: some v :: none :: r) := mn_ps2_of (by simp only [List.length_cons]; omega) rfl
theorem mn_ps2_2l (o0 oa ob : Option Value) (y : Int64) (v : Value) (r : mn_L) (f : mn_L → Prop) : mn_ps2 (o0 :: some (.long y) :: oa :: ob :: r) 2 v f = f (o0 :: none :: some v :: none :: r) := mn_ps2_of (by simp only [List.length_cons]; omega) rfl
theorem mn_ps2_3n (o0 o1 oa ob : Option Value) (v : Value) (r : mn_L) (f : mn_L → Prop) : mn_ps2 (o0 :: o1 :: none :: oa :: ob :: r) 3 v f = f (o0 :: o1 :: none :: some v :: none :: r) := mn_ps2_of (by simp only [List.length_cons]; omega) rfl
theorem mn_ps2_3i (o0 o1 oa ob : Option Value) (y : Int32) (v : Value) (r : mn_L) (f : mn_L → Prop) : mn_ps2 (o0 :: o1 :: some (.int y) :: oa :: ob :: r) 3 v f = f (o0 :: o1 :: some (.int y) :: some v :: none :: r) := mn_ps2_of (by simp only [List.length_cons]; omega) rfl
theorem mn_ps2_3r (o0 o1 oa ob : Option Value) (y : Nat) (v : Value) (r : mn_L) (f : mn_L → Prop) : mn_ps2 (o0 :: o1 :: some (.ref y) :: oa :: ob :: r) 3 v f = f (o0 :: o1 :: some (.ref y) :: some v :: none :: r) := mn_ps2_of (by simp only [List.length_cons]; omega) rfl
theorem mn_ps2_3l (o0 o1 oa ob : Option Value) (y : Int64) (v : Value) (r : mn_L) (f : mn_L → Prop) : mn_ps2 (o0 :: o1 :: some (.long y) :: oa :: ob :: r) 3 v f = f (o0 :: o1 :: none :: some v :: none :: r) := mn_ps2_of (by simp only [List.length_cons]; omega) rfl
theorem mn_ps2_4n (o0 o1 o2 oa ob : Option Value) (v : Value) (r : mn_L) (f : mn_L → Prop) : mn_ps2 (o0 :: o1 :: o2 :: none :: oa :: ob :: r) 4 v f = f (o0 :: o1 :: o2 :: none :: some v :: none :: r) := mn_ps2_of (by simp only [List.length_cons]; omega) rfl
theorem mn_ps2_4i (o0 o1 o2 oa ob : Option Value) (y : Int32) (v : Value) (r : mn_L) (f : mn_L → Prop) : mn_ps2 (o0 :: o1 :: o2 :: some (.int y) :: oa :: ob :: r) 4 v f = f (o0 :: o1 :: o2 :: some (.int y) :: some v :: none :: r) := mn_ps2_of (by simp only [List.length_cons]; omega) rfl
theorem mn_ps2_4r (o0 o1 o2 oa ob : Option Value) (y : Nat) (v : Value) (r : mn_L) (f : mn_L → Prop) : mn_ps2 (o0 :: o1 :: o2 :: some (.ref y) :: oa :: ob :: r) 4 v f = f (o0 :: o1 :: o2 :: some (.ref y) :: some v :: none :: r) := mn_ps2_of (by simp only [List.length_cons]; omega) rfl
theorem mn_ps2_4l (o0 o1 o2 oa ob : Option Value) (y : Int64) (v : Value) (r : mn_L) (f : mn_L → Prop) : mn_ps2 (o0 :: o1 :: o2 :: some (.long y) :: oa :: ob :: r) 4 v f = f (o0 :: o1 :: o2 :: none :: some v :: none :: r) := mn_ps2_of (by simp only [List.length_cons]; omega) rfl
theorem mn_ps2_5n (o0 o1 o2 o3 oa ob : Option Value) (v : Value) (r : mn_L) (f : mn_L → Prop) : mn_ps2 (o0 :: o1 :: o2 :: o3 :: none :: oa :: ob :: r) 5 v f = f (o0 :: o1 :: o2 :: o3 :: none :: some v :: none :: r) := mn_ps2_of (by simp only [List.length_cons]; omega) rfl
theorem mn_ps2_5i (o0 o1 o2 o3 oa ob : Option Value) (y : Int32) (v : Value) (r : mn_L) (f : mn_L → Prop) : mn_ps2 (o0 :: o1 :: o2 :: o3 :: some (.int y) :: oa :: ob :: r) 5 v f = f (o0 :: o1 :: o2 :: o3 :: some (.int y) :: some v :: none :: r) := mn_ps2_of (by simp only [List.length_cons]; omega) rfl
theorem mn_ps2_5r (o0 o1 o2 o3 oa ob : Option Value) (y : Nat) (v : Value) (r : mn_L) (f : mn_L → Prop) : mn_ps2 (o0 :: o1 :: o2 :: o3 :: some (.ref y) :: oa :: ob :: r) 5 v f = f (o0 :: o1 :: o2 :: o3 :: some (.ref y) :: some v :: none :: r) := mn_ps2_of (by simp only [List.length_cons]; omega) rfl
theorem mn_ps2_5l (o0 o1 o2 o3 oa ob : Option Value) (y : Int64) (v : Value) (r : mn_L) (f : mn_L → Prop) : mn_ps2 (o0 :: o1 :: o2 :: o3 :: some (.long y) :: oa :: ob :: r) 5 v f = f (o0 :: o1 :: o2 :: o3 :: none :: some v :: none :: r) := mn_ps2_of (by simp only [List.length_cons]; omega) rfl
theorem mn_ps2_6n (o0 o1 o2 o3 o4 oa ob : Option Value) (v : Value) (r : mn_L) (f : mn_L → Prop) : mn_ps2 (o0 :: o1 :: o2 :: o3 :: o4 :: none :: oa :: ob :: r) 6 v f = f (o0 :: o1 :: o2 :: o3 :: o4 :: none :: some v :: none :: r) := mn_ps2_of (by simp only [List.length_cons]; omega) rfl
theorem mn_ps2_6i (o0 o1 o2 o3 o4 oa ob : Option Value) (y : Int32) (v : Value) (r : mn_L) (f : mn_L → Prop) : mn_ps2 (o0 :: o1 :: o2 :: o3 :: o4 :: some (.int y) :: oa :: ob :: r) 6 v f = f (o0 :: o1 :: o2 :: o3 :: o4 :: some (.int y) :: some v :: none :: r) := mn_ps2_of (by simp only [List.length_cons]; omega) rfl
theorem mn_ps2_6r (o0 o1 o2 o3 o4 oa ob : Option Value) (y : Nat) (v : Value) (r : mn_L) (f : mn_L → Prop) : mn_ps2 (o0 :: o1 :: o2 :: o3 :: o4 :: some (.ref y) :: oa :: ob :: r) 6 v f = f (o0 :: o1 :: o2 :: o3 :: o4 :: some (.ref y) :: some v :: none :: r) := mn_ps2_of (by simp only [List.length_cons]; omega) rfl
theorem mn_ps2_6l (o0 o1 o2 o3 o4 oa ob : Option Value) (y : Int64) (v : Value) (r : mn_L) (f : mn_L → Prop) : mn_ps2 (o0 :: o1 :: o2 :: o3 :: o4 :: some (.long y) :: oa :: ob :: r) 6 v f = f (o0 :: o1 :: o2 :: o3 :: o4 :: none :: some v :: none :: r) := mn_ps2_of (by simp only [List.length_cons]; omega) rfl
theorem mn_ps2_7n (o0 o1 o2 o3 o4 o5 oa ob : Option Value) (v : Value) (r : mn_L) (f : mn_L → Prop) : mn_ps2 (o0 :: o1 :: o2 :: o3 :: o4 :: o5 :: none :: oa :: ob :: r) 7 v f = f (o0 :: o1 :: o2 :: o3 :: o4 :: o5 :: none :: some v :: none :: r) := mn_ps2_of (by simp only [List.length_cons]; omega) rfl
theorem mn_ps2_7i (o0 o1 o2 o3 o4 o5 oa ob : Option Value) (y : Int32) (v : Value) (r : mn_L) (f : mn_L → Prop) : mn_ps2 (o0 :: o1 :: o2 :: o3 :: o4 :: o5 :: some (.int y) :: oa :: ob :: r) 7 v f = f (o0 :: o1 :: o2 :: o3 :: o4 :: o5 :: some (.int y) :: some v :: none :: r) := mn_ps2_of (by simp only [List.length_cons]; omega) rfl
theorem mn_ps2_7r (o0 o1 o2 o3 o4 o5 oa ob : Option Value) (y : Nat) (v : Value) (r : mn_L) (f : mn_L → Prop) : mn_ps2 (o0 :: o1 :: o2 :: o3 :: o4 :: o5 :: some (.ref y) :: oa :: ob :: r) 7 v f = f (o0 :: o1 :: o2 :: o3 :: o4 :: o5 :: some (.ref y) :: some v :: none :: r) := mn_ps2_of (by simp only [List.length_cons]; omega) rfl
theorem mn_ps2_7l (o0 o1 o2 o3 o4 o5 oa ob : Option Value) (y : Int64) (v : Value) (r : mn_L) (f : mn_L → Prop) : mn_ps2 (o0 :: o1 :: o2 :: o3 :: o4 :: o5 :: some (.long y) :: oa :: ob :: r) 7 v f = f (o0 :: o1 :: o2 :: o3 :: o4 :: o5 :: none :: some v :: none :: r) := mn_ps2_of (by simp only [List.length_cons]; omega) rfl
theorem mn_ps2_8n (o0 o1 o2 o3 o4 o5 o6 oa ob : Option Value) (v : Value) (r : mn_L) (f : mn_L → Prop) : mn_ps2 (o0 :: o1 :: o2 :: o3 :: o4 :: o5 :: o6 :: none :: oa :: ob :: r) 8 v f = f (o0 :: o1 :: o2 :: o3 :: o4 :: o5 :: o6 :: none :: some v :: none :: r) := mn_ps2_of (by simp only [List.length_cons]; omega) rfl
theorem mn_ps2_8i (o0 o1 o2 o3 o4 o5 o6 oa ob : Option Value) (y : Int32) (v : Value) (r : mn_L) (f : mn_L → Prop) : mn_ps2 (o0 :: o1 :: o2 :: o3 :: o4 :: o5 :: o6 :: some (.int y) :: oa :: ob :: r) 8 v f = f (o0 :: o1 :: o2 :: o3 :: o4 :: o5 :: o6 :: some (.int y) :: some v :: none :: r) := mn_ps2_of (by simp only [List.length_cons]; omega) rfl
theorem mn_ps2_8r (o0 o1 o2 o3 o4 o5 o6 oa ob : Option Value) (y : Nat) (v : Value) (r : mn_L) (f : mn_L → Prop) : mn_ps2 (o0 :: o1 :: o2 :: o3 :: o4 :: o5 :: o6 :: some (.ref y) :: oa :: ob :: r) 8 v f = f (o0 :: o1 :: o2 :: o3 :: o4 :: o5 :: o6 :: some (.ref y) :: some v :: none :: r) := mn_ps2_of (by simp only [List.length_cons]; omega) rfl
theorem mn_ps2_8l (o0 o1 o2 o3 o4 o5 o6 oa ob : Option Value) (y : Int64) (v : Value) (r : mn_L) (f : mn_L → Prop) : mn_ps2 (o0 :: o1 :: o2 :: o3 :: o4 :: o5 :: o6 :: some (.long y) :: oa :: ob :: r) 8 v f = f (o0 :: o1 :: o2 :: o3 :: o4 :: o5 :: o6 :: none :: some v :: none :: r) := mn_ps2_of (by simp only [List.length_cons]; omega) rfl
theorem mn_ps2_9n (o0 o1 o2 o3 o4 o5 o6 o7 oa ob : Option Value) (v : Value) (r : mn_L) (f : mn_L → Prop) : mn_ps2 (o0 :: o1 :: o2 :: o3 :: o4 :: o5 :: o6 :: o7 :: none :: oa :: ob :: r) 9 v f = f (o0 :: o1 :: o2 :: o3 :: o4 :: o5 :: o6 :: o7 :: none :: some v :: none :: r) := mn_ps2_of (by simp only [List.length_cons]; omega) rfl
theorem mn_ps2_9i (o0 o1 o2 o3 o4 o5 o6 o7 oa ob : Option Value) (y : Int32) (v : Value) (r : mn_L) (f : mn_L → Prop) : mn_ps2 (o0 :: o1 :: o2 :: o3 :: o4 :: o5 :: o6 :: o7 :: some (.int y) :: oa :: ob :: r) 9 v f = f (o0 :: o1 :: o2 :: o3 :: o4 :: o5 :: o6 :: o7 :: some (.int y) :: some v :: none :: r) := mn_ps2_of (by simp only [List.length_cons]; omega) rfl
theorem mn_ps2_9r (o0 o1 o2 o3 o4 o5 o6 o7 oa ob : Option Value) (y : Nat) (v : Value) (r : mn_L) (f : mn_L → Prop) : mn_ps2 (o0 :: o1 :: o2 :: o3 :: o4 :: o5 :: o6 :: o7 :: some (.ref y) :: oa :: ob :: r) 9 v f = f (o0 :: o1 :: o2 :: o3 :: o4 :: o5 :: o6 :: o7 :: some (.ref y) :: some v :: none :: r) := mn_ps2_of (by simp only [List.length_cons]; omega) rfl
theorem mn_ps2_9l (o0 o1 o2 o3 o4 o5 o6 o7 oa ob : Option Value) (y : Int64) (v : Value) (r : mn_L) (f : mn_L → Prop) : mn_ps2 (o0 :: o1 :: o2 :: o3 :: o4 :: o5 :: o6 :: o7 :: some (.long y) :: oa :: ob :: r) 9 v f = f (o0 :: o1 :: o2 :: o3 :: o4 :: o5 :: o6 :: o7 :: none :: some v :: none :: r) := mn_ps2_of (by simp only [List.length_cons]; omega) rfl
theorem mn_ps2_10n (o0 o1 o2 o3 o4 o5 o6 o7 o8 oa ob : Option Value) (v : Value) (r : mn_L) (f : mn_L → Prop) : mn_ps2 (o0 :: o1 :: o2 :: o3 :: o4 :: o5 :: o6 :: o7 :: o8 :: none :: oa :: ob :: r) 10 v f = f (o0 :: o1 :: o2 :: o3 :: o4 :: o5 :: o6 :: o7 :: o8 :: none :: some v :: none :: r) := mn_ps2_of (by simp only [List.length_cons]; omega) rfl
theorem mn_ps2_10i (o0 o1 o2 o3 o4 o5 o6 o7 o8 oa ob : Option Value) (y : Int32) (v : Value) (r : mn_L) (f : mn_L → Prop) : mn_ps2 (o0 :: o1 :: o2 :: o3 :: o4 :: o5 :: o6 :: o7 :: o8 :: some (.int y) :: oa :: ob :: r) 10 v f = f (o0 :: o1 :: o2 :: o3 :: o4 :: o5 :: o6 :: o7 :: o8 :: some (.int y) :: some v :: none :: r) := mn_ps2_of (by simp only [List.length_cons]; omega) rfl
theorem mn_ps2_10r (o0 o1 o2 o3 o4 o5 o6 o7 o8 oa ob : Option Value) (y : Nat) (v : Value) (r : mn_L) (f : mn_L → Prop) : mn_ps2 (o0 :: o1 :: o2 :: o3 :: o4 :: o5 :: o6 :: o7 :: o8 :: some (.ref y) :: oa :: ob :: r) 10 v f = f (o0 :: o1 :: o2 :: o3 :: o4 :: o5 :: o6 :: o7 :: o8 :: some (.ref y) :: some v :: none :: r) := mn_ps2_of (by simp only [List.length_cons]; omega) rfl
theorem mn_ps2_10l (o0 o1 o2 o3 o4 o5 o6 o7 o8 oa ob : Option Value) (y : Int64) (v : Value) (r : mn_L) (f : mn_L → Prop) : mn_ps2 (o0 :: o1 :: o2 :: o3 :: o4 :: o5 :: o6 :: o7 :: o8 :: some (.long y) :: oa :: ob :: r) 10 v f = f (o0 :: o1 :: o2 :: o3 :: o4 :: o5 :: o6 :: o7 :: o8 :: none :: some v :: none :: r) := mn_ps2_of (by simp only [List.length_cons]; omega) rfl
theorem mn_ps2_11n (o0 o1 o2 o3 o4 o5 o6 o7 o8 o9 oa ob : Option Value) (v : Value) (r : mn_L) (f : mn_L → Prop) : mn_ps2 (o0 :: o1 :: o2 :: o3 :: o4 :: o5 :: o6 :: o7 :: o8 :: o9 :: none :: oa :: ob :: r) 11 v f = f (o0 :: o1 :: o2 :: o3 :: o4 :: o5 :: o6 :: o7 :: o8 :: o9 :: none :: some v :: none :: r) := mn_ps2_of (by simp only [List.length_cons]; omega) rfl
theorem mn_ps2_11i (o0 o1 o2 o3 o4 o5 o6 o7 o8 o9 oa ob : Option Value) (y : Int32) (v : Value) (r : mn_L) (f : mn_L → Prop) : mn_ps2 (o0 :: o1 :: o2 :: o3 :: o4 :: o5 :: o6 :: o7 :: o8 :: o9 :: some (.int y) :: oa :: ob :: r) 11 v f = f (o0 :: o1 :: o2 :: o3 :: o4 :: o5 :: o6 :: o7 :: o8 :: o9 :: some (.int y) :: some v :: none :: r) := mn_ps2_of (by simp only [List.length_cons]; omega) rfl
theorem mn_ps2_11r (o0 o1 o2 o3 o4 o5 o6 o7 o8 o9 oa ob : Option Value) (y : Nat) (v : Value) (r : mn_L) (f : mn_L → Prop) : mn_ps2 (o0 :: o1 :: o2 :: o3 :: o4 :: o5 :: o6 :: o7 :: o8 :: o9 :: some (.ref y) :: oa :: ob :: r) 11 v f = f (o0 :: o1 :: o2 :: o3 :: o4 :: o5 :: o6 :: o7 :: o8 :: o9 :: some (.ref y) :: some v :: none :: r) := mn_ps2_of (by simp only [List.length_cons]; omega) rfl
theorem mn_ps2_11l (o0 o1 o2 o3 o4 o5 o6 o7 o8 o9 oa ob : Option Value) (y : Int64) (v : Value) (r : mn_L) (f : mn_L → Prop) : mn_ps2 (o0 :: o1 :: o2 :: o3 :: o4 :: o5 :: o6 :: o7 :: o8 :: o9 :: some (.long y) :: oa :: ob :: r) 11 v f = f (o0 :: o1 :: o2 :: o3 :: o4 :: o5 :: o6 :: o7 :: o8 :: o9 :: none :: some v :: none :: r) := mn_ps2_of (by simp only [List.length_cons]; omega) rfl
theorem mn_ps2_12n (o0 o1 o2 o3 o4 o5 o6 o7 o8 o9 o10 oa ob : Option Value) (v : Value) (r : mn_L) (f : mn_L → Prop) : mn_ps2 (o0 :: o1 :: o2 :: o3 :: o4 :: o5 :: o6 :: o7 :: o8 :: o9 :: o10 :: none :: oa :: ob :: r) 12 v f = f (o0 :: o1 :: o2 :: o3 :: o4 :: o5 :: o6 :: o7 :: o8 :: o9 :: o10 :: none :: some v :: none :: r) := mn_ps2_of (by simp only [List.length_cons]; omega) rfl
theorem mn_ps2_12i (o0 o1 o2 o3 o4 o5 o6 o7 o8 o9 o10 oa ob : Option Value) (y : Int32) (v : Value) (r : mn_L) (f : mn_L → Prop) : mn_ps2 (o0 :: o1 :: o2 :: o3 :: o4 :: o5 :: o6 :: o7 :: o8 :: o9 :: o10 :: some (.int y) :: oa :: ob :: r) 12 v f = f (o0 :: o1 :: o2 :: o3 :: o4 :: o5 :: o6 :: o7 :: o8 :: o9 :: o10 :: some (.int y) :: some v :: none :: r) := mn_ps2_of (by simp only [List.length_cons]; omega) rfl
theorem mn_ps2_12r (o0 o1 o2 o3 o4 o5 o6 o7 o8 o9 o10 oa ob : Option Value) (y : Nat) (v : Value) (r : mn_L) (f : mn_L → Prop) : mn_ps2 (o0 :: o1 :: o2 :: o3 :: o4 :: o5 :: o6 :: o7 :: o8 :: o9 :: o10 :: some (.ref y) :: oa :: ob :: r) 12 v f = f (o0 :: o1 :: o2 :: o3 :: o4 :: o5 :: o6 :: o7 :: o8 :: o9 :: o10 :: some (.ref y) :: some v :: none :: r) := mn_ps2_of (by simp only [List.length_cons]; omega) rfl
theorem mn_ps2_12l (o0 o1 o2 o3 o4 o5 o6 o7 o8 o9 o10 oa ob : Option Value) (y : Int64) (v : Value) (r : mn_L) (f : mn_L → Prop) : mn_ps2 (o0 :: o1 :: o2 :: o3 :: o4 :: o5 :: o6 :: o7 :: o8 :: o9 :: o10 :: some (.long y) :: oa :: ob :: r) 12 v f = f (o0 :: o1 :: o2 :: o3 :: o4 :: o5 :: o6 :: o7 :: o8 :: o9 :: o10 :: none :: some v :: none :: r) := mn_ps2_of (by simp only [List.length_cons]; omega) rfl
theorem mn_ps2_13n (o0 o1 o2 o3 o4 o5 o6 o7 o8 o9 o10 o11 oa ob : Option Value) (v : Value) (r : mn_L) (f : mn_L → Prop) : mn_ps2 (o0 :: o1 :: o2 :: o3 :: o4 :: o5 :: o6 :: o7 :: o8 :: o9 :: o10 :: o11 :: none :: oa :: ob :: r) 13 v f = f (o0 :: o1 :: o2 :: o3 :: o4 :: o5 :: o6 :: o7 :: o8 :: o9 :: o10 :: o11 :: none :: some v :: none :: r) := mn_ps2_of (by simp only [List.length_cons]; omega) rfl
theorem mn_ps2_13i (o0 o1 o2 o3 o4 o5 o6 o7 o8 o9 o10 o11 oa ob : Option Value) (y : Int32) (v : Value) (r : mn_L) (f : mn_L → Prop) : mn_ps2 (o0 :: o1 :: o2 :: o3 :: o4 :: o5 :: o6 :: o7 :: o8 :: o9 :: o10 :: o11 :: some (.int y) :: oa :: ob :: r) 13 v f = f (o0 :: o1 :: o2 :: o3 :: o4 :: o5 :: o6 :: o7 :: o8 :: o9 :: o10 :: o11 :: some (.int y) :: some v :: none :: r) := mn_ps2_of (by simp only [List.length_cons]; omega) rfl
theorem mn_ps2_13r (o0 o1 o2 o3 o4 o5 o6 o7 o8 o9 o10 o11 oa ob : Option Value) (y : Nat) (v : Value) (r : mn_L) (f : mn_L → Prop) : mn_ps2 (o0 :: o1 :: o2 :: o3 :: o4 :: o5 :: o6 :: o7 :: o8 :: o9 :: o10 :: o11 :: some (.ref y) :: oa :: ob :: r) 13 v f = f (o0 :: o1 :: o2 :: o3 :: o4 :: o5 :: o6 :: o7 :: o8 :: o9 :: o10 :: o11 :: some (.ref y) :: some v :: none :: r) := mn_ps2_of (by simp only [List.length_cons]; omega) rfl
theorem mn_ps2_13l (o0 o1 o2 o3 o4 o5 o6 o7 o8 o9 o10 o11 oa ob : Option Value) (y : Int64) (v : Value) (r : mn_L) (f : mn_L → Prop) : mn_ps2 (o0 :: o1 :: o2 :: o3 :: o4 :: o5 :: o6 :: o7 :: o8 :: o9 :: o10 :: o11 :: some (.long y) :: oa :: ob :: r) 13 v f = f (o0 :: o1 :: o2 :: o3 :: o4 :: o5 :: o6 :: o7 :: o8 :: o9 :: o10 :: o11 :: none :: some v :: none :: r) := mn_ps2_of (by simp only [List.length_cons]; omega) rfl
theorem mn_ps2_14n (o0 o1 o2 o3 o4 o5 o6 o7 o8 o9 o10 o11 o12 oa ob : Option Value) (v : Value) (r : mn_L) (f : mn_L → Prop) : mn_ps2 (o0 :: o1 :: o2 :: o3 :: o4 :: o5 :: o6 :: o7 :: o8 :: o9 :: o10 :: o11 :: o12 :: none :: oa :: ob :: r) 14 v f = f (o0 :: o1 :: o2 :: o3 :: o4 :: o5 :: o6 :: o7 :: o8 :: o9 :: o10 :: o11 :: o12 :: none :: some v :: none :: r) := mn_ps2_of (by simp only [List.length_cons]; omega) rfl
theorem mn_ps2_14i (o0 o1 o2 o3 o4 o5 o6 o7 o8 o9 o10 o11 o12 oa ob : Option Value) (y : Int32) (v : Value) (r : mn_L) (f : mn_L → Prop) : mn_ps2 (o0 :: o1 :: o2 :: o3 :: o4 :: o5 :: o6 :: o7 :: o8 :: o9 :: o10 :: o11 :: o12 :: some (.int y) :: oa :: ob :: r) 14 v f = f (o0 :: o1 :: o2 :: o3 :: o4 :: o5 :: o6 :: o7 :: o8 :: o9 :: o10 :: o11 :: o12 :: some (.int y) :: some v :: none :: r) := mn_ps2_of (by simp only [List.length_cons]; omega) rfl
theorem mn_ps2_14r (o0 o1 o2 o3 o4 o5 o6 o7 o8 o9 o10 o11 o12 oa ob : Option Value) (y : Nat) (v : Value) (r : mn_L) (f : mn_L → Prop) : mn_ps2 (o0 :: o1 :: o2 :: o3 :: o4 :: o5 :: o6 :: o7 :: o8 :: o9 :: o10 :: o11 :: o12 :: some (.ref y) :: oa :: ob :: r) 14 v f = f (o0 :: o1 :: o2 :: o3 :: o4 :: o5 :: o6 :: o7 :: o8 :: o9 :: o10 :: o11 :: o12 :: some (.ref y) :: some v :: none :: r) := mn_ps2_of (by simp only [List.length_cons]; omega) rfl
theorem mn_ps2_14l (o0 o1 o2 o3 o4 o5 o6 o7 o8 o9 o10 o11 o12 oa ob : Option Value) (y : Int64) (v : Value) (r : mn_L) (f : mn_L → Prop) : mn_ps2 (o0 :: o1 :: o2 :: o3 :: o4 :: o5 :: o6 :: o7 :: o8 :: o9 :: o10 :: o11 :: o12 :: some (.long y) :: oa :: ob :: r) 14 v f = f (o0 :: o1 :: o2 :: o3 :: o4 :: o5 :: o6 :: o7 :: o8 :: o9 :: o10 :: o11 :: o12 :: none :: some v :: none :: r) := mn_ps2_of (by simp only [List.length_cons]; omega) rfl
theorem mn_ps2_15n (o0 o1 o2 o3 o4 o5 o6 o7 o8 o9 o10 o11 o12 o13 oa ob : Option Value) (v : Value) (r : mn_L) (f : mn_L → Prop) : mn_ps2 (o0 :: o1 :: o2 :: o3 :: o4 :: o5 :: o6 :: o7 :: o8 :: o9 :: o10 :: o11 :: o12 :: o13 :: none :: oa :: ob :: r) 15 v f = f (o0 :: o1 :: o2 :: o3 :: o4 :: o5 :: o6 :: o7 :: o8 :: o9 :: o10 :: o11 :: o12 :: o13 :: none :: some v :: none :: r) := mn_ps2_of (by simp only [List.length_cons]; omega) rfl
theorem mn_ps2_15i (o0 o1 o2 o3 o4 o5 o6 o7 o8 o9 o10 o11 o12 o13 oa ob : Option Value) (y : Int32) (v : Value) (r : mn_L) (f : mn_L → Prop) : mn_ps2 (o0 :: o1 :: o2 :: o3 :: o4 :: o5 :: o6 :: o7 :: o8 :: o9 :: o10 :: o11 :: o12 :: o13 :: some (.int y) :: oa :: ob :: r) 15 v f = f (o0 :: o1 :: o2 :: o3 :: o4 :: o5 :: o6 :: o7 :: o8 :: o9 :: o10 :: o11 :: o12 :: o13 :: some (.int y) :: some v :: none :: r) := mn_ps2_of (by simp only [List.length_cons]; omega) rfl
theorem mn_ps2_15r (o0 o1 o2 o3 o4 o5 o6 o7 o8 o9 o10 o11 o12 o13 oa ob : Option Value) (y : Nat) (v : Value) (r : mn_L) (f : mn_L → Prop) : mn_ps2 (o0 :: o1 :: o2 :: o3 :: o4 :: o5 :: o6 :: o7 :: o8 :: o9 :: o10 :: o11 :: o12 :: o13 :: some (.ref y) :: oa :: ob :: r) 15 v f = f (o0 :: o1 :: o2 :: o3 :: o4 :: o5 :: o6 :: o7 :: o8 :: o9 :: o10 :: o11 :: o12 :: o13 :: some (.ref y) :: some v :: none :: r) := mn_ps2_of (by simp only [List.length_cons]; omega) rfl
theorem mn_ps2_15l (o0 o1 o2 o3 o4 o5 o6 o7 o8 o9 o10 o11 o12 o13 oa ob : Option Value) (y : Int64) (v : Value) (r : mn_L) (f : mn_L → Prop) : mn_ps2 (o0 :: o1 :: o2 :: o3 :: o4 :: o5 :: o6 :: o7 :: o8 :: o9 :: o10 :: o11 :: o12 :: o13 :: some (.long y) :: oa :: ob :: r) 15 v f = f (o0 :: o1 :: o2 :: o3 :: o4 :: o5 :: o6 :: o7 :: o8 :: o9 :: o10 :: o11 :: o12 :: o13 :: none :: some v :: none :: r) := mn_ps2_of (by simp only [List.length_cons]; omega) rfl
theorem mn_ps2_16n (o0 o1 o2 o3 o4 o5 o6 o7 o8 o9 o10 o11 o12 o13 o14 oa ob : Option Value) (v : Value) (r : mn_L) (f : mn_L → Prop) : mn_ps2 (o0 :: o1 :: o2 :: o3 :: o4 :: o5 :: o6 :: o7 :: o8 :: o9 :: o10 :: o11 :: o12 :: o13 :: o14 :: none :: oa :: ob :: r) 16 v f = f (o0 :: o1 :: o2 :: o3 :: o4 :: o5 :: o6 :: o7 :: o8 :: o9 :: o10 :: o11 :: o12 :: o13 :: o14 :: none :: some v :: none :: r) := mn_ps2_of (by simp only [List.length_cons]; omega) rfl
theorem mn_ps2_16i (o0 o1 o2 o3 o4 o5 o6 o7 o8 o9 o10 o11 o12 o13 o14 oa ob : Option Value) (y : Int32) (v : Value) (r : mn_L) (f : mn_L → Prop) : mn_ps2 (o0 :: o1 :: o2 :: o3 :: o4 :: o5 :: o6 :: o7 :: o8 :: o9 :: o10 :: o11 :: o12 :: o13 :: o14 :: some (.int y) :: oa :: ob :: r) 16 v f = f (o0 :: o1 :: o2 :: o3 :: o4 :: o5 :: o6 :: o7 :: o8 :: o9 :: o10 :: o11 :: o12 :: o13 :: o14 :: some (.int y) :: some v :: none :: r) := mn_ps2_of (by simp only [List.length_cons]; omega) rfl
theorem mn_ps2_16r (o0 o1 o2 o3 o4 o5 o6 o7 o8 o9 o10 o11 o12 o13 o14 oa ob : Option Value) (y : Nat) (v : Value) (r : mn_L) (f : mn_L → Prop) : mn_ps2 (o0 :: o1 :: o2 :: o3 :: o4 :: o5 :: o6 :: o7 :: o8 :: o9 :: o10 :: o11 :: o12 :: o13 :: o14 :: some (.ref y) :: oa :: ob :: r) 16 v f = f (o0 :: o1 :: o2 :: o3 :: o4 :: o5 :: o6 :: o7 :: o8 :: o9 :: o10 :: o11 :: o12 :: o13 :: o14 :: some (.ref y) :: some v :: none :: r) := mn_ps2_of (by simp only [List.length_cons]; omega) rfl
theorem mn_ps2_16l (o0 o1 o2 o3 o4 o5 o6 o7 o8 o9 o10 o11 o12 o13 o14 oa ob : Option Value) (y : Int64) (v : Value) (r : mn_L) (f : mn_L → Prop) : mn_ps2 (o0 :: o1 :: o2 :: o3 :: o4 :: o5 :: o6 :: o7 :: o8 :: o9 :: o10 :: o11 :: o12 :: o13 :: o14 :: some (.long y) :: oa :: ob :: r) 16 v f = f (o0 :: o1 :: o2 :: o3 :: o4 :: o5 :: o6 :: o7 :: o8 :: o9 :: o10 :: o11 :: o12 :: o13 :: o14 :: none :: some v :: none :: r) := mn_ps2_of (by simp only [List.length_cons]; omega) rfl
theorem mn_ps2_17n (o0 o1 o2 o3 o4 o5 o6 o7 o8 o9 o10 o11 o12 o13 o14 o15 oa ob : Option Value) (v : Value) (r : mn_L) (f : mn_L → Prop) : mn_ps2 (o0 :: o1 :: o2 :: o3 :: o4 :: o5 :: o6 :: o7 :: o8 :: o9 :: o10 :: o11 :: o12 :: o13 :: o14 :: o15 :: none :: oa :: ob :: r) 17 v f = f (o0 :: o1 :: o2 :: o3 :: o4 :: o5 :: o6 :: o7 :: o8 :: o9 :: o10 :: o11 :: o12 :: o13 :: o14 :: o15 :: none :: some v :: none :: r) := mn_ps2_of (by simp only [List.length_cons]; omega) rfl
theorem mn_ps2_17i (o0 o1 o2 o3 o4 o5 o6 o7 o8 o9 o10 o11 o12 o13 o14 o15 oa ob : Option Value) (y : Int32) (v : Value) (r : mn_L) (f : mn_L → Prop) : mn_ps2 (o0 :: o1 :: o2 :: o3 :: o4 :: o5 :: o6 :: o7 :: o8 :: o9 :: o10 :: o11 :: o12 :: o13 :: o14 :: o15 :: some (.int y) :: oa :: ob :: r) 17 v f = f (o0 :: o1 :: o2 :: o3 :: o4 :: o5 :: o6 :: o7 :: o8 :: o9 :: o10 :: o11 :: o12 :: o13 :: o14 :: o15 :: some (.int y) :: some v :: none :: r) := mn_ps2_of (by simp only [List.length_cons]; omega) rfl
theorem mn_ps2_17r (o0 o1 o2 o3 o4 o5 o6 o7 o8 o9 o10 o11 o12 o13 o14 o15 oa ob : Option Value) (y : Nat) (v : Value) (r : mn_L) (f : mn_L → Prop) : mn_ps2 (o0 :: o1 :: o2 :: o3 :: o4 :: o5 :: o6 :: o7 :: o8 :: o9 :: o10 :: o11 :: o12 :: o13 :: o14 :: o15 :: some (.ref y) :: oa :: ob :: r) 17 v f = f (o0 :: o1 :: o2 :: o3 :: o4 :: o5 :: o6 :: o7 :: o8 :: o9 :: o10 :: o11 :: o12 :: o13 :: o14 :: o15 :: some (.ref y) :: some v :: none :: r) := mn_ps2_of (by simp only [List.length_cons]; omega) rfl
theorem mn_ps2_17l (o0 o1 o2 o3 o4 o5 o6 o7 o8 o9 o10 o11 o12 o13 o14 o15 oa ob : Option Value) (y : Int64) (v : Value) (r : mn_L) (f : mn_L → Prop) : mn_ps2 (o0 :: o1 :: o2 :: o3 :: o4 :: o5 :: o6 :: o7 :: o8 :: o9 :: o10 :: o11 :: o12 :: o13 :: o14 :: o15 :: some (.long y) :: oa :: ob :: r) 17 v f = f (o0 :: o1 :: o2 :: o3 :: o4 :: o5 :: o6 :: o7 :: o8 :: o9 :: o10 :: o11 :: o12 :: o13 :: o14 :: o15 :: none :: some v :: none :: r) := mn_ps2_of (by simp only [List.length_cons]; omega) rfl
theorem mn_ps2_18n (o0 o1 o2 o3 o4 o5 o6 o7 o8 o9 o10 o11 o12 o13 o14 o15 o16 oa ob : Option Value) (v : Value) (r : mn_L) (f : mn_L → Prop) : mn_ps2 (o0 :: o1 :: o2 :: o3 :: o4 :: o5 :: o6 :: o7 :: o8 :: o9 :: o10 :: o11 :: o12 :: o13 :: o14 :: o15 :: o16 :: none :: oa :: ob :: r) 18 v f = f (o0 :: o1 :: o2 :: o3 :: o4 :: o5 :: o6 :: o7 :: o8 :: o9 :: o10 :: o11 :: o12 :: o13 :: o14 :: o15 :: o16 :: none :: some v :: none :: r) := mn_ps2_of (by simp only [List.length_cons]; omega) rfl
theorem mn_ps2_18i (o0 o1 o2 o3 o4 o5 o6 o7 o8 o9 o10 o11 o12 o13 o14 o15 o16 oa ob : Option Value) (y : Int32) (v : Value) (r : mn_L) (f : mn_L → Prop) : mn_ps2 (o0 :: o1 :: o2 :: o3 :: o4 :: o5 :: o6 :: o7 :: o8 :: o9 :: o10 :: o11 :: o12 :: o13 :: o14 :: o15 :: o16 :: some (.int y) :: oa :: ob :: r) 18 v f = f (o0 :: o1 :: o2 :: o3 :: o4 :: o5 :: o6 :: o7 :: o8 :: o9 :: o10 :: o11 :: o12 :: o13 :: o14 :: o15 :: o16 :: some (.int y) :: some v :: none :: r) := mn_ps2_of (by simp only [List.length_cons]; omega) rfl
theorem mn_ps2_18r (o0 o1 o2 o3 o4 o5 o6 o7 o8 o9 o10 o11 o12 o13 o14 o15 o16 oa ob : Option Value) (y : Nat) (v : Value) (r : mn_L) (f : mn_L → Prop) : mn_ps2 (o0 :: o1 :: o2 :: o3 :: o4 :: o5 :: o6 :: o7 :: o8 :: o9 :: o10 :: o11 :: o12 :: o13 :: o14 :: o15 :: o16 :: some (.ref y) :: oa :: ob :: r) 18 v f = f (o0 :: o1 :: o2 :: o3 :: o4 :: o5 :: o6 :: o7 :: o8 :: o9 :: o10 :: o11 :: o12 :: o13 :: o14 :: o15 :: o16 :: some (.ref y) :: some v :: none :: r) := mn_ps2_of (by simp only [List.length_cons]; omega) rfl
theorem mn_ps2_18l (o0 o1 o2 o3 o4 o5 o6 o7 o8 o9 o10 o11 o12 o13 o14 o15 o16 oa ob : Option Value) (y : Int64) (v : Value) (r : mn_L) (f : mn_L → Prop) : mn_ps2 (o0 :: o1 :: o2 :: o3 :: o4 :: o5 :: o6 :: o7 :: o8 :: o9 :: o10 :: o11 :: o12 :: o13 :: o14 :: o15 :: o16 :: some (.long y) :: oa :: ob :: r) 18 v f = f (o0 :: o1 :: o2 :: o3 :: o4 :: o5 :: o6 :: o7 :: o8 :: o9 :: o10 :: o11 :: o12 :: o13 :: o14 :: o15 :: o16 :: none :: some v :: none :: r) := mn_ps2_of (by simp only [List.length_cons]; omega) rfl
theorem mn_ps2_19n (o0 o1 o2 o3 o4 o5 o6 o7 o8 o9 o10 o11 o12 o13 o14 o15 o16 o17 oa ob : Option Value) (v : Value) (r : mn_L) (f : mn_L → Prop) : mn_ps2 (o0 :: o1 :: o2 :: o3 :: o4 :: o5 :: o6 :: o7 :: o8 :: o9 :: o10 :: o11 :: o12 :: o13 :: o14 :: o15 :: o16 :: o17 :: none :: oa :: ob :: r) 19 v f = f (o0 :: o1 :: o2 :: o3 :: o4 :: o5 :: o6 :: o7 :: o8 :: o9 :: o10 :: o11 :: o12 :: o13 :: o14 :: o15 :: o16 :: o17 :: none :: some v :: none :: r) := mn_ps2_of (by simp only [List.length_cons]; omega) rfl
theorem mn_ps2_19i (o0 o1 o2 o3 o4 o5 o6 o7 o8 o9 o10 o11 o12 o13 o14 o15 o16 o17 oa ob : Option Value) (y : Int32) (v : Value) (r : mn_L) (f : mn_L → Prop) : mn_ps2 (o0 :: o1 :: o2 :: o3 :: o4 :: o5 :: o6 :: o7 :: o8 :: o9 :: o10 :: o11 :: o12 :: o13 :: o14 :: o15 :: o16 :: o17 :: some (.int y) :: oa :: ob :: r) 19 v f = f (o0 :: o1 :: o2 :: o3 :: o4 :: o5 :: o6 :: o7 :: o8 :: o9 :: o10 :: o11 :: o12 :: o13 :: o14 :: o15 :: o16 :: o17 :: some (.int y) :: some v :: none :: r) := mn_ps2_of (by simp only [List.length_cons]; omega) rfl
theorem mn_ps2_19r (o0 o1 o2 o3 o4 o5 o6 o7 o8 o9 o10 o11 o12 o13 o14 o15 o16 o17 oa ob : Option Value) (y : Nat) (v : Value) (r : mn_L) (f : mn_L → Prop) : mn_ps2 (o0 :: o1 :: o2 :: o3 :: o4 :: o5 :: o6 :: o7 :: o8 :: o9 :: o10 :: o11 :: o12 :: o13 :: o14 :: o15 :: o16 :: o17 :: some (.ref y) :: oa :: ob :: r) 19 v f = f (o0 :: o1 :: o2 :: o3 :: o4 :: o5 :: o6 :: o7 :: o8 :: o9 :: o10 :: o11 :: o12 :: o13 :: o14 :: o15 :: o16 :: o17 :: some (.ref y) :: some v :: none :: r) := mn_ps2_of (by simp only [List.length_cons]; omega) rfl
theorem mn_ps2_19l (o0 o1 o2 o3 o4 o5 o6 o7 o8 o9 o10 o11 o12 o13 o14 o15 o16 o17 oa ob : Option Value) (y : Int64) (v : Value) (r : mn_L) (f : mn_L → Prop) : mn_ps2 (o0 :: o1 :: o2 :: o3 :: o4 :: o5 :: o6 :: o7 :: o8 :: o9 :: o10 :: o11 :: o12 :: o13 :: o14 :: o15 :: o16 :: o17 :: some (.long y) :: oa :: ob :: r) 19 v f = f (o0 :: o1 :: o2 :: o3 :: o4 :: o5 :: o6 :: o7 :: o8 :: o9 :: o10 :: o11 :: o12 :: o13 :: o14 :: o15 :: o16 :: o17 :: none :: some v :: none :: r) := mn_ps2_of (by simp only [List.length_cons]; omega) rfl
theorem mn_ps2_20n (o0 o1 o2 o3 o4 o5 o6 o7 o8 o9 o10 o11 o12 o13 o14 o15 o16 o17 o18 oa ob : Option Value) (v : Value) (r : mn_L) (f : mn_L → Prop) : mn_ps2 (o0 :: o1 :: o2 :: o3 :: o4 :: o5 :: o6 :: o7 :: o8 :: o9 :: o10 :: o11 :: o12 :: o13 :: o14 :: o15 :: o16 :: o17 :: o18 :: none :: oa :: ob :: r) 20 v f = f (o0 :: o1 :: o2 :: o3 :: o4 :: o5 :: o6 :: o7 :: o8 :: o9 :: o10 :: o11 :: o12 :: o13 :: o14 :: o15 :: o16 :: o17 :: o18 :: none :: some v :: none :: r) := mn_ps2_of (by simp only [List.length_cons]; omega) rfl
theorem mn_ps2_20i (o0 o1 o2 o3 o4 o5 o6 o7 o8 o9 o10 o11 o12 o13 o14 o15 o16 o17 o18 oa ob : Option Value) (y : Int32) (v : Value) (r : mn_L) (f : mn_L → Prop) : mn_ps2 (o0 :: o1 :: o2 :: o3 :: o4 :: o5 :: o6 :: o7 :: o8 :: o9 :: o10 :: o11 :: o12 :: o13 :: o14 :: o15 :: o16 :: o17 :: o18 :: some (.int y) :: oa :: ob :: r) 20 v f = f (o0 :: o1 :: o2 :: o3 :: o4 :: o5 :: o6 :: o7 :: o8 :: o9 :: o10 :: o11 :: o12 :: o13 :: o14 :: o15 :: o16 :: o17 :: o18 :: some (.int y) :: some v :: none :: r) := mn_ps2_of (by simp only [List.length_cons]; omega) rfl
theorem mn_ps2_20r (o0 o1 o2 o3 o4 o5 o6 o7 o8 o9 o10 o11 o12 o13 o14 o15 o16 o17 o18 oa ob : Option Value) (y : Nat) (v : Value) (r : mn_L) (f : mn_L → Prop) : mn_ps2 (o0 :: o1 :: o2 :: o3 :: o4 :: o5 :: o6 :: o7 :: o8 :: o9 :: o10 :: o11 :: o12 :: o13 :: o14 :: o15 :: o16 :: o17 :: o18 :: some (.ref y) :: oa :: ob :: r) 20 v f = f (o0 :: o1 :: o2 :: o3 :: o4 :: o5 :: o6 :: o7 :: o8 :: o9 :: o10 :: o11 :: o12 :: o13 :: o14 :: o15 :: o16 :: o17 :: o18 :: some (.ref y) :: some v :: none :: r) := mn_ps2_of (by simp only [List.length_cons]; omega) rfl
theorem mn_ps2_20l (o0 o1 o2 o3 o4 o5 o6 o7 o8 o9 o10 o11 o12 o13 o14 o15 o16 o17 o18 oa ob : Option Value) (y : Int64) (v : Value) (r : mn_L) (f : mn_L → Prop) : mn_ps2 (o0 :: o1 :: o2 :: o3 :: o4 :: o5 :: o6 :: o7 :: o8 :: o9 :: o10 :: o11 :: o12 :: o13 :: o14 :: o15 :: o16 :: o17 :: o18 :: some (.long y) :: oa :: ob :: r) 20 v f = f (o0 :: o1 :: o2 :: o3 :: o4 :: o5 :: o6 :: o7 :: o8 :: o9 :: o10 :: o11 :: o12 :: o13 :: o14 :: o15 :: o16 :: o17 :: o18 :: none :: some v :: none :: r) := mn_ps2_of (by simp only [List.length_cons]; omega) rfl
theorem mn_ps2_21n (o0 o1 o2 o3 o4 o5 o6 o7 o8 o9 o10 o11 o12 o13 o14 o15 o16 o17 o18 o19 oa ob : Option Value) (v : Value) (r : mn_L) (f : mn_L → Prop) : mn_ps2 (o0 :: o1 :: o2 :: o3 :: o4 :: o5 :: o6 :: o7 :: o8 :: o9 :: o10 :: o11 :: o12 :: o13 :: o14 :: o15 :: o16 :: o17 :: o18 :: o19 :: none :: oa :: ob :: r) 21 v f = f (o0 :: o1 :: o2 :: o3 :: o4 :: o5 :: o6 :: o7 :: o8 :: o9 :: o10 :: o11 :: o12 :: o13 :: o14 :: o15 :: o16 :: o17 :: o18 :: o19 :: none :: some v :: none :: r) := mn_ps2_of (by simp only [List.length_cons]; omega) rfl
theorem mn_ps2_21i (o0 o1 o2 o3 o4 o5 o6 o7 o8 o9 o10 o11 o12 o13 o14 o15 o16 o17 o18 o19 oa ob : Option Value) (y : Int32) (v : Value) (r : mn_L) (f : mn_L → Prop) : mn_ps2 (o0 :: o1 :: o2 :: o3 :: o4 :: o5 :: o6 :: o7 :: o8 :: o9 :: o10 :: o11 :: o12 :: o13 :: o14 :: o15 :: o16 :: o17 :: o18 :: o19 :: some (.int y) :: oa :: ob :: r) 21 v f = f (o0 :: o1 :: o2 :: o3 :: o4 :: o5 :: o6 :: o7 :: o8 :: o9 :: o10 :: o11 :: o12 :: o13 :: o14 :: o15 :: o16 :: o17 :: o18 :: o19 :: some (.int y) :: some v :: none :: r) := mn_ps2_of (by simp only [List.length_cons]; omega) rfl
theorem mn_ps2_21r (o0 o1 o2 o3 o4 o5 o6 o7 o8 o9 o10 o11 o12 o13 o14 o15 o16 o17 o18 o19 oa ob : Option Value) (y : Nat) (v : Value) (r : mn_L) (f : mn_L → Prop) : mn_ps2 (o0 :: o1 :: o2 :: o3 :: o4 :: o5 :: o6 :: o7 :: o8 :: o9 :: o10 :: o11 :: o12 :: o13 :: o14 :: o15 :: o16 :: o17 :: o18 :: o19 :: some (.ref y) :: oa :: ob :: r) 21 v f = f (o0 :: o1 :: o2 :: o3 :: o4 :: o5 :: o6 :: o7 :: o8 :: o9 :: o10 :: o11 :: o12 :: o13 :: o14 :: o15 :: o16 :: o17 :: o18 :: o19 :: some (.ref y) :: some v :: none :: r) := mn_ps2_of (by simp only [List.length_cons]; omega) rfl
theorem mn_ps2_21l (o0 o1 o2 o3 o4 o5 o6 o7 o8 o9 o10 o11 o12 o13 o14 o15 o16 o17 o18 o19 oa ob : Option Value) (y : Int64) (v : Value) (r : mn_L) (f : mn_L → Prop) : mn_ps2 (o0 :: o1 :: o2 :: o3 :: o4 :: o5 :: o6 :: o7 :: o8 :: o9 :: o10 :: o11 :: o12 :: o13 :: o14 :: o15 :: o16 :: o17 :: o18 :: o19 :: some (.long y) :: oa :: ob :: r) 21 v f = f (o0 :: o1 :: o2 :: o3 :: o4 :: o5 :: o6 :: o7 :: o8 :: o9 :: o10 :: o11 :: o12 :: o13 :: o14 :: o15 :: o16 :: o17 :: o18 :: o19 :: none :: some v :: none :: r) := mn_ps2_of (by simp only [List.length_cons]; omega) rfl
theorem mn_gf_0_0 (S : mn_S) (f : Value → Prop) : mn_gf 0 8 0 S f = f (.ref 1) := mn_gf_of (w := (2, 1)) (mn_live_s (k := 0) (by decide)) rfl rfl
theorem mn_gf_0_1 (S : mn_S) (f : Value → Prop) : mn_gf 0 8 1 S f = f (.ref 5) := mn_gf_of (w := (2, 5)) (mn_live_s (k := 0) (by decide)) rfl rfl
theorem mn_gf_0_2 (S : mn_S) (f : Value → Prop) : mn_gf 0 8 2 S f = f (.ref 8) := mn_gf_of (w := (2, 8)) (mn_live_s (k := 0) (by decide)) rfl rfl
theorem mn_gf_0_3 (S : mn_S) (f : Value → Prop) : mn_gf 0 8 3 S f = f (.ref 10) := mn_gf_of (w := (2, 10)) (mn_live_s (k := 0) (by decide)) rfl rfl
theorem mn_gf_0_4 (S : mn_S) (f : Value → Prop) : mn_gf 0 8 4 S f = f (.ref 12) := mn_gf_of (w := (2, 12)) (mn_live_s (k := 0) (by decide)) rfl rfl
theorem mn_gf_0_5 (S : mn_S) (f : Value → Prop) : mn_gf 0 8 5 S f = f (.ref 18) := mn_gf_of (w := (2, 18)) (mn_live_s (k := 0) (by decide)) rfl rfl
theorem mn_gf_0_6 (S : mn_S) (f : Value → Prop) : mn_gf 0 8 6 S f = f (.ref 25) := mn_gf_of (w := (2, 25)) (mn_live_s (k := 0) (by decide)) rfl rfl
theorem mn_gf_1_0 (S : mn_S) (f : Value → Prop) : mn_gf 1 2 0 S f = f (.ref 2) := mn_gf_of (w := (2, 2)) (mn_live_s (k := 1) (by decide)) rfl rfl
theorem mn_gf_1_1 (S : mn_S) (f : Value → Prop) : mn_gf 1 2 1 S f = f (.ref 3) := mn_gf_of (w := (2, 3)) (mn_live_s (k := 1) (by decide)) rfl rfl
theorem mn_gf_1_2 (S : mn_S) (f : Value → Prop) : mn_gf 1 2 2 S f = f (.ref 4) := mn_gf_of (w := (2, 4)) (mn_live_s (k := 1) (by decide)) rfl rfl
theorem mn_gf_1_3 (S : mn_S) (f : Value → Prop) : mn_gf 1 2 3 S f = f (.int (S.1 1 3)) := mn_gf_of (w := (0, 0)) (mn_live_s (k := 1) (by decide)) rfl rfl
theorem mn_pf_1_3 (S : mn_S) (x : Int32) (f : mn_S → Prop) : mn_pf 1 2 3 (.int x) S f = f (mn_wI S 1 3 x) := mn_pf_of0 (mn_live_s (k := 1) (by decide)) rfl rfl
theorem mn_gf_1_4 (S : mn_S) (f : Value → Prop) : mn_gf 1 2 4 S f = f (.int (S.1 1 4)) := mn_gf_of (w := (0, 0)) (mn_live_s (k := 1) (by decide)) rfl rfl
theorem mn_pf_1_4 (S : mn_S) (x : Int32) (f : mn_S → Prop) : mn_pf 1 2 4 (.int x) S f = f (mn_wI S 1 4 x) := mn_pf_of0 (mn_live_s (k := 1) (by decide)) rfl rfl
theorem mn_al_2 (f : Int32 → Prop) : mn_al 2 f = f 12 := mn_al_of (mn_live_s (k := 2) (by decide)) rfl (by decide)
theorem mn_ia_2 (i : Int32) (P : Prop) : mn_ia 2 0 i P = (vp_in i 12 ∧ P) := mn_ia_of (mn_live_s (k := 2) (by decide)) rfl
theorem mn_al_3 (f : Int32 → Prop) : mn_al 3 f = f 12 := mn_al_of (mn_live_s (k := 3) (by decide)) rfl (by decide)
theorem mn_ia_3 (i : Int32) (P : Prop) : mn_ia 3 1 i P = (vp_in i 12 ∧ P) := mn_ia_of (mn_live_s (k := 3) (by decide)) rfl
theorem mn_al_4 (f : Int32 → Prop) : mn_al 4 f = f 12 := mn_al_of (mn_live_s (k := 4) (by decide)) rfl (by decide)
theorem mn_aa_4 (i : Int32) (f : Nat → Prop) : mn_aa 4 i f = (vp_in i 12 ∧ f (100 + 3 * i.toNatClampNeg)) := mn_aa_of (mn_live_s (k := 4) (by decide)) rfl (by decide)
theorem mn_gf_5_0 (S : mn_S) (f : Value → Prop) : mn_gf 5 4 0 S f = f (.ref 6) := mn_gf_of (w := (2, 6)) (mn_live_s (k := 5) (by decide)) rfl rfl
theorem mn_gf_5_1 (S : mn_S) (f : Value → Prop) : mn_gf 5 4 1 S f = f (.ref 7) := mn_gf_of (w := (2, 7)) (mn_live_s (k := 5) (by decide)) rfl rfl
theorem mn_al_6 (f : Int32 → Prop) : mn_al 6 f = f 12 := mn_al_of (mn_live_s (k := 6) (by decide)) rfl (by decide)
theorem mn_ia_6 (i : Int32) (P : Prop) : mn_ia 6 0 i P = (vp_in i 12 ∧ P) := mn_ia_of (mn_live_s (k := 6) (by decide)) rfl
theorem mn_al_7 (f : Int32 → Prop) : mn_al 7 f = f 12 := mn_al_of (mn_live_s (k := 7) (by decide)) rfl (by decide)
theorem mn_ia_7 (i : Int32) (P : Prop) : mn_ia 7 0 i P = (vp_in i 12 ∧ P) := mn_ia_of (mn_live_s (k := 7) (by decide)) rfl
theorem mn_gf_8_0 (S : mn_S) (f : Value → Prop) : mn_gf 8 1 0 S f = f (.ref 9) := mn_gf_of (w := (2, 9)) (mn_live_s (k := 8) (by decide)) rfl rfl
theorem mn_gf_8_1 (S : mn_S) (f : Value → Prop) : mn_gf 8 1 1 S f = f (.int (S.1 8 1)) := mn_gf_of (w := (0, 0)) (mn_live_s (k := 8) (by decide)) rfl rfl
theorem mn_pf_8_1 (S : mn_S) (x : Int32) (f : mn_S → Prop) : mn_pf 8 1 1 (.int x) S f = f (mn_wI S 8 1 x) := mn_pf_of0 (mn_live_s (k := 8) (by decide)) rfl rfl
theorem mn_al_9 (f : Int32 → Prop) : mn_al 9 f = f 12 := mn_al_of (mn_live_s (k := 9) (by decide)) rfl (by decide)
theorem mn_ia_9 (i : Int32) (P : Prop) : mn_ia 9 0 i P = (vp_in i 12 ∧ P) := mn_ia_of (mn_live_s (k := 9) (by decide)) rfl
theorem mn_gf_10_0 (S : mn_S) (f : Value → Prop) : mn_gf 10 0 0 S f = f (.ref 11) := mn_gf_of (w := (2, 11)) (mn_live_s (k := 10) (by decide)) rfl rfl
theorem mn_gf_10_1 (S : mn_S) (f : Value → Prop) : mn_gf 10 0 1 S f = f (.int (S.1 10 1)) := mn_gf_of (w := (0, 0)) (mn_live_s (k := 10) (by decide)) rfl rfl
theorem mn_pf_10_1 (S : mn_S) (x : Int32) (f : mn_S → Prop) : mn_pf 10 0 1 (.int x) S f = f (mn_wI S 10 1 x) := mn_pf_of0 (mn_live_s (k := 10) (by decide)) rfl rfl
theorem mn_gf_10_2 (S : mn_S) (f : Value → Prop) : mn_gf 10 0 2 S f = f (.int (S.1 10 2)) := mn_gf_of (w := (3, 0)) (mn_live_s (k := 10) (by decide)) rfl rfl
theorem mn_pf_10_2 (S : mn_S) (x : Int32) (f : mn_S → Prop) : mn_pf 10 0 2 (.int x) S f = (x &&& 1 = x ∧ f (mn_wI S 10 2 x)) := mn_pf_of3 (mn_live_s (k := 10) (by decide)) rfl rfl
theorem mn_al_11 (f : Int32 → Prop) : mn_al 11 f = f 12 := mn_al_of (mn_live_s (k := 11) (by decide)) rfl (by decide)
theorem mn_ia_11 (i : Int32) (P : Prop) : mn_ia 11 0 i P = (vp_in i 12 ∧ P) := mn_ia_of (mn_live_s (k := 11) (by decide)) rfl
theorem mn_gf_12_0 (S : mn_S) (f : Value → Prop) : mn_gf 12 5 0 S f = f (.ref 13) := mn_gf_of (w := (2, 13)) (mn_live_s (k := 12) (by decide)) rfl rfl
theorem mn_gf_12_1 (S : mn_S) (f : Value → Prop) : mn_gf 12 5 1 S f = f (.ref 17) := mn_gf_of (w := (2, 17)) (mn_live_s (k := 12) (by decide)) rfl rfl
theorem mn_gf_12_2 (S : mn_S) (f : Value → Prop) : mn_gf 12 5 2 S f = f (.long (S.2 12 2)) := mn_gf_of (w := (1, 0)) (mn_live_s (k := 12) (by decide)) rfl rfl
theorem mn_pf_12_2 (S : mn_S) (x : Int64) (f : mn_S → Prop) : mn_pf 12 5 2 (.long x) S f = f (mn_wL S 12 2 x) := mn_pf_of1 (mn_live_s (k := 12) (by decide)) rfl rfl
theorem mn_gf_13_0 (S : mn_S) (f : Value → Prop) : mn_gf 13 6 0 S f = f (.ref 14) := mn_gf_of (w := (2, 14)) (mn_live_s (k := 13) (by decide)) rfl rfl
theorem mn_gf_13_1 (S : mn_S) (f : Value → Prop) : mn_gf 13 6 1 S f = f (.ref 15) := mn_gf_of (w := (2, 15)) (mn_live_s (k := 13) (by decide)) rfl rfl
theorem mn_gf_13_2 (S : mn_S) (f : Value → Prop) : mn_gf 13 6 2 S f = f (.ref 16) := mn_gf_of (w := (2, 16)) (mn_live_s (k := 13) (by decide)) rfl rfl
theorem mn_gf_13_3 (S : mn_S) (f : Value → Prop) : mn_gf 13 6 3 S f = f (.int (S.1 13 3)) := mn_gf_of (w := (0, 0)) (mn_live_s (k := 13) (by decide)) rfl rfl
theorem mn_pf_13_3 (S : mn_S) (x : Int32) (f : mn_S → Prop) : mn_pf 13 6 3 (.int x) S f = f (mn_wI S 13 3 x) := mn_pf_of0 (mn_live_s (k := 13) (by decide)) rfl rfl
theorem mn_al_14 (f : Int32 → Prop) : mn_al 14 f = f 6 := mn_al_of (mn_live_s (k := 14) (by decide)) rfl (by decide)
theorem mn_aa_14 (i : Int32) (f : Nat → Prop) : mn_aa 14 i f = (vp_in i 6 ∧ f (101 + 3 * i.toNatClampNeg)) := mn_aa_of (mn_live_s (k := 14) (by decide)) rfl (by decide)
theorem mn_al_15 (f : Int32 → Prop) : mn_al 15 f = f 6 := mn_al_of (mn_live_s (k := 15) (by decide)) rfl (by decide)
theorem mn_ia_15 (i : Int32) (P : Prop) : mn_ia 15 2 i P = (vp_in i 6 ∧ P) := mn_ia_of (mn_live_s (k := 15) (by decide)) rfl
theorem mn_al_16 (f : Int32 → Prop) : mn_al 16 f = f 64 := mn_al_of (mn_live_s (k := 16) (by decide)) rfl (by decide)
theorem mn_ia_16 (i : Int32) (P : Prop) : mn_ia 16 2 i P = (vp_in i 64 ∧ P) := mn_ia_of (mn_live_s (k := 16) (by decide)) rfl
theorem mn_al_17 (f : Int32 → Prop) : mn_al 17 f = f 6 := mn_al_of (mn_live_s (k := 17) (by decide)) rfl (by decide)
theorem mn_ia_17 (i : Int32) (P : Prop) : mn_ia 17 2 i P = (vp_in i 6 ∧ P) := mn_ia_of (mn_live_s (k := 17) (by decide)) rfl
theorem mn_gf_18_0 (S : mn_S) (f : Value → Prop) : mn_gf 18 3 0 S f = f (.ref 19) := mn_gf_of (w := (2, 19)) (mn_live_s (k := 18) (by decide)) rfl rfl
theorem mn_gf_18_1 (S : mn_S) (f : Value → Prop) : mn_gf 18 3 1 S f = f (.ref 23) := mn_gf_of (w := (2, 23)) (mn_live_s (k := 18) (by decide)) rfl rfl
theorem mn_gf_18_2 (S : mn_S) (f : Value → Prop) : mn_gf 18 3 2 S f = f (.ref 24) := mn_gf_of (w := (2, 24)) (mn_live_s (k := 18) (by decide)) rfl rfl
theorem mn_gf_18_3 (S : mn_S) (f : Value → Prop) : mn_gf 18 3 3 S f = f (.long (S.2 18 3)) := mn_gf_of (w := (1, 0)) (mn_live_s (k := 18) (by decide)) rfl rfl
theorem mn_pf_18_3 (S : mn_S) (x : Int64) (f : mn_S → Prop) : mn_pf 18 3 3 (.long x) S f = f (mn_wL S 18 3 x) := mn_pf_of1 (mn_live_s (k := 18) (by decide)) rfl rfl
theorem mn_gf_19_0 (S : mn_S) (f : Value → Prop) : mn_gf 19 6 0 S f = f (.ref 20) := mn_gf_of (w := (2, 20)) (mn_live_s (k := 19) (by decide)) rfl rfl
theorem mn_gf_19_1 (S : mn_S) (f : Value → Prop) : mn_gf 19 6 1 S f = f (.ref 21) := mn_gf_of (w := (2, 21)) (mn_live_s (k := 19) (by decide)) rfl rfl
theorem mn_gf_19_2 (S : mn_S) (f : Value → Prop) : mn_gf 19 6 2 S f = f (.ref 22) := mn_gf_of (w := (2, 22)) (mn_live_s (k := 19) (by decide)) rfl rfl
theorem mn_gf_19_3 (S : mn_S) (f : Value → Prop) : mn_gf 19 6 3 S f = f (.int (S.1 19 3)) := mn_gf_of (w := (0, 0)) (mn_live_s (k := 19) (by decide)) rfl rfl
theorem mn_pf_19_3 (S : mn_S) (x : Int32) (f : mn_S → Prop) : mn_pf 19 6 3 (.int x) S f = f (mn_wI S 19 3 x) := mn_pf_of0 (mn_live_s (k := 19) (by decide)) rfl rfl
theorem mn_al_20 (f : Int32 → Prop) : mn_al 20 f = f 6 := mn_al_of (mn_live_s (k := 20) (by decide)) rfl (by decide)
theorem mn_aa_20 (i : Int32) (f : Nat → Prop) : mn_aa 20 i f = (vp_in i 6 ∧ f (102 + 3 * i.toNatClampNeg)) := mn_aa_of (mn_live_s (k := 20) (by decide)) rfl (by decide)
theorem mn_al_21 (f : Int32 → Prop) : mn_al 21 f = f 6 := mn_al_of (mn_live_s (k := 21) (by decide)) rfl (by decide)
theorem mn_ia_21 (i : Int32) (P : Prop) : mn_ia 21 2 i P = (vp_in i 6 ∧ P) := mn_ia_of (mn_live_s (k := 21) (by decide)) rfl
theorem mn_al_22 (f : Int32 → Prop) : mn_al 22 f = f 64 := mn_al_of (mn_live_s (k := 22) (by decide)) rfl (by decide)
theorem mn_ia_22 (i : Int32) (P : Prop) : mn_ia 22 2 i P = (vp_in i 64 ∧ P) := mn_ia_of (mn_live_s (k := 22) (by decide)) rfl
theorem mn_al_23 (f : Int32 → Prop) : mn_al 23 f = f 12 := mn_al_of (mn_live_s (k := 23) (by decide)) rfl (by decide)
theorem mn_ia_23 (i : Int32) (P : Prop) : mn_ia 23 0 i P = (vp_in i 12 ∧ P) := mn_ia_of (mn_live_s (k := 23) (by decide)) rfl
theorem mn_al_24 (f : Int32 → Prop) : mn_al 24 f = f 12 := mn_al_of (mn_live_s (k := 24) (by decide)) rfl (by decide)
theorem mn_ia_24 (i : Int32) (P : Prop) : mn_ia 24 2 i P = (vp_in i 12 ∧ P) := mn_ia_of (mn_live_s (k := 24) (by decide)) rfl
theorem mn_gf_25_0 (S : mn_S) (f : Value → Prop) : mn_gf 25 7 0 S f = f (.ref 26) := mn_gf_of (w := (2, 26)) (mn_live_s (k := 25) (by decide)) rfl rfl
theorem mn_gf_25_1 (S : mn_S) (f : Value → Prop) : mn_gf 25 7 1 S f = f (.ref 27) := mn_gf_of (w := (2, 27)) (mn_live_s (k := 25) (by decide)) rfl rfl
theorem mn_gf_25_2 (S : mn_S) (f : Value → Prop) : mn_gf 25 7 2 S f = f (.ref 28) := mn_gf_of (w := (2, 28)) (mn_live_s (k := 25) (by decide)) rfl rfl
theorem mn_gf_25_3 (S : mn_S) (f : Value → Prop) : mn_gf 25 7 3 S f = f (.int (S.1 25 3)) := mn_gf_of (w := (0, 0)) (mn_live_s (k := 25) (by decide)) rfl rfl
theorem mn_pf_25_3 (S : mn_S) (x : Int32) (f : mn_S → Prop) : mn_pf 25 7 3 (.int x) S f = f (mn_wI S 25 3 x) := mn_pf_of0 (mn_live_s (k := 25) (by decide)) rfl rfl
theorem mn_gf_25_4 (S : mn_S) (f : Value → Prop) : mn_gf 25 7 4 S f = f (.int (S.1 25 4)) := mn_gf_of (w := (0, 0)) (mn_live_s (k := 25) (by decide)) rfl rfl
theorem mn_pf_25_4 (S : mn_S) (x : Int32) (f : mn_S → Prop) : mn_pf 25 7 4 (.int x) S f = f (mn_wI S 25 4 x) := mn_pf_of0 (mn_live_s (k := 25) (by decide)) rfl rfl
theorem mn_gf_25_5 (S : mn_S) (f : Value → Prop) : mn_gf 25 7 5 S f = f (.int (S.1 25 5)) := mn_gf_of (w := (0, 0)) (mn_live_s (k := 25) (by decide)) rfl rfl
theorem mn_pf_25_5 (S : mn_S) (x : Int32) (f : mn_S → Prop) : mn_pf 25 7 5 (.int x) S f = f (mn_wI S 25 5 x) := mn_pf_of0 (mn_live_s (k := 25) (by decide)) rfl rfl
theorem mn_al_26 (f : Int32 → Prop) : mn_al 26 f = f 500 := mn_al_of (mn_live_s (k := 26) (by decide)) rfl (by decide)
theorem mn_ia_26 (i : Int32) (P : Prop) : mn_ia 26 2 i P = (vp_in i 500 ∧ P) := mn_ia_of (mn_live_s (k := 26) (by decide)) rfl
theorem mn_al_27 (f : Int32 → Prop) : mn_al 27 f = f 500 := mn_al_of (mn_live_s (k := 27) (by decide)) rfl (by decide)
theorem mn_ia_27 (i : Int32) (P : Prop) : mn_ia 27 0 i P = (vp_in i 500 ∧ P) := mn_ia_of (mn_live_s (k := 27) (by decide)) rfl
theorem mn_al_28 (f : Int32 → Prop) : mn_al 28 f = f 1024 := mn_al_of (mn_live_s (k := 28) (by decide)) rfl (by decide)
theorem mn_ia_28 (i : Int32) (P : Prop) : mn_ia 28 0 i P = (vp_in i 1024 ∧ P) := mn_ia_of (mn_live_s (k := 28) (by decide)) rfl
theorem mn_gf_29_0 (S : mn_S) (f : Value → Prop) : mn_gf 29 9 0 S f = f (.ref 30) := mn_gf_of (w := (2, 30)) (mn_live_s (k := 29) (by decide)) rfl rfl
theorem mn_gf_29_1 (S : mn_S) (f : Value → Prop) : mn_gf 29 9 1 S f = f (.ref 31) := mn_gf_of (w := (2, 31)) (mn_live_s (k := 29) (by decide)) rfl rfl
theorem mn_gf_29_2 (S : mn_S) (f : Value → Prop) : mn_gf 29 9 2 S f = f (.ref 32) := mn_gf_of (w := (2, 32)) (mn_live_s (k := 29) (by decide)) rfl rfl
theorem mn_gf_29_3 (S : mn_S) (f : Value → Prop) : mn_gf 29 9 3 S f = f (.int (S.1 29 3)) := mn_gf_of (w := (0, 0)) (mn_live_s (k := 29) (by decide)) rfl rfl
theorem mn_pf_29_3 (S : mn_S) (x : Int32) (f : mn_S → Prop) : mn_pf 29 9 3 (.int x) S f = f (mn_wI S 29 3 x) := mn_pf_of0 (mn_live_s (k := 29) (by decide)) rfl rfl
theorem mn_gf_29_4 (S : mn_S) (f : Value → Prop) : mn_gf 29 9 4 S f = f (.int (S.1 29 4)) := mn_gf_of (w := (0, 0)) (mn_live_s (k := 29) (by decide)) rfl rfl
theorem mn_pf_29_4 (S : mn_S) (x : Int32) (f : mn_S → Prop) : mn_pf 29 9 4 (.int x) S f = f (mn_wI S 29 4 x) := mn_pf_of0 (mn_live_s (k := 29) (by decide)) rfl rfl
theorem mn_gf_29_5 (S : mn_S) (f : Value → Prop) : mn_gf 29 9 5 S f = f (.ref 33) := mn_gf_of (w := (2, 33)) (mn_live_s (k := 29) (by decide)) rfl rfl
theorem mn_gf_29_6 (S : mn_S) (f : Value → Prop) : mn_gf 29 9 6 S f = f (.int (S.1 29 6)) := mn_gf_of (w := (0, 0)) (mn_live_s (k := 29) (by decide)) rfl rfl
theorem mn_pf_29_6 (S : mn_S) (x : Int32) (f : mn_S → Prop) : mn_pf 29 9 6 (.int x) S f = f (mn_wI S 29 6 x) := mn_pf_of0 (mn_live_s (k := 29) (by decide)) rfl rfl
theorem mn_gf_29_7 (S : mn_S) (f : Value → Prop) : mn_gf 29 9 7 S f = f (.int (S.1 29 7)) := mn_gf_of (w := (3, 0)) (mn_live_s (k := 29) (by decide)) rfl rfl
theorem mn_pf_29_7 (S : mn_S) (x : Int32) (f : mn_S → Prop) : mn_pf 29 9 7 (.int x) S f = (x &&& 1 = x ∧ f (mn_wI S 29 7 x)) := mn_pf_of3 (mn_live_s (k := 29) (by decide)) rfl rfl
theorem mn_gf_29_8 (S : mn_S) (f : Value → Prop) : mn_gf 29 9 8 S f = f (.ref 34) := mn_gf_of (w := (2, 34)) (mn_live_s (k := 29) (by decide)) rfl rfl
theorem mn_gf_29_9 (S : mn_S) (f : Value → Prop) : mn_gf 29 9 9 S f = f (.ref 35) := mn_gf_of (w := (2, 35)) (mn_live_s (k := 29) (by decide)) rfl rfl
theorem mn_gf_29_10 (S : mn_S) (f : Value → Prop) : mn_gf 29 9 10 S f = f (.ref 36) := mn_gf_of (w := (2, 36)) (mn_live_s (k := 29) (by decide)) rfl rfl
theorem mn_gf_29_11 (S : mn_S) (f : Value → Prop) : mn_gf 29 9 11 S f = f (.ref 37) := mn_gf_of (w := (2, 37)) (mn_live_s (k := 29) (by decide)) rfl rfl
theorem mn_gf_29_12 (S : mn_S) (f : Value → Prop) : mn_gf 29 9 12 S f = f (.ref 38) := mn_gf_of (w := (2, 38)) (mn_live_s (k := 29) (by decide)) rfl rfl
theorem mn_gf_29_13 (S : mn_S) (f : Value → Prop) : mn_gf 29 9 13 S f = f (.int (S.1 29 13)) := mn_gf_of (w := (0, 0)) (mn_live_s (k := 29) (by decide)) rfl rfl
theorem mn_pf_29_13 (S : mn_S) (x : Int32) (f : mn_S → Prop) : mn_pf 29 9 13 (.int x) S f = f (mn_wI S 29 13 x) := mn_pf_of0 (mn_live_s (k := 29) (by decide)) rfl rfl
theorem mn_gf_29_14 (S : mn_S) (f : Value → Prop) : mn_gf 29 9 14 S f = f (.ref 39) := mn_gf_of (w := (2, 39)) (mn_live_s (k := 29) (by decide)) rfl rfl
theorem mn_gf_29_15 (S : mn_S) (f : Value → Prop) : mn_gf 29 9 15 S f = f (.long (S.2 29 15)) := mn_gf_of (w := (1, 0)) (mn_live_s (k := 29) (by decide)) rfl rfl
theorem mn_pf_29_15 (S : mn_S) (x : Int64) (f : mn_S → Prop) : mn_pf 29 9 15 (.long x) S f = f (mn_wL S 29 15 x) := mn_pf_of1 (mn_live_s (k := 29) (by decide)) rfl rfl
theorem mn_gf_29_16 (S : mn_S) (f : Value → Prop) : mn_gf 29 9 16 S f = f (.ref 40) := mn_gf_of (w := (2, 40)) (mn_live_s (k := 29) (by decide)) rfl rfl
theorem mn_gf_29_17 (S : mn_S) (f : Value → Prop) : mn_gf 29 9 17 S f = f (.int (S.1 29 17)) := mn_gf_of (w := (0, 0)) (mn_live_s (k := 29) (by decide)) rfl rfl
theorem mn_pf_29_17 (S : mn_S) (x : Int32) (f : mn_S → Prop) : mn_pf 29 9 17 (.int x) S f = f (mn_wI S 29 17 x) := mn_pf_of0 (mn_live_s (k := 29) (by decide)) rfl rfl
theorem mn_gf_29_18 (S : mn_S) (f : Value → Prop) : mn_gf 29 9 18 S f = f (.ref 41) := mn_gf_of (w := (2, 41)) (mn_live_s (k := 29) (by decide)) rfl rfl
theorem mn_gf_29_19 (S : mn_S) (f : Value → Prop) : mn_gf 29 9 19 S f = f (.long (S.2 29 19)) := mn_gf_of (w := (1, 0)) (mn_live_s (k := 29) (by decide)) rfl rfl
theorem mn_pf_29_19 (S : mn_S) (x : Int64) (f : mn_S → Prop) : mn_pf 29 9 19 (.long x) S f = f (mn_wL S 29 19 x) := mn_pf_of1 (mn_live_s (k := 29) (by decide)) rfl rfl
theorem mn_gf_29_20 (S : mn_S) (f : Value → Prop) : mn_gf 29 9 20 S f = f (.ref 42) := mn_gf_of (w := (2, 42)) (mn_live_s (k := 29) (by decide)) rfl rfl
theorem mn_gf_29_21 (S : mn_S) (f : Value → Prop) : mn_gf 29 9 21 S f = f (.ref 43) := mn_gf_of (w := (2, 43)) (mn_live_s (k := 29) (by decide)) rfl rfl
theorem mn_gf_29_22 (S : mn_S) (f : Value → Prop) : mn_gf 29 9 22 S f = f (.int (S.1 29 22)) := mn_gf_of (w := (0, 0)) (mn_live_s (k := 29) (by decide)) rfl rfl
theorem mn_pf_29_22 (S : mn_S) (x : Int32) (f : mn_S → Prop) : mn_pf 29 9 22 (.int x) S f = f (mn_wI S 29 22 x) := mn_pf_of0 (mn_live_s (k := 29) (by decide)) rfl rfl
theorem mn_al_30 (f : Int32 → Prop) : mn_al 30 f = f 12 := mn_al_of (mn_live_s (k := 30) (by decide)) rfl (by decide)
theorem mn_ia_30 (i : Int32) (P : Prop) : mn_ia 30 0 i P = (vp_in i 12 ∧ P) := mn_ia_of (mn_live_s (k := 30) (by decide)) rfl
theorem mn_al_31 (f : Int32 → Prop) : mn_al 31 f = f 12 := mn_al_of (mn_live_s (k := 31) (by decide)) rfl (by decide)
theorem mn_ia_31 (i : Int32) (P : Prop) : mn_ia 31 1 i P = (vp_in i 12 ∧ P) := mn_ia_of (mn_live_s (k := 31) (by decide)) rfl
theorem mn_al_32 (f : Int32 → Prop) : mn_al 32 f = f 144 := mn_al_of (mn_live_s (k := 32) (by decide)) rfl (by decide)
theorem mn_ia_32 (i : Int32) (P : Prop) : mn_ia 32 0 i P = (vp_in i 144 ∧ P) := mn_ia_of (mn_live_s (k := 32) (by decide)) rfl
theorem mn_al_33 (f : Int32 → Prop) : mn_al 33 f = f 12 := mn_al_of (mn_live_s (k := 33) (by decide)) rfl (by decide)
theorem mn_ia_33 (i : Int32) (P : Prop) : mn_ia 33 0 i P = (vp_in i 12 ∧ P) := mn_ia_of (mn_live_s (k := 33) (by decide)) rfl
theorem mn_al_34 (f : Int32 → Prop) : mn_al 34 f = f 12 := mn_al_of (mn_live_s (k := 34) (by decide)) rfl (by decide)
theorem mn_ia_34 (i : Int32) (P : Prop) : mn_ia 34 0 i P = (vp_in i 12 ∧ P) := mn_ia_of (mn_live_s (k := 34) (by decide)) rfl
theorem mn_al_35 (f : Int32 → Prop) : mn_al 35 f = f 12 := mn_al_of (mn_live_s (k := 35) (by decide)) rfl (by decide)
theorem mn_ia_35 (i : Int32) (P : Prop) : mn_ia 35 0 i P = (vp_in i 12 ∧ P) := mn_ia_of (mn_live_s (k := 35) (by decide)) rfl
theorem mn_al_36 (f : Int32 → Prop) : mn_al 36 f = f 12 := mn_al_of (mn_live_s (k := 36) (by decide)) rfl (by decide)
theorem mn_ia_36 (i : Int32) (P : Prop) : mn_ia 36 0 i P = (vp_in i 12 ∧ P) := mn_ia_of (mn_live_s (k := 36) (by decide)) rfl
theorem mn_al_37 (f : Int32 → Prop) : mn_al 37 f = f 12 := mn_al_of (mn_live_s (k := 37) (by decide)) rfl (by decide)
theorem mn_ia_37 (i : Int32) (P : Prop) : mn_ia 37 1 i P = (vp_in i 12 ∧ P) := mn_ia_of (mn_live_s (k := 37) (by decide)) rfl
theorem mn_al_38 (f : Int32 → Prop) : mn_al 38 f = f 36 := mn_al_of (mn_live_s (k := 38) (by decide)) rfl (by decide)
theorem mn_ia_38 (i : Int32) (P : Prop) : mn_ia 38 2 i P = (vp_in i 36 ∧ P) := mn_ia_of (mn_live_s (k := 38) (by decide)) rfl
theorem mn_al_39 (f : Int32 → Prop) : mn_al 39 f = f 6 := mn_al_of (mn_live_s (k := 39) (by decide)) rfl (by decide)
theorem mn_ia_39 (i : Int32) (P : Prop) : mn_ia 39 2 i P = (vp_in i 6 ∧ P) := mn_ia_of (mn_live_s (k := 39) (by decide)) rfl
theorem mn_al_40 (f : Int32 → Prop) : mn_al 40 f = f 12 := mn_al_of (mn_live_s (k := 40) (by decide)) rfl (by decide)
theorem mn_ia_40 (i : Int32) (P : Prop) : mn_ia 40 0 i P = (vp_in i 12 ∧ P) := mn_ia_of (mn_live_s (k := 40) (by decide)) rfl
theorem mn_al_41 (f : Int32 → Prop) : mn_al 41 f = f 12 := mn_al_of (mn_live_s (k := 41) (by decide)) rfl (by decide)
theorem mn_ia_41 (i : Int32) (P : Prop) : mn_ia 41 2 i P = (vp_in i 12 ∧ P) := mn_ia_of (mn_live_s (k := 41) (by decide)) rfl
theorem mn_al_42 (f : Int32 → Prop) : mn_al 42 f = f 2000 := mn_al_of (mn_live_s (k := 42) (by decide)) rfl (by decide)
theorem mn_ia_42 (i : Int32) (P : Prop) : mn_ia 42 0 i P = (vp_in i 2000 ∧ P) := mn_ia_of (mn_live_s (k := 42) (by decide)) rfl
theorem mn_al_43 (f : Int32 → Prop) : mn_al 43 f = f 500 := mn_al_of (mn_live_s (k := 43) (by decide)) rfl (by decide)
theorem mn_ia_43 (i : Int32) (P : Prop) : mn_ia 43 0 i P = (vp_in i 500 ∧ P) := mn_ia_of (mn_live_s (k := 43) (by decide)) rfl
theorem mn_ia_w (j : Nat) (i : Int32) (P : Prop) : mn_ia (100 + 3 * j) 0 i P = (j < 12 ∧ vp_in i 12 ∧ P) := mn_ia_ofL (mn_live_w j) (mn_sh_w j)
theorem mn_ia_q0 (j : Nat) (i : Int32) (P : Prop) : mn_ia (101 + 3 * j) 2 i P = (j < 6 ∧ vp_in i 6 ∧ P) := mn_ia_ofL (mn_live_q0 j) (mn_sh_q0 j)
theorem mn_ia_q1 (j : Nat) (i : Int32) (P : Prop) : mn_ia (102 + 3 * j) 2 i P = (j < 6 ∧ vp_in i 6 ∧ P) := mn_ia_ofL (mn_live_q1 j) (mn_sh_q1 j)
theorem mn_sw0_c (x : Int32) (lo hi : Int) (d : Nat) (r : List Nat) (f : Nat → Prop) : mn_sw0 x lo hi (d :: r) f = ((-2147483648 ≤ lo ∧ lo + r.length ≤ 2147483648) ∧ mn_sw x d lo r f) := mn_hid rfl
theorem mn_sw_c (x : Int32) (d t : Nat) (lo : Int) (r : List Nat) (f : Nat → Prop) : mn_sw x d lo (t :: r) f = mn_if (x = Int32.ofInt lo) (f t) (mn_sw x d (lo + 1) r f) := mn_hid rfl
theorem mn_sw_n (x : Int32) (d : Nat) (lo : Int) (f : Nat → Prop) : mn_sw x d lo [] f = f d := mn_hid rfl
theorem mn_if_t (A B : Prop) : mn_if True A B = A := propext ⟨fun h => h.1 trivial, fun h => ⟨fun _ => h, fun q => absurd trivial q⟩⟩
theorem mn_if_f (A B : Prop) : mn_if False A B = B := propext ⟨fun h => h.2 not_false, fun h => ⟨fun q => q.elim, fun _ => h⟩⟩
theorem mn_if_of {c A B : Prop} (h1 : c → A) (h2 : ¬ c → B) : mn_if c A B := ⟨h1, h2⟩
def mn_b (c : Bool) : Int32 := if c = true then 1 else 0
theorem mn_b_0 (c : Bool) : (mn_b c = 0) = (c = false) := by cases c <;> decide
theorem mn_b_t : mn_b true = 1 := mn_hid rfl
theorem mn_b_f : mn_b false = 0 := mn_hid rfl
theorem mn_b_and (c : Bool) : mn_b c &&& 1 = mn_b c := by cases c <;> decide
theorem mn_b_01 (c : Bool) : mn_b c = 0 ∨ mn_b c = 1 := by cases c <;> decide
theorem mn_wI_1 (S : mn_S) (a i : Nat) (x : Int32) (b j : Nat) : (mn_wI S a i x).1 b j = if b = a ∧ j = i then x else S.1 b j := mn_hid rfl
theorem mn_wI_2 (S : mn_S) (a i : Nat) (x : Int32) : (mn_wI S a i x).2 = S.2 := mn_hid rfl
theorem mn_wL_1 (S : mn_S) (a i : Nat) (x : Int64) : (mn_wL S a i x).1 = S.1 := mn_hid rfl
theorem mn_wL_2 (S : mn_S) (a i : Nat) (x : Int64) (b j : Nat) : (mn_wL S a i x).2 b j = if b = a ∧ j = i then x else S.2 b j := mn_hid rfl
theorem mn_sv {K : mn_K} {S S' : mn_S} {v v' : Option Value} (h : K v S) (e : v = v') (e2 : S = S') : K v' S' := by
  rw [← e, ← e2]
  exact h
theorem sp_abs_c (x : Int32) (S : mn_S) (K : mn_K) : sp_abs [.int x] S K = K (some (.int (if 0 ≤ x then x else 0 - x))) S := mn_hid rfl
theorem sp_max_c (x y : Int32) (S : mn_S) (K : mn_K) : sp_max [.int x, .int y] S K = K (some (.int (if x < y then y else x))) S := mn_hid rfl
theorem sp_min_c (x y : Int32) (S : mn_S) (K : mn_K) : sp_min [.int x, .int y] S K = K (some (.int (if y < x then y else x))) S := mn_hid rfl
/-- a loop that counts up -/
theorem mn_for {J : mn_C} {h N : Nat} (lv : Nat → mn_L) (S : Nat → mn_S) (step : ∀ i, i ≤ N → (i < N → J h (lv (i + 1)) [] (S (i + 1))) → J h (lv i) [] (S i)) : ∀ i, i ≤ N → J h (lv i) [] (S i) := by
  have key : ∀ d i, i ≤ N → N - i = d → J h (lv i) [] (S i) := by
    intro d
    induction d with
    | zero => intro i hi hd; exact step i hi (fun q => by omega)
    | succ d ih => intro i hi hd; exact step i hi (fun q => ih (i + 1) (by omega) (by omega))
  exact fun i hi => key _ i hi rfl
/-- the same, the state under an invariant -/
theorem mn_forI {J : mn_C} {h N : Nat} (I : Nat → mn_L → mn_S → Prop) (step : ∀ i lv S, i ≤ N → I i lv S → (i < N → ∀ lv S, I (i + 1) lv S → J h lv [] S) → J h lv [] S) : ∀ i lv S, i ≤ N → I i lv S → J h lv [] S := by
  have key : ∀ d i lv S, i ≤ N → I i lv S → N - i = d → J h lv [] S := by
    intro d
    induction d with
    | zero => intro i lv S hi hI hd; exact step i lv S hi hI (fun q => by omega)
    | succ d ih => intro i lv S hi hI hd; exact step i lv S hi hI (fun q lv S hI2 => ih (i + 1) lv S (by omega) hI2 (by omega))
  exact fun i lv S hi hI => key _ i lv S hi hI rfl
/-- a loop with a measure that falls -/
theorem mn_whl {J : mn_C} {h : Nat} (I : Nat → mn_L → mn_S → Prop) (step : ∀ i lv S, I i lv S → (∀ j lv S, j < i → I j lv S → J h lv [] S) → J h lv [] S) : ∀ i lv S, I i lv S → J h lv [] S := by
  intro i
  induction i using Nat.strongRecOn with
  | _ i ih => intro lv S hI; exact step i lv S hI (fun j lv S hj hI2 => ih j hj lv S hI2)
/-- one stop -/
theorem mn_at1 {b : mn_B} {K : mn_K} {J : mn_C} (hJ : mn_Cl b K J) (h : Nat) {P : mn_C} (hs : ∀ lv st S, P h lv st S → J h lv st S) (n : Nat) {pc : Nat} {lv : mn_L} {st : List Value} {S : mn_S} (hw : mn_wp b K [h] P n true pc lv st S) : J pc lv st S :=
  mn_wp_J hJ (fun pc hc lv st S hP => by
    have e : pc = h := by simpa using hc
    subst e
    exact hs lv st S hP) n true pc lv st S hw
theorem mn_at0 {b : mn_B} {K : mn_K} {J : mn_C} (hJ : mn_Cl b K J) (n : Nat) {pc : Nat} {lv : mn_L} {st : List Value} {S : mn_S} (hw : mn_wp b K [] (fun _ _ _ _ => True) n true pc lv st S) : J pc lv st S :=
  mn_wp_J hJ (ss := []) (fun pc hc => absurd hc Bool.false_ne_true) n true pc lv st S hw
theorem mn_at2 {b : mn_B} {K : mn_K} {J : mn_C} (hJ : mn_Cl b K J) (h1 h2 : Nat) {P : mn_C} (hs1 : ∀ lv st S, P h1 lv st S → J h1 lv st S) (hs2 : ∀ lv st S, P h2 lv st S → J h2 lv st S) (n : Nat) {pc : Nat} {lv : mn_L} {st : List Value} {S : mn_S} (hw : mn_wp b K [h1, h2] P n true pc lv st S) : J pc lv st S :=
  mn_wp_J hJ (fun pc hc lv st S hP => by
    have e : pc = h1 ∨ pc = h2 := by simpa using hc
    rcases e with e | e
    · subst e
      exact hs1 lv st S hP
    · subst e
      exact hs2 lv st S hP) n true pc lv st S hw
/-- what a stop asks, where all is known there -/
def mn_eq (h : Nat) (lv : mn_L) (S : mn_S) : mn_C := fun pc lv' st' S' => pc = h ∧ mn_sub lv lv' ∧ st' = [] ∧ S' = S
theorem mn_eqJ {b : mn_B} {K : mn_K} {J : mn_C} (hJ : mn_Cl b K J) {h : Nat} {lv : mn_L} {S : mn_S} (hh : J h lv [] S) : ∀ lv' st' S', mn_eq h lv S h lv' st' S' → J h lv' st' S' := by
  rintro lv' st' S' ⟨-, hs, rfl, rfl⟩
  exact hJ.1 _ _ _ _ _ hs hh
theorem mn_sub_n : mn_sub [] [] = True := mn_hid rfl
theorem mn_sub_0 (r r' : mn_L) (o : Option Value) : mn_sub (none :: r) (o :: r') = mn_sub r r' := mn_hid rfl
theorem mn_sub_1 (r r' : mn_L) (v : Value) (o : Option Value) : mn_sub (some v :: r) (o :: r') = (o = some v ∧ mn_sub r r') := mn_hid rfl
theorem mn_le_f {i n : Nat} (h : i < n) (hn : n ≤ 5000) : (nI n ≤ nI i) = False := eq_false (by rw [nI_leI (by omega) (by omega)]; omega)
theorem mn_le_t {i n : Nat} (h : n ≤ i) (hn : i ≤ 5000) : (nI n ≤ nI i) = True := eq_true (by rw [nI_leI (by omega) (by omega)]; omega)
theorem mn_lt_f {i n : Nat} (h : i ≤ n) (hn : n ≤ 5000) : (nI n < nI i) = False := eq_false (by rw [nI_ltI (by omega) (by omega)]; omega)
theorem mn_lt_t {i n : Nat} (h : n < i) (hn : i ≤ 5000) : (nI n < nI i) = True := eq_true (by rw [nI_ltI (by omega) (by omega)]; omega)
theorem mn_eq_i {i n : Nat} (h : i ≤ 5000) (hn : n ≤ 5000) : (nI n = nI i) = (n = i) := propext (nI_eq (by omega) (by omega))
theorem mn_cl_i {i : Nat} (h : i ≤ 5000) : (nI i).toNatClampNeg = i := nI_clamp (by omega)
theorem mn_in_i {i n : Nat} (h : i < n) (hn : n ≤ 5000) : vp_in (nI i) n = True := eq_true (vp_in_nI h (by omega))
def mn_sum (f : Nat → Int32) (n : Nat) : Int32 := match n with
  | 0 => 0
  | n + 1 => mn_sum f n + f n
theorem mn_sum_s (f : Nat → Int32) (n : Nat) : mn_sum f (n + 1) = mn_sum f n + f n := mn_hid rfl
theorem mn_sum_0 (f : Nat → Int32) : mn_sum f 0 = 0 := mn_hid rfl
theorem mn_sum_c {f g : Nat → Int32} {n : Nat} (h : ∀ i, i < n → f i = g i) : mn_sum f n = mn_sum g n := by
  induction n with
  | zero => rfl
  | succ n ih => rw [mn_sum_s, mn_sum_s, ih (fun i hi => h i (by omega)), h n (by omega)]
theorem mn_c32 (n : Nat) : Int32.ofNat n = nI n := mn_hid rfl
