/-! ===== the law: its start, its loop ===== -/
theorem lw_aT {s : State} {args : Array Value} {ty : FieldType} (h : (Cond.arrayClass ty).before args s = true) : ∃ cA : ClassId, ArrOfT s cA ty ∧ s.vm.findClass ("[" ++ ty.toString) = some cA := by
  obtain ⟨cA, kA, comp, h1, h2, h3⟩ := Cond.arrayClass_spec h
  exact ⟨cA, fun n z => ⟨fun k h => (by cases h), kA, h2, comp, h3⟩, h1⟩
theorem lw_oT {s : State} {ty : FieldType} (h : va_AOA ty s) : ∃ cA : ClassId, ArrOfT s cA (.array ty) ∧ s.vm.findClass ("[" ++ (FieldType.array ty).toString) = some cA := by
  obtain ⟨comp, c, k, h1, h2, h3, h4⟩ := Cond.arrayOver_specA h
  exact ⟨c, fun n z => ⟨fun k h => (by cases h), k, h2, comp, h3⟩, h4⟩
theorem lw_K {s : State} {args : Array Value} (hts : ∀ w ∈ lw_tbl, w.before args s = true) (o1 : va_AOA .int s) (o2 : va_AOA .long s) : ∃ (D : va_G) (T : Nat → ClassId), va_K D vwCl (mn_tys (fun _ => 0, D, T)) s := by
  obtain ⟨c0, i0, k0⟩ := u_known (C := RX0) (T := TX0) (N := 3) hts inX0 (hts (.instantiable RX0 3) (by decide +kernel))
  obtain ⟨c1, i1, k1⟩ := u_known (C := RX1) (T := TX1) (N := 2) hts inX1 (hts (.instantiable RX1 2) (by decide +kernel))
  obtain ⟨c2, i2, k2⟩ := u_known (C := RX2) (T := TX2) (N := 5) hts inX2 (hts (.instantiable RX2 5) (by decide +kernel))
  obtain ⟨c3, i3, k3⟩ := u_known (C := RX3) (T := TX3) (N := 4) hts inX3 (hts (.instantiable RX3 4) (by decide +kernel))
  obtain ⟨c4, i4, k4⟩ := u_known (C := RX4) (T := TX4) (N := 2) hts inX4 (hts (.instantiable RX4 2) (by decide +kernel))
  obtain ⟨c5, i5, k5⟩ := u_known (C := RX5) (T := TX5) (N := 3) hts inX5 (hts (.instantiable RX5 3) (by decide +kernel))
  obtain ⟨c6, i6, k6⟩ := u_known (C := RX6) (T := TX6) (N := 4) hts inX6 (hts (.instantiable RX6 4) (by decide +kernel))
  obtain ⟨c7, i7, k7⟩ := u_known (C := RX7) (T := TX7) (N := 6) hts inX7 (hts (.instantiable RX7 6) (by decide +kernel))
  obtain ⟨c8, i8, k8⟩ := u_known (C := RX8) (T := TX8) (N := 7) hts inX8 (hts (.instantiable RX8 7) (by decide +kernel))
  obtain ⟨c9, i9, k9⟩ := u_known (C := RX9) (T := TX9) (N := 23) hts inX9 (hts (.instantiable RX9 23) (by decide +kernel))
  obtain ⟨t0, a0, b0⟩ := lw_aT (ty := .int) (hts (.arrayClass .int) (by decide +kernel))
  obtain ⟨t1, a1, b1⟩ := lw_aT (ty := .boolean) (hts (.arrayClass .boolean) (by decide +kernel))
  obtain ⟨t2, a2, b2⟩ := lw_aT (ty := .long) (hts (.arrayClass .long) (by decide +kernel))
  obtain ⟨t3, a3, b3⟩ := lw_oT o1
  obtain ⟨t4, a4, b4⟩ := lw_oT o2
  refine ⟨(fun c => match c with
    | 0 => c0
    | 1 => c1
    | 2 => c2
    | 3 => c3
    | 4 => c4
    | 5 => c5
    | 6 => c6
    | 7 => c7
    | 8 => c8
    | _ => c9
    , fun c => match c with
    | 0 => i0
    | 1 => i1
    | 2 => i2
    | 3 => i3
    | 4 => i4
    | 5 => i5
    | 6 => i6
    | 7 => i7
    | 8 => i8
    | _ => i9
    ), fun t => match t with
    | 0 => t0
    | 1 => t1
    | 2 => t2
    | 3 => t3
    | _ => t4
    , fun c q hq => ?_, fun k q hk => ?_⟩
  · match c, hq with
    | 0, hq => cases hq; exact k0
    | 1, hq => cases hq; exact k1
    | 2, hq => cases hq; exact k2
    | 3, hq => cases hq; exact k3
    | 4, hq => cases hq; exact k4
    | 5, hq => cases hq; exact k5
    | 6, hq => cases hq; exact k6
    | 7, hq => cases hq; exact k7
    | 8, hq => cases hq; exact k8
    | 9, hq => cases hq; exact k9
    | n + 10, hq => cases hq
  · match k, hk with
    | 0, hk => cases hk; exact ⟨a0, b0⟩
    | 1, hk => cases hk; exact ⟨a1, b1⟩
    | 2, hk => cases hk; exact ⟨a2, b2⟩
    | 3, hk => cases hk; exact ⟨a3, b3⟩
    | 4, hk => cases hk; exact ⟨a4, b4⟩
    | n + 5, hk => cases hk
theorem cs_nest_in : ∀ x ∈ cs_nest, Cond.methodLinkNest x.1 x.2.1 x.2.2 "MindNet" ∈ lw_tbl := by decide +kernel
theorem cs_S0 {k : Nat} (h1 : k ≠ 1) (h2 : k ≠ 29) (j : Nat) : cs_S.1 k j = 0 := by
  unfold cs_S
  dsimp only
  rw [if_neg h1, if_neg h2]
theorem lw_R0 : lw_R cs_S 0 := by
  refine ⟨⟨rfl, by decide⟩, rfl, rfl, fun j => rfl, fun j => rfl, fun i j _ _ => ?_, fun j => ⟨0, by decide, rfl⟩, fun i j _ _ => ⟨0, by decide, ?_⟩, ⟨rfl, Or.inl rfl⟩, rfl⟩
  · rw [cs_S0 (by decide) (by decide), cs_S0 (by omega) (by omega)]
  · rw [cs_S0 (by omega) (by omega)]
    rfl
theorem lw_ix {j k L : Nat} (h : j + k < L) (hL : L ≤ 2048) : vp_in (Int32.ofNat j + Int32.ofNat k) L := by
  have e : Int32.ofNat j + Int32.ofNat k = nI (j + k) := (Int32.ofNat_add j k).symm
  rw [e]
  exact vp_in_nI h (by omega)
theorem lw_out {j L : Nat} (h : L < j + 4) (hj : j ≤ 2052) (hL : L ≤ 2048) : Int32.ofNat L - 4 < Int32.ofNat j := by
  rw [Int32.lt_iff_toInt_lt]
  have e1 : (Int32.ofNat j).toInt = j := Int32.toInt_ofNat_of_lt (by omega)
  have e2 : (Int32.ofNat L - 4).toInt = (L : Int) - 4 := by
    have e3 : (Int32.ofNat L).toInt = L := Int32.toInt_ofNat_of_lt (by omega)
    rw [Int32.toInt_sub, e3]
    show ((L : Int) - 4).bmod (2 ^ 32) = _
    exact Int.bmod_eq_of_le (by omega) (by omega)
  omega
section LWW
variable {p : Program} {l : Launch} {e : Env} {s : State} {m : MethodId} {below : List Frame} {meth : Method} {c : Code} {cells slots : Nat} {Q : State → Prop} {E : mn_E} {b L : Nat} {xs : Nat → Int32}
set_option maxHeartbeats 4000000 in
theorem lw_loop (C : lw_Cx p s m c b L xs E) (hL : L ≤ 2048) (hf : cells + 0 ≤ room_1.cells ∧ slots + 0 ≤ room_1.slots) (hend : ∀ (H : Heap) (locs : List Loc) (ls : Array Slot), va_S (fun q => s.heap.size ≤ q) s.heap H locs → W p l e room_1 s m #[Value.ref b] below meth c H locs cells slots Q (F0 m 693 ls [])) : ∀ (f j : Nat), L < f + j → j ≤ 2048 + 4 → ∀ (S : mn_S) (n : Nat) (H : Heap) (locs : List Loc) (ls : Array Slot), lw_R S n → va_P E.2.1 vwCl (mn_wl E S) H → va_S (fun q => s.heap.size ≤ q) s.heap H locs → lv_has ls 4 (lw_lv E b (Int32.ofNat j)) → W p l e room_1 s m #[Value.ref b] below meth c H locs cells slots Q (F0 m 18 ls []) := by
  obtain ⟨hx, hb, hml, hown, hts, hX, hbl, hEK, hAE⟩ := id C
  intro f
  induction f with
  | zero =>
    intro j hj hj2 S n H locs ls hR hP hS hl
    refine lv_iload_n hx hb dL_law_18 rfl (lv_at hl 0 rfl) ?_
    refine lv_aload_n hx hb dL_law_19 rfl (lv_at hl 3 rfl) ?_
    refine va_slen hx hb hX hbl (fun h => absurd hbl (Nat.not_lt.mpr h)) hS dL_law_20 ?_
    refine lv_iconst (v := 4) hx hb dL_law_21 (by decide) ?_
    refine lv_isub hx hb dL_law_22 ?_
    refine lv_icmp_gt (tgt := 693) hx hb dL_law_23 (by decide) (fun _ => hend H locs ls hS) (fun g => absurd ?_ g)
    exact lw_out (by omega) (by omega) (by omega)
  | succ f ih =>
    intro j hj hj2 S n H locs ls hR hP hS hl
    refine lv_iload_n hx hb dL_law_18 rfl (lv_at hl 0 rfl) ?_
    refine lv_aload_n hx hb dL_law_19 rfl (lv_at hl 3 rfl) ?_
    refine va_slen hx hb hX hbl (fun h => absurd hbl (Nat.not_lt.mpr h)) hS dL_law_20 ?_
    refine lv_iconst (v := 4) hx hb dL_law_21 (by decide) ?_
    refine lv_isub hx hb dL_law_22 ?_
    refine lv_icmp_gt (tgt := 693) hx hb dL_law_23 (by decide) (fun _ => hend H locs ls hS) (fun g => ?_)
    have hj4 : j + 4 ≤ L := by
      refine Nat.not_lt.mp fun h => g ?_
      exact lw_out (by omega) (by omega) (by omega)
    have h0 : vp_in (Int32.ofNat j) L := vp_in_nI (by omega) (by omega)
    have h1 : vp_in (Int32.ofNat j + 1) L := lw_ix (k := 1) (by omega) hL
    have h2 : vp_in (Int32.ofNat j + 2) L := lw_ix (k := 2) (by omega) hL
    have h3 : vp_in (Int32.ofNat j + 3) L := lw_ix (k := 3) (by omega) hL
    have hB : ∀ (S : mn_S) (n : Nat) (H : Heap) (locs : List Loc), lw_R S n → va_P E.2.1 vwCl (mn_wl E S) H → va_S (fun q => s.heap.size ≤ q) s.heap H locs → W p l e room_1 s m #[Value.ref b] below meth c H locs cells slots Q (F0 m 687 ls []) := by
      intro S n H locs hR hP hS
      refine lv_iinc (v := Int32.ofNat (j + 4)) hx hb dL_law_687 hl (k := 0) rfl (Int32.ofNat_add j 4).symm (by decide) (lv' := lw_lv E b (Int32.ofNat (j + 4))) rfl (fun ls hl => ?_)
      refine lv_goto (tgt := 18) hx hb dL_law_690 (by decide) ?_
      exact ih (j + 4) (by omega) (by omega) S n H locs ls hR hP hS hl
    refine lv_aload_n hx hb dL_law_26 rfl (lv_at hl 3 rfl) ?_
    refine lv_iload_n hx hb dL_law_27 rfl (lv_at hl 0 rfl) ?_
    refine va_sld hx hb hX hbl (fun h => absurd hbl (Nat.not_lt.mpr h)) hS h0 dL_law_28 ?_
    refine lv_bipush (v := 31) hx hb dL_law_29 (by decide) ?_
    refine lv_iand hx hb dL_law_31 ?_
    generalize xs (Int32.ofNat j).toNatClampNeg &&& 31 = x
    by_cases ho : x.toInt < 0 ∨ 19 < x.toInt
    · exact lv_tableOut (tgt := 687) hx hb dL_law_32 ho (by decide) (hB S n H locs hR hP hS)
    · have hc : x.toInt = 0 ∨ x.toInt = 1 ∨ x.toInt = 2 ∨ x.toInt = 3 ∨ x.toInt = 4 ∨ x.toInt = 5 ∨ x.toInt = 6 ∨ x.toInt = 7 ∨ x.toInt = 8 ∨ x.toInt = 9 ∨ x.toInt = 10 ∨ x.toInt = 11 ∨ x.toInt = 12 ∨ x.toInt = 13 ∨ x.toInt = 14 ∨ x.toInt = 15 ∨ x.toInt = 16 ∨ x.toInt = 17 ∨ x.toInt = 18 ∨ x.toInt = 19 := by omega
      rcases hc with h | h | h | h | h | h | h | h | h | h | h | h | h | h | h | h | h | h | h | h
      · exact lv_tableIn (tgt := 128) (off := 96) hx hb dL_law_32 (by rw [h]; decide) (by rw [h]; decide) (by rw [h]; rfl) (by decide) (lw_k0 C h1 h2 h3 hf hl hR hP hS hB)
      · exact lv_tableIn (tgt := 151) (off := 119) hx hb dL_law_32 (by rw [h]; decide) (by rw [h]; decide) (by rw [h]; rfl) (by decide) (lw_k1 C h1 h2 h3 hf hl hR hP hS hB)
      · exact lv_tableIn (tgt := 184) (off := 152) hx hb dL_law_32 (by rw [h]; decide) (by rw [h]; decide) (by rw [h]; rfl) (by decide) (lw_k2 C h1 h2 h3 hf hl hR hP hS hB)
      · exact lv_tableIn (tgt := 233) (off := 201) hx hb dL_law_32 (by rw [h]; decide) (by rw [h]; decide) (by rw [h]; rfl) (by decide) (lw_k3 C h1 h2 h3 hf hl hR hP hS hB)
      · exact lv_tableIn (tgt := 276) (off := 244) hx hb dL_law_32 (by rw [h]; decide) (by rw [h]; decide) (by rw [h]; rfl) (by decide) (lw_k4 C h1 h2 h3 hf hl hR hP hS hB)
      · exact lv_tableIn (tgt := 299) (off := 267) hx hb dL_law_32 (by rw [h]; decide) (by rw [h]; decide) (by rw [h]; rfl) (by decide) (lw_k5 C h1 h2 h3 hf hl hR hP hS hB)
      · exact lv_tableIn (tgt := 322) (off := 290) hx hb dL_law_32 (by rw [h]; decide) (by rw [h]; decide) (by rw [h]; rfl) (by decide) (lw_k6 C h1 h2 h3 hf hl hR hP hS hB)
      · exact lv_tableIn (tgt := 335) (off := 303) hx hb dL_law_32 (by rw [h]; decide) (by rw [h]; decide) (by rw [h]; rfl) (by decide) (lw_k7 C h1 h2 h3 hf hl hR hP hS hB)
      · exact lv_tableIn (tgt := 368) (off := 336) hx hb dL_law_32 (by rw [h]; decide) (by rw [h]; decide) (by rw [h]; rfl) (by decide) (lw_k8 C h1 h2 h3 hf hl hR hP hS hB)
      · exact lv_tableIn (tgt := 391) (off := 359) hx hb dL_law_32 (by rw [h]; decide) (by rw [h]; decide) (by rw [h]; rfl) (by decide) (lw_k9 C h1 h2 h3 hf hl hR hP hS hB)
      · exact lv_tableIn (tgt := 404) (off := 372) hx hb dL_law_32 (by rw [h]; decide) (by rw [h]; decide) (by rw [h]; rfl) (by decide) (lw_k10 C h1 h2 h3 hf hl hR hP hS hB)
      · exact lv_tableIn (tgt := 417) (off := 385) hx hb dL_law_32 (by rw [h]; decide) (by rw [h]; decide) (by rw [h]; rfl) (by decide) (lw_k11 C h1 h2 h3 hf hl hR hP hS hB)
      · exact lv_tableIn (tgt := 460) (off := 428) hx hb dL_law_32 (by rw [h]; decide) (by rw [h]; decide) (by rw [h]; rfl) (by decide) (lw_k12 C h1 h2 h3 hf hl hR hP hS hB)
      · exact lv_tableIn (tgt := 493) (off := 461) hx hb dL_law_32 (by rw [h]; decide) (by rw [h]; decide) (by rw [h]; rfl) (by decide) (lw_k13 C h1 h2 h3 hf hl hR hP hS hB)
      · exact lv_tableIn (tgt := 527) (off := 495) hx hb dL_law_32 (by rw [h]; decide) (by rw [h]; decide) (by rw [h]; rfl) (by decide) (lw_k14 C h1 h2 h3 hf hl hR hP hS hB)
      · exact lv_tableIn (tgt := 551) (off := 519) hx hb dL_law_32 (by rw [h]; decide) (by rw [h]; decide) (by rw [h]; rfl) (by decide) (lw_k15 C h1 h2 h3 hf hl hR hP hS hB)
      · exact lv_tableIn (tgt := 585) (off := 553) hx hb dL_law_32 (by rw [h]; decide) (by rw [h]; decide) (by rw [h]; rfl) (by decide) (lw_k16 C h1 h2 h3 hf hl hR hP hS hB)
      · exact lv_tableIn (tgt := 608) (off := 576) hx hb dL_law_32 (by rw [h]; decide) (by rw [h]; decide) (by rw [h]; rfl) (by decide) (lw_k17 C h1 h2 h3 hf hl hR hP hS hB)
      · exact lv_tableIn (tgt := 641) (off := 609) hx hb dL_law_32 (by rw [h]; decide) (by rw [h]; decide) (by rw [h]; rfl) (by decide) (lw_k18 C h1 h2 h3 hf hl hR hP hS hB)
      · exact lv_tableIn (tgt := 674) (off := 642) hx hb dL_law_32 (by rw [h]; decide) (by rw [h]; decide) (by rw [h]; rfl) (by decide) (lw_k19 C h1 h2 h3 hf hl hR hP hS hB)
end LWW
