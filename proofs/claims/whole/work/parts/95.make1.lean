/-! ===== the constructors: the parts of a net ===== -/
theorem dX6_init_0 : decode cX6_init 0 = .ok (.aload_n 0, 1) := by decide +kernel
theorem dX6_init_1 : decode cX6_init 1 = .ok (.invokespecial 3, 3) := by decide +kernel
theorem dX6_init_4 : decode cX6_init 4 = .ok (.aload_n 0, 1) := by decide +kernel
theorem dX6_init_5 : decode cX6_init 5 = .ok (.bipush 6, 2) := by decide +kernel
theorem dX6_init_7 : decode cX6_init 7 = .ok (.bipush 6, 2) := by decide +kernel
theorem dX6_init_9 : decode cX6_init 9 = .ok (.multianewarray 9 2, 4) := by decide +kernel
theorem dX6_init_13 : decode cX6_init 13 = .ok (.putfield 11, 3) := by decide +kernel
theorem dX6_init_16 : decode cX6_init 16 = .ok (.aload_n 0, 1) := by decide +kernel
theorem dX6_init_17 : decode cX6_init 17 = .ok (.bipush 6, 2) := by decide +kernel
theorem dX6_init_19 : decode cX6_init 19 = .ok (.newarray .long, 2) := by decide +kernel
theorem dX6_init_21 : decode cX6_init 21 = .ok (.putfield 16, 3) := by decide +kernel
theorem dX6_init_24 : decode cX6_init 24 = .ok (.aload_n 0, 1) := by decide +kernel
theorem dX6_init_25 : decode cX6_init 25 = .ok (.bipush 64, 2) := by decide +kernel
theorem dX6_init_27 : decode cX6_init 27 = .ok (.newarray .long, 2) := by decide +kernel
theorem dX6_init_29 : decode cX6_init 29 = .ok (.putfield 20, 3) := by decide +kernel
theorem dX6_init_32 : decode cX6_init 32 = .ok (.aload_n 0, 1) := by decide +kernel
theorem dX6_init_33 : decode cX6_init 33 = .ok (.iconst 0, 1) := by decide +kernel
theorem dX6_init_34 : decode cX6_init 34 = .ok (.putfield 23, 3) := by decide +kernel
theorem dX6_init_37 : decode cX6_init 37 = .ok (.return_, 1) := by decide +kernel
def csW_X6 (T : Nat → ClassId) (h0 : Nat) (a : Nat → Nat) : va_W := (h0, .inr (6, [.ref (a 0), .ref (a 1), .ref (a 2), .int 0])) :: (([((a 0), .inl (T 4, 6, .inr (.inr (.inr (.inr (fun i => some (a (i + 3))))))))] ++ (List.range 6).map (fun i => (a (i + 3), .inl (T 2, 6, .inr (.inl (fun _ => 0)))))) ++ [((a 1), .inl (T 2, 6, .inr (.inl (fun _ => 0)))), ((a 2), .inl (T 2, 64, .inr (.inl (fun _ => 0))))])
set_option maxHeartbeats 4000000 in
set_option maxRecDepth 100000 in
theorem cs_make_X6 (l : Launch) (D : va_G) (T : Nat → ClassId) (h0 sz : Nat) : Met l yX6_init wsX6_init ({ frames := 1, cells := 9, slots := 112, locals := 12 }) (va_Pc [.ref h0] (cs_pre D T h0 6 [.null, .null, .null, .int 0] sz)) (va_Qv (fun _ : Nat → Nat => True) (cs_post D (csW_X6 T h0) h0 6 [.null, .null, .null, .int 0] sz) (va_A [(h0, .inr (6, [.null, .null, .null, .int 0]))] sz)) 9 112 (va_A [(h0, .inr (6, [.null, .null, .null, .int 0]))] sz) := by
  refine Met.ofW (cc := cX6_init) (maxL := 1) (ret := none) (by decide) rfl ?_
  intro p e s m args below meth c s₁ B hml hv
  obtain ⟨rfl, hsz, hP, hK, hD0, hN⟩ := hv
  have hx := B.exec
  have hb := B.bytes
  have hr := B.returns
  have hts := atoms_spec (ws := wsX6_init) B.pre
  have hown : s.vm.findClass RX6 = some m.cls := findClass_of_methodNamed B.named
  have hlocks := B.notSynchronized
  have hin : meth.name = "<init>" := (name_of_methodNamed B.named B.method).1
  subst hsz
  have hD := hD0.self (sz := s.heap.size)
  generalize hAe : va_A [(h0, .inr (6, [.null, .null, .null, .int 0]))] s.heap.size = A at hD ⊢
  have hA : ∀ q : Nat, s.heap.size ≤ q → A q := fun q h => by rw [← hAe]; exact Or.inr h
  have hS : va_S A s.heap s.heap [] := va_S.rf
  have hl := lv_entry ([.ref h0]) (n := 1) (Nat.le_of_ble_eq_true rfl)
  rw [lg_entry_eq]
  generalize (lg_sl ([.ref h0]) ++ List.replicate (1 - (lg_sl ([.ref h0])).length) Slot.unset).toArray = ls at hl ⊢
  have hl : lv_has ls 1 [(0, .ref h0)] := hl
  have hP : va_P D vwCl [(h0, .inr (6, [.null, .null, .null, .int 0]))] s.heap := hP
  refine lv_aload_n hx hb dX6_init_0 rfl (lv_at hl 0 rfl) ?_
  refine W.objInit hx hb hown (hts (.methodLink RX6 3 objectInit) (by decide +kernel)) (hts (.instanceMethod objectInit) (by decide +kernel)) (hts _ (List.mem_of_getElem? (i := 3) rfl)) rfl (by rw [hml]; exact hl.1) rfl dX6_init_1 (Nat.le_of_ble_eq_true rfl) (Nat.le_of_ble_eq_true rfl) ?_
  refine W.eq (g2 := F0 m 4 ls []) rfl ?_
  refine lv_aload_n hx hb dX6_init_4 rfl (lv_at hl 0 rfl) ?_
  refine lv_bipush (v := 6) hx hb dX6_init_5 (by decide) ?_
  refine lv_bipush (v := 6) hx hb dX6_init_7 (by decide) ?_
  refine cs_mna (D := D) (T := T) (ws := (h0, .inr (6, [.null, .null, .null, .int 0])) :: []) (own := RX6) (ty := .long) (cT := T 4) (cR := T 2) (N' := 6) (K' := 6) (z := (6, .inr (.inl (fun _ => 0)))) hx hb 4 2 hown (hts (.classLink RX6 9 ("[" ++ (FieldType.array .long).toString)) (by decide +kernel)) hN.2.1 (hts (.arrayClass .long) (by decide +kernel)) rfl rfl (fun _ h => h) hK hP hD hS hA (by decide) (by decide) (by decide) (by decide) (by decide +kernel) (by decide +kernel) (by decide +kernel) rfl rfl (by decide +kernel) (by decide +kernel) (fun c => arrV_new c 6 _) dX6_init_9 (fun q9 r H hP hD hS => ?_)
  have hP : va_P D vwCl ((h0, .inr (6, [.null, .null, .null, .int 0])) :: ([(q9, .inl (T 4, 6, .inr (.inr (.inr (.inr (fun i => some (r i)))))))] ++ (List.range 6).map (fun i => (r i, .inl (T 2, 6, .inr (.inl (fun _ => 0))))))) H := hP
  have hD : va_D A ((h0, .inr (6, [.null, .null, .null, .int 0])) :: ([(q9, .inl (T 4, 6, .inr (.inr (.inr (.inr (fun i => some (r i)))))))] ++ (List.range 6).map (fun i => (r i, .inl (T 2, 6, .inr (.inl (fun _ => 0))))))) := hD
  refine W.widen (k := 7) (n := 42) (by decide +kernel) (by decide +kernel) ?_
  refine va_putF (D := D) (cl := vwCl) (ws := (h0, .inr (6, [.null, .null, .null, .int 0])) :: ([(q9, .inl (T 4, 6, .inr (.inr (.inr (.inr (fun i => some (r i)))))))] ++ (List.range 6).map (fun i => (r i, .inl (T 2, 6, .inr (.inl (fun _ => 0))))))) (ci := 6) (v := .ref q9) (ty := (.array (.array .long))) (C := RX6) (T := TX6) (N := 4) hx hb hts (by decide +kernel) tyX6 tyX6_ok nmX6 hown hK hP hD hS 0 rfl rfl 0 (by decide) (hts (.fieldLink RX6 11 "MindNet$Square" "cells" "[[J") (by decide +kernel)) (fun _ h9 => h9) rfl hin rfl (by decide +kernel) rfl rfl (Nat.le_of_ble_eq_true rfl) dX6_init_13 (fun H locs hP hD hS => ?_)
  have hP : va_P D vwCl ((h0, .inr (6, [.ref q9, .null, .null, .int 0])) :: ([(q9, .inl (T 4, 6, .inr (.inr (.inr (.inr (fun i => some (r i)))))))] ++ (List.range 6).map (fun i => (r i, .inl (T 2, 6, .inr (.inl (fun _ => 0))))))) H := hP
  have hD : va_D A ((h0, .inr (6, [.ref q9, .null, .null, .int 0])) :: ([(q9, .inl (T 4, 6, .inr (.inr (.inr (.inr (fun i => some (r i)))))))] ++ (List.range 6).map (fun i => (r i, .inl (T 2, 6, .inr (.inl (fun _ => 0))))))) := hD
  refine lv_aload_n hx hb dX6_init_16 rfl (lv_at hl 0 rfl) ?_
  refine lv_bipush (v := 6) hx hb dX6_init_17 (by decide) ?_
  refine cs_newa (atype := .long) (D := D) (T := T) (ws := (h0, .inr (6, [.ref q9, .null, .null, .int 0])) :: ([(q9, .inl (T 4, 6, .inr (.inr (.inr (.inr (fun i => some (r i)))))))] ++ (List.range 6).map (fun i => (r i, .inl (T 2, 6, .inr (.inl (fun _ => 0))))))) (cT := T 2) (ty := .long) (N' := 6) (a0 := (6, .inr (.inl (fun _ => 0)))) hx hb 2 (hts (.arrayClass .long) (by decide +kernel)) rfl rfl (fun _ h => h) hK hP hD hS hA (fun _ => rfl) (by decide) (by decide) (by decide +kernel) (by decide +kernel) (by decide +kernel) dX6_init_19 (fun q19 H hP hD hS => ?_)
  have hP : va_P D vwCl ((h0, .inr (6, [.ref q9, .null, .null, .int 0])) :: (([(q9, .inl (T 4, 6, .inr (.inr (.inr (.inr (fun i => some (r i)))))))] ++ (List.range 6).map (fun i => (r i, .inl (T 2, 6, .inr (.inl (fun _ => 0)))))) ++ [(q19, .inl (T 2, 6, .inr (.inl (fun _ => 0))))])) H := hP
  have hD : va_D A ((h0, .inr (6, [.ref q9, .null, .null, .int 0])) :: (([(q9, .inl (T 4, 6, .inr (.inr (.inr (.inr (fun i => some (r i)))))))] ++ (List.range 6).map (fun i => (r i, .inl (T 2, 6, .inr (.inl (fun _ => 0)))))) ++ [(q19, .inl (T 2, 6, .inr (.inl (fun _ => 0))))])) := hD
  refine W.widen (k := 8) (n := 48) (by decide +kernel) (by decide +kernel) ?_
  refine va_putF (D := D) (cl := vwCl) (ws := (h0, .inr (6, [.ref q9, .null, .null, .int 0])) :: (([(q9, .inl (T 4, 6, .inr (.inr (.inr (.inr (fun i => some (r i)))))))] ++ (List.range 6).map (fun i => (r i, .inl (T 2, 6, .inr (.inl (fun _ => 0)))))) ++ [(q19, .inl (T 2, 6, .inr (.inl (fun _ => 0))))])) (ci := 6) (v := .ref q19) (ty := (.array .long)) (C := RX6) (T := TX6) (N := 4) hx hb hts (by decide +kernel) tyX6 tyX6_ok nmX6 hown hK hP hD hS 0 rfl rfl 1 (by decide) (hts (.fieldLink RX6 16 "MindNet$Square" "beside" "[J") (by decide +kernel)) (fun _ h9 => h9) rfl hin rfl (by decide +kernel) rfl rfl (Nat.le_of_ble_eq_true rfl) dX6_init_21 (fun H locs hP hD hS => ?_)
  have hP : va_P D vwCl ((h0, .inr (6, [.ref q9, .ref q19, .null, .int 0])) :: (([(q9, .inl (T 4, 6, .inr (.inr (.inr (.inr (fun i => some (r i)))))))] ++ (List.range 6).map (fun i => (r i, .inl (T 2, 6, .inr (.inl (fun _ => 0)))))) ++ [(q19, .inl (T 2, 6, .inr (.inl (fun _ => 0))))])) H := hP
  have hD : va_D A ((h0, .inr (6, [.ref q9, .ref q19, .null, .int 0])) :: (([(q9, .inl (T 4, 6, .inr (.inr (.inr (.inr (fun i => some (r i)))))))] ++ (List.range 6).map (fun i => (r i, .inl (T 2, 6, .inr (.inl (fun _ => 0)))))) ++ [(q19, .inl (T 2, 6, .inr (.inl (fun _ => 0))))])) := hD
  refine lv_aload_n hx hb dX6_init_24 rfl (lv_at hl 0 rfl) ?_
  refine lv_bipush (v := 64) hx hb dX6_init_25 (by decide) ?_
  refine cs_newa (atype := .long) (D := D) (T := T) (ws := (h0, .inr (6, [.ref q9, .ref q19, .null, .int 0])) :: (([(q9, .inl (T 4, 6, .inr (.inr (.inr (.inr (fun i => some (r i)))))))] ++ (List.range 6).map (fun i => (r i, .inl (T 2, 6, .inr (.inl (fun _ => 0)))))) ++ [(q19, .inl (T 2, 6, .inr (.inl (fun _ => 0))))])) (cT := T 2) (ty := .long) (N' := 64) (a0 := (64, .inr (.inl (fun _ => 0)))) hx hb 2 (hts (.arrayClass .long) (by decide +kernel)) rfl rfl (fun _ h => h) hK hP hD hS hA (fun _ => rfl) (by decide) (by decide) (by decide +kernel) (by decide +kernel) (by decide +kernel) dX6_init_27 (fun q27 H hP hD hS => ?_)
  have hP : va_P D vwCl ((h0, .inr (6, [.ref q9, .ref q19, .null, .int 0])) :: (([(q9, .inl (T 4, 6, .inr (.inr (.inr (.inr (fun i => some (r i)))))))] ++ (List.range 6).map (fun i => (r i, .inl (T 2, 6, .inr (.inl (fun _ => 0)))))) ++ [(q19, .inl (T 2, 6, .inr (.inl (fun _ => 0)))), (q27, .inl (T 2, 64, .inr (.inl (fun _ => 0))))])) H := hP
  have hD : va_D A ((h0, .inr (6, [.ref q9, .ref q19, .null, .int 0])) :: (([(q9, .inl (T 4, 6, .inr (.inr (.inr (.inr (fun i => some (r i)))))))] ++ (List.range 6).map (fun i => (r i, .inl (T 2, 6, .inr (.inl (fun _ => 0)))))) ++ [(q19, .inl (T 2, 6, .inr (.inl (fun _ => 0)))), (q27, .inl (T 2, 64, .inr (.inl (fun _ => 0))))])) := hD
  refine W.widen (k := 9) (n := 112) (by decide +kernel) (by decide +kernel) ?_
  refine va_putF (D := D) (cl := vwCl) (ws := (h0, .inr (6, [.ref q9, .ref q19, .null, .int 0])) :: (([(q9, .inl (T 4, 6, .inr (.inr (.inr (.inr (fun i => some (r i)))))))] ++ (List.range 6).map (fun i => (r i, .inl (T 2, 6, .inr (.inl (fun _ => 0)))))) ++ [(q19, .inl (T 2, 6, .inr (.inl (fun _ => 0)))), (q27, .inl (T 2, 64, .inr (.inl (fun _ => 0))))])) (ci := 6) (v := .ref q27) (ty := (.array .long)) (C := RX6) (T := TX6) (N := 4) hx hb hts (by decide +kernel) tyX6 tyX6_ok nmX6 hown hK hP hD hS 0 rfl rfl 2 (by decide) (hts (.fieldLink RX6 20 "MindNet$Square" "minors" "[J") (by decide +kernel)) (fun _ h9 => h9) rfl hin rfl (by decide +kernel) rfl rfl (Nat.le_of_ble_eq_true rfl) dX6_init_29 (fun H locs hP hD hS => ?_)
  have hP : va_P D vwCl ((h0, .inr (6, [.ref q9, .ref q19, .ref q27, .int 0])) :: (([(q9, .inl (T 4, 6, .inr (.inr (.inr (.inr (fun i => some (r i)))))))] ++ (List.range 6).map (fun i => (r i, .inl (T 2, 6, .inr (.inl (fun _ => 0)))))) ++ [(q19, .inl (T 2, 6, .inr (.inl (fun _ => 0)))), (q27, .inl (T 2, 64, .inr (.inl (fun _ => 0))))])) H := hP
  have hD : va_D A ((h0, .inr (6, [.ref q9, .ref q19, .ref q27, .int 0])) :: (([(q9, .inl (T 4, 6, .inr (.inr (.inr (.inr (fun i => some (r i)))))))] ++ (List.range 6).map (fun i => (r i, .inl (T 2, 6, .inr (.inl (fun _ => 0)))))) ++ [(q19, .inl (T 2, 6, .inr (.inl (fun _ => 0)))), (q27, .inl (T 2, 64, .inr (.inl (fun _ => 0))))])) := hD
  refine lv_aload_n hx hb dX6_init_32 rfl (lv_at hl 0 rfl) ?_
  refine lv_iconst (v := 0) hx hb dX6_init_33 (by decide) ?_
  refine va_put (D := D) (cl := vwCl) (ws := (h0, .inr (6, [.ref q9, .ref q19, .ref q27, .int 0])) :: (([(q9, .inl (T 4, 6, .inr (.inr (.inr (.inr (fun i => some (r i)))))))] ++ (List.range 6).map (fun i => (r i, .inl (T 2, 6, .inr (.inl (fun _ => 0)))))) ++ [(q19, .inl (T 2, 6, .inr (.inl (fun _ => 0)))), (q27, .inl (T 2, 64, .inr (.inl (fun _ => 0))))])) (ci := 6) (v := .int 0) (ty := .int) (C := RX6) (T := TX6) (N := 4) hx hb hts (by decide +kernel) tyX6 tyX6_ok nmX6 hown hK hP hD hS 0 rfl rfl 3 (by decide) (hts (.fieldLink RX6 23 "MindNet$Square" "size" "I") (by decide +kernel)) (fun _ h9 => h9) rfl (by decide +kernel) rfl rfl (Nat.le_of_ble_eq_true rfl) dX6_init_34 (fun H locs hP hD hS => ?_)
  have hP : va_P D vwCl ((h0, .inr (6, [.ref q9, .ref q19, .ref q27, .int 0])) :: (([(q9, .inl (T 4, 6, .inr (.inr (.inr (.inr (fun i => some (r i)))))))] ++ (List.range 6).map (fun i => (r i, .inl (T 2, 6, .inr (.inl (fun _ => 0)))))) ++ [(q19, .inl (T 2, 6, .inr (.inl (fun _ => 0)))), (q27, .inl (T 2, 64, .inr (.inl (fun _ => 0))))])) H := hP
  have hD : va_D A ((h0, .inr (6, [.ref q9, .ref q19, .ref q27, .int 0])) :: (([(q9, .inl (T 4, 6, .inr (.inr (.inr (.inr (fun i => some (r i)))))))] ++ (List.range 6).map (fun i => (r i, .inl (T 2, 6, .inr (.inl (fun _ => 0)))))) ++ [(q19, .inl (T 2, 6, .inr (.inl (fun _ => 0)))), (q27, .inl (T 2, 64, .inr (.inl (fun _ => 0))))])) := hD
  exact W.vret hx hb hr (fun t ht hW => ⟨⟨(fun j => match j with
    | 0 => q9
    | 1 => q19
    | 2 => q27
    | j + 3 => r j), rfl, trivial, by rw [ht]; exact hP, by rw [hAe]; exact hD⟩, hS.F ht⟩) hS.2.2 dX6_init_37
theorem dX0_init_0 : decode cX0_init 0 = .ok (.aload_n 0, 1) := by decide +kernel
theorem dX0_init_1 : decode cX0_init 1 = .ok (.invokespecial 3, 3) := by decide +kernel
theorem dX0_init_4 : decode cX0_init 4 = .ok (.aload_n 0, 1) := by decide +kernel
theorem dX0_init_5 : decode cX0_init 5 = .ok (.bipush 12, 2) := by decide +kernel
theorem dX0_init_7 : decode cX0_init 7 = .ok (.newarray .int, 2) := by decide +kernel
theorem dX0_init_9 : decode cX0_init 9 = .ok (.putfield 9, 3) := by decide +kernel
theorem dX0_init_12 : decode cX0_init 12 = .ok (.aload_n 0, 1) := by decide +kernel
theorem dX0_init_13 : decode cX0_init 13 = .ok (.iconst 0, 1) := by decide +kernel
theorem dX0_init_14 : decode cX0_init 14 = .ok (.putfield 15, 3) := by decide +kernel
theorem dX0_init_17 : decode cX0_init 17 = .ok (.aload_n 0, 1) := by decide +kernel
theorem dX0_init_18 : decode cX0_init 18 = .ok (.iconst 0, 1) := by decide +kernel
theorem dX0_init_19 : decode cX0_init 19 = .ok (.putfield 19, 3) := by decide +kernel
theorem dX0_init_22 : decode cX0_init 22 = .ok (.return_, 1) := by decide +kernel
def csW_X0 (T : Nat → ClassId) (h0 : Nat) (a : Nat → Nat) : va_W := (h0, .inr (0, [.ref (a 0), .int 0, .int 0])) :: [((a 0), .inl (T 0, 12, .inl (fun _ => 0)))]
set_option maxHeartbeats 4000000 in
set_option maxRecDepth 100000 in
theorem cs_make_X0 (l : Launch) (D : va_G) (T : Nat → ClassId) (h0 sz : Nat) : Met l yX0_init wsX0_init ({ frames := 1, cells := 1, slots := 12, locals := 12 }) (va_Pc [.ref h0] (cs_pre D T h0 0 [.null, .int 0, .int 0] sz)) (va_Qv (fun _ : Nat → Nat => True) (cs_post D (csW_X0 T h0) h0 0 [.null, .int 0, .int 0] sz) (va_A [(h0, .inr (0, [.null, .int 0, .int 0]))] sz)) 1 12 (va_A [(h0, .inr (0, [.null, .int 0, .int 0]))] sz) := by
  refine Met.ofW (cc := cX0_init) (maxL := 1) (ret := none) (by decide) rfl ?_
  intro p e s m args below meth c s₁ B hml hv
  obtain ⟨rfl, hsz, hP, hK, hD0, hN⟩ := hv
  have hx := B.exec
  have hb := B.bytes
  have hr := B.returns
  have hts := atoms_spec (ws := wsX0_init) B.pre
  have hown : s.vm.findClass RX0 = some m.cls := findClass_of_methodNamed B.named
  have hlocks := B.notSynchronized
  have hin : meth.name = "<init>" := (name_of_methodNamed B.named B.method).1
  subst hsz
  have hD := hD0.self (sz := s.heap.size)
  generalize hAe : va_A [(h0, .inr (0, [.null, .int 0, .int 0]))] s.heap.size = A at hD ⊢
  have hA : ∀ q : Nat, s.heap.size ≤ q → A q := fun q h => by rw [← hAe]; exact Or.inr h
  have hS : va_S A s.heap s.heap [] := va_S.rf
  have hl := lv_entry ([.ref h0]) (n := 1) (Nat.le_of_ble_eq_true rfl)
  rw [lg_entry_eq]
  generalize (lg_sl ([.ref h0]) ++ List.replicate (1 - (lg_sl ([.ref h0])).length) Slot.unset).toArray = ls at hl ⊢
  have hl : lv_has ls 1 [(0, .ref h0)] := hl
  have hP : va_P D vwCl [(h0, .inr (0, [.null, .int 0, .int 0]))] s.heap := hP
  refine lv_aload_n hx hb dX0_init_0 rfl (lv_at hl 0 rfl) ?_
  refine W.objInit hx hb hown (hts (.methodLink RX0 3 objectInit) (by decide +kernel)) (hts (.instanceMethod objectInit) (by decide +kernel)) (hts _ (List.mem_of_getElem? (i := 3) rfl)) rfl (by rw [hml]; exact hl.1) rfl dX0_init_1 (Nat.le_of_ble_eq_true rfl) (Nat.le_of_ble_eq_true rfl) ?_
  refine W.eq (g2 := F0 m 4 ls []) rfl ?_
  refine lv_aload_n hx hb dX0_init_4 rfl (lv_at hl 0 rfl) ?_
  refine lv_bipush (v := 12) hx hb dX0_init_5 (by decide) ?_
  refine cs_newa (atype := .int) (D := D) (T := T) (ws := (h0, .inr (0, [.null, .int 0, .int 0])) :: []) (cT := T 0) (ty := .int) (N' := 12) (a0 := (12, .inl (fun _ => 0))) hx hb 0 (hts (.arrayClass .int) (by decide +kernel)) rfl rfl (fun _ h => h) hK hP hD hS hA (fun _ => rfl) (by decide) (by decide) (by decide +kernel) (by decide +kernel) (by decide +kernel) dX0_init_7 (fun q7 H hP hD hS => ?_)
  have hP : va_P D vwCl ((h0, .inr (0, [.null, .int 0, .int 0])) :: [(q7, .inl (T 0, 12, .inl (fun _ => 0)))]) H := hP
  have hD : va_D A ((h0, .inr (0, [.null, .int 0, .int 0])) :: [(q7, .inl (T 0, 12, .inl (fun _ => 0)))]) := hD
  refine W.widen (k := 1) (n := 12) (by decide +kernel) (by decide +kernel) ?_
  refine va_putF (D := D) (cl := vwCl) (ws := (h0, .inr (0, [.null, .int 0, .int 0])) :: [(q7, .inl (T 0, 12, .inl (fun _ => 0)))]) (ci := 0) (v := .ref q7) (ty := (.array .int)) (C := RX0) (T := TX0) (N := 3) hx hb hts (by decide +kernel) tyX0 tyX0_ok nmX0 hown hK hP hD hS 0 rfl rfl 0 (by decide) (hts (.fieldLink RX0 9 "MindNet$Kept" "thoughts" "[I") (by decide +kernel)) (fun _ h9 => h9) rfl hin rfl (by decide +kernel) rfl rfl (Nat.le_of_ble_eq_true rfl) dX0_init_9 (fun H locs hP hD hS => ?_)
  have hP : va_P D vwCl ((h0, .inr (0, [.ref q7, .int 0, .int 0])) :: [(q7, .inl (T 0, 12, .inl (fun _ => 0)))]) H := hP
  have hD : va_D A ((h0, .inr (0, [.ref q7, .int 0, .int 0])) :: [(q7, .inl (T 0, 12, .inl (fun _ => 0)))]) := hD
  refine lv_aload_n hx hb dX0_init_12 rfl (lv_at hl 0 rfl) ?_
  refine lv_iconst (v := 0) hx hb dX0_init_13 (by decide) ?_
  refine va_put (D := D) (cl := vwCl) (ws := (h0, .inr (0, [.ref q7, .int 0, .int 0])) :: [(q7, .inl (T 0, 12, .inl (fun _ => 0)))]) (ci := 0) (v := .int 0) (ty := .int) (C := RX0) (T := TX0) (N := 3) hx hb hts (by decide +kernel) tyX0 tyX0_ok nmX0 hown hK hP hD hS 0 rfl rfl 1 (by decide) (hts (.fieldLink RX0 15 "MindNet$Kept" "count" "I") (by decide +kernel)) (fun _ h9 => h9) rfl (by decide +kernel) rfl rfl (Nat.le_of_ble_eq_true rfl) dX0_init_14 (fun H locs hP hD hS => ?_)
  have hP : va_P D vwCl ((h0, .inr (0, [.ref q7, .int 0, .int 0])) :: [(q7, .inl (T 0, 12, .inl (fun _ => 0)))]) H := hP
  have hD : va_D A ((h0, .inr (0, [.ref q7, .int 0, .int 0])) :: [(q7, .inl (T 0, 12, .inl (fun _ => 0)))]) := hD
  refine lv_aload_n hx hb dX0_init_17 rfl (lv_at hl 0 rfl) ?_
  refine lv_iconst (v := 0) hx hb dX0_init_18 (by decide) ?_
  refine va_put (D := D) (cl := vwCl) (ws := (h0, .inr (0, [.ref q7, .int 0, .int 0])) :: [(q7, .inl (T 0, 12, .inl (fun _ => 0)))]) (ci := 0) (v := .int 0) (ty := .boolean) (C := RX0) (T := TX0) (N := 3) hx hb hts (by decide +kernel) tyX0 tyX0_ok nmX0 hown hK hP hD hS 0 rfl rfl 2 (by decide) (hts (.fieldLink RX0 19 "MindNet$Kept" "taken" "Z") (by decide +kernel)) (fun _ h9 => h9) rfl (by decide +kernel) rfl rfl (Nat.le_of_ble_eq_true rfl) dX0_init_19 (fun H locs hP hD hS => ?_)
  have hP : va_P D vwCl ((h0, .inr (0, [.ref q7, .int 0, .int 0])) :: [(q7, .inl (T 0, 12, .inl (fun _ => 0)))]) H := hP
  have hD : va_D A ((h0, .inr (0, [.ref q7, .int 0, .int 0])) :: [(q7, .inl (T 0, 12, .inl (fun _ => 0)))]) := hD
  exact W.vret hx hb hr (fun t ht hW => ⟨⟨(fun j => match j with
    | 0 => q7
    | _ => 0), rfl, trivial, by rw [ht]; exact hP, by rw [hAe]; exact hD⟩, hS.F ht⟩) hS.2.2 dX0_init_22
theorem dX1_init_0 : decode cX1_init 0 = .ok (.aload_n 0, 1) := by decide +kernel
theorem dX1_init_1 : decode cX1_init 1 = .ok (.invokespecial 3, 3) := by decide +kernel
theorem dX1_init_4 : decode cX1_init 4 = .ok (.aload_n 0, 1) := by decide +kernel
theorem dX1_init_5 : decode cX1_init 5 = .ok (.bipush 12, 2) := by decide +kernel
theorem dX1_init_7 : decode cX1_init 7 = .ok (.newarray .int, 2) := by decide +kernel
theorem dX1_init_9 : decode cX1_init 9 = .ok (.putfield 9, 3) := by decide +kernel
theorem dX1_init_12 : decode cX1_init 12 = .ok (.aload_n 0, 1) := by decide +kernel
theorem dX1_init_13 : decode cX1_init 13 = .ok (.iconst 0, 1) := by decide +kernel
theorem dX1_init_14 : decode cX1_init 14 = .ok (.putfield 15, 3) := by decide +kernel
theorem dX1_init_17 : decode cX1_init 17 = .ok (.return_, 1) := by decide +kernel
def csW_X1 (T : Nat → ClassId) (h0 : Nat) (a : Nat → Nat) : va_W := (h0, .inr (1, [.ref (a 0), .int 0])) :: [((a 0), .inl (T 0, 12, .inl (fun _ => 0)))]
set_option maxHeartbeats 4000000 in
set_option maxRecDepth 100000 in
theorem cs_make_X1 (l : Launch) (D : va_G) (T : Nat → ClassId) (h0 sz : Nat) : Met l yX1_init wsX1_init ({ frames := 1, cells := 1, slots := 12, locals := 12 }) (va_Pc [.ref h0] (cs_pre D T h0 1 [.null, .int 0] sz)) (va_Qv (fun _ : Nat → Nat => True) (cs_post D (csW_X1 T h0) h0 1 [.null, .int 0] sz) (va_A [(h0, .inr (1, [.null, .int 0]))] sz)) 1 12 (va_A [(h0, .inr (1, [.null, .int 0]))] sz) := by
  refine Met.ofW (cc := cX1_init) (maxL := 1) (ret := none) (by decide) rfl ?_
  intro p e s m args below meth c s₁ B hml hv
  obtain ⟨rfl, hsz, hP, hK, hD0, hN⟩ := hv
  have hx := B.exec
  have hb := B.bytes
  have hr := B.returns
  have hts := atoms_spec (ws := wsX1_init) B.pre
  have hown : s.vm.findClass RX1 = some m.cls := findClass_of_methodNamed B.named
  have hlocks := B.notSynchronized
  have hin : meth.name = "<init>" := (name_of_methodNamed B.named B.method).1
  subst hsz
  have hD := hD0.self (sz := s.heap.size)
  generalize hAe : va_A [(h0, .inr (1, [.null, .int 0]))] s.heap.size = A at hD ⊢
  have hA : ∀ q : Nat, s.heap.size ≤ q → A q := fun q h => by rw [← hAe]; exact Or.inr h
  have hS : va_S A s.heap s.heap [] := va_S.rf
  have hl := lv_entry ([.ref h0]) (n := 1) (Nat.le_of_ble_eq_true rfl)
  rw [lg_entry_eq]
  generalize (lg_sl ([.ref h0]) ++ List.replicate (1 - (lg_sl ([.ref h0])).length) Slot.unset).toArray = ls at hl ⊢
  have hl : lv_has ls 1 [(0, .ref h0)] := hl
  have hP : va_P D vwCl [(h0, .inr (1, [.null, .int 0]))] s.heap := hP
  refine lv_aload_n hx hb dX1_init_0 rfl (lv_at hl 0 rfl) ?_
  refine W.objInit hx hb hown (hts (.methodLink RX1 3 objectInit) (by decide +kernel)) (hts (.instanceMethod objectInit) (by decide +kernel)) (hts _ (List.mem_of_getElem? (i := 3) rfl)) rfl (by rw [hml]; exact hl.1) rfl dX1_init_1 (Nat.le_of_ble_eq_true rfl) (Nat.le_of_ble_eq_true rfl) ?_
  refine W.eq (g2 := F0 m 4 ls []) rfl ?_
  refine lv_aload_n hx hb dX1_init_4 rfl (lv_at hl 0 rfl) ?_
  refine lv_bipush (v := 12) hx hb dX1_init_5 (by decide) ?_
  refine cs_newa (atype := .int) (D := D) (T := T) (ws := (h0, .inr (1, [.null, .int 0])) :: []) (cT := T 0) (ty := .int) (N' := 12) (a0 := (12, .inl (fun _ => 0))) hx hb 0 (hts (.arrayClass .int) (by decide +kernel)) rfl rfl (fun _ h => h) hK hP hD hS hA (fun _ => rfl) (by decide) (by decide) (by decide +kernel) (by decide +kernel) (by decide +kernel) dX1_init_7 (fun q7 H hP hD hS => ?_)
  have hP : va_P D vwCl ((h0, .inr (1, [.null, .int 0])) :: [(q7, .inl (T 0, 12, .inl (fun _ => 0)))]) H := hP
  have hD : va_D A ((h0, .inr (1, [.null, .int 0])) :: [(q7, .inl (T 0, 12, .inl (fun _ => 0)))]) := hD
  refine W.widen (k := 1) (n := 12) (by decide +kernel) (by decide +kernel) ?_
  refine va_putF (D := D) (cl := vwCl) (ws := (h0, .inr (1, [.null, .int 0])) :: [(q7, .inl (T 0, 12, .inl (fun _ => 0)))]) (ci := 1) (v := .ref q7) (ty := (.array .int)) (C := RX1) (T := TX1) (N := 2) hx hb hts (by decide +kernel) tyX1 tyX1_ok nmX1 hown hK hP hD hS 0 rfl rfl 0 (by decide) (hts (.fieldLink RX1 9 "MindNet$Links" "tied" "[I") (by decide +kernel)) (fun _ h9 => h9) rfl hin rfl (by decide +kernel) rfl rfl (Nat.le_of_ble_eq_true rfl) dX1_init_9 (fun H locs hP hD hS => ?_)
  have hP : va_P D vwCl ((h0, .inr (1, [.ref q7, .int 0])) :: [(q7, .inl (T 0, 12, .inl (fun _ => 0)))]) H := hP
  have hD : va_D A ((h0, .inr (1, [.ref q7, .int 0])) :: [(q7, .inl (T 0, 12, .inl (fun _ => 0)))]) := hD
  refine lv_aload_n hx hb dX1_init_12 rfl (lv_at hl 0 rfl) ?_
  refine lv_iconst (v := 0) hx hb dX1_init_13 (by decide) ?_
  refine va_put (D := D) (cl := vwCl) (ws := (h0, .inr (1, [.ref q7, .int 0])) :: [(q7, .inl (T 0, 12, .inl (fun _ => 0)))]) (ci := 1) (v := .int 0) (ty := .int) (C := RX1) (T := TX1) (N := 2) hx hb hts (by decide +kernel) tyX1 tyX1_ok nmX1 hown hK hP hD hS 0 rfl rfl 1 (by decide) (hts (.fieldLink RX1 15 "MindNet$Links" "count" "I") (by decide +kernel)) (fun _ h9 => h9) rfl (by decide +kernel) rfl rfl (Nat.le_of_ble_eq_true rfl) dX1_init_14 (fun H locs hP hD hS => ?_)
  have hP : va_P D vwCl ((h0, .inr (1, [.ref q7, .int 0])) :: [(q7, .inl (T 0, 12, .inl (fun _ => 0)))]) H := hP
  have hD : va_D A ((h0, .inr (1, [.ref q7, .int 0])) :: [(q7, .inl (T 0, 12, .inl (fun _ => 0)))]) := hD
  exact W.vret hx hb hr (fun t ht hW => ⟨⟨(fun j => match j with
    | 0 => q7
    | _ => 0), rfl, trivial, by rw [ht]; exact hP, by rw [hAe]; exact hD⟩, hS.F ht⟩) hS.2.2 dX1_init_17
theorem dX4_init_0 : decode cX4_init 0 = .ok (.aload_n 0, 1) := by decide +kernel
theorem dX4_init_1 : decode cX4_init 1 = .ok (.invokespecial 3, 3) := by decide +kernel
theorem dX4_init_4 : decode cX4_init 4 = .ok (.aload_n 0, 1) := by decide +kernel
theorem dX4_init_5 : decode cX4_init 5 = .ok (.bipush 12, 2) := by decide +kernel
theorem dX4_init_7 : decode cX4_init 7 = .ok (.newarray .int, 2) := by decide +kernel
theorem dX4_init_9 : decode cX4_init 9 = .ok (.putfield 9, 3) := by decide +kernel
theorem dX4_init_12 : decode cX4_init 12 = .ok (.aload_n 0, 1) := by decide +kernel
theorem dX4_init_13 : decode cX4_init 13 = .ok (.bipush 12, 2) := by decide +kernel
theorem dX4_init_15 : decode cX4_init 15 = .ok (.newarray .int, 2) := by decide +kernel
theorem dX4_init_17 : decode cX4_init 17 = .ok (.putfield 15, 3) := by decide +kernel
theorem dX4_init_20 : decode cX4_init 20 = .ok (.return_, 1) := by decide +kernel
def csW_X4 (T : Nat → ClassId) (h0 : Nat) (a : Nat → Nat) : va_W := (h0, .inr (4, [.ref (a 0), .ref (a 1)])) :: [((a 0), .inl (T 0, 12, .inl (fun _ => 0))), ((a 1), .inl (T 0, 12, .inl (fun _ => 0)))]
set_option maxHeartbeats 4000000 in
set_option maxRecDepth 100000 in
theorem cs_make_X4 (l : Launch) (D : va_G) (T : Nat → ClassId) (h0 sz : Nat) : Met l yX4_init wsX4_init ({ frames := 1, cells := 2, slots := 24, locals := 12 }) (va_Pc [.ref h0] (cs_pre D T h0 4 [.null, .null] sz)) (va_Qv (fun _ : Nat → Nat => True) (cs_post D (csW_X4 T h0) h0 4 [.null, .null] sz) (va_A [(h0, .inr (4, [.null, .null]))] sz)) 2 24 (va_A [(h0, .inr (4, [.null, .null]))] sz) := by
  refine Met.ofW (cc := cX4_init) (maxL := 1) (ret := none) (by decide) rfl ?_
  intro p e s m args below meth c s₁ B hml hv
  obtain ⟨rfl, hsz, hP, hK, hD0, hN⟩ := hv
  have hx := B.exec
  have hb := B.bytes
  have hr := B.returns
  have hts := atoms_spec (ws := wsX4_init) B.pre
  have hown : s.vm.findClass RX4 = some m.cls := findClass_of_methodNamed B.named
  have hlocks := B.notSynchronized
  have hin : meth.name = "<init>" := (name_of_methodNamed B.named B.method).1
  subst hsz
  have hD := hD0.self (sz := s.heap.size)
  generalize hAe : va_A [(h0, .inr (4, [.null, .null]))] s.heap.size = A at hD ⊢
  have hA : ∀ q : Nat, s.heap.size ≤ q → A q := fun q h => by rw [← hAe]; exact Or.inr h
  have hS : va_S A s.heap s.heap [] := va_S.rf
  have hl := lv_entry ([.ref h0]) (n := 1) (Nat.le_of_ble_eq_true rfl)
  rw [lg_entry_eq]
  generalize (lg_sl ([.ref h0]) ++ List.replicate (1 - (lg_sl ([.ref h0])).length) Slot.unset).toArray = ls at hl ⊢
  have hl : lv_has ls 1 [(0, .ref h0)] := hl
  have hP : va_P D vwCl [(h0, .inr (4, [.null, .null]))] s.heap := hP
  refine lv_aload_n hx hb dX4_init_0 rfl (lv_at hl 0 rfl) ?_
  refine W.objInit hx hb hown (hts (.methodLink RX4 3 objectInit) (by decide +kernel)) (hts (.instanceMethod objectInit) (by decide +kernel)) (hts _ (List.mem_of_getElem? (i := 3) rfl)) rfl (by rw [hml]; exact hl.1) rfl dX4_init_1 (Nat.le_of_ble_eq_true rfl) (Nat.le_of_ble_eq_true rfl) ?_
  refine W.eq (g2 := F0 m 4 ls []) rfl ?_
  refine lv_aload_n hx hb dX4_init_4 rfl (lv_at hl 0 rfl) ?_
  refine lv_bipush (v := 12) hx hb dX4_init_5 (by decide) ?_
  refine cs_newa (atype := .int) (D := D) (T := T) (ws := (h0, .inr (4, [.null, .null])) :: []) (cT := T 0) (ty := .int) (N' := 12) (a0 := (12, .inl (fun _ => 0))) hx hb 0 (hts (.arrayClass .int) (by decide +kernel)) rfl rfl (fun _ h => h) hK hP hD hS hA (fun _ => rfl) (by decide) (by decide) (by decide +kernel) (by decide +kernel) (by decide +kernel) dX4_init_7 (fun q7 H hP hD hS => ?_)
  have hP : va_P D vwCl ((h0, .inr (4, [.null, .null])) :: [(q7, .inl (T 0, 12, .inl (fun _ => 0)))]) H := hP
  have hD : va_D A ((h0, .inr (4, [.null, .null])) :: [(q7, .inl (T 0, 12, .inl (fun _ => 0)))]) := hD
  refine W.widen (k := 1) (n := 12) (by decide +kernel) (by decide +kernel) ?_
  refine va_putF (D := D) (cl := vwCl) (ws := (h0, .inr (4, [.null, .null])) :: [(q7, .inl (T 0, 12, .inl (fun _ => 0)))]) (ci := 4) (v := .ref q7) (ty := (.array .int)) (C := RX4) (T := TX4) (N := 2) hx hb hts (by decide +kernel) tyX4 tyX4_ok nmX4 hown hK hP hD hS 0 rfl rfl 0 (by decide) (hts (.fieldLink RX4 9 "MindNet$Rounds" "next" "[I") (by decide +kernel)) (fun _ h9 => h9) rfl hin rfl (by decide +kernel) rfl rfl (Nat.le_of_ble_eq_true rfl) dX4_init_9 (fun H locs hP hD hS => ?_)
  have hP : va_P D vwCl ((h0, .inr (4, [.ref q7, .null])) :: [(q7, .inl (T 0, 12, .inl (fun _ => 0)))]) H := hP
  have hD : va_D A ((h0, .inr (4, [.ref q7, .null])) :: [(q7, .inl (T 0, 12, .inl (fun _ => 0)))]) := hD
  refine lv_aload_n hx hb dX4_init_12 rfl (lv_at hl 0 rfl) ?_
  refine lv_bipush (v := 12) hx hb dX4_init_13 (by decide) ?_
  refine cs_newa (atype := .int) (D := D) (T := T) (ws := (h0, .inr (4, [.ref q7, .null])) :: [(q7, .inl (T 0, 12, .inl (fun _ => 0)))]) (cT := T 0) (ty := .int) (N' := 12) (a0 := (12, .inl (fun _ => 0))) hx hb 0 (hts (.arrayClass .int) (by decide +kernel)) rfl rfl (fun _ h => h) hK hP hD hS hA (fun _ => rfl) (by decide) (by decide) (by decide +kernel) (by decide +kernel) (by decide +kernel) dX4_init_15 (fun q15 H hP hD hS => ?_)
  have hP : va_P D vwCl ((h0, .inr (4, [.ref q7, .null])) :: [(q7, .inl (T 0, 12, .inl (fun _ => 0))), (q15, .inl (T 0, 12, .inl (fun _ => 0)))]) H := hP
  have hD : va_D A ((h0, .inr (4, [.ref q7, .null])) :: [(q7, .inl (T 0, 12, .inl (fun _ => 0))), (q15, .inl (T 0, 12, .inl (fun _ => 0)))]) := hD
  refine W.widen (k := 2) (n := 24) (by decide +kernel) (by decide +kernel) ?_
  refine va_putF (D := D) (cl := vwCl) (ws := (h0, .inr (4, [.ref q7, .null])) :: [(q7, .inl (T 0, 12, .inl (fun _ => 0))), (q15, .inl (T 0, 12, .inl (fun _ => 0)))]) (ci := 4) (v := .ref q15) (ty := (.array .int)) (C := RX4) (T := TX4) (N := 2) hx hb hts (by decide +kernel) tyX4 tyX4_ok nmX4 hown hK hP hD hS 0 rfl rfl 1 (by decide) (hts (.fieldLink RX4 15 "MindNet$Rounds" "before" "[I") (by decide +kernel)) (fun _ h9 => h9) rfl hin rfl (by decide +kernel) rfl rfl (Nat.le_of_ble_eq_true rfl) dX4_init_17 (fun H locs hP hD hS => ?_)
  have hP : va_P D vwCl ((h0, .inr (4, [.ref q7, .ref q15])) :: [(q7, .inl (T 0, 12, .inl (fun _ => 0))), (q15, .inl (T 0, 12, .inl (fun _ => 0)))]) H := hP
  have hD : va_D A ((h0, .inr (4, [.ref q7, .ref q15])) :: [(q7, .inl (T 0, 12, .inl (fun _ => 0))), (q15, .inl (T 0, 12, .inl (fun _ => 0)))]) := hD
  exact W.vret hx hb hr (fun t ht hW => ⟨⟨(fun j => match j with
    | 0 => q7
    | 1 => q15
    | _ => 0), rfl, trivial, by rw [ht]; exact hP, by rw [hAe]; exact hD⟩, hS.F ht⟩) hS.2.2 dX4_init_20
theorem dX2_init_0 : decode cX2_init 0 = .ok (.aload_n 0, 1) := by decide +kernel
theorem dX2_init_1 : decode cX2_init 1 = .ok (.invokespecial 3, 3) := by decide +kernel
theorem dX2_init_4 : decode cX2_init 4 = .ok (.aload_n 0, 1) := by decide +kernel
theorem dX2_init_5 : decode cX2_init 5 = .ok (.bipush 12, 2) := by decide +kernel
theorem dX2_init_7 : decode cX2_init 7 = .ok (.newarray .int, 2) := by decide +kernel
theorem dX2_init_9 : decode cX2_init 9 = .ok (.putfield 9, 3) := by decide +kernel
theorem dX2_init_12 : decode cX2_init 12 = .ok (.aload_n 0, 1) := by decide +kernel
theorem dX2_init_13 : decode cX2_init 13 = .ok (.bipush 12, 2) := by decide +kernel
theorem dX2_init_15 : decode cX2_init 15 = .ok (.newarray .boolean, 2) := by decide +kernel
theorem dX2_init_17 : decode cX2_init 17 = .ok (.putfield 15, 3) := by decide +kernel
theorem dX2_init_20 : decode cX2_init 20 = .ok (.aload_n 0, 1) := by decide +kernel
theorem dX2_init_21 : decode cX2_init 21 = .ok (.bipush 12, 2) := by decide +kernel
theorem dX2_init_23 : decode cX2_init 23 = .ok (.bipush 12, 2) := by decide +kernel
theorem dX2_init_25 : decode cX2_init 25 = .ok (.multianewarray 19 2, 4) := by decide +kernel
theorem dX2_init_29 : decode cX2_init 29 = .ok (.putfield 21, 3) := by decide +kernel
theorem dX2_init_32 : decode cX2_init 32 = .ok (.aload_n 0, 1) := by decide +kernel
theorem dX2_init_33 : decode cX2_init 33 = .ok (.iconst 0, 1) := by decide +kernel
theorem dX2_init_34 : decode cX2_init 34 = .ok (.putfield 24, 3) := by decide +kernel
theorem dX2_init_37 : decode cX2_init 37 = .ok (.aload_n 0, 1) := by decide +kernel
theorem dX2_init_38 : decode cX2_init 38 = .ok (.sipush 1000, 3) := by decide +kernel
theorem dX2_init_41 : decode cX2_init 41 = .ok (.putfield 28, 3) := by decide +kernel
theorem dX2_init_44 : decode cX2_init 44 = .ok (.return_, 1) := by decide +kernel
def csW_X2 (T : Nat → ClassId) (h0 : Nat) (a : Nat → Nat) : va_W := (h0, .inr (2, [.ref (a 0), .ref (a 1), .ref (a 2), .int 0, .int 1000])) :: ([((a 0), .inl (T 0, 12, .inl (fun _ => 0))), ((a 1), .inl (T 1, 12, .inl (fun _ => 0))), ((a 2), .inl (T 3, 12, .inr (.inr (.inr (.inr (fun i => some (a (i + 3))))))))] ++ (List.range 12).map (fun i => (a (i + 3), .inl (T 0, 12, .inl (fun _ => 0)))))
set_option maxHeartbeats 4000000 in
set_option maxRecDepth 100000 in
theorem cs_make_X2 (l : Launch) (D : va_G) (T : Nat → ClassId) (h0 sz : Nat) : Met l yX2_init wsX2_init ({ frames := 1, cells := 15, slots := 180, locals := 12 }) (va_Pc [.ref h0] (cs_pre D T h0 2 [.null, .null, .null, .int 0, .int 0] sz)) (va_Qv (fun _ : Nat → Nat => True) (cs_post D (csW_X2 T h0) h0 2 [.null, .null, .null, .int 0, .int 0] sz) (va_A [(h0, .inr (2, [.null, .null, .null, .int 0, .int 0]))] sz)) 15 180 (va_A [(h0, .inr (2, [.null, .null, .null, .int 0, .int 0]))] sz) := by
  refine Met.ofW (cc := cX2_init) (maxL := 1) (ret := none) (by decide) rfl ?_
  intro p e s m args below meth c s₁ B hml hv
  obtain ⟨rfl, hsz, hP, hK, hD0, hN⟩ := hv
  have hx := B.exec
  have hb := B.bytes
  have hr := B.returns
  have hts := atoms_spec (ws := wsX2_init) B.pre
  have hown : s.vm.findClass RX2 = some m.cls := findClass_of_methodNamed B.named
  have hlocks := B.notSynchronized
  have hin : meth.name = "<init>" := (name_of_methodNamed B.named B.method).1
  subst hsz
  have hD := hD0.self (sz := s.heap.size)
  generalize hAe : va_A [(h0, .inr (2, [.null, .null, .null, .int 0, .int 0]))] s.heap.size = A at hD ⊢
  have hA : ∀ q : Nat, s.heap.size ≤ q → A q := fun q h => by rw [← hAe]; exact Or.inr h
  have hS : va_S A s.heap s.heap [] := va_S.rf
  have hl := lv_entry ([.ref h0]) (n := 1) (Nat.le_of_ble_eq_true rfl)
  rw [lg_entry_eq]
  generalize (lg_sl ([.ref h0]) ++ List.replicate (1 - (lg_sl ([.ref h0])).length) Slot.unset).toArray = ls at hl ⊢
  have hl : lv_has ls 1 [(0, .ref h0)] := hl
  have hP : va_P D vwCl [(h0, .inr (2, [.null, .null, .null, .int 0, .int 0]))] s.heap := hP
  refine lv_aload_n hx hb dX2_init_0 rfl (lv_at hl 0 rfl) ?_
  refine W.objInit hx hb hown (hts (.methodLink RX2 3 objectInit) (by decide +kernel)) (hts (.instanceMethod objectInit) (by decide +kernel)) (hts _ (List.mem_of_getElem? (i := 3) rfl)) rfl (by rw [hml]; exact hl.1) rfl dX2_init_1 (Nat.le_of_ble_eq_true rfl) (Nat.le_of_ble_eq_true rfl) ?_
  refine W.eq (g2 := F0 m 4 ls []) rfl ?_
  refine lv_aload_n hx hb dX2_init_4 rfl (lv_at hl 0 rfl) ?_
  refine lv_bipush (v := 12) hx hb dX2_init_5 (by decide) ?_
  refine cs_newa (atype := .int) (D := D) (T := T) (ws := (h0, .inr (2, [.null, .null, .null, .int 0, .int 0])) :: []) (cT := T 0) (ty := .int) (N' := 12) (a0 := (12, .inl (fun _ => 0))) hx hb 0 (hts (.arrayClass .int) (by decide +kernel)) rfl rfl (fun _ h => h) hK hP hD hS hA (fun _ => rfl) (by decide) (by decide) (by decide +kernel) (by decide +kernel) (by decide +kernel) dX2_init_7 (fun q7 H hP hD hS => ?_)
  have hP : va_P D vwCl ((h0, .inr (2, [.null, .null, .null, .int 0, .int 0])) :: [(q7, .inl (T 0, 12, .inl (fun _ => 0)))]) H := hP
  have hD : va_D A ((h0, .inr (2, [.null, .null, .null, .int 0, .int 0])) :: [(q7, .inl (T 0, 12, .inl (fun _ => 0)))]) := hD
  refine W.widen (k := 1) (n := 12) (by decide +kernel) (by decide +kernel) ?_
  refine va_putF (D := D) (cl := vwCl) (ws := (h0, .inr (2, [.null, .null, .null, .int 0, .int 0])) :: [(q7, .inl (T 0, 12, .inl (fun _ => 0)))]) (ci := 2) (v := .ref q7) (ty := (.array .int)) (C := RX2) (T := TX2) (N := 5) hx hb hts (by decide +kernel) tyX2 tyX2_ok nmX2 hown hK hP hD hS 0 rfl rfl 0 (by decide) (hts (.fieldLink RX2 9 "MindNet$People" "thoughts" "[I") (by decide +kernel)) (fun _ h9 => h9) rfl hin rfl (by decide +kernel) rfl rfl (Nat.le_of_ble_eq_true rfl) dX2_init_9 (fun H locs hP hD hS => ?_)
  have hP : va_P D vwCl ((h0, .inr (2, [.ref q7, .null, .null, .int 0, .int 0])) :: [(q7, .inl (T 0, 12, .inl (fun _ => 0)))]) H := hP
  have hD : va_D A ((h0, .inr (2, [.ref q7, .null, .null, .int 0, .int 0])) :: [(q7, .inl (T 0, 12, .inl (fun _ => 0)))]) := hD
  refine lv_aload_n hx hb dX2_init_12 rfl (lv_at hl 0 rfl) ?_
  refine lv_bipush (v := 12) hx hb dX2_init_13 (by decide) ?_
  refine cs_newa (atype := .boolean) (D := D) (T := T) (ws := (h0, .inr (2, [.ref q7, .null, .null, .int 0, .int 0])) :: [(q7, .inl (T 0, 12, .inl (fun _ => 0)))]) (cT := T 1) (ty := .boolean) (N' := 12) (a0 := (12, .inl (fun _ => 0))) hx hb 1 (hts (.arrayClass .boolean) (by decide +kernel)) rfl rfl (fun _ h => h) hK hP hD hS hA (fun _ => rfl) (by decide) (by decide) (by decide +kernel) (by decide +kernel) (by decide +kernel) dX2_init_15 (fun q15 H hP hD hS => ?_)
  have hP : va_P D vwCl ((h0, .inr (2, [.ref q7, .null, .null, .int 0, .int 0])) :: [(q7, .inl (T 0, 12, .inl (fun _ => 0))), (q15, .inl (T 1, 12, .inl (fun _ => 0)))]) H := hP
  have hD : va_D A ((h0, .inr (2, [.ref q7, .null, .null, .int 0, .int 0])) :: [(q7, .inl (T 0, 12, .inl (fun _ => 0))), (q15, .inl (T 1, 12, .inl (fun _ => 0)))]) := hD
  refine W.widen (k := 2) (n := 24) (by decide +kernel) (by decide +kernel) ?_
  refine va_putF (D := D) (cl := vwCl) (ws := (h0, .inr (2, [.ref q7, .null, .null, .int 0, .int 0])) :: [(q7, .inl (T 0, 12, .inl (fun _ => 0))), (q15, .inl (T 1, 12, .inl (fun _ => 0)))]) (ci := 2) (v := .ref q15) (ty := (.array .boolean)) (C := RX2) (T := TX2) (N := 5) hx hb hts (by decide +kernel) tyX2 tyX2_ok nmX2 hown hK hP hD hS 0 rfl rfl 1 (by decide) (hts (.fieldLink RX2 15 "MindNet$People" "stubborn" "[Z") (by decide +kernel)) (fun _ h9 => h9) rfl hin rfl (by decide +kernel) rfl rfl (Nat.le_of_ble_eq_true rfl) dX2_init_17 (fun H locs hP hD hS => ?_)
  have hP : va_P D vwCl ((h0, .inr (2, [.ref q7, .ref q15, .null, .int 0, .int 0])) :: [(q7, .inl (T 0, 12, .inl (fun _ => 0))), (q15, .inl (T 1, 12, .inl (fun _ => 0)))]) H := hP
  have hD : va_D A ((h0, .inr (2, [.ref q7, .ref q15, .null, .int 0, .int 0])) :: [(q7, .inl (T 0, 12, .inl (fun _ => 0))), (q15, .inl (T 1, 12, .inl (fun _ => 0)))]) := hD
  refine lv_aload_n hx hb dX2_init_20 rfl (lv_at hl 0 rfl) ?_
  refine lv_bipush (v := 12) hx hb dX2_init_21 (by decide) ?_
  refine lv_bipush (v := 12) hx hb dX2_init_23 (by decide) ?_
  refine cs_mna (D := D) (T := T) (ws := (h0, .inr (2, [.ref q7, .ref q15, .null, .int 0, .int 0])) :: [(q7, .inl (T 0, 12, .inl (fun _ => 0))), (q15, .inl (T 1, 12, .inl (fun _ => 0)))]) (own := RX2) (ty := .int) (cT := T 3) (cR := T 0) (N' := 12) (K' := 12) (z := (12, .inl (fun _ => 0))) hx hb 3 0 hown (hts (.classLink RX2 19 ("[" ++ (FieldType.array .int).toString)) (by decide +kernel)) hN.1 (hts (.arrayClass .int) (by decide +kernel)) rfl rfl (fun _ h => h) hK hP hD hS hA (by decide) (by decide) (by decide) (by decide) (by decide +kernel) (by decide +kernel) (by decide +kernel) rfl rfl (by decide +kernel) (by decide +kernel) (fun c => arrV_new c 12 _) dX2_init_25 (fun q25 r H hP hD hS => ?_)
  have hP : va_P D vwCl ((h0, .inr (2, [.ref q7, .ref q15, .null, .int 0, .int 0])) :: ([(q7, .inl (T 0, 12, .inl (fun _ => 0))), (q15, .inl (T 1, 12, .inl (fun _ => 0))), (q25, .inl (T 3, 12, .inr (.inr (.inr (.inr (fun i => some (r i)))))))] ++ (List.range 12).map (fun i => (r i, .inl (T 0, 12, .inl (fun _ => 0)))))) H := hP
  have hD : va_D A ((h0, .inr (2, [.ref q7, .ref q15, .null, .int 0, .int 0])) :: ([(q7, .inl (T 0, 12, .inl (fun _ => 0))), (q15, .inl (T 1, 12, .inl (fun _ => 0))), (q25, .inl (T 3, 12, .inr (.inr (.inr (.inr (fun i => some (r i)))))))] ++ (List.range 12).map (fun i => (r i, .inl (T 0, 12, .inl (fun _ => 0)))))) := hD
  refine W.widen (k := 15) (n := 180) (by decide +kernel) (by decide +kernel) ?_
  refine va_putF (D := D) (cl := vwCl) (ws := (h0, .inr (2, [.ref q7, .ref q15, .null, .int 0, .int 0])) :: ([(q7, .inl (T 0, 12, .inl (fun _ => 0))), (q15, .inl (T 1, 12, .inl (fun _ => 0))), (q25, .inl (T 3, 12, .inr (.inr (.inr (.inr (fun i => some (r i)))))))] ++ (List.range 12).map (fun i => (r i, .inl (T 0, 12, .inl (fun _ => 0)))))) (ci := 2) (v := .ref q25) (ty := (.array (.array .int))) (C := RX2) (T := TX2) (N := 5) hx hb hts (by decide +kernel) tyX2 tyX2_ok nmX2 hown hK hP hD hS 0 rfl rfl 2 (by decide) (hts (.fieldLink RX2 21 "MindNet$People" "weights" "[[I") (by decide +kernel)) (fun _ h9 => h9) rfl hin rfl (by decide +kernel) rfl rfl (Nat.le_of_ble_eq_true rfl) dX2_init_29 (fun H locs hP hD hS => ?_)
  have hP : va_P D vwCl ((h0, .inr (2, [.ref q7, .ref q15, .ref q25, .int 0, .int 0])) :: ([(q7, .inl (T 0, 12, .inl (fun _ => 0))), (q15, .inl (T 1, 12, .inl (fun _ => 0))), (q25, .inl (T 3, 12, .inr (.inr (.inr (.inr (fun i => some (r i)))))))] ++ (List.range 12).map (fun i => (r i, .inl (T 0, 12, .inl (fun _ => 0)))))) H := hP
  have hD : va_D A ((h0, .inr (2, [.ref q7, .ref q15, .ref q25, .int 0, .int 0])) :: ([(q7, .inl (T 0, 12, .inl (fun _ => 0))), (q15, .inl (T 1, 12, .inl (fun _ => 0))), (q25, .inl (T 3, 12, .inr (.inr (.inr (.inr (fun i => some (r i)))))))] ++ (List.range 12).map (fun i => (r i, .inl (T 0, 12, .inl (fun _ => 0)))))) := hD
  refine lv_aload_n hx hb dX2_init_32 rfl (lv_at hl 0 rfl) ?_
  refine lv_iconst (v := 0) hx hb dX2_init_33 (by decide) ?_
  refine va_put (D := D) (cl := vwCl) (ws := (h0, .inr (2, [.ref q7, .ref q15, .ref q25, .int 0, .int 0])) :: ([(q7, .inl (T 0, 12, .inl (fun _ => 0))), (q15, .inl (T 1, 12, .inl (fun _ => 0))), (q25, .inl (T 3, 12, .inr (.inr (.inr (.inr (fun i => some (r i)))))))] ++ (List.range 12).map (fun i => (r i, .inl (T 0, 12, .inl (fun _ => 0)))))) (ci := 2) (v := .int 0) (ty := .int) (C := RX2) (T := TX2) (N := 5) hx hb hts (by decide +kernel) tyX2 tyX2_ok nmX2 hown hK hP hD hS 0 rfl rfl 3 (by decide) (hts (.fieldLink RX2 24 "MindNet$People" "count" "I") (by decide +kernel)) (fun _ h9 => h9) rfl (by decide +kernel) rfl rfl (Nat.le_of_ble_eq_true rfl) dX2_init_34 (fun H locs hP hD hS => ?_)
  have hP : va_P D vwCl ((h0, .inr (2, [.ref q7, .ref q15, .ref q25, .int 0, .int 0])) :: ([(q7, .inl (T 0, 12, .inl (fun _ => 0))), (q15, .inl (T 1, 12, .inl (fun _ => 0))), (q25, .inl (T 3, 12, .inr (.inr (.inr (.inr (fun i => some (r i)))))))] ++ (List.range 12).map (fun i => (r i, .inl (T 0, 12, .inl (fun _ => 0)))))) H := hP
  have hD : va_D A ((h0, .inr (2, [.ref q7, .ref q15, .ref q25, .int 0, .int 0])) :: ([(q7, .inl (T 0, 12, .inl (fun _ => 0))), (q15, .inl (T 1, 12, .inl (fun _ => 0))), (q25, .inl (T 3, 12, .inr (.inr (.inr (.inr (fun i => some (r i)))))))] ++ (List.range 12).map (fun i => (r i, .inl (T 0, 12, .inl (fun _ => 0)))))) := hD
  refine lv_aload_n hx hb dX2_init_37 rfl (lv_at hl 0 rfl) ?_
  refine lv_sipush (v := 1000) hx hb dX2_init_38 (by decide) ?_
  refine va_put (D := D) (cl := vwCl) (ws := (h0, .inr (2, [.ref q7, .ref q15, .ref q25, .int 0, .int 0])) :: ([(q7, .inl (T 0, 12, .inl (fun _ => 0))), (q15, .inl (T 1, 12, .inl (fun _ => 0))), (q25, .inl (T 3, 12, .inr (.inr (.inr (.inr (fun i => some (r i)))))))] ++ (List.range 12).map (fun i => (r i, .inl (T 0, 12, .inl (fun _ => 0)))))) (ci := 2) (v := .int 1000) (ty := .int) (C := RX2) (T := TX2) (N := 5) hx hb hts (by decide +kernel) tyX2 tyX2_ok nmX2 hown hK hP hD hS 0 rfl rfl 4 (by decide) (hts (.fieldLink RX2 28 "MindNet$People" "ear" "I") (by decide +kernel)) (fun _ h9 => h9) rfl (by decide +kernel) rfl rfl (Nat.le_of_ble_eq_true rfl) dX2_init_41 (fun H locs hP hD hS => ?_)
  have hP : va_P D vwCl ((h0, .inr (2, [.ref q7, .ref q15, .ref q25, .int 0, .int 1000])) :: ([(q7, .inl (T 0, 12, .inl (fun _ => 0))), (q15, .inl (T 1, 12, .inl (fun _ => 0))), (q25, .inl (T 3, 12, .inr (.inr (.inr (.inr (fun i => some (r i)))))))] ++ (List.range 12).map (fun i => (r i, .inl (T 0, 12, .inl (fun _ => 0)))))) H := hP
  have hD : va_D A ((h0, .inr (2, [.ref q7, .ref q15, .ref q25, .int 0, .int 1000])) :: ([(q7, .inl (T 0, 12, .inl (fun _ => 0))), (q15, .inl (T 1, 12, .inl (fun _ => 0))), (q25, .inl (T 3, 12, .inr (.inr (.inr (.inr (fun i => some (r i)))))))] ++ (List.range 12).map (fun i => (r i, .inl (T 0, 12, .inl (fun _ => 0)))))) := hD
  exact W.vret hx hb hr (fun t ht hW => ⟨⟨(fun j => match j with
    | 0 => q7
    | 1 => q15
    | 2 => q25
    | j + 3 => r j), rfl, trivial, by rw [ht]; exact hP, by rw [hAe]; exact hD⟩, hS.F ht⟩) hS.2.2 dX2_init_44
theorem dX7_init_0 : decode cX7_init 0 = .ok (.aload_n 0, 1) := by decide +kernel
theorem dX7_init_1 : decode cX7_init 1 = .ok (.invokespecial 5, 3) := by decide +kernel
theorem dX7_init_4 : decode cX7_init 4 = .ok (.aload_n 0, 1) := by decide +kernel
theorem dX7_init_5 : decode cX7_init 5 = .ok (.sipush 500, 3) := by decide +kernel
theorem dX7_init_8 : decode cX7_init 8 = .ok (.newarray .long, 2) := by decide +kernel
theorem dX7_init_10 : decode cX7_init 10 = .ok (.putfield 11, 3) := by decide +kernel
theorem dX7_init_13 : decode cX7_init 13 = .ok (.aload_n 0, 1) := by decide +kernel
theorem dX7_init_14 : decode cX7_init 14 = .ok (.sipush 500, 3) := by decide +kernel
theorem dX7_init_17 : decode cX7_init 17 = .ok (.newarray .int, 2) := by decide +kernel
theorem dX7_init_19 : decode cX7_init 19 = .ok (.putfield 15, 3) := by decide +kernel
theorem dX7_init_22 : decode cX7_init 22 = .ok (.aload_n 0, 1) := by decide +kernel
theorem dX7_init_23 : decode cX7_init 23 = .ok (.sipush 1024, 3) := by decide +kernel
theorem dX7_init_26 : decode cX7_init 26 = .ok (.newarray .int, 2) := by decide +kernel
theorem dX7_init_28 : decode cX7_init 28 = .ok (.putfield 19, 3) := by decide +kernel
theorem dX7_init_31 : decode cX7_init 31 = .ok (.aload_n 0, 1) := by decide +kernel
theorem dX7_init_32 : decode cX7_init 32 = .ok (.iconst 0, 1) := by decide +kernel
theorem dX7_init_33 : decode cX7_init 33 = .ok (.putfield 22, 3) := by decide +kernel
theorem dX7_init_36 : decode cX7_init 36 = .ok (.aload_n 0, 1) := by decide +kernel
theorem dX7_init_37 : decode cX7_init 37 = .ok (.iconst 0, 1) := by decide +kernel
theorem dX7_init_38 : decode cX7_init 38 = .ok (.putfield 26, 3) := by decide +kernel
theorem dX7_init_41 : decode cX7_init 41 = .ok (.aload_n 0, 1) := by decide +kernel
theorem dX7_init_42 : decode cX7_init 42 = .ok (.iconst 0, 1) := by decide +kernel
theorem dX7_init_43 : decode cX7_init 43 = .ok (.putfield 29, 3) := by decide +kernel
theorem dX7_init_46 : decode cX7_init 46 = .ok (.return_, 1) := by decide +kernel
def csW_X7 (T : Nat → ClassId) (h0 : Nat) (a : Nat → Nat) : va_W := (h0, .inr (7, [.ref (a 0), .ref (a 1), .ref (a 2), .int 0, .int 0, .int 0])) :: [((a 0), .inl (T 2, 500, .inr (.inl (fun _ => 0)))), ((a 1), .inl (T 0, 500, .inl (fun _ => 0))), ((a 2), .inl (T 0, 1024, .inl (fun _ => 0)))]
set_option maxHeartbeats 4000000 in
set_option maxRecDepth 100000 in
theorem cs_make_X7 (l : Launch) (D : va_G) (T : Nat → ClassId) (h0 sz : Nat) : Met l yX7_init wsX7_init ({ frames := 1, cells := 3, slots := 2024, locals := 12 }) (va_Pc [.ref h0] (cs_pre D T h0 7 [.null, .null, .null, .int 0, .int 0, .int 0] sz)) (va_Qv (fun _ : Nat → Nat => True) (cs_post D (csW_X7 T h0) h0 7 [.null, .null, .null, .int 0, .int 0, .int 0] sz) (va_A [(h0, .inr (7, [.null, .null, .null, .int 0, .int 0, .int 0]))] sz)) 3 2024 (va_A [(h0, .inr (7, [.null, .null, .null, .int 0, .int 0, .int 0]))] sz) := by
  refine Met.ofW (cc := cX7_init) (maxL := 1) (ret := none) (by decide) rfl ?_
  intro p e s m args below meth c s₁ B hml hv
  obtain ⟨rfl, hsz, hP, hK, hD0, hN⟩ := hv
  have hx := B.exec
  have hb := B.bytes
  have hr := B.returns
  have hts := atoms_spec (ws := wsX7_init) B.pre
  have hown : s.vm.findClass RX7 = some m.cls := findClass_of_methodNamed B.named
  have hlocks := B.notSynchronized
  have hin : meth.name = "<init>" := (name_of_methodNamed B.named B.method).1
  subst hsz
  have hD := hD0.self (sz := s.heap.size)
  generalize hAe : va_A [(h0, .inr (7, [.null, .null, .null, .int 0, .int 0, .int 0]))] s.heap.size = A at hD ⊢
  have hA : ∀ q : Nat, s.heap.size ≤ q → A q := fun q h => by rw [← hAe]; exact Or.inr h
  have hS : va_S A s.heap s.heap [] := va_S.rf
  have hl := lv_entry ([.ref h0]) (n := 1) (Nat.le_of_ble_eq_true rfl)
  rw [lg_entry_eq]
  generalize (lg_sl ([.ref h0]) ++ List.replicate (1 - (lg_sl ([.ref h0])).length) Slot.unset).toArray = ls at hl ⊢
  have hl : lv_has ls 1 [(0, .ref h0)] := hl
  have hP : va_P D vwCl [(h0, .inr (7, [.null, .null, .null, .int 0, .int 0, .int 0]))] s.heap := hP
  refine lv_aload_n hx hb dX7_init_0 rfl (lv_at hl 0 rfl) ?_
  refine W.objInit hx hb hown (hts (.methodLink RX7 5 objectInit) (by decide +kernel)) (hts (.instanceMethod objectInit) (by decide +kernel)) (hts _ (List.mem_of_getElem? (i := 3) rfl)) rfl (by rw [hml]; exact hl.1) rfl dX7_init_1 (Nat.le_of_ble_eq_true rfl) (Nat.le_of_ble_eq_true rfl) ?_
  refine W.eq (g2 := F0 m 4 ls []) rfl ?_
  refine lv_aload_n hx hb dX7_init_4 rfl (lv_at hl 0 rfl) ?_
  refine lv_sipush (v := 500) hx hb dX7_init_5 (by decide) ?_
  refine cs_newa (atype := .long) (D := D) (T := T) (ws := (h0, .inr (7, [.null, .null, .null, .int 0, .int 0, .int 0])) :: []) (cT := T 2) (ty := .long) (N' := 500) (a0 := (500, .inr (.inl (fun _ => 0)))) hx hb 2 (hts (.arrayClass .long) (by decide +kernel)) rfl rfl (fun _ h => h) hK hP hD hS hA (fun _ => rfl) (by decide) (by decide) (by decide +kernel) (by decide +kernel) (by decide +kernel) dX7_init_8 (fun q8 H hP hD hS => ?_)
  have hP : va_P D vwCl ((h0, .inr (7, [.null, .null, .null, .int 0, .int 0, .int 0])) :: [(q8, .inl (T 2, 500, .inr (.inl (fun _ => 0))))]) H := hP
  have hD : va_D A ((h0, .inr (7, [.null, .null, .null, .int 0, .int 0, .int 0])) :: [(q8, .inl (T 2, 500, .inr (.inl (fun _ => 0))))]) := hD
  refine W.widen (k := 1) (n := 500) (by decide +kernel) (by decide +kernel) ?_
  refine va_putF (D := D) (cl := vwCl) (ws := (h0, .inr (7, [.null, .null, .null, .int 0, .int 0, .int 0])) :: [(q8, .inl (T 2, 500, .inr (.inl (fun _ => 0))))]) (ci := 7) (v := .ref q8) (ty := (.array .long)) (C := RX7) (T := TX7) (N := 6) hx hb hts (by decide +kernel) tyX7 tyX7_ok nmX7 hown hK hP hD hS 0 rfl rfl 0 (by decide) (hts (.fieldLink RX7 11 "MindNet$TalkSearch" "kinds" "[J") (by decide +kernel)) (fun _ h9 => h9) rfl hin rfl (by decide +kernel) rfl rfl (Nat.le_of_ble_eq_true rfl) dX7_init_10 (fun H locs hP hD hS => ?_)
  have hP : va_P D vwCl ((h0, .inr (7, [.ref q8, .null, .null, .int 0, .int 0, .int 0])) :: [(q8, .inl (T 2, 500, .inr (.inl (fun _ => 0))))]) H := hP
  have hD : va_D A ((h0, .inr (7, [.ref q8, .null, .null, .int 0, .int 0, .int 0])) :: [(q8, .inl (T 2, 500, .inr (.inl (fun _ => 0))))]) := hD
  refine lv_aload_n hx hb dX7_init_13 rfl (lv_at hl 0 rfl) ?_
  refine lv_sipush (v := 500) hx hb dX7_init_14 (by decide) ?_
  refine cs_newa (atype := .int) (D := D) (T := T) (ws := (h0, .inr (7, [.ref q8, .null, .null, .int 0, .int 0, .int 0])) :: [(q8, .inl (T 2, 500, .inr (.inl (fun _ => 0))))]) (cT := T 0) (ty := .int) (N' := 500) (a0 := (500, .inl (fun _ => 0))) hx hb 0 (hts (.arrayClass .int) (by decide +kernel)) rfl rfl (fun _ h => h) hK hP hD hS hA (fun _ => rfl) (by decide) (by decide) (by decide +kernel) (by decide +kernel) (by decide +kernel) dX7_init_17 (fun q17 H hP hD hS => ?_)
  have hP : va_P D vwCl ((h0, .inr (7, [.ref q8, .null, .null, .int 0, .int 0, .int 0])) :: [(q8, .inl (T 2, 500, .inr (.inl (fun _ => 0)))), (q17, .inl (T 0, 500, .inl (fun _ => 0)))]) H := hP
  have hD : va_D A ((h0, .inr (7, [.ref q8, .null, .null, .int 0, .int 0, .int 0])) :: [(q8, .inl (T 2, 500, .inr (.inl (fun _ => 0)))), (q17, .inl (T 0, 500, .inl (fun _ => 0)))]) := hD
  refine W.widen (k := 2) (n := 1000) (by decide +kernel) (by decide +kernel) ?_
  refine va_putF (D := D) (cl := vwCl) (ws := (h0, .inr (7, [.ref q8, .null, .null, .int 0, .int 0, .int 0])) :: [(q8, .inl (T 2, 500, .inr (.inl (fun _ => 0)))), (q17, .inl (T 0, 500, .inl (fun _ => 0)))]) (ci := 7) (v := .ref q17) (ty := (.array .int)) (C := RX7) (T := TX7) (N := 6) hx hb hts (by decide +kernel) tyX7 tyX7_ok nmX7 hown hK hP hD hS 0 rfl rfl 1 (by decide) (hts (.fieldLink RX7 15 "MindNet$TalkSearch" "talksTo" "[I") (by decide +kernel)) (fun _ h9 => h9) rfl hin rfl (by decide +kernel) rfl rfl (Nat.le_of_ble_eq_true rfl) dX7_init_19 (fun H locs hP hD hS => ?_)
  have hP : va_P D vwCl ((h0, .inr (7, [.ref q8, .ref q17, .null, .int 0, .int 0, .int 0])) :: [(q8, .inl (T 2, 500, .inr (.inl (fun _ => 0)))), (q17, .inl (T 0, 500, .inl (fun _ => 0)))]) H := hP
  have hD : va_D A ((h0, .inr (7, [.ref q8, .ref q17, .null, .int 0, .int 0, .int 0])) :: [(q8, .inl (T 2, 500, .inr (.inl (fun _ => 0)))), (q17, .inl (T 0, 500, .inl (fun _ => 0)))]) := hD
  refine lv_aload_n hx hb dX7_init_22 rfl (lv_at hl 0 rfl) ?_
  refine lv_sipush (v := 1024) hx hb dX7_init_23 (by decide) ?_
  refine cs_newa (atype := .int) (D := D) (T := T) (ws := (h0, .inr (7, [.ref q8, .ref q17, .null, .int 0, .int 0, .int 0])) :: [(q8, .inl (T 2, 500, .inr (.inl (fun _ => 0)))), (q17, .inl (T 0, 500, .inl (fun _ => 0)))]) (cT := T 0) (ty := .int) (N' := 1024) (a0 := (1024, .inl (fun _ => 0))) hx hb 0 (hts (.arrayClass .int) (by decide +kernel)) rfl rfl (fun _ h => h) hK hP hD hS hA (fun _ => rfl) (by decide) (by decide) (by decide +kernel) (by decide +kernel) (by decide +kernel) dX7_init_26 (fun q26 H hP hD hS => ?_)
  have hP : va_P D vwCl ((h0, .inr (7, [.ref q8, .ref q17, .null, .int 0, .int 0, .int 0])) :: [(q8, .inl (T 2, 500, .inr (.inl (fun _ => 0)))), (q17, .inl (T 0, 500, .inl (fun _ => 0))), (q26, .inl (T 0, 1024, .inl (fun _ => 0)))]) H := hP
  have hD : va_D A ((h0, .inr (7, [.ref q8, .ref q17, .null, .int 0, .int 0, .int 0])) :: [(q8, .inl (T 2, 500, .inr (.inl (fun _ => 0)))), (q17, .inl (T 0, 500, .inl (fun _ => 0))), (q26, .inl (T 0, 1024, .inl (fun _ => 0)))]) := hD
  refine W.widen (k := 3) (n := 2024) (by decide +kernel) (by decide +kernel) ?_
  refine va_putF (D := D) (cl := vwCl) (ws := (h0, .inr (7, [.ref q8, .ref q17, .null, .int 0, .int 0, .int 0])) :: [(q8, .inl (T 2, 500, .inr (.inl (fun _ => 0)))), (q17, .inl (T 0, 500, .inl (fun _ => 0))), (q26, .inl (T 0, 1024, .inl (fun _ => 0)))]) (ci := 7) (v := .ref q26) (ty := (.array .int)) (C := RX7) (T := TX7) (N := 6) hx hb hts (by decide +kernel) tyX7 tyX7_ok nmX7 hown hK hP hD hS 0 rfl rfl 2 (by decide) (hts (.fieldLink RX7 19 "MindNet$TalkSearch" "slots" "[I") (by decide +kernel)) (fun _ h9 => h9) rfl hin rfl (by decide +kernel) rfl rfl (Nat.le_of_ble_eq_true rfl) dX7_init_28 (fun H locs hP hD hS => ?_)
  have hP : va_P D vwCl ((h0, .inr (7, [.ref q8, .ref q17, .ref q26, .int 0, .int 0, .int 0])) :: [(q8, .inl (T 2, 500, .inr (.inl (fun _ => 0)))), (q17, .inl (T 0, 500, .inl (fun _ => 0))), (q26, .inl (T 0, 1024, .inl (fun _ => 0)))]) H := hP
  have hD : va_D A ((h0, .inr (7, [.ref q8, .ref q17, .ref q26, .int 0, .int 0, .int 0])) :: [(q8, .inl (T 2, 500, .inr (.inl (fun _ => 0)))), (q17, .inl (T 0, 500, .inl (fun _ => 0))), (q26, .inl (T 0, 1024, .inl (fun _ => 0)))]) := hD
  refine lv_aload_n hx hb dX7_init_31 rfl (lv_at hl 0 rfl) ?_
  refine lv_iconst (v := 0) hx hb dX7_init_32 (by decide) ?_
  refine va_put (D := D) (cl := vwCl) (ws := (h0, .inr (7, [.ref q8, .ref q17, .ref q26, .int 0, .int 0, .int 0])) :: [(q8, .inl (T 2, 500, .inr (.inl (fun _ => 0)))), (q17, .inl (T 0, 500, .inl (fun _ => 0))), (q26, .inl (T 0, 1024, .inl (fun _ => 0)))]) (ci := 7) (v := .int 0) (ty := .int) (C := RX7) (T := TX7) (N := 6) hx hb hts (by decide +kernel) tyX7 tyX7_ok nmX7 hown hK hP hD hS 0 rfl rfl 3 (by decide) (hts (.fieldLink RX7 22 "MindNet$TalkSearch" "count" "I") (by decide +kernel)) (fun _ h9 => h9) rfl (by decide +kernel) rfl rfl (Nat.le_of_ble_eq_true rfl) dX7_init_33 (fun H locs hP hD hS => ?_)
  have hP : va_P D vwCl ((h0, .inr (7, [.ref q8, .ref q17, .ref q26, .int 0, .int 0, .int 0])) :: [(q8, .inl (T 2, 500, .inr (.inl (fun _ => 0)))), (q17, .inl (T 0, 500, .inl (fun _ => 0))), (q26, .inl (T 0, 1024, .inl (fun _ => 0)))]) H := hP
  have hD : va_D A ((h0, .inr (7, [.ref q8, .ref q17, .ref q26, .int 0, .int 0, .int 0])) :: [(q8, .inl (T 2, 500, .inr (.inl (fun _ => 0)))), (q17, .inl (T 0, 500, .inl (fun _ => 0))), (q26, .inl (T 0, 1024, .inl (fun _ => 0)))]) := hD
  refine lv_aload_n hx hb dX7_init_36 rfl (lv_at hl 0 rfl) ?_
  refine lv_iconst (v := 0) hx hb dX7_init_37 (by decide) ?_
  refine va_put (D := D) (cl := vwCl) (ws := (h0, .inr (7, [.ref q8, .ref q17, .ref q26, .int 0, .int 0, .int 0])) :: [(q8, .inl (T 2, 500, .inr (.inl (fun _ => 0)))), (q17, .inl (T 0, 500, .inl (fun _ => 0))), (q26, .inl (T 0, 1024, .inl (fun _ => 0)))]) (ci := 7) (v := .int 0) (ty := .int) (C := RX7) (T := TX7) (N := 6) hx hb hts (by decide +kernel) tyX7 tyX7_ok nmX7 hown hK hP hD hS 0 rfl rfl 4 (by decide) (hts (.fieldLink RX7 26 "MindNet$TalkSearch" "size" "I") (by decide +kernel)) (fun _ h9 => h9) rfl (by decide +kernel) rfl rfl (Nat.le_of_ble_eq_true rfl) dX7_init_38 (fun H locs hP hD hS => ?_)
  have hP : va_P D vwCl ((h0, .inr (7, [.ref q8, .ref q17, .ref q26, .int 0, .int 0, .int 0])) :: [(q8, .inl (T 2, 500, .inr (.inl (fun _ => 0)))), (q17, .inl (T 0, 500, .inl (fun _ => 0))), (q26, .inl (T 0, 1024, .inl (fun _ => 0)))]) H := hP
  have hD : va_D A ((h0, .inr (7, [.ref q8, .ref q17, .ref q26, .int 0, .int 0, .int 0])) :: [(q8, .inl (T 2, 500, .inr (.inl (fun _ => 0)))), (q17, .inl (T 0, 500, .inl (fun _ => 0))), (q26, .inl (T 0, 1024, .inl (fun _ => 0)))]) := hD
  refine lv_aload_n hx hb dX7_init_41 rfl (lv_at hl 0 rfl) ?_
  refine lv_iconst (v := 0) hx hb dX7_init_42 (by decide) ?_
  refine va_put (D := D) (cl := vwCl) (ws := (h0, .inr (7, [.ref q8, .ref q17, .ref q26, .int 0, .int 0, .int 0])) :: [(q8, .inl (T 2, 500, .inr (.inl (fun _ => 0)))), (q17, .inl (T 0, 500, .inl (fun _ => 0))), (q26, .inl (T 0, 1024, .inl (fun _ => 0)))]) (ci := 7) (v := .int 0) (ty := .int) (C := RX7) (T := TX7) (N := 6) hx hb hts (by decide +kernel) tyX7 tyX7_ok nmX7 hown hK hP hD hS 0 rfl rfl 5 (by decide) (hts (.fieldLink RX7 29 "MindNet$TalkSearch" "aim" "I") (by decide +kernel)) (fun _ h9 => h9) rfl (by decide +kernel) rfl rfl (Nat.le_of_ble_eq_true rfl) dX7_init_43 (fun H locs hP hD hS => ?_)
  have hP : va_P D vwCl ((h0, .inr (7, [.ref q8, .ref q17, .ref q26, .int 0, .int 0, .int 0])) :: [(q8, .inl (T 2, 500, .inr (.inl (fun _ => 0)))), (q17, .inl (T 0, 500, .inl (fun _ => 0))), (q26, .inl (T 0, 1024, .inl (fun _ => 0)))]) H := hP
  have hD : va_D A ((h0, .inr (7, [.ref q8, .ref q17, .ref q26, .int 0, .int 0, .int 0])) :: [(q8, .inl (T 2, 500, .inr (.inl (fun _ => 0)))), (q17, .inl (T 0, 500, .inl (fun _ => 0))), (q26, .inl (T 0, 1024, .inl (fun _ => 0)))]) := hD
  exact W.vret hx hb hr (fun t ht hW => ⟨⟨(fun j => match j with
    | 0 => q8
    | 1 => q17
    | 2 => q26
    | _ => 0), rfl, trivial, by rw [ht]; exact hP, by rw [hAe]; exact hD⟩, hS.F ht⟩) hS.2.2 dX7_init_46
theorem dX5_init_0 : decode cX5_init 0 = .ok (.aload_n 0, 1) := by decide +kernel
theorem dX5_init_1 : decode cX5_init 1 = .ok (.invokespecial 3, 3) := by decide +kernel
theorem dX5_init_4 : decode cX5_init 4 = .ok (.aload_n 0, 1) := by decide +kernel
theorem dX5_init_5 : decode cX5_init 5 = .ok (.new 9, 3) := by decide +kernel
theorem dX5_init_8 : decode cX5_init 8 = .ok (.dup, 1) := by decide +kernel
theorem dX5_init_9 : decode cX5_init 9 = .ok (.invokespecial 11, 3) := by decide +kernel
theorem dX5_init_12 : decode cX5_init 12 = .ok (.putfield 12, 3) := by decide +kernel
theorem dX5_init_15 : decode cX5_init 15 = .ok (.aload_n 0, 1) := by decide +kernel
theorem dX5_init_16 : decode cX5_init 16 = .ok (.bipush 6, 2) := by decide +kernel
theorem dX5_init_18 : decode cX5_init 18 = .ok (.newarray .long, 2) := by decide +kernel
theorem dX5_init_20 : decode cX5_init 20 = .ok (.putfield 18, 3) := by decide +kernel
theorem dX5_init_23 : decode cX5_init 23 = .ok (.aload_n 0, 1) := by decide +kernel
theorem dX5_init_24 : decode cX5_init 24 = .ok (.lconst 0, 1) := by decide +kernel
theorem dX5_init_25 : decode cX5_init 25 = .ok (.putfield 22, 3) := by decide +kernel
theorem dX5_init_28 : decode cX5_init 28 = .ok (.return_, 1) := by decide +kernel
def csW_X5 (T : Nat → ClassId) (h0 : Nat) (a : Nat → Nat) : va_W := (h0, .inr (5, [.ref (a 0), .ref (a 1), .long 0])) :: (csW_X6 T (a 0) (fun j => a (j + 2)) ++ [((a 1), .inl (T 2, 6, .inr (.inl (fun _ => 0))))])
set_option maxHeartbeats 4000000 in
set_option maxRecDepth 100000 in
theorem cs_make_X5 (l : Launch) (D : va_G) (T : Nat → ClassId) (h0 sz : Nat) : Met l yX5_init wsX5_init ({ frames := 2, cells := 11, slots := 122, locals := 32 }) (va_Pc [.ref h0] (cs_pre D T h0 5 [.null, .null, .long 0] sz)) (va_Qv (fun _ : Nat → Nat => True) (cs_post D (csW_X5 T h0) h0 5 [.null, .null, .long 0] sz) (va_A [(h0, .inr (5, [.null, .null, .long 0]))] sz)) 11 122 (va_A [(h0, .inr (5, [.null, .null, .long 0]))] sz) := by
  refine Met.ofW (cc := cX5_init) (maxL := 1) (ret := none) (by decide) rfl ?_
  intro p e s m args below meth c s₁ B hml hv
  obtain ⟨rfl, hsz, hP, hK, hD0, hN⟩ := hv
  have hx := B.exec
  have hb := B.bytes
  have hr := B.returns
  have hts := atoms_spec (ws := wsX5_init) B.pre
  have hown : s.vm.findClass RX5 = some m.cls := findClass_of_methodNamed B.named
  have hlocks := B.notSynchronized
  have hin : meth.name = "<init>" := (name_of_methodNamed B.named B.method).1
  subst hsz
  have hD := hD0.self (sz := s.heap.size)
  generalize hAe : va_A [(h0, .inr (5, [.null, .null, .long 0]))] s.heap.size = A at hD ⊢
  have hA : ∀ q : Nat, s.heap.size ≤ q → A q := fun q h => by rw [← hAe]; exact Or.inr h
  have hS : va_S A s.heap s.heap [] := va_S.rf
  have hl := lv_entry ([.ref h0]) (n := 1) (Nat.le_of_ble_eq_true rfl)
  rw [lg_entry_eq]
  generalize (lg_sl ([.ref h0]) ++ List.replicate (1 - (lg_sl ([.ref h0])).length) Slot.unset).toArray = ls at hl ⊢
  have hl : lv_has ls 1 [(0, .ref h0)] := hl
  have hP : va_P D vwCl [(h0, .inr (5, [.null, .null, .long 0]))] s.heap := hP
  refine lv_aload_n hx hb dX5_init_0 rfl (lv_at hl 0 rfl) ?_
  refine W.objInit hx hb hown (hts (.methodLink RX5 3 objectInit) (by decide +kernel)) (hts (.instanceMethod objectInit) (by decide +kernel)) (hts _ (List.mem_of_getElem? (i := 3) rfl)) rfl (by rw [hml]; exact hl.1) rfl dX5_init_1 (Nat.le_of_ble_eq_true rfl) (Nat.le_of_ble_eq_true rfl) ?_
  refine W.eq (g2 := F0 m 4 ls []) rfl ?_
  refine lv_aload_n hx hb dX5_init_4 rfl (lv_at hl 0 rfl) ?_
  refine va_new (D := D) (cl := vwCl) (ws := (h0, .inr (5, [.null, .null, .long 0])) :: []) (ci := 6) (fs := [.null, .null, .null, .int 0]) (C := RX6) (T := TX6) (N := 4) hx hb hts (by decide +kernel) tyX6 tyX6_ok hown (hts (.classLink RX5 9 RX6) (by decide +kernel)) (hts (.instantiable RX6 4) (by decide +kernel)) (hts (.initialized RX6) (by decide +kernel)) hK hP hD hS hA rfl (fun j hj => by rcases (show j = 0 ∨ j = 1 ∨ j = 2 ∨ j = 3 by omega) with rfl | rfl | rfl | rfl <;> rfl) (by decide +kernel) (by decide +kernel) dX5_init_5 (fun q5 H hP hD hS => ?_)
  refine W.widen (k := 1) (n := 4) (by decide +kernel) (by decide +kernel) ?_
  refine lv_dup hx hb dX5_init_8 rfl ?_
  refine cs_call (D := D) (T := T) (wr := (h0, .inr (5, [.null, .null, .long 0])) :: []) (q := q5) (ci := 6) (fs := [.null, .null, .null, .int 0]) (rest := [.ref q5, .ref h0]) (mc := 9) (ms := 112) (cs_make_X6 l D T q5 H.size) ⟨hx, hb, hml, hown, hts⟩ ⟨va_cnB 0 hts gX5_init_X6_init_n11 rfl rfl rfl (hN.2.2 (RX5, 11, yX6_init) (by decide +kernel)) (hts (.initialized RX6) (by decide +kernel)) (by decide +kernel) ⟨(by decide +kernel), (by decide +kernel)⟩, rfl, hts (.instanceMethod yX6_init) (by decide +kernel)⟩ hK hN hP hD hS hA hl.1 (Nat.le_of_ble_eq_true rfl) dX5_init_9 ⟨(by decide +kernel), (by decide +kernel)⟩ (fun a9 H locs hP hD hS => ?_)
  have hP : va_P D vwCl ((h0, .inr (5, [.null, .null, .long 0])) :: csW_X6 T q5 a9) H := hP
  have hD : va_D A ((h0, .inr (5, [.null, .null, .long 0])) :: csW_X6 T q5 a9) := hD
  refine W.widen (k := 10) (n := 116) (by decide +kernel) (by decide +kernel) ?_
  refine va_putF (D := D) (cl := vwCl) (ws := (h0, .inr (5, [.null, .null, .long 0])) :: csW_X6 T q5 a9) (ci := 5) (v := .ref q5) (ty := (.object "MindNet$Square")) (C := RX5) (T := TX5) (N := 3) hx hb hts (by decide +kernel) tyX5 tyX5_ok nmX5 hown hK hP hD hS 0 rfl rfl 0 (by decide) (hts (.fieldLink RX5 12 "MindNet$Shares" "square" "LMindNet$Square;") (by decide +kernel)) (fun _ h9 => h9) rfl hin rfl (by decide +kernel) rfl rfl (Nat.le_of_ble_eq_true rfl) dX5_init_12 (fun H locs hP hD hS => ?_)
  have hP : va_P D vwCl ((h0, .inr (5, [.ref q5, .null, .long 0])) :: csW_X6 T q5 a9) H := hP
  have hD : va_D A ((h0, .inr (5, [.ref q5, .null, .long 0])) :: csW_X6 T q5 a9) := hD
  refine lv_aload_n hx hb dX5_init_15 rfl (lv_at hl 0 rfl) ?_
  refine lv_bipush (v := 6) hx hb dX5_init_16 (by decide) ?_
  refine cs_newa (atype := .long) (D := D) (T := T) (ws := (h0, .inr (5, [.ref q5, .null, .long 0])) :: csW_X6 T q5 a9) (cT := T 2) (ty := .long) (N' := 6) (a0 := (6, .inr (.inl (fun _ => 0)))) hx hb 2 (hts (.arrayClass .long) (by decide +kernel)) rfl rfl (fun _ h => h) hK hP hD hS hA (fun _ => rfl) (by decide) (by decide) (by decide +kernel) (by decide +kernel) (by decide +kernel) dX5_init_18 (fun q18 H hP hD hS => ?_)
  have hP : va_P D vwCl ((h0, .inr (5, [.ref q5, .null, .long 0])) :: (csW_X6 T q5 a9 ++ [(q18, .inl (T 2, 6, .inr (.inl (fun _ => 0))))])) H := hP
  have hD : va_D A ((h0, .inr (5, [.ref q5, .null, .long 0])) :: (csW_X6 T q5 a9 ++ [(q18, .inl (T 2, 6, .inr (.inl (fun _ => 0))))])) := hD
  refine W.widen (k := 11) (n := 122) (by decide +kernel) (by decide +kernel) ?_
  refine va_putF (D := D) (cl := vwCl) (ws := (h0, .inr (5, [.ref q5, .null, .long 0])) :: (csW_X6 T q5 a9 ++ [(q18, .inl (T 2, 6, .inr (.inl (fun _ => 0))))])) (ci := 5) (v := .ref q18) (ty := (.array .long)) (C := RX5) (T := TX5) (N := 3) hx hb hts (by decide +kernel) tyX5 tyX5_ok nmX5 hown hK hP hD hS 0 rfl rfl 1 (by decide) (hts (.fieldLink RX5 18 "MindNet$Shares" "parts" "[J") (by decide +kernel)) (fun _ h9 => h9) rfl hin rfl (by decide +kernel) rfl rfl (Nat.le_of_ble_eq_true rfl) dX5_init_20 (fun H locs hP hD hS => ?_)
  have hP : va_P D vwCl ((h0, .inr (5, [.ref q5, .ref q18, .long 0])) :: (csW_X6 T q5 a9 ++ [(q18, .inl (T 2, 6, .inr (.inl (fun _ => 0))))])) H := hP
  have hD : va_D A ((h0, .inr (5, [.ref q5, .ref q18, .long 0])) :: (csW_X6 T q5 a9 ++ [(q18, .inl (T 2, 6, .inr (.inl (fun _ => 0))))])) := hD
  refine lv_aload_n hx hb dX5_init_23 rfl (lv_at hl 0 rfl) ?_
  refine lv_lconst (v := 0) hx hb dX5_init_24 (by decide) ?_
  refine va_put (D := D) (cl := vwCl) (ws := (h0, .inr (5, [.ref q5, .ref q18, .long 0])) :: (csW_X6 T q5 a9 ++ [(q18, .inl (T 2, 6, .inr (.inl (fun _ => 0))))])) (ci := 5) (v := .long 0) (ty := .long) (C := RX5) (T := TX5) (N := 3) hx hb hts (by decide +kernel) tyX5 tyX5_ok nmX5 hown hK hP hD hS 0 rfl rfl 2 (by decide) (hts (.fieldLink RX5 22 "MindNet$Shares" "together" "J") (by decide +kernel)) (fun _ h9 => h9) rfl (by decide +kernel) rfl rfl (Nat.le_of_ble_eq_true rfl) dX5_init_25 (fun H locs hP hD hS => ?_)
  have hP : va_P D vwCl ((h0, .inr (5, [.ref q5, .ref q18, .long 0])) :: (csW_X6 T q5 a9 ++ [(q18, .inl (T 2, 6, .inr (.inl (fun _ => 0))))])) H := hP
  have hD : va_D A ((h0, .inr (5, [.ref q5, .ref q18, .long 0])) :: (csW_X6 T q5 a9 ++ [(q18, .inl (T 2, 6, .inr (.inl (fun _ => 0))))])) := hD
  exact W.vret hx hb hr (fun t ht hW => ⟨⟨(fun j => match j with
    | 0 => q5
    | 1 => q18
    | j + 2 => a9 j), rfl, trivial, by rw [ht]; exact hP, by rw [hAe]; exact hD⟩, hS.F ht⟩) hS.2.2 dX5_init_28
theorem dX3_init_0 : decode cX3_init 0 = .ok (.aload_n 0, 1) := by decide +kernel
theorem dX3_init_1 : decode cX3_init 1 = .ok (.invokespecial 3, 3) := by decide +kernel
theorem dX3_init_4 : decode cX3_init 4 = .ok (.aload_n 0, 1) := by decide +kernel
theorem dX3_init_5 : decode cX3_init 5 = .ok (.new 9, 3) := by decide +kernel
theorem dX3_init_8 : decode cX3_init 8 = .ok (.dup, 1) := by decide +kernel
theorem dX3_init_9 : decode cX3_init 9 = .ok (.invokespecial 11, 3) := by decide +kernel
theorem dX3_init_12 : decode cX3_init 12 = .ok (.putfield 12, 3) := by decide +kernel
theorem dX3_init_15 : decode cX3_init 15 = .ok (.aload_n 0, 1) := by decide +kernel
theorem dX3_init_16 : decode cX3_init 16 = .ok (.bipush 12, 2) := by decide +kernel
theorem dX3_init_18 : decode cX3_init 18 = .ok (.newarray .int, 2) := by decide +kernel
theorem dX3_init_20 : decode cX3_init 20 = .ok (.putfield 18, 3) := by decide +kernel
theorem dX3_init_23 : decode cX3_init 23 = .ok (.aload_n 0, 1) := by decide +kernel
theorem dX3_init_24 : decode cX3_init 24 = .ok (.bipush 12, 2) := by decide +kernel
theorem dX3_init_26 : decode cX3_init 26 = .ok (.newarray .long, 2) := by decide +kernel
theorem dX3_init_28 : decode cX3_init 28 = .ok (.putfield 22, 3) := by decide +kernel
theorem dX3_init_31 : decode cX3_init 31 = .ok (.aload_n 0, 1) := by decide +kernel
theorem dX3_init_32 : decode cX3_init 32 = .ok (.lconst 1, 1) := by decide +kernel
theorem dX3_init_33 : decode cX3_init 33 = .ok (.putfield 26, 3) := by decide +kernel
theorem dX3_init_36 : decode cX3_init 36 = .ok (.return_, 1) := by decide +kernel
def csW_X3 (T : Nat → ClassId) (h0 : Nat) (a : Nat → Nat) : va_W := (h0, .inr (3, [.ref (a 0), .ref (a 1), .ref (a 2), .long 1])) :: (csW_X6 T (a 0) (fun j => a (j + 3)) ++ [((a 1), .inl (T 0, 12, .inl (fun _ => 0))), ((a 2), .inl (T 2, 12, .inr (.inl (fun _ => 0))))])
set_option maxHeartbeats 4000000 in
set_option maxRecDepth 100000 in
theorem cs_make_X3 (l : Launch) (D : va_G) (T : Nat → ClassId) (h0 sz : Nat) : Met l yX3_init wsX3_init ({ frames := 2, cells := 12, slots := 140, locals := 32 }) (va_Pc [.ref h0] (cs_pre D T h0 3 [.null, .null, .null, .long 0] sz)) (va_Qv (fun _ : Nat → Nat => True) (cs_post D (csW_X3 T h0) h0 3 [.null, .null, .null, .long 0] sz) (va_A [(h0, .inr (3, [.null, .null, .null, .long 0]))] sz)) 12 140 (va_A [(h0, .inr (3, [.null, .null, .null, .long 0]))] sz) := by
  refine Met.ofW (cc := cX3_init) (maxL := 1) (ret := none) (by decide) rfl ?_
  intro p e s m args below meth c s₁ B hml hv
  obtain ⟨rfl, hsz, hP, hK, hD0, hN⟩ := hv
  have hx := B.exec
  have hb := B.bytes
  have hr := B.returns
  have hts := atoms_spec (ws := wsX3_init) B.pre
  have hown : s.vm.findClass RX3 = some m.cls := findClass_of_methodNamed B.named
  have hlocks := B.notSynchronized
  have hin : meth.name = "<init>" := (name_of_methodNamed B.named B.method).1
  subst hsz
  have hD := hD0.self (sz := s.heap.size)
  generalize hAe : va_A [(h0, .inr (3, [.null, .null, .null, .long 0]))] s.heap.size = A at hD ⊢
  have hA : ∀ q : Nat, s.heap.size ≤ q → A q := fun q h => by rw [← hAe]; exact Or.inr h
  have hS : va_S A s.heap s.heap [] := va_S.rf
  have hl := lv_entry ([.ref h0]) (n := 1) (Nat.le_of_ble_eq_true rfl)
  rw [lg_entry_eq]
  generalize (lg_sl ([.ref h0]) ++ List.replicate (1 - (lg_sl ([.ref h0])).length) Slot.unset).toArray = ls at hl ⊢
  have hl : lv_has ls 1 [(0, .ref h0)] := hl
  have hP : va_P D vwCl [(h0, .inr (3, [.null, .null, .null, .long 0]))] s.heap := hP
  refine lv_aload_n hx hb dX3_init_0 rfl (lv_at hl 0 rfl) ?_
  refine W.objInit hx hb hown (hts (.methodLink RX3 3 objectInit) (by decide +kernel)) (hts (.instanceMethod objectInit) (by decide +kernel)) (hts _ (List.mem_of_getElem? (i := 3) rfl)) rfl (by rw [hml]; exact hl.1) rfl dX3_init_1 (Nat.le_of_ble_eq_true rfl) (Nat.le_of_ble_eq_true rfl) ?_
  refine W.eq (g2 := F0 m 4 ls []) rfl ?_
  refine lv_aload_n hx hb dX3_init_4 rfl (lv_at hl 0 rfl) ?_
  refine va_new (D := D) (cl := vwCl) (ws := (h0, .inr (3, [.null, .null, .null, .long 0])) :: []) (ci := 6) (fs := [.null, .null, .null, .int 0]) (C := RX6) (T := TX6) (N := 4) hx hb hts (by decide +kernel) tyX6 tyX6_ok hown (hts (.classLink RX3 9 RX6) (by decide +kernel)) (hts (.instantiable RX6 4) (by decide +kernel)) (hts (.initialized RX6) (by decide +kernel)) hK hP hD hS hA rfl (fun j hj => by rcases (show j = 0 ∨ j = 1 ∨ j = 2 ∨ j = 3 by omega) with rfl | rfl | rfl | rfl <;> rfl) (by decide +kernel) (by decide +kernel) dX3_init_5 (fun q5 H hP hD hS => ?_)
  refine W.widen (k := 1) (n := 4) (by decide +kernel) (by decide +kernel) ?_
  refine lv_dup hx hb dX3_init_8 rfl ?_
  refine cs_call (D := D) (T := T) (wr := (h0, .inr (3, [.null, .null, .null, .long 0])) :: []) (q := q5) (ci := 6) (fs := [.null, .null, .null, .int 0]) (rest := [.ref q5, .ref h0]) (mc := 9) (ms := 112) (cs_make_X6 l D T q5 H.size) ⟨hx, hb, hml, hown, hts⟩ ⟨va_cnB 0 hts gX3_init_X6_init_n11 rfl rfl rfl (hN.2.2 (RX3, 11, yX6_init) (by decide +kernel)) (hts (.initialized RX6) (by decide +kernel)) (by decide +kernel) ⟨(by decide +kernel), (by decide +kernel)⟩, rfl, hts (.instanceMethod yX6_init) (by decide +kernel)⟩ hK hN hP hD hS hA hl.1 (Nat.le_of_ble_eq_true rfl) dX3_init_9 ⟨(by decide +kernel), (by decide +kernel)⟩ (fun a9 H locs hP hD hS => ?_)
  have hP : va_P D vwCl ((h0, .inr (3, [.null, .null, .null, .long 0])) :: csW_X6 T q5 a9) H := hP
  have hD : va_D A ((h0, .inr (3, [.null, .null, .null, .long 0])) :: csW_X6 T q5 a9) := hD
  refine W.widen (k := 10) (n := 116) (by decide +kernel) (by decide +kernel) ?_
  refine va_putF (D := D) (cl := vwCl) (ws := (h0, .inr (3, [.null, .null, .null, .long 0])) :: csW_X6 T q5 a9) (ci := 3) (v := .ref q5) (ty := (.object "MindNet$Square")) (C := RX3) (T := TX3) (N := 4) hx hb hts (by decide +kernel) tyX3 tyX3_ok nmX3 hown hK hP hD hS 0 rfl rfl 0 (by decide) (hts (.fieldLink RX3 12 "MindNet$Rests" "square" "LMindNet$Square;") (by decide +kernel)) (fun _ h9 => h9) rfl hin rfl (by decide +kernel) rfl rfl (Nat.le_of_ble_eq_true rfl) dX3_init_12 (fun H locs hP hD hS => ?_)
  have hP : va_P D vwCl ((h0, .inr (3, [.ref q5, .null, .null, .long 0])) :: csW_X6 T q5 a9) H := hP
  have hD : va_D A ((h0, .inr (3, [.ref q5, .null, .null, .long 0])) :: csW_X6 T q5 a9) := hD
  refine lv_aload_n hx hb dX3_init_15 rfl (lv_at hl 0 rfl) ?_
  refine lv_bipush (v := 12) hx hb dX3_init_16 (by decide) ?_
  refine cs_newa (atype := .int) (D := D) (T := T) (ws := (h0, .inr (3, [.ref q5, .null, .null, .long 0])) :: csW_X6 T q5 a9) (cT := T 0) (ty := .int) (N' := 12) (a0 := (12, .inl (fun _ => 0))) hx hb 0 (hts (.arrayClass .int) (by decide +kernel)) rfl rfl (fun _ h => h) hK hP hD hS hA (fun _ => rfl) (by decide) (by decide) (by decide +kernel) (by decide +kernel) (by decide +kernel) dX3_init_18 (fun q18 H hP hD hS => ?_)
  have hP : va_P D vwCl ((h0, .inr (3, [.ref q5, .null, .null, .long 0])) :: (csW_X6 T q5 a9 ++ [(q18, .inl (T 0, 12, .inl (fun _ => 0)))])) H := hP
  have hD : va_D A ((h0, .inr (3, [.ref q5, .null, .null, .long 0])) :: (csW_X6 T q5 a9 ++ [(q18, .inl (T 0, 12, .inl (fun _ => 0)))])) := hD
  refine W.widen (k := 11) (n := 128) (by decide +kernel) (by decide +kernel) ?_
  refine va_putF (D := D) (cl := vwCl) (ws := (h0, .inr (3, [.ref q5, .null, .null, .long 0])) :: (csW_X6 T q5 a9 ++ [(q18, .inl (T 0, 12, .inl (fun _ => 0)))])) (ci := 3) (v := .ref q18) (ty := (.array .int)) (C := RX3) (T := TX3) (N := 4) hx hb hts (by decide +kernel) tyX3 tyX3_ok nmX3 hown hK hP hD hS 0 rfl rfl 1 (by decide) (hts (.fieldLink RX3 18 "MindNet$Rests" "placeOf" "[I") (by decide +kernel)) (fun _ h9 => h9) rfl hin rfl (by decide +kernel) rfl rfl (Nat.le_of_ble_eq_true rfl) dX3_init_20 (fun H locs hP hD hS => ?_)
  have hP : va_P D vwCl ((h0, .inr (3, [.ref q5, .ref q18, .null, .long 0])) :: (csW_X6 T q5 a9 ++ [(q18, .inl (T 0, 12, .inl (fun _ => 0)))])) H := hP
  have hD : va_D A ((h0, .inr (3, [.ref q5, .ref q18, .null, .long 0])) :: (csW_X6 T q5 a9 ++ [(q18, .inl (T 0, 12, .inl (fun _ => 0)))])) := hD
  refine lv_aload_n hx hb dX3_init_23 rfl (lv_at hl 0 rfl) ?_
  refine lv_bipush (v := 12) hx hb dX3_init_24 (by decide) ?_
  refine cs_newa (atype := .long) (D := D) (T := T) (ws := (h0, .inr (3, [.ref q5, .ref q18, .null, .long 0])) :: (csW_X6 T q5 a9 ++ [(q18, .inl (T 0, 12, .inl (fun _ => 0)))])) (cT := T 2) (ty := .long) (N' := 12) (a0 := (12, .inr (.inl (fun _ => 0)))) hx hb 2 (hts (.arrayClass .long) (by decide +kernel)) rfl rfl (fun _ h => h) hK hP hD hS hA (fun _ => rfl) (by decide) (by decide) (by decide +kernel) (by decide +kernel) (by decide +kernel) dX3_init_26 (fun q26 H hP hD hS => ?_)
  have hP : va_P D vwCl ((h0, .inr (3, [.ref q5, .ref q18, .null, .long 0])) :: (csW_X6 T q5 a9 ++ [(q18, .inl (T 0, 12, .inl (fun _ => 0))), (q26, .inl (T 2, 12, .inr (.inl (fun _ => 0))))])) H := hP
  have hD : va_D A ((h0, .inr (3, [.ref q5, .ref q18, .null, .long 0])) :: (csW_X6 T q5 a9 ++ [(q18, .inl (T 0, 12, .inl (fun _ => 0))), (q26, .inl (T 2, 12, .inr (.inl (fun _ => 0))))])) := hD
  refine W.widen (k := 12) (n := 140) (by decide +kernel) (by decide +kernel) ?_
  refine va_putF (D := D) (cl := vwCl) (ws := (h0, .inr (3, [.ref q5, .ref q18, .null, .long 0])) :: (csW_X6 T q5 a9 ++ [(q18, .inl (T 0, 12, .inl (fun _ => 0))), (q26, .inl (T 2, 12, .inr (.inl (fun _ => 0))))])) (ci := 3) (v := .ref q26) (ty := (.array .long)) (C := RX3) (T := TX3) (N := 4) hx hb hts (by decide +kernel) tyX3 tyX3_ok nmX3 hown hK hP hD hS 0 rfl rfl 2 (by decide) (hts (.fieldLink RX3 22 "MindNet$Rests" "uppers" "[J") (by decide +kernel)) (fun _ h9 => h9) rfl hin rfl (by decide +kernel) rfl rfl (Nat.le_of_ble_eq_true rfl) dX3_init_28 (fun H locs hP hD hS => ?_)
  have hP : va_P D vwCl ((h0, .inr (3, [.ref q5, .ref q18, .ref q26, .long 0])) :: (csW_X6 T q5 a9 ++ [(q18, .inl (T 0, 12, .inl (fun _ => 0))), (q26, .inl (T 2, 12, .inr (.inl (fun _ => 0))))])) H := hP
  have hD : va_D A ((h0, .inr (3, [.ref q5, .ref q18, .ref q26, .long 0])) :: (csW_X6 T q5 a9 ++ [(q18, .inl (T 0, 12, .inl (fun _ => 0))), (q26, .inl (T 2, 12, .inr (.inl (fun _ => 0))))])) := hD
  refine lv_aload_n hx hb dX3_init_31 rfl (lv_at hl 0 rfl) ?_
  refine lv_lconst (v := 1) hx hb dX3_init_32 (by decide) ?_
  refine va_put (D := D) (cl := vwCl) (ws := (h0, .inr (3, [.ref q5, .ref q18, .ref q26, .long 0])) :: (csW_X6 T q5 a9 ++ [(q18, .inl (T 0, 12, .inl (fun _ => 0))), (q26, .inl (T 2, 12, .inr (.inl (fun _ => 0))))])) (ci := 3) (v := .long 1) (ty := .long) (C := RX3) (T := TX3) (N := 4) hx hb hts (by decide +kernel) tyX3 tyX3_ok nmX3 hown hK hP hD hS 0 rfl rfl 3 (by decide) (hts (.fieldLink RX3 26 "MindNet$Rests" "lower" "J") (by decide +kernel)) (fun _ h9 => h9) rfl (by decide +kernel) rfl rfl (Nat.le_of_ble_eq_true rfl) dX3_init_33 (fun H locs hP hD hS => ?_)
  have hP : va_P D vwCl ((h0, .inr (3, [.ref q5, .ref q18, .ref q26, .long 1])) :: (csW_X6 T q5 a9 ++ [(q18, .inl (T 0, 12, .inl (fun _ => 0))), (q26, .inl (T 2, 12, .inr (.inl (fun _ => 0))))])) H := hP
  have hD : va_D A ((h0, .inr (3, [.ref q5, .ref q18, .ref q26, .long 1])) :: (csW_X6 T q5 a9 ++ [(q18, .inl (T 0, 12, .inl (fun _ => 0))), (q26, .inl (T 2, 12, .inr (.inl (fun _ => 0))))])) := hD
  exact W.vret hx hb hr (fun t ht hW => ⟨⟨(fun j => match j with
    | 0 => q5
    | 1 => q18
    | 2 => q26
    | j + 3 => a9 j), rfl, trivial, by rw [ht]; exact hP, by rw [hAe]; exact hD⟩, hS.F ht⟩) hS.2.2 dX3_init_36
