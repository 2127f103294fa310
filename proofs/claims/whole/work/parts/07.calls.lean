/-! ===== calls, and how a method's contract comes out of a proof over the abstract machine ===== -/
theorem mn_blind {E : mn_E} {vs : List Value} {S : mn_S} : FrameBlind (mn_Pc E vs S) := fun _ _ _ _ q => ⟨q.1, q.2.1, mn_EK_call q.2.2⟩
section MNC
variable {p : Program} {l : Launch} {e : Env} {R : Room} {s : State} {m : MethodId} {args : Array Value} {below : List Frame} {meth : Method} {c : Code}
theorem mn_co_go {E : mn_E} {nL : Nat} {Q : State → Prop} {k : mn_C} {pc : Nat} {lv : mn_L} {rest : List Value} {a : Array Value} {st0 : List Value} {H : Heap} {locs : List Loc} {ls : Array Slot} (hk : ∀ pc lv st S, k pc lv st S → mn_J p l e R s m args below meth c E nL Q pc lv st S) (h1 : mn_has E ls nL lv) (h3 : va_S (mn_A E) s.heap H locs)
    (hr : va_Run p l e R s m args below meth c H locs 0 0 0 0 (F0 m pc ls st0) (rest.map (mn_cv E)) (mn_Qc E (fun r S' => k (pc + 3) lv (r.toList ++ rest) S') a) (mn_A E)) : W p l e R s m args below meth c H locs 0 0 Q (F0 m pc ls st0) := by
  intro T hT X
  obtain ⟨v, st₀, t, T', L, h0, X', hL, e1, e2, ⟨⟨r, S', hv, hp, hb⟩, hz, hkk⟩, st⟩ := hr T hT X
  have hv2 : v = r.map (mn_cv E) := by
    cases hv
    rfl
  subst hv2
  rw [h0] at hz hkk
  have hP1 : va_P E.2.1 vwCl (mn_wl E S') T'.heap := by rw [e1]; exact hb.1
  have hS1 : va_S (mn_A E) s.heap T'.heap (locs ++ L) := ⟨Nat.le_trans h3.1 (by rw [e1]; exact hz), fun q g1 g2 => by rw [e1, hkk q (Nat.lt_of_lt_of_le g1 h3.1) g2]; exact h3.2.1 q g1 g2, fun q hq => by
    rcases List.mem_append.mp hq with g | g
    · exact h3.2.2 q g
    · exact hL q g⟩
  obtain ⟨t2, a1, b1⟩ := hk _ _ _ _ hp T'.heap (locs ++ L) ls h1 hP1 hS1 T' rfl X'
  refine ⟨t2, st t2 ?_, b1⟩
  rw [List.map_append] at a1
  have e3 : (r.toList).map (mn_cv E) = (r.map (mn_cv E)).toList := by cases r <;> rfl
  rw [e3] at a1
  exact a1
theorem mn_coV {y : MethodName} {ws Ts : List Cond} {fr lo n idx nL : Nat} {sp : mn_Sp} {own C : String} {bytes : ByteArray} {maxL : Nat} {ret : Option FieldType} {E : mn_E} {Q : State → Prop} {cc : ByteArray} (hx : p.tables.exec = Jvm.exec) (hb : c.code = cc) (hml : c.maxLocals = nL) (hts : ∀ w ∈ Ts, w.before args s = true) (hown : s.vm.findClass own = some m.cls) (hEK : mn_EK E s)
    (hM : mn_Ct l y ws fr lo sp) (hrv : mn_Rv C n sp) (cw : CallW R s args own C idx y bytes maxL ret ws (mn_rm fr lo) 0 0 n) : mn_CO p l e R s m args below meth c E nL Q (idx, true, n + 1, sp) := by
  intro k pc lv vs rest S hk hd hwt hsp H locs ls h1 h2 h3
  obtain ⟨a, as, rfl, hn, hla, ci, fs, q, hsh, hq, hC⟩ := hrv vs S _ hsp
  obtain ⟨q0, hq0⟩ := mn_at hla
  have ha := mn_get (E := E) (S := S) hq0
  rw [mn_cell_inr hsh] at ha
  have hrec := va_recv hEK.1 h2 hq ha
  rw [hC] at hrec
  have est : ((Value.ref a :: as).reverse ++ rest).map (mn_cv E) = (as.map (mn_cv E)).reverse ++ .ref (E.1 a) :: rest.map (mn_cv E) := by
    rw [List.reverse_cons, List.append_assoc, List.map_append, List.map_reverse]
    rfl
  rw [est]
  refine mn_co_go (rest := rest) hk h1 h3 (va_runV (As := as.map (mn_cv E)) (rest := rest.map (mn_cv E)) ⟨hx, hb, hml, hown, hts⟩ (hM E _ S _ hsp) cw ⟨mn_blind, hrec, fun U hU hW => ⟨rfl, by rw [hU]; exact h2, mn_EK_warm hW hEK⟩⟩ rfl (by rw [List.length_map]; exact hn) h1.1 rfl (lv_room (by rw [mn_cv_wt]; exact hwt)) (by rw [← hb]; exact hd) ⟨Nat.zero_le _, Nat.zero_le _⟩)
theorem mn_coS {y : MethodName} {ws Ts : List Cond} {fr lo n idx nL : Nat} {sp : mn_Sp} {own : String} {bytes : ByteArray} {maxL : Nat} {ret : Option FieldType} {E : mn_E} {Q : State → Prop} {cc : ByteArray} (hx : p.tables.exec = Jvm.exec) (hb : c.code = cc) (hml : c.maxLocals = nL) (hts : ∀ w ∈ Ts, w.before args s = true) (hown : s.vm.findClass own = some m.cls) (hEK : mn_EK E s)
    (hM : mn_Ct l y ws fr lo sp) (hrv : mn_Rs n sp) (cw : CallB R s args own idx y bytes maxL ret ws (mn_rm fr lo) 0 0 n ∧ (Cond.static y).before args s = true) : mn_CO p l e R s m args below meth c E nL Q (idx, false, n, sp) := by
  intro k pc lv vs rest S hk hd hwt hsp H locs ls h1 h2 h3
  have hn := hrv vs S _ hsp
  have est : (vs.reverse ++ rest).map (mn_cv E) = (vs.map (mn_cv E)).reverse ++ rest.map (mn_cv E) := by
    rw [List.map_append, List.map_reverse]
  rw [est]
  exact mn_co_go (rest := rest) hk h1 h3 (va_runS (As := vs.map (mn_cv E)) (rest := rest.map (mn_cv E)) ⟨hx, hb, hml, hown, hts⟩ (hM E _ S _ hsp) cw ⟨mn_blind, fun U hU hW => ⟨rfl, by rw [hU]; exact h2, mn_EK_warm hW hEK⟩⟩ rfl (by rw [List.length_map]; exact hn) h1.1 rfl (lv_room (by rw [mn_cv_wt]; exact hwt)) (by rw [← hb]; exact hd) ⟨Nat.zero_le _, Nat.zero_le _⟩)
theorem mn_coN {y : MethodName} {ws Ts : List Cond} {fr lo n idx nL : Nat} {sp : mn_Sp} {own host : String} {bytes : ByteArray} {maxL : Nat} {ret : Option FieldType} {E : mn_E} {Q : State → Prop} {cc : ByteArray} (hx : p.tables.exec = Jvm.exec) (hb : c.code = cc) (hml : c.maxLocals = nL) (hts : ∀ w ∈ Ts, w.before args s = true) (hown : s.vm.findClass own = some m.cls) (hEK : mn_EK E s)
    (hM : mn_Ct l y ws fr lo sp) (hrv : mn_Rs n sp) (cw : va_CN R s args own idx y host bytes maxL ret ws (mn_rm fr lo) 0 0 n ∧ (Cond.static y).before args s = true ∧ True) : mn_CO p l e R s m args below meth c E nL Q (idx, false, n, sp) := by
  intro k pc lv vs rest S hk hd hwt hsp H locs ls h1 h2 h3
  have hn := hrv vs S _ hsp
  have est : (vs.reverse ++ rest).map (mn_cv E) = (vs.map (mn_cv E)).reverse ++ rest.map (mn_cv E) := by
    rw [List.map_append, List.map_reverse]
  rw [est]
  exact mn_co_go (rest := rest) hk h1 h3 (va_runSN (As := vs.map (mn_cv E)) (rest := rest.map (mn_cv E)) ⟨hx, hb, hml, hown, hts⟩ (hM E _ S _ hsp) cw ⟨mn_blind, fun U hU hW => ⟨rfl, by rw [hU]; exact h2, mn_EK_warm hW hEK⟩⟩ rfl (by rw [List.length_map]; exact hn) h1.1 rfl (lv_room (by rw [mn_cv_wt]; exact hwt)) (by rw [← hb]; exact hd) ⟨Nat.zero_le _, Nat.zero_le _⟩)
end MNC
/-- a call's entry, for every walk of the method with these words and this room -/
def mn_CS (l : Launch) (own : String) (Ts : List Cond) (fr lo : Nat) (q : Nat × Bool × Nat × mn_Sp) : Prop :=
  ∀ (p : Program) (e : Env) (s : State) (m : MethodId) (args : Array Value) (below : List Frame) (meth : Method) (c : Code) (E : mn_E) (nL : Nat) (Q : State → Prop), p.tables.exec = Jvm.exec → c.maxLocals = nL → (∀ w ∈ Ts, w.before args s = true) → s.vm.findClass own = some m.cls → mn_EK E s → mn_CO p l e (mn_rm fr lo) s m args below meth c E nL Q q
theorem mn_csV {l : Launch} {y : MethodName} {ws ws' Ts : List Cond} {fr lo fr2 lo2 n idx : Nat} {sp : mn_Sp} {own C : String} {bytes : ByteArray} {maxL : Nat} {ret : Option FieldType} (hM : mn_Ct l y ws fr lo sp) (hrv : mn_Rv C n sp) (hG : GoodIn Ts (wsV own idx C y ws)) (hw : ws = Cond.code y bytes maxL ret :: ws')
    (hd : y.cls = C ∧ y.cls ≠ "java/lang/invoke/MethodHandle" ∧ y.cls ≠ "java/lang/invoke/VarHandle" ∧ (parseMethodDescriptor y.desc).map (fun d => d.parameters.length) = some n) (hR : fr + 1 ≤ fr2 ∧ 8 + (maxL + 11) + lo ≤ lo2) : mn_CS l own Ts fr2 lo2 (idx, true, n + 1, sp) :=
  fun _ _ _ _ _ _ _ _ _ _ _ hx hml hts hown hEK => mn_coV hx rfl hml hts hown hEK hM hrv (cwV n hts hG hw rfl rfl hd hR)
theorem mn_csS {l : Launch} {y : MethodName} {ws ws' Ts : List Cond} {fr lo fr2 lo2 n idx : Nat} {sp : mn_Sp} {own : String} {bytes : ByteArray} {maxL : Nat} {ret : Option FieldType} (hM : mn_Ct l y ws fr lo sp) (hrv : mn_Rs n sp) (hG : GoodIn Ts (wsS own idx y ws)) (hw : ws = Cond.code y bytes maxL ret :: ws')
    (hd : y.cls = own ∧ y.cls ≠ "java/lang/invoke/MethodHandle" ∧ y.cls ≠ "java/lang/invoke/VarHandle" ∧ (parseMethodDescriptor y.desc).map (fun d => d.parameters.length) = some n) (hR : fr + 1 ≤ fr2 ∧ 8 + (maxL + 11) + lo ≤ lo2) : mn_CS l own Ts fr2 lo2 (idx, false, n, sp) :=
  fun _ _ _ _ _ _ _ _ _ _ _ hx hml hts hown hEK => mn_coS hx rfl hml hts hown hEK hM hrv (cwS n hts hG hw rfl rfl hd hR)
theorem mn_csJ {l : Launch} {y : MethodName} {ws ws' Ts : List Cond} {fr lo fr2 lo2 n idx : Nat} {sp : mn_Sp} {own : String} {bytes : ByteArray} {maxL : Nat} {ret : Option FieldType} (hM : mn_Ct l y ws fr lo sp) (hrv : mn_Rs n sp) (hG : GoodIn Ts ws) (hm : Cond.methodLink own idx y ∈ Ts ∧ Cond.static y ∈ Ts ∧ Cond.initialized y.cls ∈ Ts) (hw : ws = Cond.code y bytes maxL ret :: ws')
    (hd : y.cls ≠ "java/lang/invoke/MethodHandle" ∧ y.cls ≠ "java/lang/invoke/VarHandle" ∧ (parseMethodDescriptor y.desc).map (fun d => d.parameters.length) = some n) (hR : fr + 1 ≤ fr2 ∧ 8 + (maxL + 11) + lo ≤ lo2) : mn_CS l own Ts fr2 lo2 (idx, false, n, sp) :=
  fun _ _ _ _ _ _ _ _ _ _ _ hx hml hts hown hEK => mn_coS hx rfl hml hts hown hEK hM hrv ⟨callB_of n hts hG hw rfl rfl (hts _ hm.2.2) (hts _ hm.1) hd hR, hts _ hm.2.1⟩
theorem mn_csN {l : Launch} {y : MethodName} {ws ws' Ts : List Cond} {fr lo fr2 lo2 n idx : Nat} {sp : mn_Sp} {own host : String} {bytes : ByteArray} {maxL : Nat} {ret : Option FieldType} (hM : mn_Ct l y ws fr lo sp) (hrv : mn_Rs n sp) (hG : GoodIn Ts ws) (hm : Cond.static y ∈ Ts ∧ Cond.initialized y.cls ∈ Ts) (hN : ∀ (E : mn_E) (U : State), mn_EK E U → va_Nw (.methodLinkNest own idx y host) U) (hw : ws = Cond.code y bytes maxL ret :: ws')
    (hd : y.cls ≠ "java/lang/invoke/MethodHandle" ∧ y.cls ≠ "java/lang/invoke/VarHandle" ∧ (parseMethodDescriptor y.desc).map (fun d => d.parameters.length) = some n) (hR : fr + 1 ≤ fr2 ∧ 8 + (maxL + 11) + lo ≤ lo2) : mn_CS l own Ts fr2 lo2 (idx, false, n, sp) :=
  fun _ _ _ _ _ _ _ _ _ _ _ hx hml hts hown hEK => mn_coN hx rfl hml hts hown hEK hM hrv ⟨va_cnB n hts hG hw rfl rfl (hN _ _ hEK) (hts _ hm.2) hd hR, hts _ hm.1, trivial⟩
-- Math
def sp_abs : mn_Sp := fun vs S K => match vs with
  | [.int x] => K (some (.int (if 0 ≤ x then x else 0 - x))) S
  | _ => False
def sp_max : mn_Sp := fun vs S K => match vs with
  | [.int x, .int y] => K (some (.int (if x < y then y else x))) S
  | _ => False
def sp_min : mn_Sp := fun vs S K => match vs with
  | [.int x, .int y] => K (some (.int (if y < x then y else x))) S
  | _ => False
theorem mn_csAbs {l : Launch} {Ts : List Cond} {fr lo idx : Nat} {own : String} (h : Cond.methodLink own idx Lib.Math.abs.name ∈ Ts ∧ Cond.static Lib.Math.abs.name ∈ Ts ∧ Cond.initialized "java/lang/Math" ∈ Ts ∧ Cond.code Lib.Math.abs.name Lib.Math.abs.code 1 (some .int) ∈ Ts) (hR : 1 ≤ fr ∧ 21 ≤ lo) : mn_CS l own Ts fr lo (idx, false, 1, sp_abs) := by
  intro p e s m args below meth c E nL Q hx hml hts hown hEK k pc lv vs rest S hk hd hwt hsp H locs ls h1 h2 h3
  unfold sp_abs at hsp
  dsimp only at hsp
  split at hsp
  · rename_i x
    have e0 : ((rest.map (mn_cv E)).map fun v => v.category).sum + 13 ≤ lo := by
      rw [mn_cv_wt]
      have := hR.2
      omega
    refine va_mabs (R := mn_rm fr lo) (rest := rest.map (mn_cv E)) hx rfl (by rw [hml, h1.1]) hown (hts _ h.1) (hts _ h.2.1) (hts _ h.2.2.1) (hts _ h.2.2.2) hR.1 e0 (Nat.zero_le _) (Nat.zero_le _) hd ?_
    exact hk _ _ _ _ hsp H locs ls h1 h2 h3
  · exact hsp.elim
theorem mn_csMax {l : Launch} {Ts : List Cond} {fr lo idx : Nat} {own : String} (h : Cond.methodLink own idx Lib.Math.max.name ∈ Ts ∧ Cond.static Lib.Math.max.name ∈ Ts ∧ Cond.initialized "java/lang/Math" ∈ Ts ∧ Cond.code Lib.Math.max.name Lib.Math.max.code 2 (some .int) ∈ Ts) (hR : 1 ≤ fr ∧ 21 ≤ lo) : mn_CS l own Ts fr lo (idx, false, 2, sp_max) := by
  intro p e s m args below meth c E nL Q hx hml hts hown hEK k pc lv vs rest S hk hd hwt hsp H locs ls h1 h2 h3
  unfold sp_max at hsp
  dsimp only at hsp
  split at hsp
  · rename_i x y
    have e0 : ((rest.map (mn_cv E)).map fun v => v.category).sum + 13 ≤ lo := by
      rw [mn_cv_wt]
      have := hR.2
      omega
    refine va_mmax (R := mn_rm fr lo) (rest := rest.map (mn_cv E)) hx rfl (by rw [hml, h1.1]) hown (hts _ h.1) (hts _ h.2.1) (hts _ h.2.2.1) (hts _ h.2.2.2) hR.1 e0 (Nat.zero_le _) (Nat.zero_le _) hd ?_
    exact hk _ _ _ _ hsp H locs ls h1 h2 h3
  · exact hsp.elim
theorem mn_csMin {l : Launch} {Ts : List Cond} {fr lo idx : Nat} {own : String} (h : Cond.methodLink own idx Lib.Math.min.name ∈ Ts ∧ Cond.static Lib.Math.min.name ∈ Ts ∧ Cond.initialized "java/lang/Math" ∈ Ts ∧ Cond.code Lib.Math.min.name Lib.Math.min.code 2 (some .int) ∈ Ts) (hR : 1 ≤ fr ∧ 21 ≤ lo) : mn_CS l own Ts fr lo (idx, false, 2, sp_min) := by
  intro p e s m args below meth c E nL Q hx hml hts hown hEK k pc lv vs rest S hk hd hwt hsp H locs ls h1 h2 h3
  unfold sp_min at hsp
  dsimp only at hsp
  split at hsp
  · rename_i x y
    have e0 : ((rest.map (mn_cv E)).map fun v => v.category).sum + 13 ≤ lo := by
      rw [mn_cv_wt]
      have := hR.2
      omega
    refine va_mmin (R := mn_rm fr lo) (rest := rest.map (mn_cv E)) hx rfl (by rw [hml, h1.1]) hown (hts _ h.1) (hts _ h.2.1) (hts _ h.2.2.1) (hts _ h.2.2.2) hR.1 e0 (Nat.zero_le _) (Nat.zero_le _) hd ?_
    exact hk _ _ _ _ hsp H locs ls h1 h2 h3
  · exact hsp.elim
-- entry
def mn_e0 (vs : List Value) : mn_L := vs.flatMap fun v => if v.category = 2 then [some v, none] else [some v]
def mn_en (n : Nat) (vs : List Value) : mn_L := mn_e0 vs ++ List.replicate (n - (mn_e0 vs).length) none
theorem mn_e0_args {E : mn_E} : ∀ (vs : List Value) (i j : Nat) (v : Value), (mn_e0 vs)[j]? = some (some v) → (i + j, mn_cv E v) ∈ lv_args i (vs.map (mn_cv E))
  | [], _, _, _, h => by simp [mn_e0] at h
  | w :: ws, i, j, v, h => by
    unfold mn_e0 at h
    rw [List.flatMap_cons] at h
    show (i + j, mn_cv E v) ∈ (i, mn_cv E w) :: lv_args (if (mn_cv E w).category = 2 then i + 2 else i + 1) (ws.map (mn_cv E))
    rw [mn_cv_cat]
    by_cases hc : w.category = 2
    · rw [if_pos hc] at h
      rw [if_pos hc]
      match j, h with
      | 0, h =>
        cases h
        exact List.mem_cons_self
      | 1, h => cases h
      | j + 2, h =>
        have := mn_e0_args (E := E) ws (i + 2) j v (by unfold mn_e0; simpa using h)
        rw [show i + 2 + j = i + (j + 2) by omega] at this
        exact List.mem_cons_of_mem _ this
    · rw [if_neg hc] at h
      rw [if_neg hc]
      match j, h with
      | 0, h =>
        cases h
        exact List.mem_cons_self
      | j + 1, h =>
        have := mn_e0_args (E := E) ws (i + 1) j v (by unfold mn_e0; simpa using h)
        rw [show i + 1 + j = i + (j + 1) by omega] at this
        exact List.mem_cons_of_mem _ this
theorem mn_e0_len {E : mn_E} : ∀ vs : List Value, (lg_sl (vs.map (mn_cv E))).length = (mn_e0 vs).length
  | [] => rfl
  | w :: ws => by
    have ih := mn_e0_len (E := E) ws
    unfold lg_sl mn_e0 at ih ⊢
    rw [List.map_cons, List.flatMap_cons, List.flatMap_cons, List.length_append, List.length_append, ih, mn_cv_cat]
    by_cases hc : w.category = 2
    · rw [if_pos hc, if_pos hc]
      rfl
    · rw [if_neg hc, if_neg hc]
      rfl
theorem mn_en_has {E : mn_E} {vs : List Value} {n : Nat} (h : (mn_e0 vs).length ≤ n) : mn_has E ((lg_sl (vs.map (mn_cv E)) ++ List.replicate (n - (lg_sl (vs.map (mn_cv E))).length) Slot.unset).toArray) n (mn_en n vs) := by
  have hl := lv_entry (vs.map (mn_cv E)) (n := n) (by rw [mn_e0_len]; exact h)
  refine ⟨hl.1, ?_, hl.2.1, fun j v hj => ?_⟩
  · unfold mn_en
    rw [List.length_append, List.length_replicate]
    omega
  · have h2 : (mn_e0 vs)[j]? = some (some v) := by
      unfold mn_en at hj
      by_cases hlt : j < (mn_e0 vs).length
      · rw [List.getElem?_append_left hlt] at hj
        exact hj
      · rw [List.getElem?_append_right (by omega)] at hj
        have := List.eq_of_mem_replicate (List.mem_of_getElem? hj)
        cases this
    have h3 := mn_e0_args (E := E) vs 0 j v h2
    rw [Nat.zero_add] at h3
    exact hl.2.2 _ h3
/-- what is to be proved of a method, over the abstract machine alone -/
def mn_OK (b : mn_B) (nL : Nat) (sp : mn_Sp) : Prop := ∀ (K : mn_K) (J : mn_C), mn_Cl b K J → ∀ (vs : List Value) (S : mn_S), sp vs S K → (mn_e0 vs).length ≤ nL ∧ J 0 (mn_en nL vs) [] S
theorem mn_of {l : Launch} {b : mn_B} {y : MethodName} {ws ws' : List Cond} {nL fr lo : Nat} {sp : mn_Sp} (hy : plainName y.cls = true) (hw : ws = Cond.code y b.1 nL b.2.2.2.2 :: ws') (hfl : ∀ q ∈ b.2.1, mn_FO y.cls ws q) (hlc : ∀ q ∈ b.2.2.1, mn_LO y.cls ws q) (hcl : ∀ q ∈ b.2.2.2.1, mn_CS l y.cls ws fr lo q) (body : mn_OK b nL sp) : mn_Ct l y ws fr lo sp := by
  intro E vs S K hsp
  refine Met.ofW (cc := b.1) (maxL := nL) (ret := b.2.2.2.2) hy hw ?_
  intro p e s m args below meth c s₁ B hml hv
  obtain ⟨rfl, hP, hEK⟩ := hv
  have hts := atoms_spec (ws := ws) B.pre
  have hown : s.vm.findClass y.cls = some m.cls := findClass_of_methodNamed B.named
  have hcl2 := mn_J_cl (K := K) (E := E) (nL := nL) (R := mn_rm fr lo) (below := below) (args := (vs.map (mn_cv E)).toArray) (l := l) (e := e) B.exec B.bytes hts hown hEK B.returns B.notSynchronized hfl hlc (fun q hq => hcl q hq p e s m _ below meth c E nL _ B.exec hml hts hown hEK)
  obtain ⟨hlen, hJ⟩ := body K _ hcl2 vs S hsp
  rw [lg_entry_eq]
  exact hJ s.heap [] _ (mn_en_has hlen) hP va_S.rf
