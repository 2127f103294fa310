/-! ===== the abstract machine is sound: its steps are the machine's ===== -/
abbrev mn_E : Type := (Nat → Nat) × va_G × (Nat → ClassId)
def mn_cv (E : mn_E) (v : Value) : Value := match v with
  | .ref k => .ref (E.1 k)
  | w => w
def mn_arr (E : mn_E) (S : mn_S) (k t : Nat) : (Nat → Int32) ⊕ (Nat → Int64) ⊕ (Nat → UInt32) ⊕ (Nat → UInt64) ⊕ (Nat → Option Nat) := match t with
  | 0 => .inl (S.1 k)
  | 1 => .inl (S.1 k)
  | 2 => .inr (.inl (S.2 k))
  | _ => .inr (.inr (.inr (.inr (fun i => some (E.1 (mn_rf k i))))))
def mn_fs (E : mn_E) (S : mn_S) (k : Nat) (fs : List (Nat × Nat)) : List Value := fs.mapIdx (fun j q => mn_cv E (mn_fv S k j q))
def mn_cell (E : mn_E) (S : mn_S) (k : Nat) : va_E := match mn_sh k with
  | .inl (t, n) => .inl (E.2.2 t, n, mn_arr E S k t)
  | .inr (ci, fs) => .inr (ci, mn_fs E S k fs)
def mn_wl (E : mn_E) (S : mn_S) : va_W := mn_ids.map (fun k => (E.1 k, mn_cell E S k))
def mn_tys (E : mn_E) : List (ClassId × FieldType) := [(E.2.2 0, .int), (E.2.2 1, .boolean), (E.2.2 2, .long), (E.2.2 3, .array .int), (E.2.2 4, .array .long)]
def mn_A (E : mn_E) : Nat → Prop := fun q => ∃ k, mn_live k ∧ q = E.1 k
/-- what holds of the tables, and that the addresses are apart -/
def mn_EK (E : mn_E) (U : State) : Prop := va_K E.2.1 vwCl (mn_tys E) U ∧ (∀ i j, mn_live i → mn_live j → E.1 i = E.1 j → i = j) ∧ va_Nw (.methodLinkNest RX5 32 yX8_isFrom "MindNet") U ∧ va_Nw (.methodLinkNest RX3 36 yX8_isFrom "MindNet") U
def mn_W (E : mn_E) (S : mn_S) (U : State) : Prop := va_P E.2.1 vwCl (mn_wl E S) U.heap ∧ mn_EK E U
def mn_Pc (E : mn_E) (vs : List Value) (S : mn_S) : Array Value → State → Prop := fun v U => v = (vs.map (mn_cv E)).toArray ∧ mn_W E S U
def mn_Qc (E : mn_E) (K : mn_K) : Array Value → State → Outcome → State → Prop := fun _ st oc t => (∃ (r : Option Value) (S' : mn_S), oc = .returned (r.map (mn_cv E)) ∧ K r S' ∧ mn_W E S' t) ∧ va_F (mn_A E) st t
abbrev mn_rm (fr lo : Nat) : Room := { frames := fr, cells := 0, slots := 0, locals := lo }
/-- a method's contract -/
def mn_Ct (l : Launch) (y : MethodName) (ws : List Cond) (fr lo : Nat) (sp : mn_Sp) : Prop := ∀ (E : mn_E) (vs : List Value) (S : mn_S) (K : mn_K), sp vs S K → Met l y ws (mn_rm fr lo) (mn_Pc E vs S) (mn_Qc E K) 0 0 (mn_A E)
/-- the receiver of a method is one of its class, and it has n arguments -/
def mn_Rv (C : String) (n : Nat) (sp : mn_Sp) : Prop := ∀ (vs : List Value) (S : mn_S) (K : mn_K), sp vs S K → ∃ (a : Nat) (as : List Value), vs = .ref a :: as ∧ as.length = n ∧ mn_live a ∧ ∃ (ci : Nat) (fs : List (Nat × Nat)) (q : vw_C), mn_sh a = .inr (ci, fs) ∧ vwCl[ci]? = some q ∧ q.1 = C
def mn_Rs (n : Nat) (sp : mn_Sp) : Prop := ∀ (vs : List Value) (S : mn_S) (K : mn_K), sp vs S K → vs.length = n
-- facts about the table
theorem mn_live_ids {k : Nat} : mn_live k ↔ k ∈ mn_ids := by
  unfold mn_live mn_ids
  simp only [List.mem_append, List.mem_map, List.mem_range]
  constructor
  · intro h
    by_cases h1 : k < 100
    · rw [if_pos h1] at h
      exact Or.inl h
    · rw [if_neg h1] at h
      by_cases h2 : (k - 100) % 3 = 0
      · rw [if_pos h2] at h
        exact Or.inr (Or.inl ⟨(k - 100) / 3, h, by omega⟩)
      · rw [if_neg h2] at h
        by_cases h3 : (k - 100) % 3 = 1
        · exact Or.inr (Or.inr (Or.inl ⟨(k - 100) / 3, h, by omega⟩))
        · exact Or.inr (Or.inr (Or.inr ⟨(k - 100) / 3, h, by omega⟩))
  · rintro (h | ⟨i, h, rfl⟩ | ⟨i, h, rfl⟩ | ⟨i, h, rfl⟩)
    · rw [if_pos (by omega)]
      exact h
    · rw [if_neg (by omega), if_pos (by omega)]
      omega
    · rw [if_neg (by omega), if_neg (by omega)]
      omega
    · rw [if_neg (by omega), if_neg (by omega)]
      omega
theorem mn_ids_len : mn_ids.length = 68 := by decide
theorem mn_ids_in0 : (List.range 68).all (fun i => (List.range 68).all fun j => decide (mn_ids[i]? = mn_ids[j]? → i = j)) = true := by decide +kernel
theorem mn_ids_in {i j k : Nat} (hi : mn_ids[i]? = some k) (hj : mn_ids[j]? = some k) : i = j := by
  have h1 : i < 68 := by rw [← mn_ids_len]; exact (List.getElem?_eq_some_iff.mp hi).1
  have h2 : j < 68 := by rw [← mn_ids_len]; exact (List.getElem?_eq_some_iff.mp hj).1
  have h := List.all_eq_true.mp mn_ids_in0 i (List.mem_range.mpr h1)
  have h := List.all_eq_true.mp h j (List.mem_range.mpr h2)
  exact of_decide_eq_true h (hi.trans hj.symm)
theorem mn_at {k : Nat} (h : mn_live k) : ∃ q0 : Nat, mn_ids[q0]? = some k := List.mem_iff_getElem?.mp (mn_live_ids.mp h)
theorem mn_get {E : mn_E} {S : mn_S} {q0 k : Nat} (h : mn_ids[q0]? = some k) : (mn_wl E S)[q0]? = some (E.1 k, mn_cell E S k) := by
  unfold mn_wl
  rw [List.getElem?_map, h]
  rfl
theorem mn_set {E : mn_E} {S S' : mn_S} {q0 k : Nat} (h : mn_ids[q0]? = some k) {e : va_E} (he : mn_cell E S' k = e) (ho : ∀ j, j ≠ k → mn_cell E S' j = mn_cell E S j) : (mn_wl E S).set q0 (E.1 k, e) = mn_wl E S' := by
  apply List.ext_getElem?
  intro i
  rw [List.getElem?_set]
  by_cases hi : q0 = i
  · subst hi
    have hl : q0 < (mn_wl E S).length := by
      unfold mn_wl
      rw [List.length_map]
      exact (List.getElem?_eq_some_iff.mp h).1
    rw [if_pos rfl, if_pos hl, mn_get h, he]
  · rw [if_neg hi]
    unfold mn_wl
    rw [List.getElem?_map, List.getElem?_map]
    cases hj : mn_ids[i]? with
    | none => rfl
    | some j =>
      have hne : j ≠ k := by
        intro e
        subst e
        exact hi (mn_ids_in h hj)
      show some (E.1 j, mn_cell E S j) = some (E.1 j, mn_cell E S' j)
      rw [ho j hne]
theorem mn_DD {E : mn_E} (hinj : ∀ i j, mn_live i → mn_live j → E.1 i = E.1 j → i = j) (S : mn_S) : va_D (mn_A E) (mn_wl E S) := by
  have key : ∀ (i : Nat) (p : Nat × va_E), (mn_wl E S)[i]? = some p → ∃ k, mn_ids[i]? = some k ∧ mn_live k ∧ p.1 = E.1 k := by
    intro i p hp
    unfold mn_wl at hp
    rw [List.getElem?_map] at hp
    cases hk : mn_ids[i]? with
    | none => rw [hk] at hp; cases hp
    | some k =>
      rw [hk] at hp
      cases hp
      exact ⟨k, rfl, mn_live_ids.mpr (List.mem_iff_getElem?.mpr ⟨i, hk⟩), rfl⟩
  refine ⟨fun i j p q hi hj hpq => ?_, fun i q hi => ?_⟩
  · obtain ⟨a, ha, la, ea⟩ := key i p hi
    obtain ⟨b, hb, lb, eb⟩ := key j q hj
    have e : a = b := hinj a b la lb (by rw [← ea, ← eb, hpq])
    subst e
    exact mn_ids_in ha hb
  · obtain ⟨a, -, la, ea⟩ := key i q hi
    exact ⟨a, la, ea⟩
theorem mn_u_in {α : Type} (f : Nat → Nat → α) (a i : Nat) (x : α) : mn_u f a i x a = fun j => if j = i then x else f a j := by
  funext j
  unfold mn_u
  by_cases h : j = i
  · rw [if_pos ⟨rfl, h⟩, if_pos h]
  · rw [if_neg (fun q => h q.2), if_neg h]
theorem mn_u_eq {α : Type} (f : Nat → Nat → α) (a i : Nat) (x : α) : mn_u f a i x a i = x := if_pos ⟨rfl, rfl⟩
theorem mn_u_ne {α : Type} (f : Nat → Nat → α) {a i j : Nat} (h : ¬ i = j) (x : α) : mn_u f a i x a j = f a j := if_neg (fun q => h q.2.symm)
theorem mn_u_out {α : Type} (f : Nat → Nat → α) {a b : Nat} (h : b ≠ a) (i : Nat) (x : α) : mn_u f a i x b = f b := by
  funext j
  unfold mn_u
  rw [if_neg (fun q => h q.1)]
theorem mn_cell_outI (E : mn_E) (S : mn_S) {a b : Nat} (h : b ≠ a) (i : Nat) (x : Int32) : mn_cell E (mn_wI S a i x) b = mn_cell E S b := by
  have e : (mn_wI S a i x).1 b = S.1 b := mn_u_out S.1 h i x
  have e2 : (mn_wI S a i x).2 = S.2 := rfl
  unfold mn_cell mn_arr mn_fs mn_fv
  rw [e, e2]
theorem mn_cell_outL (E : mn_E) (S : mn_S) {a b : Nat} (h : b ≠ a) (i : Nat) (x : Int64) : mn_cell E (mn_wL S a i x) b = mn_cell E S b := by
  have e : (mn_wL S a i x).2 b = S.2 b := mn_u_out S.2 h i x
  have e2 : (mn_wL S a i x).1 = S.1 := rfl
  unfold mn_cell mn_arr mn_fs mn_fv
  rw [e, e2]
theorem mn_cell_inl {E : mn_E} {S : mn_S} {k t n : Nat} (h : mn_sh k = .inl (t, n)) : mn_cell E S k = .inl (E.2.2 t, n, mn_arr E S k t) := by
  unfold mn_cell
  rw [h]
theorem mn_cell_inr {E : mn_E} {S : mn_S} {k ci : Nat} {fs : List (Nat × Nat)} (h : mn_sh k = .inr (ci, fs)) : mn_cell E S k = .inr (ci, mn_fs E S k fs) := by
  unfold mn_cell
  rw [h]
theorem mn_cv_cat (E : mn_E) (v : Value) : (mn_cv E v).category = v.category := by cases v <;> rfl
theorem mn_cv_wt (E : mn_E) (st : List Value) : ((st.map (mn_cv E)).map fun v => v.category).sum = mn_wt st := by
  unfold mn_wt
  rw [List.map_map]
  congr 1
  exact List.map_congr_left fun v _ => mn_cv_cat E v
theorem mn_fs_get {E : mn_E} {S : mn_S} {k : Nat} {fs : List (Nat × Nat)} (j : Nat) : (mn_fs E S k fs)[j]? = (fs[j]?).map (fun q => mn_cv E (mn_fv S k j q)) := by
  unfold mn_fs
  rw [List.getElem?_mapIdx]
theorem mn_fs_len {E : mn_E} {S : mn_S} {k : Nat} {fs : List (Nat × Nat)} : (mn_fs E S k fs).length = fs.length := by
  unfold mn_fs
  rw [List.length_mapIdx]
theorem mn_fs_setI {E : mn_E} {S : mn_S} {k j : Nat} {fs : List (Nat × Nat)} {q : Nat × Nat} (hq : fs[j]? = some q) (hk : q.1 = 0 ∨ q.1 = 3) (x : Int32) : mn_fs E (mn_wI S k j x) k fs = (mn_fs E S k fs).set j (.int x) := by
  apply List.ext_getElem?
  intro i
  rw [List.getElem?_set, mn_fs_get, mn_fs_get, mn_fs_len]
  by_cases hi : j = i
  · subst hi
    rw [if_pos rfl, if_pos (List.getElem?_eq_some_iff.mp hq).1, hq]
    show some (mn_cv E (mn_fv _ _ _ _)) = _
    unfold mn_fv
    have e : (mn_wI S k j x).1 k j = x := by
      show mn_u S.1 k j x k j = x
      rw [mn_u_eq]
    rcases hk with h | h <;> rw [h] <;> simp only [e] <;> rfl
  · rw [if_neg hi]
    congr 1
    funext p
    unfold mn_fv
    have e : (mn_wI S k j x).1 k i = S.1 k i := by
      show mn_u S.1 k j x k i = _
      rw [mn_u_ne _ hi]
    rw [e]
    rfl
theorem mn_fs_setL {E : mn_E} {S : mn_S} {k j : Nat} {fs : List (Nat × Nat)} {q : Nat × Nat} (hq : fs[j]? = some q) (hk : q.1 = 1) (x : Int64) : mn_fs E (mn_wL S k j x) k fs = (mn_fs E S k fs).set j (.long x) := by
  apply List.ext_getElem?
  intro i
  rw [List.getElem?_set, mn_fs_get, mn_fs_get, mn_fs_len]
  by_cases hi : j = i
  · subst hi
    rw [if_pos rfl, if_pos (List.getElem?_eq_some_iff.mp hq).1, hq]
    show some (mn_cv E (mn_fv _ _ _ _)) = _
    unfold mn_fv
    have e : (mn_wL S k j x).2 k j = x := by
      show mn_u S.2 k j x k j = x
      rw [mn_u_eq]
    rw [hk]
    simp only [e]
    rfl
  · rw [if_neg hi]
    congr 1
    funext p
    unfold mn_fv
    have e : (mn_wL S k j x).2 k i = S.2 k i := by
      show mn_u S.2 k j x k i = _
      rw [mn_u_ne _ hi]
    rw [e]
    rfl
-- the table against the classes
def mn_kt (k : Nat) : FieldType := match k with
  | 0 => .int
  | 3 => .boolean
  | _ => .long
def mn_tyo (ci : Nat) : Nat → FieldType := match ci with
  | 0 => tyX0
  | 1 => tyX1
  | 2 => tyX2
  | 3 => tyX3
  | 4 => tyX4
  | 5 => tyX5
  | 6 => tyX6
  | 7 => tyX7
  | 8 => tyX8
  | _ => tyX9
theorem mn_cls_ok {ci : Nat} {q : vw_C} (h : vwCl[ci]? = some q) : (∀ a, a < q.2.2 → ∀ b, b < q.2.2 → a ≠ b → (q.2.1 a).2.1 ≠ (q.2.1 b).2.1) ∧ (∀ k, k < q.2.2 → parseFieldDescriptor (q.2.1 k).2.2.1 = some (mn_tyo ci k)) := by
  match ci, h with
  | 0, h => cases h; exact ⟨nmX0, tyX0_ok⟩
  | 1, h => cases h; exact ⟨nmX1, tyX1_ok⟩
  | 2, h => cases h; exact ⟨nmX2, tyX2_ok⟩
  | 3, h => cases h; exact ⟨nmX3, tyX3_ok⟩
  | 4, h => cases h; exact ⟨nmX4, tyX4_ok⟩
  | 5, h => cases h; exact ⟨nmX5, tyX5_ok⟩
  | 6, h => cases h; exact ⟨nmX6, tyX6_ok⟩
  | 7, h => cases h; exact ⟨nmX7, tyX7_ok⟩
  | 8, h => cases h; exact ⟨nmX8, tyX8_ok⟩
  | 9, h => cases h; exact ⟨nmX9, tyX9_ok⟩
  | n + 10, h => simp [vwCl] at h
def mn_chk1 (ci : Nat) (fs : List (Nat × Nat)) : Bool := match vwCl[ci]? with
  | some q => fs.length == q.2.2 && (List.range fs.length).all fun j => match fs[j]? with
    | some w => w.1 == 2 || (!(q.2.1 j).2.2.2 && decide (mn_tyo ci j = mn_kt w.1) && decide ((q.2.1 j).1 = q.1))
    | none => false
  | none => false
def mn_chk : Bool := (List.range 44).all fun k => match mn_sh k with
  | .inr (ci, fs) => mn_chk1 ci fs
  | .inl _ => true
theorem mn_chk_ok : mn_chk = true := by decide +kernel
theorem mn_sh_cls {k ci : Nat} {fs : List (Nat × Nat)} (hl : mn_live k) (h : mn_sh k = .inr (ci, fs)) : mn_chk1 ci fs = true := by
  have h1 : k < 44 := by
    unfold mn_live at hl
    unfold mn_sh at h
    by_cases hk : k < 100
    · rw [if_pos hk] at hl
      exact hl
    · rw [if_neg hk] at h
      split at h <;> cases h
  have h2 := List.all_eq_true.mp mn_chk_ok k (List.mem_range.mpr h1)
  rw [h] at h2
  exact h2
theorem mn_sh_fld {k ci j : Nat} {fs : List (Nat × Nat)} {w : Nat × Nat} (hl : mn_live k) (h : mn_sh k = .inr (ci, fs)) (hw : fs[j]? = some w) (h2 : w.1 ≠ 2) : ∃ q : vw_C, vwCl[ci]? = some q ∧ j < q.2.2 ∧ (q.2.1 j).2.2.2 = false ∧ mn_tyo ci j = mn_kt w.1 := by
  have hc := mn_sh_cls hl h
  unfold mn_chk1 at hc
  split at hc
  · rename_i q hq
    rw [Bool.and_eq_true] at hc
    have hlen : fs.length = q.2.2 := by simpa using hc.1
    have hj : j < fs.length := (List.getElem?_eq_some_iff.mp hw).1
    have h3 := List.all_eq_true.mp hc.2 j (List.mem_range.mpr hj)
    rw [hw] at h3
    simp only [Bool.or_eq_true, beq_iff_eq, Bool.and_eq_true, Bool.not_eq_true', decide_eq_true_eq] at h3
    rcases h3 with h3 | ⟨⟨h3, h4⟩, -⟩
    · exact absurd h3 h2
    · exact ⟨q, hq, by rw [← hlen]; exact hj, h3, h4⟩
  · cases hc
-- locals
def mn_has (E : mn_E) (ls : Array Slot) (nL : Nat) (lv : mn_L) : Prop := ls.size = nL ∧ lv.length = nL ∧ lv_wf ls ∧ ∀ (j : Nat) (v : Value), lv[j]? = some (some v) → ls[j]? = some (.val (mn_cv E v))
def mn_lst (E : mn_E) (lv : mn_L) : List (Nat × Value) := lv.zipIdx.filterMap (fun q => q.1.map (fun v => (q.2, mn_cv E v)))
theorem mn_lst_mem {E : mn_E} {lv : mn_L} {q : Nat × Value} : q ∈ mn_lst E lv ↔ ∃ (j : Nat) (v : Value), lv[j]? = some (some v) ∧ q = (j, mn_cv E v) := by
  unfold mn_lst
  rw [List.mem_filterMap]
  constructor
  · rintro ⟨⟨o, i⟩, h1, h2⟩
    rw [List.mem_zipIdx_iff_getElem?] at h1
    cases o with
    | none => cases h2
    | some v =>
      cases h2
      exact ⟨i, v, h1, rfl⟩
  · rintro ⟨j, v, h, rfl⟩
    exact ⟨(some v, j), List.mem_zipIdx_iff_getElem?.mpr h, rfl⟩
theorem mn_has_lv {E : mn_E} {ls : Array Slot} {nL : Nat} {lv : mn_L} (h : mn_has E ls nL lv) : lv_has ls nL (mn_lst E lv) := by
  refine ⟨h.1, h.2.2.1, fun q hq => ?_⟩
  obtain ⟨j, v, h1, rfl⟩ := mn_lst_mem.mp hq
  exact h.2.2.2 j v h1
theorem mn_cl_len (lv : mn_L) (i : Nat) : (mn_cl lv i).length = lv.length := by
  unfold mn_cl
  split
  · rfl
  · split
    · split
      · rw [List.length_set]
      · rfl
    · rfl
theorem mn_cl_get {lv : mn_L} {i j : Nat} {v : Value} (h : (mn_cl lv i)[j]? = some (some v)) : lv[j]? = some (some v) ∧ ¬ (j + 1 = i ∧ v.category = 2) := by
  unfold mn_cl at h
  split at h
  · exact ⟨h, fun q => by omega⟩
  · rename_i i
    split at h
    · rename_i w hx
      split at h
      · rename_i hw
        rw [List.getElem?_set] at h
        by_cases e : i = j
        · rw [if_pos e] at h
          split at h <;> cases h
        · rw [if_neg e] at h
          exact ⟨h, fun q => e (by omega)⟩
      · rename_i hw
        refine ⟨h, fun q => ?_⟩
        have e : i = j := by omega
        subst e
        rw [hx] at h
        cases h
        exact hw q.2
    · rename_i hx
      refine ⟨h, fun q => ?_⟩
      have e : i = j := by omega
      subst e
      exact hx v h
theorem mn_has_put {E : mn_E} {ls ls' : Array Slot} {nL i : Nat} {lv : mn_L} {v : Value} (h : mn_has E ls nL lv) (h2 : lv_has ls' nL ((i, mn_cv E v) :: (mn_lst E lv).filter (fun q => !(q.1 == i) && !(q.1 + 1 == i && q.2.category == 2)))) : mn_has E ls' nL (mn_pt lv i v) := by
  refine ⟨h2.1, ?_, h2.2.1, fun j w hj => ?_⟩
  · unfold mn_pt
    rw [List.length_set, mn_cl_len]
    exact h.2.1
  · unfold mn_pt at hj
    rw [List.getElem?_set] at hj
    by_cases e : i = j
    · rw [if_pos e] at hj
      split at hj
      · cases hj
        subst e
        exact h2.2.2 _ List.mem_cons_self
      · cases hj
    · rw [if_neg e] at hj
      obtain ⟨g1, g2⟩ := mn_cl_get hj
      refine h2.2.2 (j, mn_cv E w) (List.mem_cons_of_mem _ (List.mem_filter.mpr ⟨mn_lst_mem.mpr ⟨j, w, g1, rfl⟩, ?_⟩))
      have e1 : (j == i) = false := by simpa using fun z : j = i => e z.symm
      have e2 : (j + 1 == i && (mn_cv E w).category == 2) = false := by
        rw [Bool.and_eq_false_iff]
        by_cases e3 : j + 1 = i
        · right
          rw [mn_cv_cat]
          simpa using fun z => g2 ⟨e3, z⟩
        · left
          simpa using e3
      show (!(j == i) && !(j + 1 == i && (mn_cv E w).category == 2)) = true
      rw [e1, e2]
      rfl
theorem mn_has_put2 {E : mn_E} {ls ls' : Array Slot} {nL i : Nat} {lv : mn_L} {v : Value} (h : mn_has E ls nL lv) (h2 : lv_has ls' nL ((i, mn_cv E v) :: (mn_lst E lv).filter (fun q => !(q.1 == i) && (!(q.1 == i + 1) && !(q.1 + 1 == i && q.2.category == 2))))) : mn_has E ls' nL (mn_pt2 lv i v) := by
  refine ⟨h2.1, ?_, h2.2.1, fun j w hj => ?_⟩
  · unfold mn_pt2
    rw [List.length_set, List.length_set, mn_cl_len]
    exact h.2.1
  · unfold mn_pt2 at hj
    rw [List.getElem?_set] at hj
    by_cases e0 : i + 1 = j
    · rw [if_pos e0] at hj
      split at hj <;> cases hj
    rw [if_neg e0, List.getElem?_set] at hj
    by_cases e : i = j
    · rw [if_pos e] at hj
      split at hj
      · cases hj
        subst e
        exact h2.2.2 _ List.mem_cons_self
      · cases hj
    · rw [if_neg e] at hj
      obtain ⟨g1, g2⟩ := mn_cl_get hj
      refine h2.2.2 (j, mn_cv E w) (List.mem_cons_of_mem _ (List.mem_filter.mpr ⟨mn_lst_mem.mpr ⟨j, w, g1, rfl⟩, ?_⟩))
      have e1 : (j == i) = false := by simpa using fun z : j = i => e z.symm
      have e4 : (j == i + 1) = false := by simpa using fun z : j = i + 1 => e0 z.symm
      have e2 : (j + 1 == i && (mn_cv E w).category == 2) = false := by
        rw [Bool.and_eq_false_iff]
        by_cases e3 : j + 1 = i
        · right
          rw [mn_cv_cat]
          simpa using fun z => g2 ⟨e3, z⟩
        · left
          simpa using e3
      show (!(j == i) && (!(j == i + 1) && !(j + 1 == i && (mn_cv E w).category == 2))) = true
      rw [e1, e2, e4]
      rfl
theorem mn_dec_ok {cc : ByteArray} {pc nx : Nat} {ts : List Nat} {j : Instr} (h : mn_dec cc pc = some (nx, ts, j)) : ∃ i n, decode cc pc = .ok (i, n) ∧ mn_ln i n = true ∧ mn_tg pc i = some ts ∧ nx = pc + n ∧ j = mn_nz i := by
  unfold mn_dec at h
  split at h
  · rename_i j n hd
    split at h
    · rename_i hl
      cases ht : mn_tg pc j with
      | none => rw [ht] at h; cases h
      | some t =>
        rw [ht] at h
        cases h
        exact ⟨j, n, hd, hl, ht, rfl, rfl⟩
    · cases h
  · cases h
theorem mn_tg_br {pc : Nat} {o : Int} {ts : List Nat} (h : (if 0 ≤ (pc : Int) + o then some [((pc : Int) + o).toNat] else none) = some ts) : ∃ t : Nat, ts = [t] ∧ (pc : Int) + o = (t : Int) := by
  split at h
  · rename_i h0
    cases h
    exact ⟨_, rfl, (Int.toNat_of_nonneg h0).symm⟩
  · cases h
theorem mn_bool_and {x : Int32} (h : x &&& 1 = x) : x = 0 ∨ x = 1 := by
  have e := pk_and x (m := 1) 1 (by decide)
  rw [h] at e
  rcases Nat.mod_two_eq_zero_or_one x.toBitVec.toNat with q | q
  · left
    rw [e, Nat.pow_one, q]
    rfl
  · right
    rw [e, Nat.pow_one, q]
    rfl
theorem mn_EK_warm {E : mn_E} {s U : State} (hW : s.WarmedH U.vm) (h : mn_EK E s) : mn_EK E U := ⟨va_K.moved hW.alike h.1, h.2.1, va_Nw.warmM hW h.2.2.1, va_Nw.warmM hW h.2.2.2⟩
theorem mn_EK_call {E : mn_E} {U : State} {g : JFrame} {mk : MethodId} {a : Array Value} (h : mn_EK E U) : mn_EK E (U.calling g mk a) := ⟨va_K.moved (u := U) (U := U.calling g mk a) (Vm.Alike.refl U.vm) h.1, h.2.1, va_Nw.same rfl rfl h.2.2.1, va_Nw.same rfl rfl h.2.2.2⟩
section MNJ
variable {p : Program} {l : Launch} {e : Env} {R : Room} {s : State} {m : MethodId} {args : Array Value} {below : List Frame} {meth : Method} {c : Code}
/-- where a walk stands, said of the numbers alone -/
def mn_J (p : Program) (l : Launch) (e : Env) (R : Room) (s : State) (m : MethodId) (args : Array Value) (below : List Frame) (meth : Method) (c : Code) (E : mn_E) (nL : Nat) (Q : State → Prop) : mn_C := fun pc lv st S =>
  ∀ (H : Heap) (locs : List Loc) (ls : Array Slot), mn_has E ls nL lv → va_P E.2.1 vwCl (mn_wl E S) H → va_S (mn_A E) s.heap H locs → W p l e R s m args below meth c H locs 0 0 Q (F0 m pc ls (st.map (mn_cv E)))
/-- what a call's entry does -/
def mn_CO (p : Program) (l : Launch) (e : Env) (R : Room) (s : State) (m : MethodId) (args : Array Value) (below : List Frame) (meth : Method) (c : Code) (E : mn_E) (nL : Nat) (Q : State → Prop) (q : Nat × Bool × Nat × mn_Sp) : Prop :=
  ∀ (k : mn_C) (pc : Nat) (lv : mn_L) (vs rest : List Value) (S : mn_S), (∀ pc lv st S, k pc lv st S → mn_J p l e R s m args below meth c E nL Q pc lv st S) → decode c.code pc = .ok (if q.2.1 = true then .invokevirtual q.1 else .invokestatic q.1, 3) → mn_wt rest ≤ 8 →
    q.2.2.2 vs S (fun r S' => k (pc + 3) lv (r.toList ++ rest) S') → mn_J p l e R s m args below meth c E nL Q pc lv (vs.reverse ++ rest) S
/-- a field's entry -/
def mn_FO (own : String) (Ts : List Cond) (q : Nat × Nat × Nat) : Prop := ∃ w : vw_C, vwCl[q.2.1]? = some w ∧ q.2.2 < w.2.2 ∧ (∀ x ∈ u_ws w.1 w.2.1 w.2.2, x ∈ Ts) ∧ Cond.fieldLink own q.1 w.1 (w.2.1 q.2.2).2.1 (w.2.1 q.2.2).2.2.1 ∈ Ts ∧ (w.2.1 q.2.2).1 = w.1
/-- a constant's entry -/
def mn_LO (own : String) (Ts : List Cond) (q : Nat × Value) : Prop := match q.2 with
  | .int x => Cond.constant own q.1 x ∈ Ts
  | .long x => Cond.constantLong own q.1 x ∈ Ts
  | _ => False
theorem mn_pI_ok {st : List Value} {f : Int32 → List Value → Prop} (h : mn_pI st f) : ∃ x r, st = .int x :: r ∧ f x r := by
  unfold mn_pI at h
  split at h
  · exact ⟨_, _, rfl, h⟩
  · exact h.elim
theorem mn_pL_ok {st : List Value} {f : Int64 → List Value → Prop} (h : mn_pL st f) : ∃ x r, st = .long x :: r ∧ f x r := by
  unfold mn_pL at h
  split at h
  · exact ⟨_, _, rfl, h⟩
  · exact h.elim
theorem mn_pR_ok {st : List Value} {f : Nat → List Value → Prop} (h : mn_pR st f) : ∃ x r, st = .ref x :: r ∧ f x r := by
  unfold mn_pR at h
  split at h
  · exact ⟨_, _, rfl, h⟩
  · exact h.elim
theorem mn_pV_ok {st : List Value} {f : Value → List Value → Prop} (h : mn_pV st f) : ∃ x r, st = x :: r ∧ f x r := by
  unfold mn_pV at h
  split at h
  · exact ⟨_, _, rfl, h⟩
  · exact h.elim
theorem mn_pE_ok {st : List Value} {P : Prop} (h : mn_pE st P) : st = [] ∧ P := by
  unfold mn_pE at h
  split at h
  · exact ⟨rfl, h⟩
  · exact h.elim
theorem mn_gI_ok {lv : mn_L} {i : Nat} {f : Int32 → Prop} (h : mn_gI lv i f) : ∃ x, lv[i]? = some (some (.int x)) ∧ f x := by
  unfold mn_gI at h
  split at h
  · rename_i x hx
    exact ⟨x, hx, h⟩
  · exact h.elim
theorem mn_gL_ok {lv : mn_L} {i : Nat} {f : Int64 → Prop} (h : mn_gL lv i f) : ∃ x, lv[i]? = some (some (.long x)) ∧ f x := by
  unfold mn_gL at h
  split at h
  · rename_i x hx
    exact ⟨x, hx, h⟩
  · exact h.elim
theorem mn_gR_ok {lv : mn_L} {i : Nat} {f : Nat → Prop} (h : mn_gR lv i f) : ∃ x, lv[i]? = some (some (.ref x)) ∧ f x := by
  unfold mn_gR at h
  split at h
  · rename_i x hx
    exact ⟨x, hx, h⟩
  · exact h.elim
theorem mn_op_ok {α : Type} {o : Option α} {f : α → Prop} (h : mn_op o f) : ∃ x, o = some x ∧ f x := by
  unfold mn_op at h
  split at h
  · exact ⟨_, rfl, h⟩
  · exact h.elim
theorem mn_br_ok {ts : List Nat} {f : Nat → Prop} (h : mn_br ts f) : ∃ t, ts = [t] ∧ f t := by
  unfold mn_br at h
  split at h
  · exact ⟨_, rfl, h⟩
  · exact h.elim
theorem mn_aI_ok {s : mn_Sh} {t : Nat} {f : Nat → Prop} (h : mn_aI s t f) : ∃ n, s = .inl (t, n) ∧ f n := by
  unfold mn_aI at h
  split at h
  · rename_i u n
    obtain ⟨rfl, h⟩ := h
    exact ⟨n, rfl, h⟩
  · exact h.elim
theorem mn_fi_ok {s : mn_Sh} {ci j : Nat} {f : Nat × Nat → Prop} (h : mn_fi s ci j f) : ∃ fs q, s = .inr (ci, fs) ∧ fs[j]? = some q ∧ f q := by
  unfold mn_fi at h
  split at h
  · exact h.elim
  · rename_i c fs
    obtain ⟨rfl, h⟩ := h
    split at h
    · rename_i q hq
      exact ⟨fs, q, rfl, hq, h⟩
    · exact h.elim
theorem mn_J_iald {E : mn_E} {nL : Nat} {Q : State → Prop} (hx : p.tables.exec = Jvm.exec) {cc : ByteArray} (hb : c.code = cc) (hEK : mn_EK E s) {k : mn_C} (hk : ∀ pc lv st S, k pc lv st S → mn_J p l e R s m args below meth c E nL Q pc lv st S) {pc : Nat} {lv : mn_L} {r : List Value} {S : mn_S} {i : Int32} {a n : Nat} (hl : mn_live a) (hs : mn_sh a = .inl (0, n)) (hi : vp_in i n) (hd : decode cc pc = .ok (.iaload, 1)) (h : k (pc + 1) lv (.int (S.1 a i.toNatClampNeg) :: r) S) : mn_J p l e R s m args below meth c E nL Q pc lv (.int i :: .ref a :: r) S := by
  intro H locs ls h1 h2 h3
  obtain ⟨q0, hq⟩ := mn_at hl
  have ha := mn_get (E := E) (S := S) hq
  rw [mn_cell_inl hs] at ha
  exact va_iald hx hb hEK.1 h2 q0 0 (f := S.1 a) ha rfl hi hd (hk _ _ _ _ h H locs ls h1 h2 h3)
theorem mn_J_zald {E : mn_E} {nL : Nat} {Q : State → Prop} (hx : p.tables.exec = Jvm.exec) {cc : ByteArray} (hb : c.code = cc) (hEK : mn_EK E s) {k : mn_C} (hk : ∀ pc lv st S, k pc lv st S → mn_J p l e R s m args below meth c E nL Q pc lv st S) {pc : Nat} {lv : mn_L} {r : List Value} {S : mn_S} {i : Int32} {a n : Nat} (hl : mn_live a) (hs : mn_sh a = .inl (1, n)) (hi : vp_in i n) (hd : decode cc pc = .ok (.baload, 1)) (h : k (pc + 1) lv (.int (S.1 a i.toNatClampNeg) :: r) S) : mn_J p l e R s m args below meth c E nL Q pc lv (.int i :: .ref a :: r) S := by
  intro H locs ls h1 h2 h3
  obtain ⟨q0, hq⟩ := mn_at hl
  have ha := mn_get (E := E) (S := S) hq
  rw [mn_cell_inl hs] at ha
  exact va_zald hx hb hEK.1 h2 q0 1 (f := S.1 a) ha rfl hi hd (hk _ _ _ _ h H locs ls h1 h2 h3)
theorem mn_J_lald {E : mn_E} {nL : Nat} {Q : State → Prop} (hx : p.tables.exec = Jvm.exec) {cc : ByteArray} (hb : c.code = cc) (hEK : mn_EK E s) {k : mn_C} (hk : ∀ pc lv st S, k pc lv st S → mn_J p l e R s m args below meth c E nL Q pc lv st S) {pc : Nat} {lv : mn_L} {r : List Value} {S : mn_S} {i : Int32} {a n : Nat} (hl : mn_live a) (hs : mn_sh a = .inl (2, n)) (hi : vp_in i n) (hd : decode cc pc = .ok (.laload, 1)) (h : k (pc + 1) lv (.long (S.2 a i.toNatClampNeg) :: r) S) : mn_J p l e R s m args below meth c E nL Q pc lv (.int i :: .ref a :: r) S := by
  intro H locs ls h1 h2 h3
  obtain ⟨q0, hq⟩ := mn_at hl
  have ha := mn_get (E := E) (S := S) hq
  rw [mn_cell_inl hs] at ha
  exact va_lald hx hb hEK.1 h2 q0 2 (f := S.2 a) ha rfl hi hd (hk _ _ _ _ h H locs ls h1 h2 h3)
theorem mn_J_aald {E : mn_E} {nL : Nat} {Q : State → Prop} (hx : p.tables.exec = Jvm.exec) {cc : ByteArray} (hb : c.code = cc) (hEK : mn_EK E s) {k : mn_C} (hk : ∀ pc lv st S, k pc lv st S → mn_J p l e R s m args below meth c E nL Q pc lv st S) {pc : Nat} {lv : mn_L} {r : List Value} {S : mn_S} {i : Int32} {a n t : Nat} (ht : t = 3 ∨ t = 4) (hl : mn_live a) (hs : mn_sh a = .inl (t, n)) (hi : vp_in i n) (hd : decode cc pc = .ok (.aaload, 1)) (h : k (pc + 1) lv (.ref (mn_rf a i.toNatClampNeg) :: r) S) : mn_J p l e R s m args below meth c E nL Q pc lv (.int i :: .ref a :: r) S := by
  intro H locs ls h1 h2 h3
  obtain ⟨q0, hq⟩ := mn_at hl
  have ha := mn_get (E := E) (S := S) hq
  rw [mn_cell_inl hs] at ha
  have hlt : i.toNatClampNeg < n := Nat.not_le.mp fun q => hi (Or.inr q)
  have kk := hk _ _ _ _ h H locs ls h1 h2 h3
  rcases ht with rfl | rfl
  · exact W.aald (v := .ref (E.1 (mn_rf a i.toNatClampNeg))) (ty := .array .int) hx hb (h2 q0 _ ha) ((hEK.1.2 3 _ rfl).1 n (fun j => va_rf (some (E.1 (mn_rf a j))))) rfl (fun q => by cases q) (by show ¬ (i < 0 ∨ (arrV _ _ _).slots.size ≤ _); rw [arrV_size]; exact hi) (by show (arrV _ _ _).slots[_]? = _; rw [arrV_read _ _ hlt]; rfl) rfl rfl hd kk
  · exact W.aald (v := .ref (E.1 (mn_rf a i.toNatClampNeg))) (ty := .array .long) hx hb (h2 q0 _ ha) ((hEK.1.2 4 _ rfl).1 n (fun j => va_rf (some (E.1 (mn_rf a j))))) rfl (fun q => by cases q) (by show ¬ (i < 0 ∨ (arrV _ _ _).slots.size ≤ _); rw [arrV_size]; exact hi) (by show (arrV _ _ _).slots[_]? = _; rw [arrV_read _ _ hlt]; rfl) rfl rfl hd kk
theorem mn_J_iast {E : mn_E} {nL : Nat} {Q : State → Prop} (hx : p.tables.exec = Jvm.exec) {cc : ByteArray} (hb : c.code = cc) (hEK : mn_EK E s) {k : mn_C} (hk : ∀ pc lv st S, k pc lv st S → mn_J p l e R s m args below meth c E nL Q pc lv st S) {pc : Nat} {lv : mn_L} {r : List Value} {S : mn_S} {i x : Int32} {a n : Nat} (hl : mn_live a) (hs : mn_sh a = .inl (0, n)) (hi : vp_in i n) (hd : decode cc pc = .ok (.iastore, 1)) (h : k (pc + 1) lv r (mn_wI S a i.toNatClampNeg x)) : mn_J p l e R s m args below meth c E nL Q pc lv (.int x :: .int i :: .ref a :: r) S := by
  intro H locs ls h1 h2 h3
  obtain ⟨q0, hq⟩ := mn_at hl
  have ha := mn_get (E := E) (S := S) hq
  rw [mn_cell_inl hs] at ha
  refine va_iast hx hb hEK.1 h2 (mn_DD hEK.2.1 S) h3 q0 0 (f := S.1 a) ha rfl hi hd fun H1 locs1 g1 _ g3 => ?_
  refine hk _ _ _ _ h H1 locs1 ls h1 ?_ g3
  rw [← mn_set (S' := mn_wI S a i.toNatClampNeg x) hq ?_ (fun j hj => mn_cell_outI E S hj _ _)]
  · exact g1
  · rw [mn_cell_inl hs]
    show Sum.inl (E.2.2 0, n, Sum.inl (mn_u S.1 a i.toNatClampNeg x a)) = _
    rw [mn_u_in]
    rfl
theorem mn_J_zast {E : mn_E} {nL : Nat} {Q : State → Prop} (hx : p.tables.exec = Jvm.exec) {cc : ByteArray} (hb : c.code = cc) (hEK : mn_EK E s) {k : mn_C} (hk : ∀ pc lv st S, k pc lv st S → mn_J p l e R s m args below meth c E nL Q pc lv st S) {pc : Nat} {lv : mn_L} {r : List Value} {S : mn_S} {i x : Int32} {a n : Nat} (hl : mn_live a) (hs : mn_sh a = .inl (1, n)) (hi : vp_in i n) (hd : decode cc pc = .ok (.bastore, 1)) (h : k (pc + 1) lv r (mn_wI S a i.toNatClampNeg (x &&& 1))) : mn_J p l e R s m args below meth c E nL Q pc lv (.int x :: .int i :: .ref a :: r) S := by
  intro H locs ls h1 h2 h3
  obtain ⟨q0, hq⟩ := mn_at hl
  have ha := mn_get (E := E) (S := S) hq
  rw [mn_cell_inl hs] at ha
  refine va_zast hx hb hEK.1 h2 (mn_DD hEK.2.1 S) h3 q0 1 (f := S.1 a) ha rfl hi hd fun H1 locs1 g1 _ g3 => ?_
  refine hk _ _ _ _ h H1 locs1 ls h1 ?_ g3
  rw [← mn_set (S' := mn_wI S a i.toNatClampNeg (x &&& 1)) hq ?_ (fun j hj => mn_cell_outI E S hj _ _)]
  · exact g1
  · rw [mn_cell_inl hs]
    show Sum.inl (E.2.2 1, n, Sum.inl (mn_u S.1 a i.toNatClampNeg (x &&& 1) a)) = _
    rw [mn_u_in]
    rfl
theorem mn_J_last {E : mn_E} {nL : Nat} {Q : State → Prop} (hx : p.tables.exec = Jvm.exec) {cc : ByteArray} (hb : c.code = cc) (hEK : mn_EK E s) {k : mn_C} (hk : ∀ pc lv st S, k pc lv st S → mn_J p l e R s m args below meth c E nL Q pc lv st S) {pc : Nat} {lv : mn_L} {r : List Value} {S : mn_S} {i : Int32} {x : Int64} {a n : Nat} (hl : mn_live a) (hs : mn_sh a = .inl (2, n)) (hi : vp_in i n) (hd : decode cc pc = .ok (.lastore, 1)) (h : k (pc + 1) lv r (mn_wL S a i.toNatClampNeg x)) : mn_J p l e R s m args below meth c E nL Q pc lv (.long x :: .int i :: .ref a :: r) S := by
  intro H locs ls h1 h2 h3
  obtain ⟨q0, hq⟩ := mn_at hl
  have ha := mn_get (E := E) (S := S) hq
  rw [mn_cell_inl hs] at ha
  refine va_last hx hb hEK.1 h2 (mn_DD hEK.2.1 S) h3 q0 2 (f := S.2 a) ha rfl hi hd fun H1 locs1 g1 _ g3 => ?_
  refine hk _ _ _ _ h H1 locs1 ls h1 ?_ g3
  rw [← mn_set (S' := mn_wL S a i.toNatClampNeg x) hq ?_ (fun j hj => mn_cell_outL E S hj _ _)]
  · exact g1
  · rw [mn_cell_inl hs]
    show Sum.inl (E.2.2 2, n, Sum.inr (Sum.inl (mn_u S.2 a i.toNatClampNeg x a))) = _
    rw [mn_u_in]
    rfl
theorem mn_J_alen {E : mn_E} {nL : Nat} {Q : State → Prop} (hx : p.tables.exec = Jvm.exec) {cc : ByteArray} (hb : c.code = cc) (hEK : mn_EK E s) {k : mn_C} (hk : ∀ pc lv st S, k pc lv st S → mn_J p l e R s m args below meth c E nL Q pc lv st S) {pc : Nat} {lv : mn_L} {r : List Value} {S : mn_S} {a n t : Nat} (ht : t < 5) (hl : mn_live a) (hs : mn_sh a = .inl (t, n)) (hd : decode cc pc = .ok (.arraylength, 1)) (h : k (pc + 1) lv (.int (Int32.ofNat n) :: r) S) : mn_J p l e R s m args below meth c E nL Q pc lv (.ref a :: r) S := by
  intro H locs ls h1 h2 h3
  obtain ⟨q0, hq⟩ := mn_at hl
  have ha := mn_get (E := E) (S := S) hq
  rw [mn_cell_inl hs] at ha
  have ht2 : ∃ ty, (mn_tys E)[t]? = some (E.2.2 t, ty) := by
    rcases (show t = 0 ∨ t = 1 ∨ t = 2 ∨ t = 3 ∨ t = 4 by omega) with rfl | rfl | rfl | rfl | rfl <;> exact ⟨_, rfl⟩
  obtain ⟨ty, hty⟩ := ht2
  exact va_alen hx hb hEK.1 h2 q0 t ha hty rfl hd (hk _ _ _ _ h H locs ls h1 h2 h3)
theorem mn_J_getf {E : mn_E} {nL : Nat} {Q : State → Prop} (hx : p.tables.exec = Jvm.exec) {cc : ByteArray} (hb : c.code = cc) {own : String} {Ts : List Cond} (hts : ∀ w ∈ Ts, w.before args s = true) (hown : s.vm.findClass own = some m.cls) (hEK : mn_EK E s) {k : mn_C} (hk : ∀ pc lv st S, k pc lv st S → mn_J p l e R s m args below meth c E nL Q pc lv st S) {pc : Nat} {lv : mn_L} {r : List Value} {S : mn_S} {a i ci j : Nat} {fs : List (Nat × Nat)} {q : Nat × Nat} (hF : mn_FO own Ts (i, ci, j)) (hl : mn_live a) (hs : mn_sh a = .inr (ci, fs)) (hf : fs[j]? = some q) (hd : decode cc pc = .ok (.getfield i, 3)) (h : k (pc + 3) lv (mn_fv S a j q :: r) S) : mn_J p l e R s m args below meth c E nL Q pc lv (.ref a :: r) S := by
  intro H locs ls h1 h2 h3
  obtain ⟨q0, hq⟩ := mn_at hl
  have ha := mn_get (E := E) (S := S) hq
  rw [mn_cell_inr hs] at ha
  obtain ⟨⟨C, T, N⟩, g1, g2, g3, g4, g5⟩ := hF
  exact va_get (C := C) (T := T) (N := N) (ref := C) hx hb hts g3 hown hEK.1 h2 q0 ha g1 j g2 (hts _ g4) (fun x hx => by rw [g5] at hx; exact hx) (v := mn_cv E (mn_fv S a j q)) (by rw [mn_fs_get, hf]; rfl) hd (hk _ _ _ _ h H locs ls h1 h2 h3)
theorem mn_J_putf {E : mn_E} {nL : Nat} {Q : State → Prop} (hx : p.tables.exec = Jvm.exec) {cc : ByteArray} (hb : c.code = cc) {own : String} {Ts : List Cond} (hts : ∀ w ∈ Ts, w.before args s = true) (hown : s.vm.findClass own = some m.cls) (hEK : mn_EK E s) {k : mn_C} (hk : ∀ pc lv st S, k pc lv st S → mn_J p l e R s m args below meth c E nL Q pc lv st S) {pc : Nat} {lv : mn_L} {r : List Value} {S S' : mn_S} {v : Value} {a i ci j : Nat} {fs : List (Nat × Nat)} {q : Nat × Nat} (hF : mn_FO own Ts (i, ci, j)) (hl : mn_live a) (hs : mn_sh a = .inr (ci, fs)) (hf : fs[j]? = some q) (h2k : q.1 ≠ 2) (hcv : mn_cv E v = v) (hn : narrow (mn_kt q.1) v = v) (hfit : fits (mn_kt q.1) v = true) (hset : mn_fs E S' a fs = (mn_fs E S a fs).set j v) (hout : ∀ b, b ≠ a → mn_cell E S' b = mn_cell E S b) (hd : decode cc pc = .ok (.putfield i, 3)) (h : k (pc + 3) lv r S') : mn_J p l e R s m args below meth c E nL Q pc lv (v :: .ref a :: r) S := by
  intro H locs ls h1 h2 h3
  obtain ⟨q0, hq⟩ := mn_at hl
  have ha := mn_get (E := E) (S := S) hq
  rw [mn_cell_inr hs] at ha
  obtain ⟨⟨C, T, N⟩, g1, g2, g3, g4, g5⟩ := hF
  obtain ⟨w, w1, w2, w3, w4⟩ := mn_sh_fld hl hs hf h2k
  rw [g1] at w1
  cases w1
  obtain ⟨n1, n2⟩ := mn_cls_ok g1
  show W p l e R s m args below meth c H locs 0 0 Q (F0 m pc ls (mn_cv E v :: .ref (E.1 a) :: r.map (mn_cv E)))
  rw [hcv]
  refine va_put (C := C) (T := T) (N := N) (ref := C) hx hb hts g3 (mn_tyo ci) n2 n1 hown hEK.1 h2 (mn_DD hEK.2.1 S) h3 q0 ha g1 j g2 (hts _ g4) (fun x hx => by rw [g5] at hx; exact hx) w3 (ty := mn_kt q.1) (by rw [← w4]; exact n2 j g2) hn hfit (by rw [mn_fs_len]; exact (List.getElem?_eq_some_iff.mp hf).1) hd fun H1 locs1 k1 _ k3 => ?_
  refine hk _ _ _ _ h H1 locs1 ls h1 ?_ k3
  rw [← mn_set (S' := S') hq ?_ hout]
  · exact k1
  · rw [mn_cell_inr hs, hset]
theorem mn_mI_ok {v : Value} {f : Int32 → Prop} (h : match v with
  | .int x => f x
  | _ => False) : ∃ x, v = .int x ∧ f x := by
  cases v <;> first | exact h.elim | exact ⟨_, rfl, h⟩
theorem mn_mL_ok {v : Value} {f : Int64 → Prop} (h : match v with
  | .long x => f x
  | _ => False) : ∃ x, v = .long x ∧ f x := by
  cases v <;> first | exact h.elim | exact ⟨_, rfl, h⟩
theorem mn_bip {n : Int} (h1 : -128 ≤ n) (h2 : n ≤ 127) : (Int8.ofInt n).toInt32 = Int32.ofInt n := by
  apply Int32.toInt_inj.mp
  rw [Int8.toInt_toInt32, Int8.toInt_ofInt_of_le h1 (by omega), Int32.toInt_ofInt_of_le (by omega) (by omega)]
theorem mn_sip {n : Int} (h1 : -32768 ≤ n) (h2 : n ≤ 32767) : (Int16.ofInt n).toInt32 = Int32.ofInt n := by
  apply Int32.toInt_inj.mp
  rw [Int16.toInt_toInt32, Int16.toInt_ofInt_of_le h1 (by omega), Int32.toInt_ofInt_of_le (by omega) (by omega)]
theorem mn_map_nil {E : mn_E} : ([] : List Value).map (mn_cv E) = [] := rfl
theorem mn_sw_ok {x : Int32} {pc d : Nat} {f : Nat → Prop} : ∀ (ts : List Nat) (lo : Int), -2147483648 ≤ lo → lo + ts.length ≤ 2147483648 → mn_sw x d lo ts f → ((x.toInt < lo ∨ lo + ts.length ≤ x.toInt) → f d) ∧ ∀ t j, lo ≤ x.toInt → j = (x.toInt - lo).toNat → ts[j]? = some t → f t
  | [], lo, _, _, h => ⟨fun _ => h, fun t j _ _ ht => by cases ht⟩
  | t :: r, lo, h1, h2, h => by
    have hlen : ((t :: r).length : Int) = r.length + 1 := by simp
    have key : x = Int32.ofInt lo ↔ x.toInt = lo := by
      rw [← Int32.toInt_inj, Int32.toInt_ofInt_of_le (by show _ ≤ lo; omega) (by show lo < _; omega)]
    by_cases e : x = Int32.ofInt lo
    · have e2 := key.mp e
      have h3 := h.1 e
      refine ⟨fun q => by omega, fun t2 j hl hj ht => ?_⟩
      rw [e2] at hj
      have : j = 0 := by omega
      subst this
      cases ht
      exact h3
    · have e2 : ¬ x.toInt = lo := fun q => e (key.mpr q)
      obtain ⟨k1, k2⟩ := mn_sw_ok (pc := pc) r (lo + 1) (by omega) (by omega) (h.2 e)
      refine ⟨fun q => k1 (by omega), fun t2 j hl hj ht => ?_⟩
      have hj2 : j = (x.toInt - (lo + 1)).toNat + 1 := by omega
      subst hj2
      exact k2 t2 _ (by omega) rfl (by simpa using ht)
set_option maxHeartbeats 4000000 in
theorem mn_J_cl {E : mn_E} {nL : Nat} {K : mn_K} {b : mn_B} {own : String} {Ts : List Cond} (hx : p.tables.exec = Jvm.exec) (hb : c.code = b.1) (hts : ∀ w ∈ Ts, w.before args s = true) (hown : s.vm.findClass own = some m.cls) (hEK : mn_EK E s) (hr : meth.sig.returnType = b.2.2.2.2) (hlocks : meth.locks = false)
    (hfl : ∀ q ∈ b.2.1, mn_FO own Ts q) (hlc : ∀ q ∈ b.2.2.1, mn_LO own Ts q) (hcl : ∀ q ∈ b.2.2.2.1, mn_CO p l e R s m args below meth c E nL (MQ below (mn_Qc E K) args s 0 0 (mn_A E)) q) :
    mn_Cl b K (mn_J p l e R s m args below meth c E nL (MQ below (mn_Qc E K) args s 0 0 (mn_A E))) := by
  refine ⟨fun pc lv lv' st S hsub hJ H locs ls h1 h2 h3 => hJ H locs ls ⟨h1.1, (mn_sub_ok hsub).1.trans h1.2.1, h1.2.2.1, fun j v hj => h1.2.2.2 j v ((mn_sub_ok hsub).2 j v hj)⟩ h2 h3, ?_⟩
  intro k pc lv st S hk h0
  obtain ⟨⟨nx, ts, j0⟩, hdec, h⟩ := mn_op_ok h0
  obtain ⟨i, n, hd, hln, htg, rfl, rfl⟩ := mn_dec_ok hdec
  dsimp only at h
  clear h0 hdec
  cases i <;> first | exact h.elim | skip
  case iconst n1 =>
    have hn : n = 1 := by simpa [mn_ln] using hln
    subst hn
    intro H locs ls h1 h2 h3
    exact lv_iconst hx hb hd rfl (hk _ _ _ _ h H locs ls h1 h2 h3)
  case bipush n1 =>
    have hn : n = 2 := by simpa [mn_ln] using hln
    subst hn
    have hz : mn_nz (.bipush n1) = if -128 ≤ n1 ∧ n1 ≤ 127 then .iconst n1 else .nop := rfl
    rw [hz] at h
    split at h
    · rename_i hr9
      intro H locs ls h1 h2 h3
      exact lv_bipush hx hb hd (mn_bip hr9.1 hr9.2) (hk _ _ _ _ h H locs ls h1 h2 h3)
    · exact h.elim
  case sipush n1 =>
    have hn : n = 3 := by simpa [mn_ln] using hln
    subst hn
    have hz : mn_nz (.sipush n1) = if -32768 ≤ n1 ∧ n1 ≤ 32767 then .iconst n1 else .nop := rfl
    rw [hz] at h
    split at h
    · rename_i hr9
      intro H locs ls h1 h2 h3
      exact lv_sipush hx hb hd (mn_sip hr9.1 hr9.2) (hk _ _ _ _ h H locs ls h1 h2 h3)
    · exact h.elim
  case lconst n1 =>
    have hn : n = 1 := by simpa [mn_ln] using hln
    subst hn
    intro H locs ls h1 h2 h3
    exact lv_lconst hx hb hd rfl (hk _ _ _ _ h H locs ls h1 h2 h3)
  case ldc_w j =>
    have hn : n = 3 := by simpa [mn_ln] using hln
    subst hn
    obtain ⟨v, hv, h⟩ := mn_op_ok h
    have hw := hlc _ (mn_lk_mem hv)
    cases v <;> first | exact h.elim | skip
    intro H locs ls h1 h2 h3
    exact lv_ldcw hx hb hown (hts _ hw) hd (hk _ _ _ _ h H locs ls h1 h2 h3)
  case ldc2_w j =>
    have hn : n = 3 := by simpa [mn_ln] using hln
    subst hn
    obtain ⟨v, hv, h⟩ := mn_op_ok h
    have hw := hlc _ (mn_lk_mem hv)
    cases v <;> first | exact h.elim | skip
    intro H locs ls h1 h2 h3
    exact lv_ldc2 hx hb hown (hts _ hw) hd (hk _ _ _ _ h H locs ls h1 h2 h3)
  case iload j =>
    have hn : n = 2 := by simpa [mn_ln] using hln
    subst hn
    obtain ⟨x, hg, h⟩ := mn_gI_ok h
    intro H locs ls h1 h2 h3
    exact lv_iload hx hb hd (h1.2.2.2 _ _ hg) (hk _ _ _ _ h H locs ls h1 h2 h3)
  case iload_n j =>
    have hn : n = 1 := by simpa [mn_ln] using hln
    subst hn
    obtain ⟨x, hg, h⟩ := mn_gI_ok h
    intro H locs ls h1 h2 h3
    exact lv_iload_n hx hb hd rfl (h1.2.2.2 _ _ hg) (hk _ _ _ _ h H locs ls h1 h2 h3)
  case lload j =>
    have hn : n = 2 := by simpa [mn_ln] using hln
    subst hn
    obtain ⟨x, hg, h⟩ := mn_gL_ok h
    intro H locs ls h1 h2 h3
    exact lv_lload hx hb hd (h1.2.2.2 _ _ hg) (hk _ _ _ _ h H locs ls h1 h2 h3)
  case lload_n j =>
    have hn : n = 1 := by simpa [mn_ln] using hln
    subst hn
    obtain ⟨x, hg, h⟩ := mn_gL_ok h
    intro H locs ls h1 h2 h3
    exact lv_lload_n hx hb hd rfl (h1.2.2.2 _ _ hg) (hk _ _ _ _ h H locs ls h1 h2 h3)
  case aload j =>
    have hn : n = 2 := by simpa [mn_ln] using hln
    subst hn
    obtain ⟨x, hg, h⟩ := mn_gR_ok h
    intro H locs ls h1 h2 h3
    exact lv_aload hx hb hd (h1.2.2.2 _ _ hg) (hk _ _ _ _ h H locs ls h1 h2 h3)
  case aload_n j =>
    have hn : n = 1 := by simpa [mn_ln] using hln
    subst hn
    obtain ⟨x, hg, h⟩ := mn_gR_ok h
    intro H locs ls h1 h2 h3
    exact lv_aload_n hx hb hd rfl (h1.2.2.2 _ _ hg) (hk _ _ _ _ h H locs ls h1 h2 h3)
  case istore j =>
    have hn : n = 2 := by simpa [mn_ln] using hln
    subst hn
    obtain ⟨x, r, rfl, hj, h⟩ := mn_pI_ok h
    intro H locs ls h1 h2 h3
    exact lv_istore hx hb hd (mn_has_lv h1) (by rw [← h1.2.1]; exact hj) rfl (fun ls' h' => hk _ _ _ _ h H locs ls' (mn_has_put (v := .int x) h1 h') h2 h3)
  case istore_n j =>
    have hn : n = 1 := by simpa [mn_ln] using hln
    subst hn
    obtain ⟨x, r, rfl, hj, h⟩ := mn_pI_ok h
    intro H locs ls h1 h2 h3
    exact lv_istore_n hx hb hd rfl (mn_has_lv h1) (by rw [← h1.2.1]; exact hj) rfl (fun ls' h' => hk _ _ _ _ h H locs ls' (mn_has_put (v := .int x) h1 h') h2 h3)
  case lstore j =>
    have hn : n = 2 := by simpa [mn_ln] using hln
    subst hn
    obtain ⟨x, r, rfl, hj, h⟩ := mn_pL_ok h
    intro H locs ls h1 h2 h3
    exact lv_lstore hx hb hd (mn_has_lv h1) (by rw [← h1.2.1]; exact hj) rfl (fun ls' h' => hk _ _ _ _ h H locs ls' (mn_has_put2 (v := .long x) h1 h') h2 h3)
  case lstore_n j =>
    have hn : n = 1 := by simpa [mn_ln] using hln
    subst hn
    obtain ⟨x, r, rfl, hj, h⟩ := mn_pL_ok h
    intro H locs ls h1 h2 h3
    exact lv_lstore_n hx hb hd rfl (mn_has_lv h1) (by rw [← h1.2.1]; exact hj) rfl (fun ls' h' => hk _ _ _ _ h H locs ls' (mn_has_put2 (v := .long x) h1 h') h2 h3)
  case iinc j n1 =>
    have hn : n = 3 := by simpa [mn_ln] using hln
    subst hn
    obtain ⟨x, hg, -, h⟩ := mn_gI_ok h
    intro H locs ls h1 h2 h3
    obtain ⟨kp, hkp⟩ := List.mem_iff_getElem?.mp (mn_lst_mem (E := E).mpr ⟨j, .int x, hg, rfl⟩)
    have hj : j < nL := by rw [← h1.2.1]; exact (List.getElem?_eq_some_iff.mp hg).1
    exact lv_iinc hx hb hd (mn_has_lv h1) hkp rfl hj rfl (fun ls' h' => hk _ _ _ _ h H locs ls' (mn_has_put (v := .int (x + Int32.ofInt n1)) h1 h') h2 h3)
  case iadd =>
    have hn : n = 1 := by simpa [mn_ln] using hln
    subst hn
    obtain ⟨y, r0, rfl, h⟩ := mn_pI_ok h
    obtain ⟨x, r, rfl, h⟩ := mn_pI_ok h
    intro H locs ls h1 h2 h3
    exact lv_iadd hx hb hd (hk _ _ _ _ h H locs ls h1 h2 h3)
  case isub =>
    have hn : n = 1 := by simpa [mn_ln] using hln
    subst hn
    obtain ⟨y, r0, rfl, h⟩ := mn_pI_ok h
    obtain ⟨x, r, rfl, h⟩ := mn_pI_ok h
    intro H locs ls h1 h2 h3
    exact lv_isub hx hb hd (hk _ _ _ _ h H locs ls h1 h2 h3)
  case imul =>
    have hn : n = 1 := by simpa [mn_ln] using hln
    subst hn
    obtain ⟨y, r0, rfl, h⟩ := mn_pI_ok h
    obtain ⟨x, r, rfl, h⟩ := mn_pI_ok h
    intro H locs ls h1 h2 h3
    exact lv_imul hx hb hd (hk _ _ _ _ h H locs ls h1 h2 h3)
  case iand =>
    have hn : n = 1 := by simpa [mn_ln] using hln
    subst hn
    obtain ⟨y, r0, rfl, h⟩ := mn_pI_ok h
    obtain ⟨x, r, rfl, h⟩ := mn_pI_ok h
    intro H locs ls h1 h2 h3
    exact lv_iand hx hb hd (hk _ _ _ _ h H locs ls h1 h2 h3)
  case ior =>
    have hn : n = 1 := by simpa [mn_ln] using hln
    subst hn
    obtain ⟨y, r0, rfl, h⟩ := mn_pI_ok h
    obtain ⟨x, r, rfl, h⟩ := mn_pI_ok h
    intro H locs ls h1 h2 h3
    exact lv_ior hx hb hd (hk _ _ _ _ h H locs ls h1 h2 h3)
  case ixor =>
    have hn : n = 1 := by simpa [mn_ln] using hln
    subst hn
    obtain ⟨y, r0, rfl, h⟩ := mn_pI_ok h
    obtain ⟨x, r, rfl, h⟩ := mn_pI_ok h
    intro H locs ls h1 h2 h3
    exact lv_ixor hx hb hd (hk _ _ _ _ h H locs ls h1 h2 h3)
  case ishl =>
    have hn : n = 1 := by simpa [mn_ln] using hln
    subst hn
    obtain ⟨y, r0, rfl, h⟩ := mn_pI_ok h
    obtain ⟨x, r, rfl, h⟩ := mn_pI_ok h
    intro H locs ls h1 h2 h3
    exact lv_ishl hx hb hd (hk _ _ _ _ h H locs ls h1 h2 h3)
  case ishr =>
    have hn : n = 1 := by simpa [mn_ln] using hln
    subst hn
    obtain ⟨y, r0, rfl, h⟩ := mn_pI_ok h
    obtain ⟨x, r, rfl, h⟩ := mn_pI_ok h
    intro H locs ls h1 h2 h3
    exact lv_ishr hx hb hd (hk _ _ _ _ h H locs ls h1 h2 h3)
  case iushr =>
    have hn : n = 1 := by simpa [mn_ln] using hln
    subst hn
    obtain ⟨y, r0, rfl, h⟩ := mn_pI_ok h
    obtain ⟨x, r, rfl, h⟩ := mn_pI_ok h
    intro H locs ls h1 h2 h3
    exact lv_iushr hx hb hd rfl (hk _ _ _ _ h H locs ls h1 h2 h3)
  case idiv =>
    have hn : n = 1 := by simpa [mn_ln] using hln
    subst hn
    obtain ⟨y, r0, rfl, h⟩ := mn_pI_ok h
    obtain ⟨x, r, rfl, hne, h⟩ := mn_pI_ok h
    intro H locs ls h1 h2 h3
    exact lv_idiv hx hb hd hne (hk _ _ _ _ h H locs ls h1 h2 h3)
  case irem =>
    have hn : n = 1 := by simpa [mn_ln] using hln
    subst hn
    obtain ⟨y, r0, rfl, h⟩ := mn_pI_ok h
    obtain ⟨x, r, rfl, hne, h⟩ := mn_pI_ok h
    intro H locs ls h1 h2 h3
    exact lv_irem hx hb hd hne (hk _ _ _ _ h H locs ls h1 h2 h3)
  case ineg =>
    have hn : n = 1 := by simpa [mn_ln] using hln
    subst hn
    obtain ⟨x, r, rfl, h⟩ := mn_pI_ok h
    intro H locs ls h1 h2 h3
    exact lv_ineg hx hb hd (hk _ _ _ _ h H locs ls h1 h2 h3)
  case ladd =>
    have hn : n = 1 := by simpa [mn_ln] using hln
    subst hn
    obtain ⟨y, r0, rfl, h⟩ := mn_pL_ok h
    obtain ⟨x, r, rfl, h⟩ := mn_pL_ok h
    intro H locs ls h1 h2 h3
    exact lv_ladd hx hb hd (hk _ _ _ _ h H locs ls h1 h2 h3)
  case lsub =>
    have hn : n = 1 := by simpa [mn_ln] using hln
    subst hn
    obtain ⟨y, r0, rfl, h⟩ := mn_pL_ok h
    obtain ⟨x, r, rfl, h⟩ := mn_pL_ok h
    intro H locs ls h1 h2 h3
    exact lv_lsub hx hb hd (hk _ _ _ _ h H locs ls h1 h2 h3)
  case lmul =>
    have hn : n = 1 := by simpa [mn_ln] using hln
    subst hn
    obtain ⟨y, r0, rfl, h⟩ := mn_pL_ok h
    obtain ⟨x, r, rfl, h⟩ := mn_pL_ok h
    intro H locs ls h1 h2 h3
    exact lv_lmul hx hb hd (hk _ _ _ _ h H locs ls h1 h2 h3)
  case land =>
    have hn : n = 1 := by simpa [mn_ln] using hln
    subst hn
    obtain ⟨y, r0, rfl, h⟩ := mn_pL_ok h
    obtain ⟨x, r, rfl, h⟩ := mn_pL_ok h
    intro H locs ls h1 h2 h3
    exact lv_land hx hb hd (hk _ _ _ _ h H locs ls h1 h2 h3)
  case lor =>
    have hn : n = 1 := by simpa [mn_ln] using hln
    subst hn
    obtain ⟨y, r0, rfl, h⟩ := mn_pL_ok h
    obtain ⟨x, r, rfl, h⟩ := mn_pL_ok h
    intro H locs ls h1 h2 h3
    exact lv_lor hx hb hd (hk _ _ _ _ h H locs ls h1 h2 h3)
  case lxor =>
    have hn : n = 1 := by simpa [mn_ln] using hln
    subst hn
    obtain ⟨y, r0, rfl, h⟩ := mn_pL_ok h
    obtain ⟨x, r, rfl, h⟩ := mn_pL_ok h
    intro H locs ls h1 h2 h3
    exact lv_lxor hx hb hd (hk _ _ _ _ h H locs ls h1 h2 h3)
  case ldiv =>
    have hn : n = 1 := by simpa [mn_ln] using hln
    subst hn
    obtain ⟨y, r0, rfl, h⟩ := mn_pL_ok h
    obtain ⟨x, r, rfl, hne, h⟩ := mn_pL_ok h
    intro H locs ls h1 h2 h3
    exact lv_ldiv hx hb hd hne (hk _ _ _ _ h H locs ls h1 h2 h3)
  case lrem =>
    have hn : n = 1 := by simpa [mn_ln] using hln
    subst hn
    obtain ⟨y, r0, rfl, h⟩ := mn_pL_ok h
    obtain ⟨x, r, rfl, hne, h⟩ := mn_pL_ok h
    intro H locs ls h1 h2 h3
    exact lv_lrem hx hb hd hne (hk _ _ _ _ h H locs ls h1 h2 h3)
  case lshl =>
    have hn : n = 1 := by simpa [mn_ln] using hln
    subst hn
    obtain ⟨y, r0, rfl, h⟩ := mn_pI_ok h
    obtain ⟨x, r, rfl, h⟩ := mn_pL_ok h
    intro H locs ls h1 h2 h3
    exact lv_lshl hx hb hd rfl (hk _ _ _ _ h H locs ls h1 h2 h3)
  case lshr =>
    have hn : n = 1 := by simpa [mn_ln] using hln
    subst hn
    obtain ⟨y, r0, rfl, h⟩ := mn_pI_ok h
    obtain ⟨x, r, rfl, h⟩ := mn_pL_ok h
    intro H locs ls h1 h2 h3
    exact lv_lshr hx hb hd rfl (hk _ _ _ _ h H locs ls h1 h2 h3)
  case lushr =>
    have hn : n = 1 := by simpa [mn_ln] using hln
    subst hn
    obtain ⟨y, r0, rfl, h⟩ := mn_pI_ok h
    obtain ⟨x, r, rfl, h⟩ := mn_pL_ok h
    intro H locs ls h1 h2 h3
    exact lv_lushr hx hb hd rfl (hk _ _ _ _ h H locs ls h1 h2 h3)
  case lneg =>
    have hn : n = 1 := by simpa [mn_ln] using hln
    subst hn
    obtain ⟨x, r, rfl, h⟩ := mn_pL_ok h
    intro H locs ls h1 h2 h3
    exact lv_lneg hx hb hd (hk _ _ _ _ h H locs ls h1 h2 h3)
  case i2l =>
    have hn : n = 1 := by simpa [mn_ln] using hln
    subst hn
    obtain ⟨x, r, rfl, h⟩ := mn_pI_ok h
    intro H locs ls h1 h2 h3
    exact lv_i2l hx hb hd rfl (hk _ _ _ _ h H locs ls h1 h2 h3)
  case l2i =>
    have hn : n = 1 := by simpa [mn_ln] using hln
    subst hn
    obtain ⟨x, r, rfl, h⟩ := mn_pL_ok h
    intro H locs ls h1 h2 h3
    exact lv_l2i hx hb hd rfl (hk _ _ _ _ h H locs ls h1 h2 h3)
  case lcmp =>
    have hn : n = 1 := by simpa [mn_ln] using hln
    subst hn
    obtain ⟨y, r0, rfl, h⟩ := mn_pL_ok h
    obtain ⟨x, r, rfl, h⟩ := mn_pL_ok h
    intro H locs ls h1 h2 h3
    exact W.lcmp hx hb hd (hk _ _ _ _ h H locs ls h1 h2 h3)
  case dup =>
    have hn : n = 1 := by simpa [mn_ln] using hln
    subst hn
    obtain ⟨v, r, rfl, hv, h⟩ := mn_pV_ok h
    intro H locs ls h1 h2 h3
    exact lv_dup hx hb hd (by rw [mn_cv_cat]; exact hv) (hk _ _ _ _ h H locs ls h1 h2 h3)
  case pop =>
    have hn : n = 1 := by simpa [mn_ln] using hln
    subst hn
    obtain ⟨v, r, rfl, hv, h⟩ := mn_pV_ok h
    intro H locs ls h1 h2 h3
    exact lv_pop hx hb hd (by rw [mn_cv_cat]; exact hv) (hk _ _ _ _ h H locs ls h1 h2 h3)
  case dup2 =>
    have hn : n = 1 := by simpa [mn_ln] using hln
    subst hn
    obtain ⟨v, r, rfl, ha, hb2⟩ := mn_pV_ok h
    rcases lv_cat v with hv | hv
    · obtain ⟨w, r2, rfl, hw, h⟩ := mn_pV_ok (hb2 (by omega))
      intro H locs ls h1 h2 h3
      exact lv_dup2_11 hx hb hd (by rw [mn_cv_cat]; exact hv) (by rw [mn_cv_cat]; exact hw) (hk _ _ _ _ h H locs ls h1 h2 h3)
    · have h := ha hv
      intro H locs ls h1 h2 h3
      exact lv_dup2_2 hx hb hd (by rw [mn_cv_cat]; exact hv) (hk _ _ _ _ h H locs ls h1 h2 h3)
  case goto o =>
    have hn : n = 3 := by simpa [mn_ln] using hln
    subst hn
    obtain ⟨t, rfl, ht⟩ := mn_tg_br htg
    intro H locs ls h1 h2 h3
    exact lv_goto hx hb hd ht (hk _ _ _ _ h H locs ls h1 h2 h3)
  case ifCond cn o =>
    have hn : n = 3 := by simpa [mn_ln] using hln
    subst hn
    obtain ⟨t, rfl, ht⟩ := mn_tg_br htg
    cases cn
    all_goals
      obtain ⟨x, r, rfl, ha, hf⟩ := mn_pI_ok h
      intro H locs ls h1 h2 h3
    · exact lv_if_eq hx hb hd ht (fun z => hk _ _ _ _ (ha z) H locs ls h1 h2 h3) (fun z => hk _ _ _ _ (hf z) H locs ls h1 h2 h3)
    · exact lv_if_ne hx hb hd ht (fun z => hk _ _ _ _ (hf z) H locs ls h1 h2 h3) (fun z => hk _ _ _ _ (ha z) H locs ls h1 h2 h3)
    · exact lv_if_lt hx hb hd ht (fun z => hk _ _ _ _ (ha z) H locs ls h1 h2 h3) (fun z => hk _ _ _ _ (hf z) H locs ls h1 h2 h3)
    · exact lv_if_ge hx hb hd ht (fun z => hk _ _ _ _ (ha z) H locs ls h1 h2 h3) (fun z => hk _ _ _ _ (hf z) H locs ls h1 h2 h3)
    · exact lv_if_gt hx hb hd ht (fun z => hk _ _ _ _ (ha z) H locs ls h1 h2 h3) (fun z => hk _ _ _ _ (hf z) H locs ls h1 h2 h3)
    · exact lv_if_le hx hb hd ht (fun z => hk _ _ _ _ (ha z) H locs ls h1 h2 h3) (fun z => hk _ _ _ _ (hf z) H locs ls h1 h2 h3)
  case if_icmp cn o =>
    have hn : n = 3 := by simpa [mn_ln] using hln
    subst hn
    obtain ⟨t, rfl, ht⟩ := mn_tg_br htg
    cases cn
    all_goals
      obtain ⟨y, r0, rfl, h⟩ := mn_pI_ok h
      obtain ⟨x, r, rfl, ha, hf⟩ := mn_pI_ok h
      intro H locs ls h1 h2 h3
    · exact lv_icmp_eq hx hb hd ht (fun z => hk _ _ _ _ (ha z) H locs ls h1 h2 h3) (fun z => hk _ _ _ _ (hf z) H locs ls h1 h2 h3)
    · exact lv_icmp_ne hx hb hd ht (fun z => hk _ _ _ _ (hf z) H locs ls h1 h2 h3) (fun z => hk _ _ _ _ (ha z) H locs ls h1 h2 h3)
    · exact lv_icmp_lt hx hb hd ht (fun z => hk _ _ _ _ (ha z) H locs ls h1 h2 h3) (fun z => hk _ _ _ _ (hf z) H locs ls h1 h2 h3)
    · exact lv_icmp_ge hx hb hd ht (fun z => hk _ _ _ _ (ha z) H locs ls h1 h2 h3) (fun z => hk _ _ _ _ (hf z) H locs ls h1 h2 h3)
    · exact lv_icmp_gt hx hb hd ht (fun z => hk _ _ _ _ (ha z) H locs ls h1 h2 h3) (fun z => hk _ _ _ _ (hf z) H locs ls h1 h2 h3)
    · exact lv_icmp_le hx hb hd ht (fun z => hk _ _ _ _ (ha z) H locs ls h1 h2 h3) (fun z => hk _ _ _ _ (hf z) H locs ls h1 h2 h3)
  case tableswitch df lo hi os =>
    obtain ⟨x, r, rfl, h⟩ := mn_pI_ok h
    have htg2 : (if 0 ≤ (pc : Int) + df ∧ (os.all fun o => decide (0 ≤ (pc : Int) + o)) = true ∧ hi = lo + os.size - 1 then some (((pc : Int) + df).toNat :: os.toList.map fun o => ((pc : Int) + o).toNat) else none) = some ts := htg
    split at htg2
    · rename_i hc
      obtain ⟨c1, c2, c3⟩ := hc
      cases htg2
      obtain ⟨⟨b1, b2⟩, hsw⟩ := h
      obtain ⟨k1, k2⟩ := mn_sw_ok (pc := pc) _ lo b1 b2 hsw
      have hlen : ((os.toList.map fun o => ((pc : Int) + o).toNat).length : Int) = os.size := by simp
      rw [hlen] at k1
      intro H locs ls h1 h2 h3
      by_cases hin : x.toInt < lo ∨ hi < x.toInt
      · exact lv_tableOut hx hb hd hin (Int.toNat_of_nonneg c1).symm (hk _ _ _ _ (k1 (by omega)) H locs ls h1 h2 h3)
      · have hj : (x.toInt - lo).toNat < os.size := by omega
        have ho : os[(x.toInt - lo).toNat]? = some os[(x.toInt - lo).toNat] := Array.getElem?_eq_getElem hj
        have hnn : 0 ≤ (pc : Int) + os[(x.toInt - lo).toNat] := by
          have := (Array.all_eq_true.mp c2) _ hj
          exact of_decide_eq_true this
        refine lv_tableIn hx hb hd (fun z => hin (Or.inl z)) (fun z => hin (Or.inr z)) ho (Int.toNat_of_nonneg hnn).symm (hk _ _ _ _ (k2 _ _ (by omega) rfl ?_) H locs ls h1 h2 h3)
        rw [List.getElem?_map, Array.getElem?_toList, ho]
        rfl
    · cases htg2
  case arraylength =>
    have hn : n = 1 := by simpa [mn_ln] using hln
    subst hn
    obtain ⟨a, r, rfl, hl, h⟩ := mn_pR_ok h
    unfold mn_aN at h
    split at h
    · rename_i u n2 hs
      exact mn_J_alen hx hb hEK hk h.1 hl hs hd h.2
    · exact h.elim
  case iaload =>
    have hn : n = 1 := by simpa [mn_ln] using hln
    subst hn
    obtain ⟨i, r0, rfl, h⟩ := mn_pI_ok h
    obtain ⟨a, r, rfl, hl, h⟩ := mn_pR_ok h
    obtain ⟨n2, hs, hi, h⟩ := mn_aI_ok h
    exact mn_J_iald hx hb hEK hk hl hs hi hd h
  case baload =>
    have hn : n = 1 := by simpa [mn_ln] using hln
    subst hn
    obtain ⟨i, r0, rfl, h⟩ := mn_pI_ok h
    obtain ⟨a, r, rfl, hl, h⟩ := mn_pR_ok h
    obtain ⟨n2, hs, hi, h⟩ := mn_aI_ok h
    exact mn_J_zald hx hb hEK hk hl hs hi hd h
  case laload =>
    have hn : n = 1 := by simpa [mn_ln] using hln
    subst hn
    obtain ⟨i, r0, rfl, h⟩ := mn_pI_ok h
    obtain ⟨a, r, rfl, hl, h⟩ := mn_pR_ok h
    obtain ⟨n2, hs, hi, h⟩ := mn_aI_ok h
    exact mn_J_lald hx hb hEK hk hl hs hi hd h
  case aaload =>
    have hn : n = 1 := by simpa [mn_ln] using hln
    subst hn
    obtain ⟨i, r0, rfl, h⟩ := mn_pI_ok h
    obtain ⟨a, r, rfl, hl, h⟩ := mn_pR_ok h
    rcases h with h | h
    · obtain ⟨n2, hs, hi, h⟩ := mn_aI_ok h
      exact mn_J_aald hx hb hEK hk (Or.inl rfl) hl hs hi hd h
    · obtain ⟨n2, hs, hi, h⟩ := mn_aI_ok h
      exact mn_J_aald hx hb hEK hk (Or.inr rfl) hl hs hi hd h
  case iastore =>
    have hn : n = 1 := by simpa [mn_ln] using hln
    subst hn
    obtain ⟨x, r1, rfl, h⟩ := mn_pI_ok h
    obtain ⟨i, r0, rfl, h⟩ := mn_pI_ok h
    obtain ⟨a, r, rfl, hl, h⟩ := mn_pR_ok h
    obtain ⟨n2, hs, hi, h⟩ := mn_aI_ok h
    exact mn_J_iast hx hb hEK hk hl hs hi hd h
  case bastore =>
    have hn : n = 1 := by simpa [mn_ln] using hln
    subst hn
    obtain ⟨x, r1, rfl, h⟩ := mn_pI_ok h
    obtain ⟨i, r0, rfl, h⟩ := mn_pI_ok h
    obtain ⟨a, r, rfl, hl, h⟩ := mn_pR_ok h
    obtain ⟨n2, hs, hi, h⟩ := mn_aI_ok h
    exact mn_J_zast hx hb hEK hk hl hs hi hd h
  case lastore =>
    have hn : n = 1 := by simpa [mn_ln] using hln
    subst hn
    obtain ⟨x, r1, rfl, h⟩ := mn_pL_ok h
    obtain ⟨i, r0, rfl, h⟩ := mn_pI_ok h
    obtain ⟨a, r, rfl, hl, h⟩ := mn_pR_ok h
    obtain ⟨n2, hs, hi, h⟩ := mn_aI_ok h
    exact mn_J_last hx hb hEK hk hl hs hi hd h
  case getfield j =>
    have hn : n = 3 := by simpa [mn_ln] using hln
    subst hn
    obtain ⟨a, r, rfl, h⟩ := mn_pR_ok h
    obtain ⟨⟨ci, f⟩, hlk, hl, h⟩ := mn_op_ok h
    obtain ⟨fs, q, hs, hf, h⟩ := mn_fi_ok h
    exact mn_J_getf hx hb hts hown hEK hk (hfl _ (mn_lk_mem hlk)) hl hs hf hd h
  case putfield j =>
    have hn : n = 3 := by simpa [mn_ln] using hln
    subst hn
    obtain ⟨v, r0, rfl, h⟩ := mn_pV_ok h
    obtain ⟨a, r, rfl, h⟩ := mn_pR_ok h
    obtain ⟨⟨ci, f⟩, hlk, hl, h⟩ := mn_op_ok h
    obtain ⟨fs, q, hs, hf, h⟩ := mn_fi_ok h
    have hF := hfl _ (mn_lk_mem hlk)
    obtain ⟨q1, q2⟩ := q
    dsimp only at h
    split at h
    · obtain ⟨x, rfl, h⟩ := mn_mI_ok h
      exact mn_J_putf (S' := mn_wI S a f x) hx hb hts hown hEK hk hF hl hs hf (fun z => by cases z) rfl rfl rfl (mn_fs_setI hf (Or.inl rfl) x) (fun b2 hb2 => mn_cell_outI E S hb2 _ _) hd h
    · obtain ⟨x, rfl, h9, h⟩ := mn_mI_ok h
      have h8 : x = 0 ∨ x = 1 := mn_bool_and h9
      exact mn_J_putf (S' := mn_wI S a f x) hx hb hts hown hEK hk hF hl hs hf (fun z => by cases z) rfl (by show Value.int (x &&& 1) = _; rw [h9]) (by rcases h8 with rfl | rfl <;> rfl) (mn_fs_setI hf (Or.inr rfl) x) (fun b2 hb2 => mn_cell_outI E S hb2 _ _) hd h
    · obtain ⟨x, rfl, h⟩ := mn_mL_ok h
      exact mn_J_putf (S' := mn_wL S a f x) hx hb hts hown hEK hk hF hl hs hf (fun z => by cases z) rfl rfl rfl (mn_fs_setL hf rfl x) (fun b2 hb2 => mn_cell_outL E S hb2 _ _) hd h
    · exact h.elim
  case invokevirtual j =>
    have hn : n = 3 := by simpa [mn_ln] using hln
    subst hn
    obtain ⟨⟨vi, na, sp⟩, hlk, h⟩ := mn_op_ok h
    dsimp only at h
    split at h
    case isFalse => exact h.elim
    rename_i hv
    subst hv
    obtain ⟨hwt, h⟩ := h
    have := hcl _ (mn_lk_mem hlk) k pc lv _ _ S hk (by rw [hb]; exact hd) hwt h
    rw [List.reverse_reverse, List.take_append_drop] at this
    exact this
  case invokestatic j =>
    have hn : n = 3 := by simpa [mn_ln] using hln
    subst hn
    obtain ⟨⟨vi, na, sp⟩, hlk, h⟩ := mn_op_ok h
    dsimp only at h
    split at h
    case isFalse => exact h.elim
    rename_i hv
    subst hv
    obtain ⟨hwt, h⟩ := h
    have := hcl _ (mn_lk_mem hlk) k pc lv _ _ S hk (by rw [hb]; exact hd) hwt h
    rw [List.reverse_reverse, List.take_append_drop] at this
    exact this
  case ireturn =>
    have hn : n = 1 := by simpa [mn_ln] using hln
    subst hn
    obtain ⟨x, r, rfl, h⟩ := mn_pI_ok h
    obtain ⟨rfl, h, hK⟩ := mn_pE_ok h
    intro H locs ls h1 h2 h3
    rcases h with h | ⟨h, h9⟩
    · exact W.iret hx hb (by rw [hr, h]) (fun t ht hW => ⟨⟨some (.int x), S, rfl, hK, by rw [ht]; exact h2, mn_EK_warm hW hEK⟩, h3.F ht⟩) h3.2.2 hd hlocks
    · exact W.zret (ty := .boolean) hx hb (by rw [hr, h]) (by show Value.int (x &&& 1) = _; rw [h9]) (fun t ht hW => ⟨⟨some (.int x), S, rfl, hK, by rw [ht]; exact h2, mn_EK_warm hW hEK⟩, h3.F ht⟩) h3.2.2 hd hlocks
  case lreturn =>
    have hn : n = 1 := by simpa [mn_ln] using hln
    subst hn
    obtain ⟨x, r, rfl, h⟩ := mn_pL_ok h
    obtain ⟨rfl, h, hK⟩ := mn_pE_ok h
    intro H locs ls h1 h2 h3
    exact W.lret hx hb (by rw [hr, h]) (fun t ht hW => ⟨⟨some (.long x), S, rfl, hK, by rw [ht]; exact h2, mn_EK_warm hW hEK⟩, h3.F ht⟩) h3.2.2 hd hlocks
  case return_ =>
    have hn : n = 1 := by simpa [mn_ln] using hln
    subst hn
    obtain ⟨rfl, h, hK⟩ := mn_pE_ok h
    intro H locs ls h1 h2 h3
    exact W.vret hx hb (by rw [hr, h]) (fun t ht hW => ⟨⟨none, S, rfl, hK, by rw [ht]; exact h2, mn_EK_warm hW hEK⟩, h3.F ht⟩) h3.2.2 hd hlocks
end MNJ
