/-! ===== the law: calls of either side, and the world that both constructors leave ===== -/
section LW
variable {p : Program} {l : Launch} {e : Env} {R : Room} {s : State} {m : MethodId} {args : Array Value} {below : List Frame} {meth : Method} {c : Code} {H : Heap} {locs : List Loc} {cells slots : Nat} {Q : State → Prop}
variable {cc : ByteArray} {pc : Nat} {ls : Array Slot} {rest : List Value} {D : va_G} {A : Nat → Prop} {T : Nat → ClassId} {ws : va_W} {H0 : Heap} {E : mn_E}
theorem lw_go {K : mn_K} {a : Array Value} {st0 : List Value} (hAE : ∀ q, mn_A E q → A q) (h3 : va_S A s.heap H locs) (hr : va_Run p l e R s m args below meth c H locs cells slots 0 0 (F0 m pc ls st0) rest (mn_Qc E K a) (mn_A E))
    (kk : ∀ (r : Option Value) (S' : mn_S) (H1 : Heap) (locs1 : List Loc), K r S' → va_P E.2.1 vwCl (mn_wl E S') H1 → va_S A s.heap H1 locs1 → W p l e R s m args below meth c H1 locs1 cells slots Q (F0 m (pc + 3) ls ((r.map (mn_cv E)).toList ++ rest))) : W p l e R s m args below meth c H locs cells slots Q (F0 m pc ls st0) := by
  intro T hT X
  obtain ⟨v, st₀, t, T', L, h0, X', hL, e1, e2, ⟨⟨r, S', hv, hp, hb⟩, hz, hkk⟩, st⟩ := hr T hT X
  have hv2 : v = r.map (mn_cv E) := by
    cases hv
    rfl
  subst hv2
  rw [h0] at hz hkk
  obtain ⟨t2, a1, b1⟩ := kk r S' T'.heap (locs ++ L) hp (by rw [e1]; exact hb.1) ⟨Nat.le_trans h3.1 (by rw [e1]; exact hz), fun q g1 g2 => by rw [e1, hkk q (Nat.lt_of_lt_of_le g1 h3.1) (fun z => g2 (hAE q z))]; exact h3.2.1 q g1 g2, fun q hq => by
    rcases List.mem_append.mp hq with g | g
    · exact h3.2.2 q g
    · exact hAE _ (hL q g)⟩ T' rfl X'
  exact ⟨t2, st t2 a1, b1⟩
/-- a call of a method of either side -/
theorem lw_call {y : MethodName} {wsm Ts : List Cond} {fr lo n idx nL : Nat} {sp : mn_Sp} {own C : String} {bytes : ByteArray} {maxL : Nat} {ret : Option FieldType} {K : mn_K} {S : mn_S} {a : Nat} {as : List Value} (hx : p.tables.exec = Jvm.exec) (hb : c.code = cc) (hml : c.maxLocals = nL) (hts : ∀ w ∈ Ts, w.before args s = true) (hown : s.vm.findClass own = some m.cls) (hEK : mn_EK E s) (hAE : ∀ q, mn_A E q → A q)
    (hM : mn_Ct l y wsm fr lo sp) (hrv : mn_Rv C n sp) (cw : CallW R s args own C idx y bytes maxL ret wsm (mn_rm fr lo) 0 0 n) (hsp : sp (.ref a :: as) S K) (hP : va_P E.2.1 vwCl (mn_wl E S) H) (hS : va_S A s.heap H locs) (hl : ls.size = nL) (hwt : (rest.map fun v => v.category).sum ≤ 8) (hdg : decode cc pc = .ok (.invokevirtual idx, 3)) (hf : cells + 0 ≤ R.cells ∧ slots + 0 ≤ R.slots)
    (kk : ∀ (r : Option Value) (S' : mn_S) (H1 : Heap) (locs1 : List Loc), K r S' → va_P E.2.1 vwCl (mn_wl E S') H1 → va_S A s.heap H1 locs1 → W p l e R s m args below meth c H1 locs1 cells slots Q (F0 m (pc + 3) ls ((r.map (mn_cv E)).toList ++ rest))) : W p l e R s m args below meth c H locs cells slots Q (F0 m pc ls ((as.map (mn_cv E)).reverse ++ .ref (E.1 a) :: rest)) := by
  obtain ⟨a', as', e9, hn, hla, ci, fs, q, hsh, hq, hC⟩ := hrv _ S _ hsp
  cases e9
  obtain ⟨q0, hq0⟩ := mn_at hla
  have ha := mn_get (E := E) (S := S) hq0
  rw [mn_cell_inr hsh] at ha
  have hrec := va_recv hEK.1 hP hq ha
  rw [hC] at hrec
  exact lw_go hAE hS (va_runV (As := as.map (mn_cv E)) (rest := rest) ⟨hx, hb, hml, hown, hts⟩ (hM E _ S _ hsp) cw ⟨mn_blind, hrec, fun U hU hW => ⟨rfl, by rw [hU]; exact hP, mn_EK_warm hW hEK⟩⟩ rfl (by rw [List.length_map]; exact hn) hl rfl (lv_room hwt) hdg hf) kk
/-- a constructor is called on the newest object, by a method that isn't of its nest -/
theorem lw_make {α : Type} {W1 : α → va_W} {ci : Nat} {fs : List Value} {wr : va_W} {q : Nat} {y : MethodName} {bytes : ByteArray} {maxL nL mc ms index : Nat} {wsm : List Cond} {rm : Room} {Ts : List Cond} {own : String}
    (hM : Met l y wsm rm (va_Pc [.ref q] (cs_pre D T q ci fs H.size)) (va_Qv (fun _ : α => True) (cs_post D W1 q ci fs H.size) (va_A [(q, .inr (ci, fs))] H.size)) mc ms (va_A [(q, .inr (ci, fs))] H.size))
    (S : CallFix p m c cc nL s args Ts own) (cw : CallB R s args own index y bytes maxL none wsm rm mc ms 0 ∧ y.name = "<init>" ∧ (Cond.instanceMethod y).before args s = true) (hK : va_K D vwCl (mn_tys (fun _ => 0, D, T)) s) (hN : cs_N s)
    (hP : va_P D vwCl (wr ++ [(q, .inr (ci, fs))]) H) (hD : va_D A (wr ++ [(q, .inr (ci, fs))])) (hS : va_S A H0 H locs) (hA : ∀ q, H0.size ≤ q → A q) (hl : ls.size = nL) (hW : (rest.map fun v => v.category).sum ≤ 8) (hdg : decode cc pc = .ok (.invokespecial index, 3)) (hf : cells + mc ≤ R.cells ∧ slots + ms ≤ R.slots)
    (kk : ∀ (a : α) (H1 : Heap) (locs1 : List Loc), va_P D vwCl (wr ++ W1 a) H1 → va_D A (wr ++ W1 a) → va_S A H0 H1 locs1 → W p l e R s m args below meth c H1 locs1 (cells + mc) (slots + ms) Q (F0 m (pc + 3) ls rest)) : W p l e R s m args below meth c H locs cells slots Q (F0 m pc ls (.ref q :: rest)) := by
  have hPc := cs_Pr hP
  have hDc := cs_Dr hD
  have hFc : ∀ x, va_A [(q, (.inr (ci, fs) : va_E))] H.size x → A x := fun x h => by
    rcases h with ⟨k, e9, h⟩ | h
    · exact hDc.2 k _ h
    · exact hA x (Nat.le_trans hS.1 h)
  refine va_callv (va_runI (As := []) (rest := rest) S hM cw ⟨fun a U g mk q => by obtain ⟨q0, q1, qP, qK, qD, o1⟩ := q; exact ⟨q0, q1, qP, va_K.moved (u := U) (U := U.calling g mk a) (Vm.Alike.refl U.vm) qK, qD, cs_N.call o1⟩, fun U hU hW => ⟨rfl, by rw [hU], by rw [hU]; exact hPc, va_K.moved hW.alike hK, hDc.weaken (fun _ _ _ _ => trivial), cs_N.warm hW hN⟩⟩ rfl rfl hl rfl (lv_room hW) hdg hf) hS (fun q _ h => hFc q h) hFc (fun u t H1 locs1 ht hvm hw hB hz1 hk1 hS1 => ?_)
  obtain ⟨hP1, hD1⟩ := hB
  rw [ht] at hP1
  obtain ⟨g1, g2⟩ := cs_join hP hD hk1 hFc hP1 hD1
  exact kk u H1 locs1 g1 g2 hS1
end LW
-- the cells' numbers
def lw_l (h8 h9 : Nat) (u : Nat → Nat → Nat) (a : Nat → Nat) : List Nat := [h8, u 0 0, u 1 0, u 1 1, u 1 2, u 0 1, u 2 0, u 2 1, u 0 2, u 3 0, u 0 3, u 4 0, u 0 4, u 5 0, u 5 2, u 5 3, u 5 4, u 5 1, u 0 5, u 6 0, u 6 3, u 6 4, u 6 5, u 6 1, u 6 2, u 0 6, u 7 0, u 7 1, u 7 2, h9, a 0, a 1, a 2, a 3, a 4, a 5, a 6, a 7, a 8, a 9, a 10, a 11, a 12, a 13]
def lw_e (h8 h9 : Nat) (u : Nat → Nat → Nat) (a : Nat → Nat) : Nat → Nat := fun k => if k < 100 then (lw_l h8 h9 u a).getD k 0 else if (k - 100) % 3 = 0 then u 1 ((k - 100) / 3 + 3) else if (k - 100) % 3 = 1 then u 5 ((k - 100) / 3 + 5) else u 6 ((k - 100) / 3 + 6)
theorem lw_e0 {h8 h9 : Nat} {u : Nat → Nat → Nat} {a : Nat → Nat} : (fun i => some (lw_e h8 h9 u a (mn_rf 4 i))) = fun i => some (u 1 (i + 3)) := funext fun i => by
  have e : mn_rf 4 i = 100 + 3 * i := rfl
  unfold lw_e
  rw [e, if_neg (by omega), if_pos (by omega), show (100 + 3 * i - 100) / 3 = i by omega]
theorem lw_e1 {h8 h9 : Nat} {u : Nat → Nat → Nat} {a : Nat → Nat} : (fun i => some (lw_e h8 h9 u a (mn_rf 14 i))) = fun i => some (u 5 (i + 5)) := funext fun i => by
  have e : mn_rf 14 i = 101 + 3 * i := rfl
  unfold lw_e
  rw [e, if_neg (by omega), if_neg (by omega), if_pos (by omega), show (101 + 3 * i - 100) / 3 = i by omega]
theorem lw_e2 {h8 h9 : Nat} {u : Nat → Nat → Nat} {a : Nat → Nat} : (fun i => some (lw_e h8 h9 u a (mn_rf 20 i))) = fun i => some (u 6 (i + 6)) := funext fun i => by
  have e : mn_rf 20 i = 102 + 3 * i := rfl
  unfold lw_e
  rw [e, if_neg (by omega), if_neg (by omega), if_neg (by omega), show (102 + 3 * i - 100) / 3 = i by omega]
/-- a cell, the arrays of arrays by their rows' places -/
def lw_c (D : va_G) (T : Nat → ClassId) (h8 h9 : Nat) (u : Nat → Nat → Nat) (a : Nat → Nat) (k : Nat) : va_E := if k = 4 then .inl (T 3, 12, .inr (.inr (.inr (.inr (fun i => some (u 1 (i + 3))))))) else if k = 14 then .inl (T 4, 6, .inr (.inr (.inr (.inr (fun i => some (u 5 (i + 5))))))) else if k = 20 then .inl (T 4, 6, .inr (.inr (.inr (.inr (fun i => some (u 6 (i + 6))))))) else mn_cell (lw_e h8 h9 u a, D, T) cs_S k
theorem lw_c_ok {D : va_G} {T : Nat → ClassId} {h8 h9 : Nat} {u : Nat → Nat → Nat} {a : Nat → Nat} (k : Nat) : lw_c D T h8 h9 u a k = mn_cell (lw_e h8 h9 u a, D, T) cs_S k := by
  unfold lw_c
  split
  · rename_i h
    subst h
    rw [← lw_e0 (h8 := h8) (h9 := h9) (u := u) (a := a)]
    rfl
  · split
    · rename_i h
      subst h
      rw [← lw_e1 (h8 := h8) (h9 := h9) (u := u) (a := a)]
      rfl
    · split
      · rename_i h
        subst h
        rw [← lw_e2 (h8 := h8) (h9 := h9) (u := u) (a := a)]
        rfl
      · rfl
def lw_o : List Nat := [0, 1, 2, 3, 4, 17, 18, 19, 20, 21, 22, 23, 24, 25, 26, 33, 34, 35, 36, 37, 38, 45, 46, 47, 48, 49, 50, 51, 52, 53, 54, 55, 56, 57, 58, 59, 60, 61, 62, 63, 64, 65, 66, 67, 5, 6, 7, 8, 9, 10, 11, 12, 13, 14, 15, 16, 27, 28, 29, 30, 31, 32, 39, 40, 41, 42, 43, 44]
theorem lw_wl {D : va_G} {T : Nat → ClassId} {h8 h9 : Nat} {u : Nat → Nat → Nat} {a : Nat → Nat} : mn_wl (lw_e h8 h9 u a, D, T) cs_S = mn_ids.map (fun k => (lw_e h8 h9 u a k, lw_c D T h8 h9 u a k)) := by
  unfold mn_wl
  refine List.map_congr_left fun k _ => ?_
  rw [lw_c_ok]
theorem lw_w0 {D : va_G} {T : Nat → ClassId} {h8 h9 : Nat} {u : Nat → Nat → Nat} {a : Nat → Nat} : (csW_X8 T h8 u ++ csW_X9 T h9 a)[0]? = some (lw_e h8 h9 u a 0, lw_c D T h8 h9 u a 0) := rfl
theorem lw_w1 {D : va_G} {T : Nat → ClassId} {h8 h9 : Nat} {u : Nat → Nat → Nat} {a : Nat → Nat} : (csW_X8 T h8 u ++ csW_X9 T h9 a)[1]? = some (lw_e h8 h9 u a 1, lw_c D T h8 h9 u a 1) := rfl
theorem lw_w2 {D : va_G} {T : Nat → ClassId} {h8 h9 : Nat} {u : Nat → Nat → Nat} {a : Nat → Nat} : (csW_X8 T h8 u ++ csW_X9 T h9 a)[2]? = some (lw_e h8 h9 u a 2, lw_c D T h8 h9 u a 2) := rfl
theorem lw_w3 {D : va_G} {T : Nat → ClassId} {h8 h9 : Nat} {u : Nat → Nat → Nat} {a : Nat → Nat} : (csW_X8 T h8 u ++ csW_X9 T h9 a)[3]? = some (lw_e h8 h9 u a 3, lw_c D T h8 h9 u a 3) := rfl
theorem lw_w4 {D : va_G} {T : Nat → ClassId} {h8 h9 : Nat} {u : Nat → Nat → Nat} {a : Nat → Nat} : (csW_X8 T h8 u ++ csW_X9 T h9 a)[4]? = some (lw_e h8 h9 u a 4, lw_c D T h8 h9 u a 4) := rfl
theorem lw_w5 {D : va_G} {T : Nat → ClassId} {h8 h9 : Nat} {u : Nat → Nat → Nat} {a : Nat → Nat} : (csW_X8 T h8 u ++ csW_X9 T h9 a)[17]? = some (lw_e h8 h9 u a 5, lw_c D T h8 h9 u a 5) := rfl
theorem lw_w6 {D : va_G} {T : Nat → ClassId} {h8 h9 : Nat} {u : Nat → Nat → Nat} {a : Nat → Nat} : (csW_X8 T h8 u ++ csW_X9 T h9 a)[18]? = some (lw_e h8 h9 u a 6, lw_c D T h8 h9 u a 6) := rfl
theorem lw_w7 {D : va_G} {T : Nat → ClassId} {h8 h9 : Nat} {u : Nat → Nat → Nat} {a : Nat → Nat} : (csW_X8 T h8 u ++ csW_X9 T h9 a)[19]? = some (lw_e h8 h9 u a 7, lw_c D T h8 h9 u a 7) := rfl
theorem lw_w8 {D : va_G} {T : Nat → ClassId} {h8 h9 : Nat} {u : Nat → Nat → Nat} {a : Nat → Nat} : (csW_X8 T h8 u ++ csW_X9 T h9 a)[20]? = some (lw_e h8 h9 u a 8, lw_c D T h8 h9 u a 8) := rfl
theorem lw_w9 {D : va_G} {T : Nat → ClassId} {h8 h9 : Nat} {u : Nat → Nat → Nat} {a : Nat → Nat} : (csW_X8 T h8 u ++ csW_X9 T h9 a)[21]? = some (lw_e h8 h9 u a 9, lw_c D T h8 h9 u a 9) := rfl
theorem lw_w10 {D : va_G} {T : Nat → ClassId} {h8 h9 : Nat} {u : Nat → Nat → Nat} {a : Nat → Nat} : (csW_X8 T h8 u ++ csW_X9 T h9 a)[22]? = some (lw_e h8 h9 u a 10, lw_c D T h8 h9 u a 10) := rfl
theorem lw_w11 {D : va_G} {T : Nat → ClassId} {h8 h9 : Nat} {u : Nat → Nat → Nat} {a : Nat → Nat} : (csW_X8 T h8 u ++ csW_X9 T h9 a)[23]? = some (lw_e h8 h9 u a 11, lw_c D T h8 h9 u a 11) := rfl
theorem lw_w12 {D : va_G} {T : Nat → ClassId} {h8 h9 : Nat} {u : Nat → Nat → Nat} {a : Nat → Nat} : (csW_X8 T h8 u ++ csW_X9 T h9 a)[24]? = some (lw_e h8 h9 u a 12, lw_c D T h8 h9 u a 12) := rfl
theorem lw_w13 {D : va_G} {T : Nat → ClassId} {h8 h9 : Nat} {u : Nat → Nat → Nat} {a : Nat → Nat} : (csW_X8 T h8 u ++ csW_X9 T h9 a)[25]? = some (lw_e h8 h9 u a 13, lw_c D T h8 h9 u a 13) := rfl
theorem lw_w14 {D : va_G} {T : Nat → ClassId} {h8 h9 : Nat} {u : Nat → Nat → Nat} {a : Nat → Nat} : (csW_X8 T h8 u ++ csW_X9 T h9 a)[26]? = some (lw_e h8 h9 u a 14, lw_c D T h8 h9 u a 14) := rfl
theorem lw_w15 {D : va_G} {T : Nat → ClassId} {h8 h9 : Nat} {u : Nat → Nat → Nat} {a : Nat → Nat} : (csW_X8 T h8 u ++ csW_X9 T h9 a)[33]? = some (lw_e h8 h9 u a 15, lw_c D T h8 h9 u a 15) := rfl
theorem lw_w16 {D : va_G} {T : Nat → ClassId} {h8 h9 : Nat} {u : Nat → Nat → Nat} {a : Nat → Nat} : (csW_X8 T h8 u ++ csW_X9 T h9 a)[34]? = some (lw_e h8 h9 u a 16, lw_c D T h8 h9 u a 16) := rfl
theorem lw_w17 {D : va_G} {T : Nat → ClassId} {h8 h9 : Nat} {u : Nat → Nat → Nat} {a : Nat → Nat} : (csW_X8 T h8 u ++ csW_X9 T h9 a)[35]? = some (lw_e h8 h9 u a 17, lw_c D T h8 h9 u a 17) := rfl
theorem lw_w18 {D : va_G} {T : Nat → ClassId} {h8 h9 : Nat} {u : Nat → Nat → Nat} {a : Nat → Nat} : (csW_X8 T h8 u ++ csW_X9 T h9 a)[36]? = some (lw_e h8 h9 u a 18, lw_c D T h8 h9 u a 18) := rfl
theorem lw_w19 {D : va_G} {T : Nat → ClassId} {h8 h9 : Nat} {u : Nat → Nat → Nat} {a : Nat → Nat} : (csW_X8 T h8 u ++ csW_X9 T h9 a)[37]? = some (lw_e h8 h9 u a 19, lw_c D T h8 h9 u a 19) := rfl
theorem lw_w20 {D : va_G} {T : Nat → ClassId} {h8 h9 : Nat} {u : Nat → Nat → Nat} {a : Nat → Nat} : (csW_X8 T h8 u ++ csW_X9 T h9 a)[38]? = some (lw_e h8 h9 u a 20, lw_c D T h8 h9 u a 20) := rfl
theorem lw_w21 {D : va_G} {T : Nat → ClassId} {h8 h9 : Nat} {u : Nat → Nat → Nat} {a : Nat → Nat} : (csW_X8 T h8 u ++ csW_X9 T h9 a)[45]? = some (lw_e h8 h9 u a 21, lw_c D T h8 h9 u a 21) := rfl
theorem lw_w22 {D : va_G} {T : Nat → ClassId} {h8 h9 : Nat} {u : Nat → Nat → Nat} {a : Nat → Nat} : (csW_X8 T h8 u ++ csW_X9 T h9 a)[46]? = some (lw_e h8 h9 u a 22, lw_c D T h8 h9 u a 22) := rfl
theorem lw_w23 {D : va_G} {T : Nat → ClassId} {h8 h9 : Nat} {u : Nat → Nat → Nat} {a : Nat → Nat} : (csW_X8 T h8 u ++ csW_X9 T h9 a)[47]? = some (lw_e h8 h9 u a 23, lw_c D T h8 h9 u a 23) := rfl
theorem lw_w24 {D : va_G} {T : Nat → ClassId} {h8 h9 : Nat} {u : Nat → Nat → Nat} {a : Nat → Nat} : (csW_X8 T h8 u ++ csW_X9 T h9 a)[48]? = some (lw_e h8 h9 u a 24, lw_c D T h8 h9 u a 24) := rfl
theorem lw_w25 {D : va_G} {T : Nat → ClassId} {h8 h9 : Nat} {u : Nat → Nat → Nat} {a : Nat → Nat} : (csW_X8 T h8 u ++ csW_X9 T h9 a)[49]? = some (lw_e h8 h9 u a 25, lw_c D T h8 h9 u a 25) := rfl
theorem lw_w26 {D : va_G} {T : Nat → ClassId} {h8 h9 : Nat} {u : Nat → Nat → Nat} {a : Nat → Nat} : (csW_X8 T h8 u ++ csW_X9 T h9 a)[50]? = some (lw_e h8 h9 u a 26, lw_c D T h8 h9 u a 26) := rfl
theorem lw_w27 {D : va_G} {T : Nat → ClassId} {h8 h9 : Nat} {u : Nat → Nat → Nat} {a : Nat → Nat} : (csW_X8 T h8 u ++ csW_X9 T h9 a)[51]? = some (lw_e h8 h9 u a 27, lw_c D T h8 h9 u a 27) := rfl
theorem lw_w28 {D : va_G} {T : Nat → ClassId} {h8 h9 : Nat} {u : Nat → Nat → Nat} {a : Nat → Nat} : (csW_X8 T h8 u ++ csW_X9 T h9 a)[52]? = some (lw_e h8 h9 u a 28, lw_c D T h8 h9 u a 28) := rfl
set_option maxHeartbeats 4000000 in
theorem lw_c29 {D : va_G} {T : Nat → ClassId} {h8 h9 : Nat} {u : Nat → Nat → Nat} {a : Nat → Nat} : lw_c D T h8 h9 u a 29 = .inr (9, [.ref (a 0), .ref (a 1), .ref (a 2), .int 0, .int 1000, .ref (a 3), .int 0, .int 0, .ref (a 4), .ref (a 5), .ref (a 6), .ref (a 7), .ref (a 8), .int 0, .ref (a 9), .long 0, .ref (a 10), .int 0, .ref (a 11), .long 0, .ref (a 12), .ref (a 13), .int 0]) := by
  show (Sum.inr (9, mn_fs (lw_e h8 h9 u a, D, T) cs_S 29 [(2, 30), (2, 31), (2, 32), (0, 0), (0, 0), (2, 33), (0, 0), (3, 0), (2, 34), (2, 35), (2, 36), (2, 37), (2, 38), (0, 0), (2, 39), (1, 0), (2, 40), (0, 0), (2, 41), (1, 0), (2, 42), (2, 43), (0, 0)]) : va_E) = _
  unfold mn_fs
  simp only [List.mapIdx_cons, List.mapIdx_nil]
  rfl
theorem lw_w29 {D : va_G} {T : Nat → ClassId} {h8 h9 : Nat} {u : Nat → Nat → Nat} {a : Nat → Nat} : (csW_X8 T h8 u ++ csW_X9 T h9 a)[53]? = some (lw_e h8 h9 u a 29, lw_c D T h8 h9 u a 29) := by
  rw [lw_c29]
  rfl
theorem lw_w30 {D : va_G} {T : Nat → ClassId} {h8 h9 : Nat} {u : Nat → Nat → Nat} {a : Nat → Nat} : (csW_X8 T h8 u ++ csW_X9 T h9 a)[54]? = some (lw_e h8 h9 u a 30, lw_c D T h8 h9 u a 30) := rfl
theorem lw_w31 {D : va_G} {T : Nat → ClassId} {h8 h9 : Nat} {u : Nat → Nat → Nat} {a : Nat → Nat} : (csW_X8 T h8 u ++ csW_X9 T h9 a)[55]? = some (lw_e h8 h9 u a 31, lw_c D T h8 h9 u a 31) := rfl
theorem lw_w32 {D : va_G} {T : Nat → ClassId} {h8 h9 : Nat} {u : Nat → Nat → Nat} {a : Nat → Nat} : (csW_X8 T h8 u ++ csW_X9 T h9 a)[56]? = some (lw_e h8 h9 u a 32, lw_c D T h8 h9 u a 32) := rfl
theorem lw_w33 {D : va_G} {T : Nat → ClassId} {h8 h9 : Nat} {u : Nat → Nat → Nat} {a : Nat → Nat} : (csW_X8 T h8 u ++ csW_X9 T h9 a)[57]? = some (lw_e h8 h9 u a 33, lw_c D T h8 h9 u a 33) := rfl
theorem lw_w34 {D : va_G} {T : Nat → ClassId} {h8 h9 : Nat} {u : Nat → Nat → Nat} {a : Nat → Nat} : (csW_X8 T h8 u ++ csW_X9 T h9 a)[58]? = some (lw_e h8 h9 u a 34, lw_c D T h8 h9 u a 34) := rfl
theorem lw_w35 {D : va_G} {T : Nat → ClassId} {h8 h9 : Nat} {u : Nat → Nat → Nat} {a : Nat → Nat} : (csW_X8 T h8 u ++ csW_X9 T h9 a)[59]? = some (lw_e h8 h9 u a 35, lw_c D T h8 h9 u a 35) := rfl
theorem lw_w36 {D : va_G} {T : Nat → ClassId} {h8 h9 : Nat} {u : Nat → Nat → Nat} {a : Nat → Nat} : (csW_X8 T h8 u ++ csW_X9 T h9 a)[60]? = some (lw_e h8 h9 u a 36, lw_c D T h8 h9 u a 36) := rfl
theorem lw_w37 {D : va_G} {T : Nat → ClassId} {h8 h9 : Nat} {u : Nat → Nat → Nat} {a : Nat → Nat} : (csW_X8 T h8 u ++ csW_X9 T h9 a)[61]? = some (lw_e h8 h9 u a 37, lw_c D T h8 h9 u a 37) := rfl
theorem lw_w38 {D : va_G} {T : Nat → ClassId} {h8 h9 : Nat} {u : Nat → Nat → Nat} {a : Nat → Nat} : (csW_X8 T h8 u ++ csW_X9 T h9 a)[62]? = some (lw_e h8 h9 u a 38, lw_c D T h8 h9 u a 38) := rfl
theorem lw_w39 {D : va_G} {T : Nat → ClassId} {h8 h9 : Nat} {u : Nat → Nat → Nat} {a : Nat → Nat} : (csW_X8 T h8 u ++ csW_X9 T h9 a)[63]? = some (lw_e h8 h9 u a 39, lw_c D T h8 h9 u a 39) := rfl
theorem lw_w40 {D : va_G} {T : Nat → ClassId} {h8 h9 : Nat} {u : Nat → Nat → Nat} {a : Nat → Nat} : (csW_X8 T h8 u ++ csW_X9 T h9 a)[64]? = some (lw_e h8 h9 u a 40, lw_c D T h8 h9 u a 40) := rfl
theorem lw_w41 {D : va_G} {T : Nat → ClassId} {h8 h9 : Nat} {u : Nat → Nat → Nat} {a : Nat → Nat} : (csW_X8 T h8 u ++ csW_X9 T h9 a)[65]? = some (lw_e h8 h9 u a 41, lw_c D T h8 h9 u a 41) := rfl
theorem lw_w42 {D : va_G} {T : Nat → ClassId} {h8 h9 : Nat} {u : Nat → Nat → Nat} {a : Nat → Nat} : (csW_X8 T h8 u ++ csW_X9 T h9 a)[66]? = some (lw_e h8 h9 u a 42, lw_c D T h8 h9 u a 42) := rfl
theorem lw_w43 {D : va_G} {T : Nat → ClassId} {h8 h9 : Nat} {u : Nat → Nat → Nat} {a : Nat → Nat} : (csW_X8 T h8 u ++ csW_X9 T h9 a)[67]? = some (lw_e h8 h9 u a 43, lw_c D T h8 h9 u a 43) := rfl
theorem lw_w100 {D : va_G} {T : Nat → ClassId} {h8 h9 : Nat} {u : Nat → Nat → Nat} {a : Nat → Nat} : (csW_X8 T h8 u ++ csW_X9 T h9 a)[5]? = some (lw_e h8 h9 u a 100, lw_c D T h8 h9 u a 100) := rfl
theorem lw_w103 {D : va_G} {T : Nat → ClassId} {h8 h9 : Nat} {u : Nat → Nat → Nat} {a : Nat → Nat} : (csW_X8 T h8 u ++ csW_X9 T h9 a)[6]? = some (lw_e h8 h9 u a 103, lw_c D T h8 h9 u a 103) := rfl
theorem lw_w106 {D : va_G} {T : Nat → ClassId} {h8 h9 : Nat} {u : Nat → Nat → Nat} {a : Nat → Nat} : (csW_X8 T h8 u ++ csW_X9 T h9 a)[7]? = some (lw_e h8 h9 u a 106, lw_c D T h8 h9 u a 106) := rfl
theorem lw_w109 {D : va_G} {T : Nat → ClassId} {h8 h9 : Nat} {u : Nat → Nat → Nat} {a : Nat → Nat} : (csW_X8 T h8 u ++ csW_X9 T h9 a)[8]? = some (lw_e h8 h9 u a 109, lw_c D T h8 h9 u a 109) := rfl
theorem lw_w112 {D : va_G} {T : Nat → ClassId} {h8 h9 : Nat} {u : Nat → Nat → Nat} {a : Nat → Nat} : (csW_X8 T h8 u ++ csW_X9 T h9 a)[9]? = some (lw_e h8 h9 u a 112, lw_c D T h8 h9 u a 112) := rfl
theorem lw_w115 {D : va_G} {T : Nat → ClassId} {h8 h9 : Nat} {u : Nat → Nat → Nat} {a : Nat → Nat} : (csW_X8 T h8 u ++ csW_X9 T h9 a)[10]? = some (lw_e h8 h9 u a 115, lw_c D T h8 h9 u a 115) := rfl
theorem lw_w118 {D : va_G} {T : Nat → ClassId} {h8 h9 : Nat} {u : Nat → Nat → Nat} {a : Nat → Nat} : (csW_X8 T h8 u ++ csW_X9 T h9 a)[11]? = some (lw_e h8 h9 u a 118, lw_c D T h8 h9 u a 118) := rfl
theorem lw_w121 {D : va_G} {T : Nat → ClassId} {h8 h9 : Nat} {u : Nat → Nat → Nat} {a : Nat → Nat} : (csW_X8 T h8 u ++ csW_X9 T h9 a)[12]? = some (lw_e h8 h9 u a 121, lw_c D T h8 h9 u a 121) := rfl
theorem lw_w124 {D : va_G} {T : Nat → ClassId} {h8 h9 : Nat} {u : Nat → Nat → Nat} {a : Nat → Nat} : (csW_X8 T h8 u ++ csW_X9 T h9 a)[13]? = some (lw_e h8 h9 u a 124, lw_c D T h8 h9 u a 124) := rfl
theorem lw_w127 {D : va_G} {T : Nat → ClassId} {h8 h9 : Nat} {u : Nat → Nat → Nat} {a : Nat → Nat} : (csW_X8 T h8 u ++ csW_X9 T h9 a)[14]? = some (lw_e h8 h9 u a 127, lw_c D T h8 h9 u a 127) := rfl
theorem lw_w130 {D : va_G} {T : Nat → ClassId} {h8 h9 : Nat} {u : Nat → Nat → Nat} {a : Nat → Nat} : (csW_X8 T h8 u ++ csW_X9 T h9 a)[15]? = some (lw_e h8 h9 u a 130, lw_c D T h8 h9 u a 130) := rfl
theorem lw_w133 {D : va_G} {T : Nat → ClassId} {h8 h9 : Nat} {u : Nat → Nat → Nat} {a : Nat → Nat} : (csW_X8 T h8 u ++ csW_X9 T h9 a)[16]? = some (lw_e h8 h9 u a 133, lw_c D T h8 h9 u a 133) := rfl
theorem lw_w101 {D : va_G} {T : Nat → ClassId} {h8 h9 : Nat} {u : Nat → Nat → Nat} {a : Nat → Nat} : (csW_X8 T h8 u ++ csW_X9 T h9 a)[27]? = some (lw_e h8 h9 u a 101, lw_c D T h8 h9 u a 101) := rfl
theorem lw_w104 {D : va_G} {T : Nat → ClassId} {h8 h9 : Nat} {u : Nat → Nat → Nat} {a : Nat → Nat} : (csW_X8 T h8 u ++ csW_X9 T h9 a)[28]? = some (lw_e h8 h9 u a 104, lw_c D T h8 h9 u a 104) := rfl
theorem lw_w107 {D : va_G} {T : Nat → ClassId} {h8 h9 : Nat} {u : Nat → Nat → Nat} {a : Nat → Nat} : (csW_X8 T h8 u ++ csW_X9 T h9 a)[29]? = some (lw_e h8 h9 u a 107, lw_c D T h8 h9 u a 107) := rfl
theorem lw_w110 {D : va_G} {T : Nat → ClassId} {h8 h9 : Nat} {u : Nat → Nat → Nat} {a : Nat → Nat} : (csW_X8 T h8 u ++ csW_X9 T h9 a)[30]? = some (lw_e h8 h9 u a 110, lw_c D T h8 h9 u a 110) := rfl
theorem lw_w113 {D : va_G} {T : Nat → ClassId} {h8 h9 : Nat} {u : Nat → Nat → Nat} {a : Nat → Nat} : (csW_X8 T h8 u ++ csW_X9 T h9 a)[31]? = some (lw_e h8 h9 u a 113, lw_c D T h8 h9 u a 113) := rfl
theorem lw_w116 {D : va_G} {T : Nat → ClassId} {h8 h9 : Nat} {u : Nat → Nat → Nat} {a : Nat → Nat} : (csW_X8 T h8 u ++ csW_X9 T h9 a)[32]? = some (lw_e h8 h9 u a 116, lw_c D T h8 h9 u a 116) := rfl
theorem lw_w102 {D : va_G} {T : Nat → ClassId} {h8 h9 : Nat} {u : Nat → Nat → Nat} {a : Nat → Nat} : (csW_X8 T h8 u ++ csW_X9 T h9 a)[39]? = some (lw_e h8 h9 u a 102, lw_c D T h8 h9 u a 102) := rfl
theorem lw_w105 {D : va_G} {T : Nat → ClassId} {h8 h9 : Nat} {u : Nat → Nat → Nat} {a : Nat → Nat} : (csW_X8 T h8 u ++ csW_X9 T h9 a)[40]? = some (lw_e h8 h9 u a 105, lw_c D T h8 h9 u a 105) := rfl
theorem lw_w108 {D : va_G} {T : Nat → ClassId} {h8 h9 : Nat} {u : Nat → Nat → Nat} {a : Nat → Nat} : (csW_X8 T h8 u ++ csW_X9 T h9 a)[41]? = some (lw_e h8 h9 u a 108, lw_c D T h8 h9 u a 108) := rfl
theorem lw_w111 {D : va_G} {T : Nat → ClassId} {h8 h9 : Nat} {u : Nat → Nat → Nat} {a : Nat → Nat} : (csW_X8 T h8 u ++ csW_X9 T h9 a)[42]? = some (lw_e h8 h9 u a 111, lw_c D T h8 h9 u a 111) := rfl
theorem lw_w114 {D : va_G} {T : Nat → ClassId} {h8 h9 : Nat} {u : Nat → Nat → Nat} {a : Nat → Nat} : (csW_X8 T h8 u ++ csW_X9 T h9 a)[43]? = some (lw_e h8 h9 u a 114, lw_c D T h8 h9 u a 114) := rfl
theorem lw_w117 {D : va_G} {T : Nat → ClassId} {h8 h9 : Nat} {u : Nat → Nat → Nat} {a : Nat → Nat} : (csW_X8 T h8 u ++ csW_X9 T h9 a)[44]? = some (lw_e h8 h9 u a 117, lw_c D T h8 h9 u a 117) := rfl
theorem lw_ids : mn_ids = [0, 1, 2, 3, 4, 5, 6, 7, 8, 9, 10, 11, 12, 13, 14, 15, 16, 17, 18, 19, 20, 21, 22, 23, 24, 25, 26, 27, 28, 29, 30, 31, 32, 33, 34, 35, 36, 37, 38, 39, 40, 41, 42, 43, 100, 103, 106, 109, 112, 115, 118, 121, 124, 127, 130, 133, 101, 104, 107, 110, 113, 116, 102, 105, 108, 111, 114, 117] := by decide +kernel
set_option maxHeartbeats 4000000 in
set_option maxRecDepth 100000 in
theorem lw_wm {D : va_G} {T : Nat → ClassId} {h8 h9 : Nat} {u : Nat → Nat → Nat} {a : Nat → Nat} : lw_o.map (fun i => (csW_X8 T h8 u ++ csW_X9 T h9 a)[i]?) = (mn_ids.map (fun k => (lw_e h8 h9 u a k, lw_c D T h8 h9 u a k))).map some := by
  rw [lw_ids]
  simp only [lw_o, List.map_cons, List.map_nil, lw_w0 (D := D), lw_w1 (D := D), lw_w2 (D := D), lw_w3 (D := D), lw_w4 (D := D), lw_w5 (D := D), lw_w6 (D := D), lw_w7 (D := D), lw_w8 (D := D), lw_w9 (D := D), lw_w10 (D := D), lw_w11 (D := D), lw_w12 (D := D), lw_w13 (D := D), lw_w14 (D := D), lw_w15 (D := D), lw_w16 (D := D), lw_w17 (D := D), lw_w18 (D := D), lw_w19 (D := D), lw_w20 (D := D), lw_w21 (D := D), lw_w22 (D := D), lw_w23 (D := D), lw_w24 (D := D), lw_w25 (D := D), lw_w26 (D := D), lw_w27 (D := D), lw_w28 (D := D), lw_w29 (D := D), lw_w30 (D := D), lw_w31 (D := D), lw_w32 (D := D), lw_w33 (D := D), lw_w34 (D := D), lw_w35 (D := D), lw_w36 (D := D), lw_w37 (D := D), lw_w38 (D := D), lw_w39 (D := D), lw_w40 (D := D), lw_w41 (D := D), lw_w42 (D := D), lw_w43 (D := D), lw_w100 (D := D), lw_w103 (D := D), lw_w106 (D := D), lw_w109 (D := D), lw_w112 (D := D), lw_w115 (D := D), lw_w118 (D := D), lw_w121 (D := D), lw_w124 (D := D), lw_w127 (D := D), lw_w130 (D := D), lw_w133 (D := D), lw_w101 (D := D), lw_w104 (D := D), lw_w107 (D := D), lw_w110 (D := D), lw_w113 (D := D), lw_w116 (D := D), lw_w102 (D := D), lw_w105 (D := D), lw_w108 (D := D), lw_w111 (D := D), lw_w114 (D := D), lw_w117 (D := D)]
set_option maxRecDepth 100000 in
theorem lw_on : va_nd lw_o = true := by decide +kernel
theorem lw_sub {ws ws' : va_W} {is : List Nat} {D : va_G} {H : Heap} (h : va_P D vwCl ws H) (hm : is.map (fun i => ws[i]?) = ws'.map some) : va_P D vwCl ws' H := by
  intro k q hk
  have h1 : (is.map (fun i => ws[i]?))[k]? = some (some q) := by rw [hm, List.getElem?_map, hk]; rfl
  rw [List.getElem?_map] at h1
  cases hi : is[k]? with
  | none => rw [hi] at h1; cases h1
  | some i => rw [hi] at h1; exact h i q (Option.some.inj h1)
theorem lw_made {D : va_G} {T : Nat → ClassId} {h8 h9 : Nat} {u : Nat → Nat → Nat} {a : Nat → Nat} {H : Heap} {A : Nat → Prop} (hP : va_P D vwCl (csW_X8 T h8 u ++ csW_X9 T h9 a) H) (hD : va_D A (csW_X8 T h8 u ++ csW_X9 T h9 a)) : va_P D vwCl (mn_wl (lw_e h8 h9 u a, D, T) cs_S) H ∧ va_D A (mn_wl (lw_e h8 h9 u a, D, T) cs_S) := by
  rw [lw_wl]
  exact ⟨lw_sub hP lw_wm, hD.sub lw_o lw_on lw_wm⟩
theorem lw_inj {E : mn_E} {S : mn_S} {A : Nat → Prop} (h : va_D A (mn_wl E S)) : (∀ i j, mn_live i → mn_live j → E.1 i = E.1 j → i = j) ∧ ∀ q, mn_A E q → A q := by
  refine ⟨fun i j hi hj hij => ?_, fun q hq => ?_⟩
  · obtain ⟨x, hx⟩ := mn_at hi
    obtain ⟨y, hy⟩ := mn_at hj
    have := h.1 x y _ _ (mn_get (S := S) hx) (mn_get (S := S) hy) hij
    subst this
    exact Option.some.inj (hx.symm.trans hy)
  · obtain ⟨k, hk, rfl⟩ := hq
    obtain ⟨x, hx⟩ := mn_at hk
    exact h.2 x _ (mn_get (S := S) hx)
