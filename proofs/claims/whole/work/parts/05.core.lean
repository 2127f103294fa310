/-! ===== an abstract machine over the fixed graph of objects: every cell has a number; what ints and longs it holds are two functions ===== -/
abbrev mn_S : Type := (Nat → Nat → Int32) × (Nat → Nat → Int64)
abbrev mn_L : Type := List (Option Value)
abbrev mn_K : Type := Option Value → mn_S → Prop
abbrev mn_Sp : Type := List Value → mn_S → mn_K → Prop
abbrev mn_C : Type := Nat → mn_L → List Value → mn_S → Prop
/-- the fields of a class: kind (0 int, 3 boolean, 1 long, 2 a reference) and, of a reference, the cell -/
abbrev mn_Sh : Type := (Nat × Nat) ⊕ (Nat × List (Nat × Nat))
def mn_tab : List mn_Sh := [
  .inr (8, [(2, 1), (2, 5), (2, 8), (2, 10), (2, 12), (2, 18), (2, 25)]),
  .inr (2, [(2, 2), (2, 3), (2, 4), (0, 0), (0, 0)]),
  .inl (0, 12), .inl (1, 12), .inl (3, 12),
  .inr (4, [(2, 6), (2, 7)]),
  .inl (0, 12), .inl (0, 12),
  .inr (1, [(2, 9), (0, 0)]),
  .inl (0, 12),
  .inr (0, [(2, 11), (0, 0), (3, 0)]),
  .inl (0, 12),
  .inr (5, [(2, 13), (2, 17), (1, 0)]),
  .inr (6, [(2, 14), (2, 15), (2, 16), (0, 0)]),
  .inl (4, 6), .inl (2, 6), .inl (2, 64),
  .inl (2, 6),
  .inr (3, [(2, 19), (2, 23), (2, 24), (1, 0)]),
  .inr (6, [(2, 20), (2, 21), (2, 22), (0, 0)]),
  .inl (4, 6), .inl (2, 6), .inl (2, 64),
  .inl (0, 12), .inl (2, 12),
  .inr (7, [(2, 26), (2, 27), (2, 28), (0, 0), (0, 0), (0, 0)]),
  .inl (2, 500), .inl (0, 500), .inl (0, 1024),
  .inr (9, [(2, 30), (2, 31), (2, 32), (0, 0), (0, 0), (2, 33), (0, 0), (3, 0), (2, 34), (2, 35), (2, 36), (2, 37), (2, 38), (0, 0), (2, 39), (1, 0), (2, 40), (0, 0), (2, 41), (1, 0), (2, 42), (2, 43), (0, 0)]),
  .inl (0, 12), .inl (1, 12), .inl (0, 144), .inl (0, 12), .inl (0, 12), .inl (0, 12), .inl (0, 12), .inl (1, 12),
  .inl (2, 36), .inl (2, 6), .inl (0, 12), .inl (2, 12), .inl (0, 2000), .inl (0, 500)]
def mn_sh (k : Nat) : mn_Sh := if k < 100 then mn_tab.getD k (.inl (9, 0)) else if (k - 100) % 3 = 0 then .inl (0, 12) else .inl (2, 6)
/-- the rows of an array of arrays -/
def mn_rf (k i : Nat) : Nat := if k = 4 then 100 + 3 * i else if k = 14 then 101 + 3 * i else 102 + 3 * i
def mn_live (k : Nat) : Prop := if k < 100 then k < 44 else if (k - 100) % 3 = 0 then (k - 100) / 3 < 12 else (k - 100) / 3 < 6
def mn_ids : List Nat := List.range 44 ++ ((List.range 12).map (fun i => 100 + 3 * i) ++ ((List.range 6).map (fun i => 101 + 3 * i) ++ (List.range 6).map (fun i => 102 + 3 * i)))
def mn_u {α : Type} (f : Nat → Nat → α) (a i : Nat) (x : α) : Nat → Nat → α := fun b j => if b = a ∧ j = i then x else f b j
def mn_wI (S : mn_S) (a i : Nat) (x : Int32) : mn_S := (mn_u S.1 a i x, S.2)
def mn_wL (S : mn_S) (a i : Nat) (x : Int64) : mn_S := (S.1, mn_u S.2 a i x)
/-- what a field holds, cells by their numbers -/
def mn_fv (S : mn_S) (k j : Nat) (q : Nat × Nat) : Value := match q.1 with
  | 0 => .int (S.1 k j)
  | 3 => .int (S.1 k j)
  | 1 => .long (S.2 k j)
  | _ => .ref q.2
def mn_lk {α : Type} : List (Nat × α) → Nat → Option α
  | [], _ => none
  | (i, x) :: r, j => if j = i then some x else mn_lk r j
/-- a method: code; its fields' entries; its constants' entries; its calls' entries (static or not, how many arguments, what is asked and given); what it answers -/
abbrev mn_B : Type := ByteArray × List (Nat × Nat × Nat) × List (Nat × Value) × List (Nat × Bool × Nat × mn_Sp) × Option FieldType
/-- decoded, with the targets of its branches -/
def mn_tg (pc : Nat) : Instr → Option (List Nat)
  | .goto o => if 0 ≤ (pc : Int) + o then some [((pc : Int) + o).toNat] else none
  | .ifCond _ o => if 0 ≤ (pc : Int) + o then some [((pc : Int) + o).toNat] else none
  | .if_icmp _ o => if 0 ≤ (pc : Int) + o then some [((pc : Int) + o).toNat] else none
  | .tableswitch d lo hi os => if 0 ≤ (pc : Int) + d ∧ (os.all fun o => decide (0 ≤ (pc : Int) + o)) = true ∧ hi = lo + os.size - 1 then some (((pc : Int) + d).toNat :: os.toList.map fun o => ((pc : Int) + o).toNat) else none
  | _ => some []
def mn_ln : Instr → Nat → Bool
  | .tableswitch .., _ => true
  | .aload _, n => n == 2
  | .iload _, n => n == 2
  | .lload _, n => n == 2
  | .istore _, n => n == 2
  | .lstore _, n => n == 2
  | .bipush _, n => n == 2
  | .sipush _, n => n == 3
  | .iinc .., n => n == 3
  | .ldc_w _, n => n == 3
  | .ldc2_w _, n => n == 3
  | .goto _, n => n == 3
  | .ifCond .., n => n == 3
  | .if_icmp .., n => n == 3
  | .getfield _, n => n == 3
  | .putfield _, n => n == 3
  | .invokevirtual _, n => n == 3
  | .invokestatic _, n => n == 3
  | _, n => n == 1
/-- loads and stores by number; small constants -/
def mn_nz : Instr → Instr
  | .iload_n i => .iload i.val
  | .lload_n i => .lload i.val
  | .aload_n i => .aload i.val
  | .istore_n i => .istore i.val
  | .lstore_n i => .lstore i.val
  | .bipush n => if -128 ≤ n ∧ n ≤ 127 then .iconst n else .nop
  | .sipush n => if -32768 ≤ n ∧ n ≤ 32767 then .iconst n else .nop
  | i => i
def mn_dec (cc : ByteArray) (pc : Nat) : Option (Nat × List Nat × Instr) := match decode cc pc with
  | .ok (i, n) => if mn_ln i n = true then (mn_tg pc i).map (fun t => (pc + n, t, mn_nz i)) else none
  | .error _ => none
-- what stands on the stack
def mn_pI (st : List Value) (f : Int32 → List Value → Prop) : Prop := match st with
  | .int x :: r => f x r
  | _ => False
def mn_pL (st : List Value) (f : Int64 → List Value → Prop) : Prop := match st with
  | .long x :: r => f x r
  | _ => False
def mn_pR (st : List Value) (f : Nat → List Value → Prop) : Prop := match st with
  | .ref x :: r => f x r
  | _ => False
def mn_pV (st : List Value) (f : Value → List Value → Prop) : Prop := match st with
  | x :: r => f x r
  | _ => False
def mn_pE (st : List Value) (P : Prop) : Prop := match st with
  | [] => P
  | _ => False
-- locals
def mn_gI (lv : mn_L) (i : Nat) (f : Int32 → Prop) : Prop := match lv[i]? with
  | some (some (.int x)) => f x
  | _ => False
def mn_gL (lv : mn_L) (i : Nat) (f : Int64 → Prop) : Prop := match lv[i]? with
  | some (some (.long x)) => f x
  | _ => False
def mn_gR (lv : mn_L) (i : Nat) (f : Nat → Prop) : Prop := match lv[i]? with
  | some (some (.ref x)) => f x
  | _ => False
/-- a long that ends at place i is gone when i is written -/
def mn_cl (lv : mn_L) (i : Nat) : mn_L := match i with
  | 0 => lv
  | j + 1 => match lv[j]? with
    | some (some v) => if v.category = 2 then lv.set j none else lv
    | _ => lv
def mn_pt (lv : mn_L) (i : Nat) (v : Value) : mn_L := (mn_cl lv i).set i (some v)
def mn_pt2 (lv : mn_L) (i : Nat) (v : Value) : mn_L := ((mn_cl lv i).set i (some v)).set (i + 1) none
-- arrays and fields
def mn_aI (s : mn_Sh) (t : Nat) (f : Nat → Prop) : Prop := match s with
  | .inl (u, n) => u = t ∧ f n
  | .inr _ => False
def mn_aN (s : mn_Sh) (f : Nat → Prop) : Prop := match s with
  | .inl (u, n) => u < 5 ∧ f n
  | .inr _ => False
def mn_fi (s : mn_Sh) (ci j : Nat) (f : Nat × Nat → Prop) : Prop := match s with
  | .inl _ => False
  | .inr (c, fs) => c = ci ∧ (match fs[j]? with
    | some q => f q
    | none => False)
def mn_op {α : Type} (o : Option α) (f : α → Prop) : Prop := match o with
  | some x => f x
  | none => False
def mn_br (ts : List Nat) (f : Nat → Prop) : Prop := match ts with
  | [t] => f t
  | _ => False
/-- the chain of a switch -/
def mn_sw (x : Int32) (d : Nat) (lo : Int) (ts : List Nat) (f : Nat → Prop) : Prop := match ts with
  | [] => f d
  | t :: r => (x = Int32.ofInt lo → f t) ∧ (¬ x = Int32.ofInt lo → mn_sw x d (lo + 1) r f)
def mn_sw0 (x : Int32) (lo hi : Int) (ts : List Nat) (f : Nat → Prop) : Prop := match ts with
  | [] => False
  | d :: r => (-2147483648 ≤ lo ∧ lo + r.length ≤ 2147483648) ∧ mn_sw x d lo r f
def mn_wt (st : List Value) : Nat := (st.map fun v => v.category).sum
def mn_ps (lv : mn_L) (i : Nat) (v : Value) (f : mn_L → Prop) : Prop := i < lv.length ∧ f (mn_pt lv i v)
def mn_ps2 (lv : mn_L) (i : Nat) (v : Value) (f : mn_L → Prop) : Prop := i + 1 < lv.length ∧ f (mn_pt2 lv i v)
/-- a field is read -/
def mn_gf (a ci j : Nat) (S : mn_S) (f : Value → Prop) : Prop := mn_live a ∧ mn_fi (mn_sh a) ci j fun w => f (mn_fv S a j w)
/-- a field is written -/
def mn_pf (a ci j : Nat) (v : Value) (S : mn_S) (f : mn_S → Prop) : Prop := mn_live a ∧ mn_fi (mn_sh a) ci j fun q => (match q.1 with
  | 0 => (match v with
    | .int x => f (mn_wI S a j x)
    | _ => False)
  | 3 => (match v with
    | .int x => x &&& 1 = x ∧ f (mn_wI S a j x)
    | _ => False)
  | 1 => (match v with
    | .long x => f (mn_wL S a j x)
    | _ => False)
  | _ => False)
/-- a place of an array of kind t -/
def mn_ia (a t : Nat) (i : Int32) (P : Prop) : Prop := mn_live a ∧ mn_aI (mn_sh a) t fun n => vp_in i n ∧ P
def mn_aa (a : Nat) (i : Int32) (f : Nat → Prop) : Prop := mn_live a ∧ (mn_aI (mn_sh a) 3 (fun n => vp_in i n ∧ f (mn_rf a i.toNatClampNeg)) ∨ mn_aI (mn_sh a) 4 (fun n => vp_in i n ∧ f (mn_rf a i.toNatClampNeg)))
def mn_al (a : Nat) (f : Int32 → Prop) : Prop := mn_live a ∧ mn_aN (mn_sh a) fun n => f (Int32.ofNat n)
/-- a call's answer goes on the stack -/
def mn_rt (v : Option Value) (r : List Value) (f : List Value → Prop) : Prop := f (v.toList ++ r)
/-- a call of n arguments -/
def mn_cn (n : Nat) (sp : mn_Sp) (st : List Value) (S : mn_S) (f : Option Value → List Value → mn_S → Prop) : Prop := mn_wt (st.drop n) ≤ 8 ∧ sp ((st.take n).reverse) S (fun r S' => f r (st.drop n) S')
def mn_call (b : mn_B) (virt : Bool) (idx : Nat) (f : Nat → mn_Sp → Prop) : Prop := mn_op (mn_lk b.2.2.2.1 idx) fun q => if q.1 = virt then f q.2.1 q.2.2 else False
def mn_if (c : Prop) (A B : Prop) : Prop := (c → A) ∧ (¬ c → B)
def mn_dp (st : List Value) (f : Value → List Value → Prop) : Prop := mn_pV st fun v r => v.category = 1 ∧ f v r
def mn_d2 (st : List Value) (f : List Value → Prop) : Prop := mn_pV st fun v r => (v.category = 2 → f (v :: v :: r)) ∧ (¬ v.category = 2 → mn_pV r fun w r => w.category = 1 ∧ f (v :: w :: v :: w :: r))
def mn_lc (n : Fin 2) : Int64 := Int64.ofNat n
def mn_ii (o : Option FieldType) (x : Int32) (P : Prop) : Prop := (o = some .int ∨ o = some .boolean ∧ x &&& 1 = x) ∧ P
/-- ONE STEP: what must hold for k to hold behind it (K: at a return) -/
def mn_one (b : mn_B) (K : mn_K) (k : mn_C) (lv : mn_L) (st : List Value) (S : mn_S) (nx : Nat) (ts : List Nat) : Instr → Prop
  | .iconst n => k nx lv (.int (Int32.ofInt n) :: st) S
  | .lconst n => k nx lv (.long (mn_lc n) :: st) S
  | .ldc_w i => mn_op (mn_lk b.2.2.1 i) fun v => (match v with
    | .int x => k nx lv (.int x :: st) S
    | _ => False)
  | .ldc2_w i => mn_op (mn_lk b.2.2.1 i) fun v => (match v with
    | .long x => k nx lv (.long x :: st) S
    | _ => False)
  | .iload i => mn_gI lv i fun x => k nx lv (.int x :: st) S
  | .lload i => mn_gL lv i fun x => k nx lv (.long x :: st) S
  | .aload i => mn_gR lv i fun x => k nx lv (.ref x :: st) S
  | .istore i => mn_pI st fun x r => mn_ps lv i (.int x) fun lv => k nx lv r S
  | .lstore i => mn_pL st fun x r => mn_ps2 lv i (.long x) fun lv => k nx lv r S
  | .iinc i n => mn_gI lv i fun x => mn_ps lv i (.int (x + Int32.ofInt n)) fun lv => k nx lv st S
  | .iadd => mn_pI st fun y r => mn_pI r fun x r => k nx lv (.int (x + y) :: r) S
  | .isub => mn_pI st fun y r => mn_pI r fun x r => k nx lv (.int (x - y) :: r) S
  | .imul => mn_pI st fun y r => mn_pI r fun x r => k nx lv (.int (x * y) :: r) S
  | .iand => mn_pI st fun y r => mn_pI r fun x r => k nx lv (.int (x &&& y) :: r) S
  | .ior => mn_pI st fun y r => mn_pI r fun x r => k nx lv (.int (x ||| y) :: r) S
  | .ixor => mn_pI st fun y r => mn_pI r fun x r => k nx lv (.int (x ^^^ y) :: r) S
  | .idiv => mn_pI st fun y r => mn_pI r fun x r => ¬ y = 0 ∧ k nx lv (.int (x / y) :: r) S
  | .irem => mn_pI st fun y r => mn_pI r fun x r => ¬ y = 0 ∧ k nx lv (.int (x - x / y * y) :: r) S
  | .ishl => mn_pI st fun y r => mn_pI r fun x r => k nx lv (.int (x <<< (y &&& 31)) :: r) S
  | .ishr => mn_pI st fun y r => mn_pI r fun x r => k nx lv (.int (x >>> (y &&& 31)) :: r) S
  | .iushr => mn_pI st fun y r => mn_pI r fun x r => k nx lv (.int (x.toUInt32 >>> (y.toUInt32 &&& Int32.toUInt32 31)).toInt32 :: r) S
  | .ineg => mn_pI st fun x r => k nx lv (.int (-x) :: r) S
  | .ladd => mn_pL st fun y r => mn_pL r fun x r => k nx lv (.long (x + y) :: r) S
  | .lsub => mn_pL st fun y r => mn_pL r fun x r => k nx lv (.long (x - y) :: r) S
  | .lmul => mn_pL st fun y r => mn_pL r fun x r => k nx lv (.long (x * y) :: r) S
  | .land => mn_pL st fun y r => mn_pL r fun x r => k nx lv (.long (x &&& y) :: r) S
  | .lor => mn_pL st fun y r => mn_pL r fun x r => k nx lv (.long (x ||| y) :: r) S
  | .lxor => mn_pL st fun y r => mn_pL r fun x r => k nx lv (.long (x ^^^ y) :: r) S
  | .ldiv => mn_pL st fun y r => mn_pL r fun x r => ¬ y = 0 ∧ k nx lv (.long (x / y) :: r) S
  | .lrem => mn_pL st fun y r => mn_pL r fun x r => ¬ y = 0 ∧ k nx lv (.long (x - x / y * y) :: r) S
  | .lshl => mn_pI st fun y r => mn_pL r fun x r => k nx lv (.long (x <<< (y.toInt64 &&& 63)) :: r) S
  | .lshr => mn_pI st fun y r => mn_pL r fun x r => k nx lv (.long (x >>> (y.toInt64 &&& 63)) :: r) S
  | .lushr => mn_pI st fun y r => mn_pL r fun x r => k nx lv (.long (x.toUInt64 >>> (y.toInt64.toUInt64 &&& Int64.toUInt64 63)).toInt64 :: r) S
  | .lneg => mn_pL st fun x r => k nx lv (.long (-x) :: r) S
  | .i2l => mn_pI st fun x r => k nx lv (.long x.toInt64 :: r) S
  | .l2i => mn_pL st fun x r => k nx lv (.int x.toInt32 :: r) S
  | .lcmp => mn_pL st fun y r => mn_pL r fun x r => k nx lv (.int (lg_cmp x y) :: r) S
  | .dup => mn_dp st fun v r => k nx lv (v :: v :: r) S
  | .pop => mn_dp st fun _ r => k nx lv r S
  | .dup2 => mn_d2 st fun st => k nx lv st S
  | .goto _ => mn_br ts fun t => k t lv st S
  | .ifCond .eq _ => mn_br ts fun t => mn_pI st fun x r => mn_if (x = 0) (k t lv r S) (k nx lv r S)
  | .ifCond .ne _ => mn_br ts fun t => mn_pI st fun x r => mn_if (x = 0) (k nx lv r S) (k t lv r S)
  | .ifCond .lt _ => mn_br ts fun t => mn_pI st fun x r => mn_if (x < 0) (k t lv r S) (k nx lv r S)
  | .ifCond .ge _ => mn_br ts fun t => mn_pI st fun x r => mn_if (0 ≤ x) (k t lv r S) (k nx lv r S)
  | .ifCond .gt _ => mn_br ts fun t => mn_pI st fun x r => mn_if (0 < x) (k t lv r S) (k nx lv r S)
  | .ifCond .le _ => mn_br ts fun t => mn_pI st fun x r => mn_if (x ≤ 0) (k t lv r S) (k nx lv r S)
  | .if_icmp .eq _ => mn_br ts fun t => mn_pI st fun y r => mn_pI r fun x r => mn_if (x = y) (k t lv r S) (k nx lv r S)
  | .if_icmp .ne _ => mn_br ts fun t => mn_pI st fun y r => mn_pI r fun x r => mn_if (x = y) (k nx lv r S) (k t lv r S)
  | .if_icmp .lt _ => mn_br ts fun t => mn_pI st fun y r => mn_pI r fun x r => mn_if (x < y) (k t lv r S) (k nx lv r S)
  | .if_icmp .ge _ => mn_br ts fun t => mn_pI st fun y r => mn_pI r fun x r => mn_if (y ≤ x) (k t lv r S) (k nx lv r S)
  | .if_icmp .gt _ => mn_br ts fun t => mn_pI st fun y r => mn_pI r fun x r => mn_if (y < x) (k t lv r S) (k nx lv r S)
  | .if_icmp .le _ => mn_br ts fun t => mn_pI st fun y r => mn_pI r fun x r => mn_if (x ≤ y) (k t lv r S) (k nx lv r S)
  | .tableswitch _ lo hi _ => mn_pI st fun x r => mn_sw0 x lo hi ts fun t => k t lv r S
  | .arraylength => mn_pR st fun a r => mn_al a fun n => k nx lv (.int n :: r) S
  | .iaload => mn_pI st fun i r => mn_pR r fun a r => mn_ia a 0 i (k nx lv (.int (S.1 a i.toNatClampNeg) :: r) S)
  | .baload => mn_pI st fun i r => mn_pR r fun a r => mn_ia a 1 i (k nx lv (.int (S.1 a i.toNatClampNeg) :: r) S)
  | .laload => mn_pI st fun i r => mn_pR r fun a r => mn_ia a 2 i (k nx lv (.long (S.2 a i.toNatClampNeg) :: r) S)
  | .aaload => mn_pI st fun i r => mn_pR r fun a r => mn_aa a i fun c => k nx lv (.ref c :: r) S
  | .iastore => mn_pI st fun x r => mn_pI r fun i r => mn_pR r fun a r => mn_ia a 0 i (k nx lv r (mn_wI S a i.toNatClampNeg x))
  | .bastore => mn_pI st fun x r => mn_pI r fun i r => mn_pR r fun a r => mn_ia a 1 i (k nx lv r (mn_wI S a i.toNatClampNeg (x &&& 1)))
  | .lastore => mn_pL st fun x r => mn_pI r fun i r => mn_pR r fun a r => mn_ia a 2 i (k nx lv r (mn_wL S a i.toNatClampNeg x))
  | .getfield i => mn_pR st fun a r => mn_op (mn_lk b.2.1 i) fun q => mn_gf a q.1 q.2 S fun v => k nx lv (v :: r) S
  | .putfield i => mn_pV st fun v r => mn_pR r fun a r => mn_op (mn_lk b.2.1 i) fun q => mn_pf a q.1 q.2 v S fun S => k nx lv r S
  | .invokevirtual i => mn_call b true i fun n sp => mn_cn n sp st S fun v r S => mn_rt v r fun st => k nx lv st S
  | .invokestatic i => mn_call b false i fun n sp => mn_cn n sp st S fun v r S => mn_rt v r fun st => k nx lv st S
  | .ireturn => mn_pI st fun x r => mn_pE r (mn_ii b.2.2.2.2 x (K (some (.int x)) S))
  | .lreturn => mn_pL st fun x r => mn_pE r (b.2.2.2.2 = some .long ∧ K (some (.long x)) S)
  | .return_ => mn_pE st (b.2.2.2.2 = none ∧ K none S)
  | _ => False
/-- lv' says all that lv says -/
def mn_sub (lv lv' : mn_L) : Prop := match lv, lv' with
  | [], [] => True
  | none :: r, _ :: r' => mn_sub r r'
  | some v :: r, o :: r' => o = some v ∧ mn_sub r r'
  | _, _ => False
theorem mn_sub_ok : ∀ {lv lv' : mn_L}, mn_sub lv lv' → lv.length = lv'.length ∧ ∀ (j : Nat) (v : Value), lv[j]? = some (some v) → lv'[j]? = some (some v)
  | [], [], _ => ⟨rfl, fun j v h => h⟩
  | none :: r, o :: r', h => by
    obtain ⟨h1, h2⟩ := mn_sub_ok (lv := r) (lv' := r') h
    refine ⟨congrArg (· + 1) h1, fun j v hj => ?_⟩
    cases j with
    | zero => cases hj
    | succ j => exact h2 j v hj
  | some w :: r, o :: r', h => by
    obtain ⟨h1, h2⟩ := mn_sub_ok (lv := r) (lv' := r') h.2
    refine ⟨congrArg (· + 1) h1, fun j v hj => ?_⟩
    cases j with
    | zero =>
      cases hj
      exact congrArg some h.1
    | succ j => exact h2 j v hj
  | [], _ :: _, h => h.elim
  | none :: _, [], h => h.elim
  | some _ :: _, [], h => h.elim
/-- J is closed under steps, backwards; and under more knowledge -/
def mn_Cl (b : mn_B) (K : mn_K) (J : mn_C) : Prop := (∀ (pc : Nat) (lv lv' : mn_L) (st : List Value) (S : mn_S), mn_sub lv lv' → J pc lv st S → J pc lv' st S) ∧ ∀ (k : mn_C) (pc : Nat) (lv : mn_L) (st : List Value) (S : mn_S), (∀ pc lv st S, k pc lv st S → J pc lv st S) → mn_op (mn_dec b.1 pc) (fun q => mn_one b K k lv st S q.1 q.2.1 q.2.2) → J pc lv st S
/-- steps up to the stops ss, where P must hold (not at the first step, where fr) -/
def mn_wp (b : mn_B) (K : mn_K) (ss : List Nat) (P : mn_C) : Nat → Bool → mn_C
  | 0 => fun _ _ _ _ _ => False
  | n + 1 => fun fr pc lv st S => if (!fr && ss.contains pc) = true then P pc lv st S else mn_op (mn_dec b.1 pc) (fun q => mn_one b K (mn_wp b K ss P n false) lv st S q.1 q.2.1 q.2.2)
theorem mn_lk_mem {α : Type} {x : α} {j : Nat} : ∀ {l : List (Nat × α)}, mn_lk l j = some x → (j, x) ∈ l
  | [], h => by cases h
  | (i, y) :: r, h => by
    unfold mn_lk at h
    by_cases e : j = i
    · rw [if_pos e] at h
      cases h
      rw [e]
      exact List.mem_cons_self
    · rw [if_neg e] at h
      exact List.mem_cons_of_mem _ (mn_lk_mem h)
theorem mn_wp_J {b : mn_B} {K : mn_K} {J : mn_C} (hJ : mn_Cl b K J) {ss : List Nat} {P : mn_C} (hs : ∀ pc, ss.contains pc = true → ∀ lv st S, P pc lv st S → J pc lv st S) : ∀ (n : Nat) (fr : Bool) pc lv st S, mn_wp b K ss P n fr pc lv st S → J pc lv st S
  | 0, _, _, _, _, _, h => h.elim
  | n + 1, fr, pc, lv, st, S, h => by
    unfold mn_wp at h
    split at h
    · rename_i hc
      rw [Bool.and_eq_true] at hc
      exact hs _ hc.2 lv st S h
    · exact hJ.2 _ pc lv st S (mn_wp_J hJ hs n false) h
theorem mn_wp_stop {b : mn_B} {K : mn_K} {ss : List Nat} {P : mn_C} {n pc : Nat} {lv : mn_L} {st : List Value} {S : mn_S} (h : ss.contains pc = true) : mn_wp b K ss P (n + 1) false pc lv st S = P pc lv st S := by
  show (if (!false && ss.contains pc) = true then _ else _) = _
  rw [if_pos (by rw [h]; rfl)]
theorem mn_wp_st {b : mn_B} {K : mn_K} {ss : List Nat} {P : mn_C} {n pc : Nat} {fr : Bool} {lv : mn_L} {st : List Value} {S : mn_S} {nx : Nat} {ts : List Nat} {i : Instr} {R : Prop} (h : mn_dec b.1 pc = some (nx, ts, i)) (hR : mn_one b K (mn_wp b K ss P n false) lv st S nx ts i = R) (hs : (!fr && ss.contains pc) = false) : mn_wp b K ss P (n + 1) fr pc lv st S = R := by
  show (if (!fr && ss.contains pc) = true then _ else _) = _
  rw [if_neg (by rw [hs]; exact Bool.false_ne_true), h]
  exact hR
