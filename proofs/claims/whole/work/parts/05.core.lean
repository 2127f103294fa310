/-! ===== an abstract machine over the fixed graph of objects: every cell has a number; what ints and longs it holds are two functions ===== -/
abbrev mn_S : Type := (Nat → Nat → Int32) × (Nat → Nat → Int64)
abbrev mn_L : Type := List (Option Value)
abbrev mn_K : Type := Option Value → mn_S → Prop
abbrev mn_Sp : Type := List Value → mn_S → mn_K → Prop
abbrev mn_C : Type := Nat → mn_L → List Value → mn_S → Prop
/-- the fields of a class: kind (0 int, 3 boolean, 1 long, 2 a reference) and, of a reference, the cell -/
abbrev mn_Sh : Type := (Nat × Nat) ⊕ (Nat × List (Nat × Nat))
def mn_tab : List mn_Sh := [
  .inr (8, [(2, 1), (2, 5), (2, 8), (2, 10), (2, 12), (2, 18), (2, 25)]),
  .inr (2, [(2, 2), (2, 3), (2, 4), (0, 0), (0, 0)]),
  .inl (0, 12), .inl (1, 12), .inl (3, 12),
  .inr (4, [(2, 6), (2, 7)]),
  .inl (0, 12), .inl (0, 12),
  .inr (1, [(2, 9), (0, 0)]),
  .inl (0, 12),
  .inr (0, [(2, 11), (0, 0), (3, 0)]),
  .inl (0, 12),
  .inr (5, [(2, 13), (2, 17), (1, 0)]),
  .inr (6, [(2, 14), (2, 15), (2, 16), (0, 0)]),
  .inl (4, 6), .inl (2, 6), .inl (2, 64),
  .inl (2, 6),
  .inr (3, [(2, 19), (2, 23), (2, 24), (1, 0)]),
  .inr (6, [(2, 20), (2, 21), (2, 22), (0, 0)]),
  .inl (4, 6), .inl (2, 6), .inl (2, 64),
  .inl (0, 12), .inl (2, 12),
  .inr (7, [(2, 26), (2, 27), (2, 28), (0, 0), (0, 0), (0, 0)]),
  .inl (2, 500), .inl (0, 500), .inl (0, 1024),
  .inr (9, [(2, 30), (2, 31), (2, 32), (0, 0), (0, 0), (2, 33), (0, 0), (3, 0), (2, 34), (2, 35), (2, 36), (2, 37), (2, 38), (0, 0), (2, 39), (1, 0), (2, 40), (0, 0), (2, 41), (1, 0), (2, 42), (2, 43), (0, 0)]),
  .inl (0, 12), .inl (1, 12), .inl (0, 144), .inl (0, 12), .inl (0, 12), .inl (0, 12), .inl (0, 12), .inl (1, 12),
  .inl (2, 36), .inl (2, 6), .inl (0, 12), .inl (2, 12), .inl (0, 2000), .inl (0, 500)]
def mn_sh (k : Nat) : mn_Sh := if k < 100 then mn_tab.getD k (.inl (9, 0)) else if (k - 100) % 3 = 0 then .inl (0, 12) else .inl (2, 6)
/-- the rows of an array of arrays -/
def mn_rf (k i : Nat) : Nat := if k = 4 then 100 + 3 * i else if k = 14 then 101 + 3 * i else 102 + 3 * i
def mn_live (k : Nat) : Prop := if k < 100 then k < 44 else if (k - 100) % 3 = 0 then (k - 100) / 3 < 12 else (k - 100) / 3 < 6
def mn_ids : List Nat := List.range 44 ++ ((List.range 12).map (fun i => 100 + 3 * i) ++ ((List.range 6).map (fun i => 101 + 3 * i) ++ (List.range 6).map (fun i => 102 + 3 * i)))
def mn_u {α : Type} (f : Nat → Nat → α) (a i : Nat) (x : α) : Nat → Nat → α := fun b j => if b = a ∧ j = i then x else f b j
def mn_wI (S : mn_S) (a i : Nat) (x : Int32) : mn_S := (mn_u S.1 a i x, S.2)
def mn_wL (S : mn_S) (a i : Nat) (x : Int64) : mn_S := (S.1, mn_u S.2 a i x)
/-- what a field holds, cells by their numbers -/
def mn_fv (S : mn_S) (k j : Nat) (q : Nat × Nat) : Value := match q.1 with
  | 0 => .int (S.1 k j)
  | 3 => .int (S.1 k j)
  | 1 => .long (S.2 k j)
  | _ => .ref q.2
def mn_lk {α : Type} : List (Nat × α) → Nat → Option α
  | [], _ => none
  | (i, x) :: r, j => if j = i then some x else mn_lk r j
/-- a method: code; its fields' entries; its constants' entries; its calls' entries (static or not, how many arguments, what is asked and given); what it answers -/
abbrev mn_B : Type := ByteArray × List (Nat × Nat × Nat) × List (Nat × Value) × List (Nat × Bool × Nat × mn_Sp) × Option FieldType
/-- decoded, with the targets of its branches -/
def mn_tg (pc : Nat) : Instr → Option (List Nat)
  | .goto o => if 0 ≤ (pc : Int) + o then some [((pc : Int) + o).toNat] else none
  | .ifCond _ o => if 0 ≤ (pc : Int) + o then some [((pc : Int) + o).toNat] else none
  | .if_icmp _ o => if 0 ≤ (pc : Int) + o then some [((pc : Int) + o).toNat] else none
  | .tableswitch d lo hi os => if 0 ≤ (pc : Int) + d ∧ (os.all fun o => decide (0 ≤ (pc : Int) + o)) = true ∧ hi = lo + os.size - 1 then some (((pc : Int) + d).toNat :: os.toList.map fun o => ((pc : Int) + o).toNat) else none
  | _ => some []
def mn_ln : Instr → Nat → Bool
  | .tableswitch .., _ => true
  | .aload _, n => n == 2
  | .iload _, n => n == 2
  | .lload _, n => n == 2
  | .istore _, n => n == 2
  | .lstore _, n => n == 2
  | .bipush _, n => n == 2
  | .sipush _, n => n == 3
  | .iinc .., n => n == 3
  | .ldc_w _, n => n == 3
  | .ldc2_w _, n => n == 3
  | .goto _, n => n == 3
  | .ifCond .., n => n == 3
  | .if_icmp .., n => n == 3
  | .getfield _, n => n == 3
  | .putfield _, n => n == 3
  | .invokevirtual _, n => n == 3
  | .invokestatic _, n => n == 3
  | _, n => n == 1
def mn_dec (cc : ByteArray) (pc : Nat) : Option (List Nat × Instr) := match decode cc pc with
  | .ok (i, n) => if mn_ln i n = true then (mn_tg pc i).map (fun t => (t, i)) else none
  | .error _ => none
-- what stands on the stack
def mn_pI (st : List Value) (f : Int32 → List Value → Prop) : Prop := match st with
  | .int x :: r => f x r
  | _ => False
def mn_pL (st : List Value) (f : Int64 → List Value → Prop) : Prop := match st with
  | .long x :: r => f x r
  | _ => False
def mn_pR (st : List Value) (f : Nat → List Value → Prop) : Prop := match st with
  | .ref x :: r => f x r
  | _ => False
def mn_pV (st : List Value) (f : Value → List Value → Prop) : Prop := match st with
  | x :: r => f x r
  | _ => False
def mn_pE (st : List Value) (P : Prop) : Prop := match st with
  | [] => P
  | _ => False
-- locals
def mn_gI (lv : mn_L) (i : Nat) (f : Int32 → Prop) : Prop := match lv[i]? with
  | some (some (.int x)) => f x
  | _ => False
def mn_gL (lv : mn_L) (i : Nat) (f : Int64 → Prop) : Prop := match lv[i]? with
  | some (some (.long x)) => f x
  | _ => False
def mn_gR (lv : mn_L) (i : Nat) (f : Nat → Prop) : Prop := match lv[i]? with
  | some (some (.ref x)) => f x
  | _ => False
/-- a long that ends at place i is gone when i is written -/
def mn_cl (lv : mn_L) (i : Nat) : mn_L := match i with
  | 0 => lv
  | j + 1 => match lv[j]? with
    | some (some v) => if v.category = 2 then lv.set j none else lv
    | _ => lv
def mn_pt (lv : mn_L) (i : Nat) (v : Value) : mn_L := (mn_cl lv i).set i (some v)
def mn_pt2 (lv : mn_L) (i : Nat) (v : Value) : mn_L := ((mn_cl lv i).set i (some v)).set (i + 1) none
-- arrays and fields
def mn_aI (s : mn_Sh) (t : Nat) (f : Nat → Prop) : Prop := match s with
  | .inl (u, n) => u = t ∧ f n
  | .inr _ => False
def mn_aN (s : mn_Sh) (f : Nat → Prop) : Prop := match s with
  | .inl (u, n) => u < 5 ∧ f n
  | .inr _ => False
def mn_fi (s : mn_Sh) (ci j : Nat) (f : Nat × Nat → Prop) : Prop := match s with
  | .inl _ => False
  | .inr (c, fs) => c = ci ∧ (match fs[j]? with
    | some q => f q
    | none => False)
def mn_op {α : Type} (o : Option α) (f : α → Prop) : Prop := match o with
  | some x => f x
  | none => False
def mn_br (ts : List Nat) (f : Nat → Prop) : Prop := match ts with
  | [t] => f t
  | _ => False
/-- the chain of a switch -/
def mn_sw (x : Int32) (d : Nat) (lo : Int) (ts : List Nat) (f : Nat → Prop) : Prop := match ts with
  | [] => f d
  | t :: r => (x = Int32.ofInt lo → f t) ∧ (¬ x = Int32.ofInt lo → mn_sw x d (lo + 1) r f)
def mn_sw0 (x : Int32) (lo hi : Int) (ts : List Nat) (f : Nat → Prop) : Prop := match ts with
  | [] => False
  | d :: r => (-2147483648 ≤ lo ∧ lo + r.length ≤ 2147483648) ∧ mn_sw x d lo r f
def mn_put (S : mn_S) (a j : Nat) (v : Value) (q : Nat × Nat) (f : mn_S → Prop) : Prop := match q.1 with
  | 0 => (match v with
    | .int x => f (mn_wI S a j x)
    | _ => False)
  | 3 => (match v with
    | .int x => x &&& 1 = x ∧ f (mn_wI S a j x)
    | _ => False)
  | 1 => (match v with
    | .long x => f (mn_wL S a j x)
    | _ => False)
  | _ => False
def mn_wt (st : List Value) : Nat := (st.map fun v => v.category).sum
def mn_call (b : mn_B) (virt : Bool) (idx : Nat) (st : List Value) (S : mn_S) (f : Option Value → List Value → mn_S → Prop) : Prop :=
  mn_op (mn_lk b.2.2.2.1 idx) fun q => q.1 = virt ∧ mn_wt (st.drop q.2.1) ≤ 8 ∧ q.2.2 ((st.take q.2.1).reverse) S (fun r S' => f r (st.drop q.2.1) S')
/-- ONE STEP: what must hold for k to hold behind it (K: at a return) -/
def mn_one (b : mn_B) (K : mn_K) (k : mn_C) (pc : Nat) (lv : mn_L) (st : List Value) (S : mn_S) (ts : List Nat) : Instr → Prop
  | .iconst n => k (pc + 1) lv (.int (Int32.ofInt n) :: st) S
  | .bipush n => k (pc + 2) lv (.int (Int8.ofInt n).toInt32 :: st) S
  | .sipush n => k (pc + 3) lv (.int (Int16.ofInt n).toInt32 :: st) S
  | .lconst n => k (pc + 1) lv (.long (Int64.ofNat n) :: st) S
  | .ldc_w i => mn_op (mn_lk b.2.2.1 i) fun v => (match v with
    | .int x => k (pc + 3) lv (.int x :: st) S
    | _ => False)
  | .ldc2_w i => mn_op (mn_lk b.2.2.1 i) fun v => (match v with
    | .long x => k (pc + 3) lv (.long x :: st) S
    | _ => False)
  | .iload i => mn_gI lv i fun x => k (pc + 2) lv (.int x :: st) S
  | .iload_n i => mn_gI lv i fun x => k (pc + 1) lv (.int x :: st) S
  | .lload i => mn_gL lv i fun x => k (pc + 2) lv (.long x :: st) S
  | .lload_n i => mn_gL lv i fun x => k (pc + 1) lv (.long x :: st) S
  | .aload i => mn_gR lv i fun x => k (pc + 2) lv (.ref x :: st) S
  | .aload_n i => mn_gR lv i fun x => k (pc + 1) lv (.ref x :: st) S
  | .istore i => mn_pI st fun x r => i < lv.length ∧ k (pc + 2) (mn_pt lv i (.int x)) r S
  | .istore_n i => mn_pI st fun x r => i.val < lv.length ∧ k (pc + 1) (mn_pt lv i (.int x)) r S
  | .lstore i => mn_pL st fun x r => i + 1 < lv.length ∧ k (pc + 2) (mn_pt2 lv i (.long x)) r S
  | .lstore_n i => mn_pL st fun x r => i.val + 1 < lv.length ∧ k (pc + 1) (mn_pt2 lv i (.long x)) r S
  | .iinc i n => mn_gI lv i fun x => k (pc + 3) (mn_pt lv i (.int (x + Int32.ofInt n))) st S
  | .iadd => mn_pI st fun y r => mn_pI r fun x r => k (pc + 1) lv (.int (x + y) :: r) S
  | .isub => mn_pI st fun y r => mn_pI r fun x r => k (pc + 1) lv (.int (x - y) :: r) S
  | .imul => mn_pI st fun y r => mn_pI r fun x r => k (pc + 1) lv (.int (x * y) :: r) S
  | .iand => mn_pI st fun y r => mn_pI r fun x r => k (pc + 1) lv (.int (x &&& y) :: r) S
  | .ior => mn_pI st fun y r => mn_pI r fun x r => k (pc + 1) lv (.int (x ||| y) :: r) S
  | .ixor => mn_pI st fun y r => mn_pI r fun x r => k (pc + 1) lv (.int (x ^^^ y) :: r) S
  | .idiv => mn_pI st fun y r => mn_pI r fun x r => ¬ y = 0 ∧ k (pc + 1) lv (.int (x / y) :: r) S
  | .irem => mn_pI st fun y r => mn_pI r fun x r => ¬ y = 0 ∧ k (pc + 1) lv (.int (x - x / y * y) :: r) S
  | .ishl => mn_pI st fun y r => mn_pI r fun x r => k (pc + 1) lv (.int (x <<< (y &&& 31)) :: r) S
  | .ishr => mn_pI st fun y r => mn_pI r fun x r => k (pc + 1) lv (.int (x >>> (y &&& 31)) :: r) S
  | .iushr => mn_pI st fun y r => mn_pI r fun x r => k (pc + 1) lv (.int (x.toUInt32 >>> (y.toUInt32 &&& Int32.toUInt32 31)).toInt32 :: r) S
  | .ineg => mn_pI st fun x r => k (pc + 1) lv (.int (-x) :: r) S
  | .ladd => mn_pL st fun y r => mn_pL r fun x r => k (pc + 1) lv (.long (x + y) :: r) S
  | .lsub => mn_pL st fun y r => mn_pL r fun x r => k (pc + 1) lv (.long (x - y) :: r) S
  | .lmul => mn_pL st fun y r => mn_pL r fun x r => k (pc + 1) lv (.long (x * y) :: r) S
  | .land => mn_pL st fun y r => mn_pL r fun x r => k (pc + 1) lv (.long (x &&& y) :: r) S
  | .lor => mn_pL st fun y r => mn_pL r fun x r => k (pc + 1) lv (.long (x ||| y) :: r) S
  | .lxor => mn_pL st fun y r => mn_pL r fun x r => k (pc + 1) lv (.long (x ^^^ y) :: r) S
  | .ldiv => mn_pL st fun y r => mn_pL r fun x r => ¬ y = 0 ∧ k (pc + 1) lv (.long (x / y) :: r) S
  | .lrem => mn_pL st fun y r => mn_pL r fun x r => ¬ y = 0 ∧ k (pc + 1) lv (.long (x - x / y * y) :: r) S
  | .lshl => mn_pI st fun y r => mn_pL r fun x r => k (pc + 1) lv (.long (x <<< (y.toInt64 &&& 63)) :: r) S
  | .lshr => mn_pI st fun y r => mn_pL r fun x r => k (pc + 1) lv (.long (x >>> (y.toInt64 &&& 63)) :: r) S
  | .lushr => mn_pI st fun y r => mn_pL r fun x r => k (pc + 1) lv (.long (x.toUInt64 >>> (y.toInt64.toUInt64 &&& Int64.toUInt64 63)).toInt64 :: r) S
  | .lneg => mn_pL st fun x r => k (pc + 1) lv (.long (-x) :: r) S
  | .i2l => mn_pI st fun x r => k (pc + 1) lv (.long x.toInt64 :: r) S
  | .l2i => mn_pL st fun x r => k (pc + 1) lv (.int x.toInt32 :: r) S
  | .lcmp => mn_pL st fun y r => mn_pL r fun x r => k (pc + 1) lv (.int (lg_cmp x y) :: r) S
  | .dup => mn_pV st fun v r => v.category = 1 ∧ k (pc + 1) lv (v :: v :: r) S
  | .pop => mn_pV st fun v r => v.category = 1 ∧ k (pc + 1) lv r S
  | .dup2 => mn_pV st fun v r => (v.category = 2 → k (pc + 1) lv (v :: v :: r) S) ∧ (¬ v.category = 2 → mn_pV r fun w r => w.category = 1 ∧ k (pc + 1) lv (v :: w :: v :: w :: r) S)
  | .goto _ => mn_br ts fun t => k t lv st S
  | .ifCond .eq _ => mn_br ts fun t => mn_pI st fun x r => (x = 0 → k t lv r S) ∧ (¬ x = 0 → k (pc + 3) lv r S)
  | .ifCond .ne _ => mn_br ts fun t => mn_pI st fun x r => (¬ x = 0 → k t lv r S) ∧ (x = 0 → k (pc + 3) lv r S)
  | .ifCond .lt _ => mn_br ts fun t => mn_pI st fun x r => (x < 0 → k t lv r S) ∧ (¬ x < 0 → k (pc + 3) lv r S)
  | .ifCond .ge _ => mn_br ts fun t => mn_pI st fun x r => (0 ≤ x → k t lv r S) ∧ (¬ 0 ≤ x → k (pc + 3) lv r S)
  | .ifCond .gt _ => mn_br ts fun t => mn_pI st fun x r => (0 < x → k t lv r S) ∧ (¬ 0 < x → k (pc + 3) lv r S)
  | .ifCond .le _ => mn_br ts fun t => mn_pI st fun x r => (x ≤ 0 → k t lv r S) ∧ (¬ x ≤ 0 → k (pc + 3) lv r S)
  | .if_icmp .eq _ => mn_br ts fun t => mn_pI st fun y r => mn_pI r fun x r => (x = y → k t lv r S) ∧ (¬ x = y → k (pc + 3) lv r S)
  | .if_icmp .ne _ => mn_br ts fun t => mn_pI st fun y r => mn_pI r fun x r => (¬ x = y → k t lv r S) ∧ (x = y → k (pc + 3) lv r S)
  | .if_icmp .lt _ => mn_br ts fun t => mn_pI st fun y r => mn_pI r fun x r => (x < y → k t lv r S) ∧ (¬ x < y → k (pc + 3) lv r S)
  | .if_icmp .ge _ => mn_br ts fun t => mn_pI st fun y r => mn_pI r fun x r => (y ≤ x → k t lv r S) ∧ (¬ y ≤ x → k (pc + 3) lv r S)
  | .if_icmp .gt _ => mn_br ts fun t => mn_pI st fun y r => mn_pI r fun x r => (y < x → k t lv r S) ∧ (¬ y < x → k (pc + 3) lv r S)
  | .if_icmp .le _ => mn_br ts fun t => mn_pI st fun y r => mn_pI r fun x r => (x ≤ y → k t lv r S) ∧ (¬ x ≤ y → k (pc + 3) lv r S)
  | .tableswitch _ lo hi _ => mn_pI st fun x r => mn_sw0 x lo hi ts fun t => k t lv r S
  | .arraylength => mn_pR st fun a r => mn_live a ∧ mn_aN (mn_sh a) fun n => k (pc + 1) lv (.int (Int32.ofNat n) :: r) S
  | .iaload => mn_pI st fun i r => mn_pR r fun a r => mn_live a ∧ mn_aI (mn_sh a) 0 fun n => vp_in i n ∧ k (pc + 1) lv (.int (S.1 a i.toNatClampNeg) :: r) S
  | .baload => mn_pI st fun i r => mn_pR r fun a r => mn_live a ∧ mn_aI (mn_sh a) 1 fun n => vp_in i n ∧ k (pc + 1) lv (.int (S.1 a i.toNatClampNeg) :: r) S
  | .laload => mn_pI st fun i r => mn_pR r fun a r => mn_live a ∧ mn_aI (mn_sh a) 2 fun n => vp_in i n ∧ k (pc + 1) lv (.long (S.2 a i.toNatClampNeg) :: r) S
  | .aaload => mn_pI st fun i r => mn_pR r fun a r => mn_live a ∧ (mn_aI (mn_sh a) 3 (fun n => vp_in i n ∧ k (pc + 1) lv (.ref (mn_rf a i.toNatClampNeg) :: r) S) ∨ mn_aI (mn_sh a) 4 (fun n => vp_in i n ∧ k (pc + 1) lv (.ref (mn_rf a i.toNatClampNeg) :: r) S))
  | .iastore => mn_pI st fun x r => mn_pI r fun i r => mn_pR r fun a r => mn_live a ∧ mn_aI (mn_sh a) 0 fun n => vp_in i n ∧ k (pc + 1) lv r (mn_wI S a i.toNatClampNeg x)
  | .bastore => mn_pI st fun x r => mn_pI r fun i r => mn_pR r fun a r => mn_live a ∧ mn_aI (mn_sh a) 1 fun n => vp_in i n ∧ k (pc + 1) lv r (mn_wI S a i.toNatClampNeg (x &&& 1))
  | .lastore => mn_pL st fun x r => mn_pI r fun i r => mn_pR r fun a r => mn_live a ∧ mn_aI (mn_sh a) 2 fun n => vp_in i n ∧ k (pc + 1) lv r (mn_wL S a i.toNatClampNeg x)
  | .getfield i => mn_pR st fun a r => mn_op (mn_lk b.2.1 i) fun q => mn_live a ∧ mn_fi (mn_sh a) q.1 q.2 fun w => k (pc + 3) lv (mn_fv S a q.2 w :: r) S
  | .putfield i => mn_pV st fun v r => mn_pR r fun a r => mn_op (mn_lk b.2.1 i) fun q => mn_live a ∧ mn_fi (mn_sh a) q.1 q.2 fun w => mn_put S a q.2 v w fun S' => k (pc + 3) lv r S'
  | .invokevirtual i => mn_call b true i st S fun v r S' => k (pc + 3) lv (v.toList ++ r) S'
  | .invokestatic i => mn_call b false i st S fun v r S' => k (pc + 3) lv (v.toList ++ r) S'
  | .ireturn => mn_pI st fun x r => mn_pE r ((b.2.2.2.2 = some .int ∨ b.2.2.2.2 = some .boolean ∧ x &&& 1 = x) ∧ K (some (.int x)) S)
  | .lreturn => mn_pL st fun x r => mn_pE r (b.2.2.2.2 = some .long ∧ K (some (.long x)) S)
  | .return_ => mn_pE st (b.2.2.2.2 = none ∧ K none S)
  | _ => False
/-- J is closed under steps, backwards -/
def mn_Cl (b : mn_B) (K : mn_K) (J : mn_C) : Prop := ∀ (k : mn_C) (pc : Nat) (lv : mn_L) (st : List Value) (S : mn_S), (∀ pc lv st S, k pc lv st S → J pc lv st S) → mn_op (mn_dec b.1 pc) (fun q => mn_one b K k pc lv st S q.1 q.2) → J pc lv st S
/-- steps up to the stops -/
def mn_wp (b : mn_B) (K : mn_K) (stops : List (Nat × (mn_L → List Value → mn_S → Prop))) : Nat → mn_C
  | 0 => fun _ _ _ _ => False
  | n + 1 => fun pc lv st S => match mn_lk stops pc with
    | some P => P lv st S
    | none => mn_op (mn_dec b.1 pc) (fun q => mn_one b K (mn_wp b K stops n) pc lv st S q.1 q.2)
def mn_go (b : mn_B) (K : mn_K) (stops : List (Nat × (mn_L → List Value → mn_S → Prop))) (n : Nat) : mn_C := fun pc lv st S => mn_op (mn_dec b.1 pc) (fun q => mn_one b K (mn_wp b K stops n) pc lv st S q.1 q.2)
theorem mn_lk_mem {α : Type} {x : α} {j : Nat} : ∀ {l : List (Nat × α)}, mn_lk l j = some x → (j, x) ∈ l
  | [], h => by cases h
  | (i, y) :: r, h => by
    unfold mn_lk at h
    by_cases e : j = i
    · rw [if_pos e] at h
      cases h
      rw [e]
      exact List.mem_cons_self
    · rw [if_neg e] at h
      exact List.mem_cons_of_mem _ (mn_lk_mem h)
theorem mn_wp_J {b : mn_B} {K : mn_K} {J : mn_C} (hJ : mn_Cl b K J) {stops : List (Nat × (mn_L → List Value → mn_S → Prop))} (hs : ∀ q ∈ stops, ∀ lv st S, q.2 lv st S → J q.1 lv st S) : ∀ (n : Nat) pc lv st S, mn_wp b K stops n pc lv st S → J pc lv st S
  | 0, _, _, _, _, h => h.elim
  | n + 1, pc, lv, st, S, h => by
    unfold mn_wp at h
    split at h
    · rename_i P hP
      exact hs _ (mn_lk_mem hP) lv st S h
    · exact hJ _ pc lv st S (mn_wp_J hJ hs n) h
theorem mn_go_J {b : mn_B} {K : mn_K} {J : mn_C} (hJ : mn_Cl b K J) {stops : List (Nat × (mn_L → List Value → mn_S → Prop))} (hs : ∀ q ∈ stops, ∀ lv st S, q.2 lv st S → J q.1 lv st S) (n : Nat) {pc : Nat} {lv : mn_L} {st : List Value} {S : mn_S} (h : mn_go b K stops n pc lv st S) : J pc lv st S :=
  hJ _ pc lv st S (mn_wp_J hJ hs n) h
