/-! AN ABSTRACT MACHINE: the instructions that occur here, over pure cells at numbered places. Place 0 is the law's script, place k + 1 the k-th cell made since the law began. -/
abbrev am_C : Type := (FieldType × vp_A) ⊕ (Nat × List Value)
/-- the cells, how many were made, how many slots they have -/
abbrev am_H : Type := (Nat → am_C) × Nat × Nat
/-- an instruction, its length, two numbers (what its link means, where it jumps to), a constant, a switch's places -/
abbrev am_I : Type := Instr × Nat × Nat × Nat × Value × List (Int32 × Nat)
/-- number of the instruction, locals (null: nothing known), stack -/
abbrev am_F : Type := Nat × List Value × List Value
/-- a method: name, bytes, locals, result, number of its class, its room in frames and in locals, its code and the bytes' places in rows of sixteen -/
abbrev am_M : Type := MethodName × ByteArray × Nat × Option FieldType × Nat × (Nat × Nat) × List (List am_I) × List (List Nat)
def am_nth {α : Type} (d : α) : List α → Nat → α
  | [], _ => d
  | x :: _, 0 => x
  | _ :: l, n + 1 => am_nth d l n
def am_at2 {α : Type} (d : α) (l : List (List α)) (j : Nat) : α := am_nth d (am_nth [] l (j / 16)) (j % 16)
def am_no : am_I := (.nop, 0, 0, 0, .null, [])
def am_ins (M : am_M) (j : Nat) : am_I := am_at2 am_no M.2.2.2.2.2.2.1 j
def am_pc (M : am_M) (j : Nat) : Nat := am_at2 0 M.2.2.2.2.2.2.2 j
def am_dead : am_C := .inr (1000, [])
def am_isL : Value → Bool
  | .long _ => true
  | .double _ => true
  | _ => false
def am_set (h : am_H) (a : Nat) (c : am_C) : am_H := (fun k => if k = a then c else h.1 k, h.2)
def am_push (h : am_H) (c : am_C) (w : Nat) : am_H := (fun k => if k = h.2.1 + 1 then c else h.1 k, h.2.1 + 1, h.2.2 + w)
/-- the stack's top -/
def am_i1 {α : Type} (st : List Value) (k : Int32 → List Value → Option α) : Option α := match st with
  | .int x :: r => k x r
  | _ => none
def am_i2 {α : Type} (st : List Value) (k : Int32 → Int32 → List Value → Option α) : Option α := match st with
  | .int y :: .int x :: r => k x y r
  | _ => none
def am_l1 {α : Type} (st : List Value) (k : Int64 → List Value → Option α) : Option α := match st with
  | .long x :: r => k x r
  | _ => none
def am_l2 {α : Type} (st : List Value) (k : Int64 → Int64 → List Value → Option α) : Option α := match st with
  | .long y :: .long x :: r => k x y r
  | _ => none
def am_r1 {α : Type} (st : List Value) (k : Nat → List Value → Option α) : Option α := match st with
  | .ref a :: r => k a r
  | _ => none
/-- cells by their kind -/
def am_obj {α : Type} (c : am_C) (ci : Nat) (k : List Value → Option α) : Option α := match c with
  | .inr (cj, fs) => if cj = ci then k fs else none
  | _ => none
def am_ari {α : Type} (c : am_C) (k : Nat → (Nat → Int32) → Option α) : Option α := match c with
  | .inl (.int, n, .inl f) => k n f
  | _ => none
def am_arz {α : Type} (c : am_C) (k : Nat → (Nat → Int32) → Option α) : Option α := match c with
  | .inl (.boolean, n, .inl f) => k n f
  | _ => none
def am_arl {α : Type} (c : am_C) (k : Nat → (Nat → Int64) → Option α) : Option α := match c with
  | .inl (.long, n, .inr (.inl f)) => k n f
  | _ => none
def am_arq {α : Type} (c : am_C) (k : String → Nat → (Nat → Option Nat) → Option α) : Option α := match c with
  | .inl (.object C, n, .inr (.inr (.inr (.inr f)))) => k C n f
  | _ => none
def am_oc {α : Type} (C : String) (k : Nat → Option α) : Option α := if C = "SpiteLine$Scene" then k 6 else if C = "SpiteLine$Image" then k 3 else none
def am_fit : FieldType → Value → Bool
  | .int, .int _ => true
  | .long, .long _ => true
  | .boolean, .int x => x == 0 || x == 1
  | .object _, .ref _ => true
  | .array _, .ref _ => true
  | _, _ => false
def am_store (j : Nat) (ls : List Value) (a : Nat) (v : Value) (r : List Value) (h : am_H) : Option (am_F × am_H) :=
  if am_isL (ls.getD (a - 1) .null) = false ∧ a < ls.length then some ((j + 1, ls.set a v, r), h) else none
def am_cmp (c : ClassFile.Cond) (x y : Int32) (t e : Nat) : Nat := match c with
  | .eq => if x = y then t else e
  | .ne => if x = y then e else t
  | .lt => if x < y then t else e
  | .ge => if y ≤ x then t else e
  | .gt => if y < x then t else e
  | .le => if x ≤ y then t else e
def am_sw (x : Int32) (d : Nat) : List (Int32 × Nat) → Nat
  | [] => d
  | (k, t) :: l => if x = k then t else am_sw x d l
/-- the fields of a new object -/
def am_dfl (ci : Nat) : List Value := (List.range ((am_cl.getD ci ("", (fun _ => ("", "", "", false)), 0)).2.2)).map (fun k => defaultValue (am_fty ci k))
def am_nat (t : ArrayType) : Option (FieldType × (Nat → vp_A)) := match t with
  | .int => some (.int, fun n => (n, .inl (fun _ => 0)))
  | .boolean => some (.boolean, fun n => (n, .inl (fun _ => 0)))
  | .long => some (.long, fun n => (n, .inr (.inl (fun _ => 0))))
  | _ => none
/-- an instruction that neither calls nor returns -/
def am_step (I : am_I) (j : Nat) (ls st : List Value) (h : am_H) : Option (am_F × am_H) := match I.1 with
  | .iload _ => (match ls.getD I.2.2.1 .null with | .int x => some ((j + 1, ls, .int x :: st), h) | _ => none)
  | .iload_n _ => (match ls.getD I.2.2.1 .null with | .int x => some ((j + 1, ls, .int x :: st), h) | _ => none)
  | .aload_n _ => (match ls.getD I.2.2.1 .null with | .ref x => some ((j + 1, ls, .ref x :: st), h) | _ => none)
  | .aload _ => (match ls.getD I.2.2.1 .null with | .ref x => some ((j + 1, ls, .ref x :: st), h) | _ => none)
  | .lload_n _ => (match ls.getD I.2.2.1 .null with | .long x => some ((j + 1, ls, .long x :: st), h) | _ => none)
  | .lload _ => (match ls.getD I.2.2.1 .null with | .long x => some ((j + 1, ls, .long x :: st), h) | _ => none)
  | .istore _ => am_i1 st fun x r => am_store j ls I.2.2.1 (.int x) r h
  | .istore_n _ => am_i1 st fun x r => am_store j ls I.2.2.1 (.int x) r h
  | .astore_n _ => am_r1 st fun x r => am_store j ls I.2.2.1 (.ref x) r h
  | .lstore_n _ => am_l1 st fun x r => if am_isL (ls.getD (I.2.2.1 - 1) .null) = false ∧ I.2.2.1 + 1 < ls.length then some ((j + 1, (ls.set I.2.2.1 (.long x)).set (I.2.2.1 + 1) .null, r), h) else none
  | .lstore _ => am_l1 st fun x r => if am_isL (ls.getD (I.2.2.1 - 1) .null) = false ∧ I.2.2.1 + 1 < ls.length then some ((j + 1, (ls.set I.2.2.1 (.long x)).set (I.2.2.1 + 1) .null, r), h) else none
  | .iinc _ _ => (match ls.getD I.2.2.1 .null, I.2.2.2.2.1 with | .int x, .int c => am_store j ls I.2.2.1 (.int (x + c)) st h | _, _ => none)
  | .iconst _ => some ((j + 1, ls, I.2.2.2.2.1 :: st), h)
  | .bipush _ => some ((j + 1, ls, I.2.2.2.2.1 :: st), h)
  | .sipush _ => some ((j + 1, ls, I.2.2.2.2.1 :: st), h)
  | .ldc _ => some ((j + 1, ls, I.2.2.2.2.1 :: st), h)
  | .ldc2_w _ => some ((j + 1, ls, I.2.2.2.2.1 :: st), h)
  | .iadd => am_i2 st fun x y r => some ((j + 1, ls, .int (x + y) :: r), h)
  | .isub => am_i2 st fun x y r => some ((j + 1, ls, .int (x - y) :: r), h)
  | .imul => am_i2 st fun x y r => some ((j + 1, ls, .int (x * y) :: r), h)
  | .iand => am_i2 st fun x y r => some ((j + 1, ls, .int (x &&& y) :: r), h)
  | .ior => am_i2 st fun x y r => some ((j + 1, ls, .int (x ||| y) :: r), h)
  | .ixor => am_i2 st fun x y r => some ((j + 1, ls, .int (x ^^^ y) :: r), h)
  | .ishl => am_i2 st fun x y r => some ((j + 1, ls, .int (x <<< (y &&& 31)) :: r), h)
  | .ishr => am_i2 st fun x y r => some ((j + 1, ls, .int (x >>> (y &&& 31)) :: r), h)
  | .idiv => am_i2 st fun x y r => if y = 0 then none else some ((j + 1, ls, .int (x / y) :: r), h)
  | .irem => am_i2 st fun x y r => if y = 0 then none else some ((j + 1, ls, .int (x - x / y * y) :: r), h)
  | .ineg => am_i1 st fun x r => some ((j + 1, ls, .int (-x) :: r), h)
  | .ladd => am_l2 st fun x y r => some ((j + 1, ls, .long (x + y) :: r), h)
  | .lmul => am_l2 st fun x y r => some ((j + 1, ls, .long (x * y) :: r), h)
  | .land => am_l2 st fun x y r => some ((j + 1, ls, .long (x &&& y) :: r), h)
  | .ldiv => am_l2 st fun x y r => if y = 0 then none else some ((j + 1, ls, .long (x / y) :: r), h)
  | .lrem => am_l2 st fun x y r => if y = 0 then none else some ((j + 1, ls, .long (x - x / y * y) :: r), h)
  | .i2l => am_i1 st fun x r => some ((j + 1, ls, .long x.toInt64 :: r), h)
  | .l2i => am_l1 st fun x r => some ((j + 1, ls, .int x.toInt32 :: r), h)
  | .dup => (match st with | v :: r => if am_isL v = false then some ((j + 1, ls, v :: v :: r), h) else none | _ => none)
  | .ifCond c _ => am_i1 st fun x r => some ((am_cmp c x 0 I.2.2.1 (j + 1), ls, r), h)
  | .if_icmp c _ => am_i2 st fun x y r => some ((am_cmp c x y I.2.2.1 (j + 1), ls, r), h)
  | .goto _ => some ((I.2.2.1, ls, st), h)
  | .tableswitch _ _ _ _ => am_i1 st fun x r => some ((am_sw x I.2.2.1 I.2.2.2.2.2, ls, r), h)
  | .lookupswitch _ _ => am_i1 st fun x r => some ((am_sw x I.2.2.1 I.2.2.2.2.2, ls, r), h)
  | .getfield _ => am_r1 st fun a r => am_obj (h.1 a) I.2.2.1 fun fs => (match fs[I.2.2.2.1]? with | some v => some ((j + 1, ls, v :: r), h) | none => none)
  | .putfield _ => (match st with | v :: .ref a :: r => am_obj (h.1 a) I.2.2.1 fun fs => if I.2.2.2.1 < fs.length ∧ am_fit (am_fty I.2.2.1 I.2.2.2.1) v = true then some ((j + 1, ls, r), am_set h a (.inr (I.2.2.1, fs.set I.2.2.2.1 v))) else none | _ => none)
  | .iaload => (match st with | .int i :: .ref a :: r => am_ari (h.1 a) fun n f => if i < 0 ∨ n ≤ i.toNatClampNeg then none else some ((j + 1, ls, .int (f i.toNatClampNeg) :: r), h) | _ => none)
  | .baload => (match st with | .int i :: .ref a :: r => am_arz (h.1 a) fun n f => if i < 0 ∨ n ≤ i.toNatClampNeg then none else some ((j + 1, ls, .int (f i.toNatClampNeg) :: r), h) | _ => none)
  | .laload => (match st with | .int i :: .ref a :: r => am_arl (h.1 a) fun n f => if i < 0 ∨ n ≤ i.toNatClampNeg then none else some ((j + 1, ls, .long (f i.toNatClampNeg) :: r), h) | _ => none)
  | .aaload => (match st with | .int i :: .ref a :: r => am_arq (h.1 a) fun C n f => am_oc C fun _ => if i < 0 ∨ n ≤ i.toNatClampNeg then none else (match f i.toNatClampNeg with | some y => some ((j + 1, ls, .ref y :: r), h) | none => none) | _ => none)
  | .iastore => (match st with | .int x :: .int i :: .ref a :: r => am_ari (h.1 a) fun n f => if a = 0 ∨ i < 0 ∨ n ≤ i.toNatClampNeg then none else some ((j + 1, ls, r), am_set h a (.inl (.int, n, .inl (upd f i.toNatClampNeg x)))) | _ => none)
  | .bastore => (match st with | .int x :: .int i :: .ref a :: r => am_arz (h.1 a) fun n f => if i < 0 ∨ n ≤ i.toNatClampNeg then none else some ((j + 1, ls, r), am_set h a (.inl (.boolean, n, .inl (upd f i.toNatClampNeg (x &&& 1))))) | _ => none)
  | .lastore => (match st with | .long x :: .int i :: .ref a :: r => am_arl (h.1 a) fun n f => if i < 0 ∨ n ≤ i.toNatClampNeg then none else some ((j + 1, ls, r), am_set h a (.inl (.long, n, .inr (.inl (vp_updL f i.toNatClampNeg x))))) | _ => none)
  | .aastore => (match st with | .ref v :: .int i :: .ref a :: r => am_arq (h.1 a) fun C n f => am_oc C fun ci => am_obj (h.1 v) ci fun _ => if i < 0 ∨ n ≤ i.toNatClampNeg then none else some ((j + 1, ls, r), am_set h a (.inl (.object C, n, .inr (.inr (.inr (.inr (va_up f i.toNatClampNeg (some v)))))))) | _ => none)
  | .arraylength => (match st with | .ref 0 :: r => am_ari (h.1 0) fun n _ => some ((j + 1, ls, .int (Int32.ofNat n) :: r), h) | _ => none)
  | .newarray t => am_i1 st fun n r => (match am_nat t with | some (ty, zf) => if n < 0 ∨ 100000 < n.toNatClampNeg then none else some ((j + 1, ls, .ref (h.2.1 + 1) :: r), am_push h (.inl (ty, zf n.toNatClampNeg)) n.toNatClampNeg) | none => none)
  | .anewarray _ => am_i1 st fun n r => if n < 0 ∨ 100000 < n.toNatClampNeg then none else some ((j + 1, ls, .ref (h.2.1 + 1) :: r), am_push h (.inl (.object (am_own I.2.2.1), n.toNatClampNeg, .inr (.inr (.inr (.inr (fun _ => none)))))) n.toNatClampNeg)
  | .new _ => some ((j + 1, ls, .ref (h.2.1 + 1) :: st), am_push h (.inr (I.2.2.1, am_dfl I.2.2.1)) (am_dfl I.2.2.1).length)
  | .invokespecial _ => (match st with | .ref _ :: r => if (r.map fun v => v.category).sum ≤ 8 then some ((j + 1, ls, r), h) else none | _ => none)
  | .invokestatic _ => if I.2.2.1 = 1001 then (match st with | .int n :: .int dp :: .ref a :: .int sp :: .ref a0 :: r => am_ari (h.1 a0) fun n0 f => am_ari (h.1 a) fun n1 g => if a0 = 0 ∨ a = 0 ∨ sp < 0 ∨ dp < 0 ∨ n < 0 ∨ n0 < sp.toNatClampNeg + n.toNatClampNeg ∨ n1 < dp.toNatClampNeg + n.toNatClampNeg ∨ 8 < (r.map fun v => v.category).sum then none else some ((j + 1, ls, r), am_set h a (.inl (.int, n1, .inl (va_cpy f g sp.toNatClampNeg dp.toNatClampNeg n.toNatClampNeg)))) | _ => none)
    else if I.2.2.1 = 1002 then am_i2 st (fun x y r => if 8 < (r.map fun v => v.category).sum then none else some ((j + 1, ls, .int (if x < y then y else x) :: r), h))
    else if I.2.2.1 = 1003 then am_i2 st (fun x y r => if 8 < (r.map fun v => v.category).sum then none else some ((j + 1, ls, .int (if y < x then y else x) :: r), h))
    else am_i1 st (fun x r => if 8 < (r.map fun v => v.category).sum then none else some ((j + 1, ls, .int (if 0 ≤ x then x else 0 - x) :: r), h))
  | _ => none
/-- 0: a step; 1: a call; 2: a return -/
def am_kind (I : am_I) : Nat := match I.1 with
  | .ireturn => 2
  | .return_ => 2
  | .invokevirtual _ => 1
  | .invokespecial _ => if I.2.2.1 = 1000 then 0 else 1
  | .invokestatic _ => if 1000 < I.2.2.1 then 0 else 1
  | _ => 0
def am_ret (I : am_I) (M : am_M) (st : List Value) : Option (Option Value) := match I.1 with
  | .ireturn => (match st with | [.int v] => (match M.2.2.2.1 with | some .boolean => if v = 0 ∨ v = 1 then some (some (.int v)) else none | some .int => some (some (.int v)) | _ => none) | _ => none)
  | .return_ => (match st with | [] => (match M.2.2.2.1 with | none => some none | _ => none) | _ => none)
  | _ => none
/-- a receiver of the callee's class -/
def am_rcv (I : am_I) (K : am_M) (As : List Value) (h : am_H) : Bool := match I.1 with
  | .invokevirtual _ => (match As with | .ref b :: _ => (match h.1 b with | .inr (ci, _) => ci == K.2.2.2.2.1 | _ => false) | _ => false)
  | .invokespecial _ => (match As with | .ref _ :: _ => true | _ => false)
  | _ => true
def am_entry (M : am_M) (As : List Value) : List Value := As ++ List.replicate (M.2.2.1 - As.length) .null
def am_callok (I : am_I) (K : am_M) (st : List Value) (h : am_H) : Bool :=
  am_rcv I K (st.take I.2.2.2.1).reverse h && (decide (((st.drop I.2.2.2.1).map fun v => v.category).sum ≤ 8) && ((st.take I.2.2.2.1).all (fun v => !am_isL v) && (decide (I.2.2.2.1 ≤ K.2.2.1) && decide ((st.take I.2.2.2.1).length = I.2.2.2.1))))
