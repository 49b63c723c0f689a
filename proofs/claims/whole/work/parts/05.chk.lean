/-! what is checked of the tables: every instruction is the one that the bytes hold, every link is among the words -/
def am_tw : List Jvm.Cond := lw_tbl.filter goodWord
def am_fn (ci : Nat) : Nat := (am_cl.getD ci ("", (fun _ => ("", "", "", false)), 0)).2.2
def am_lin : List Nat := [0, 1, 2, 3, 4, 5, 6, 7, 8, 9, 10, 11, 12, 13, 14, 15, 16, 17, 18, 19, 20, 21, 22, 24, 25, 28, 29, 30, 31, 32, 33, 34, 35, 36, 37, 38, 39, 40, 41, 42, 43, 44, 45, 46, 47, 48, 49, 50, 51, 52, 53, 54, 55, 56, 57, 58, 59, 60, 61, 62, 63, 64, 65, 66, 67, 68, 69, 70, 71, 72, 73, 74, 75, 76, 77, 78, 79, 80, 81, 82, 83, 84, 85, 86, 87, 88, 89, 90, 92, 93, 94, 95, 96, 97, 98, 99, 100, 101, 102, 103, 104, 105, 106, 107, 108, 109, 110, 111, 112, 113, 114, 115, 116, 117, 118, 119, 120, 122, 123, 124, 125, 126, 127, 128, 129, 130, 131, 132, 133, 134, 136, 137, 138, 139, 140, 141, 142, 143, 144, 145, 146, 147, 148, 149]
def am_lst : List Nat := [23, 26, 27, 91, 121, 135]
def am_lse : List Nat := [10, 11, 12, 13, 14, 15, 16, 17, 18, 19, 20, 21, 22, 24, 25, 28, 29, 30, 31, 32, 33, 34, 35, 36, 37, 38, 39, 40, 41, 42, 43, 44, 45, 46, 47, 48, 49, 50, 51, 52, 53, 54, 55, 56, 57, 58, 59, 60, 61, 62, 63, 64, 65, 66, 67, 68, 69, 70, 71, 72, 73, 74, 75, 76, 77, 78, 79, 80, 81, 82, 83, 84, 85, 86, 87, 88, 90, 92, 93, 94, 95, 96, 97, 98, 99, 100, 101, 102, 103, 104, 105, 106, 107, 108, 109, 110, 111, 112, 113, 114, 115, 116, 117, 118, 119, 120, 122, 123, 124, 125, 126, 127, 128, 129, 130, 131, 132, 133, 134, 136, 137, 138, 139, 140, 141, 142, 143, 144, 145, 146, 147, 148, 149]
def am_nx (M : am_M) (j n : Nat) : Bool := decide ((am_ins M j).2.1 = n ∧ am_pc M (j + 1) = am_pc M j + n)
def am_jp (M : am_M) (j t : Nat) (off : Int) : Bool := decide ((am_pc M j : Int) + off = (am_pc M t : Int))
def am_tsc (M : am_M) (j : Nat) : List Int → Int → List (Int32 × Nat) → Bool
  | [], _, [] => true
  | o :: os, lo, (k, t) :: l => decide (k.toInt = lo) && (am_jp M j t o && am_tsc M j os (lo + 1) l)
  | _, _, _ => false
def am_lsc (M : am_M) (j : Nat) : List (Int × Int) → List (Int32 × Nat) → Bool
  | [], [] => true
  | (q, o) :: os, (k, t) :: l => decide (k.toInt = q) && (am_jp M j t o && am_lsc M j os l)
  | _, _ => false
/-- a call: the link, the callee's room, its arguments -/
def am_cal (M : am_M) (idx k n : Nat) (kd : Nat) : Bool :=
  decide (k + 1 < am_nm) && ((decide ((M.2.2.2.2.1, idx, k) ∈ am_ml) || decide ((M.2.2.2.2.1, idx, k) ∈ am_mn)) && (decide ((am_tab k).2.2.2.2.2.1.1 + 1 ≤ M.2.2.2.2.2.1.1 ∧ 19 + (am_tab k).2.2.1 + (am_tab k).2.2.2.2.2.1.2 ≤ M.2.2.2.2.2.1.2) &&
    (decide ((parseMethodDescriptor (am_tab k).1.desc).map (fun d => d.parameters.length) = some (if kd = 1 then n else n - 1) ∧ (kd = 1 ∨ 0 < n)) && (if kd = 2 then decide ((am_tab k).1.name = "<init>" ∧ (am_tab k).2.2.2.1 = none ∧ k ∈ am_lin) else if kd = 1 then decide (k ∈ am_lst) else decide (k ∈ am_lse)))))
def am_chkI (M : am_M) (j : Nat) (I : am_I) : Bool := match I.1 with
  | .iload a => am_nx M j 2 && decide (I.2.2.1 = a)
  | .iload_n a => am_nx M j 1 && decide (I.2.2.1 = a.val)
  | .aload a => am_nx M j 2 && decide (I.2.2.1 = a)
  | .aload_n a => am_nx M j 1 && decide (I.2.2.1 = a.val)
  | .lload a => am_nx M j 2 && decide (I.2.2.1 = a)
  | .lload_n a => am_nx M j 1 && decide (I.2.2.1 = a.val)
  | .istore a => am_nx M j 2 && decide (I.2.2.1 = a)
  | .istore_n a => am_nx M j 1 && decide (I.2.2.1 = a.val)
  | .astore_n a => am_nx M j 1 && decide (I.2.2.1 = a.val)
  | .lstore_n a => am_nx M j 1 && decide (I.2.2.1 = a.val)
  | .lstore a => am_nx M j 2 && decide (I.2.2.1 = a)
  | .iinc a n => am_nx M j 3 && decide (I.2.2.1 = a ∧ I.2.2.2.2.1 = .int (Int32.ofInt n))
  | .iconst n => am_nx M j 1 && decide (I.2.2.2.2.1 = .int (Int32.ofInt n))
  | .bipush n => am_nx M j 2 && decide (I.2.2.2.2.1 = .int (Int8.ofInt n).toInt32)
  | .sipush n => am_nx M j 3 && decide (I.2.2.2.2.1 = .int (Int16.ofInt n).toInt32)
  | .ldc idx => am_nx M j 2 && (match I.2.2.2.2.1 with | .int v => decide ((M.2.2.2.2.1, idx, v) ∈ am_ki) | _ => false)
  | .ldc2_w idx => am_nx M j 3 && (match I.2.2.2.2.1 with | .long v => decide ((M.2.2.2.2.1, idx, v) ∈ am_kl) | _ => false)
  | .iadd => am_nx M j 1
  | .isub => am_nx M j 1
  | .imul => am_nx M j 1
  | .iand => am_nx M j 1
  | .ior => am_nx M j 1
  | .ixor => am_nx M j 1
  | .ishl => am_nx M j 1
  | .ishr => am_nx M j 1
  | .idiv => am_nx M j 1
  | .irem => am_nx M j 1
  | .ineg => am_nx M j 1
  | .ladd => am_nx M j 1
  | .lmul => am_nx M j 1
  | .land => am_nx M j 1
  | .ldiv => am_nx M j 1
  | .lrem => am_nx M j 1
  | .i2l => am_nx M j 1
  | .l2i => am_nx M j 1
  | .dup => am_nx M j 1
  | .ifCond _ off => am_nx M j 3 && am_jp M j I.2.2.1 off
  | .if_icmp _ off => am_nx M j 3 && am_jp M j I.2.2.1 off
  | .goto off => decide (I.2.1 = 3) && am_jp M j I.2.2.1 off
  | .tableswitch d lo hi offs => am_jp M j I.2.2.1 d && (decide (hi + 1 = lo + (offs.toList.length : Int)) && am_tsc M j offs.toList lo I.2.2.2.2.2)
  | .lookupswitch d ps => am_jp M j I.2.2.1 d && ((ps.toList.zip (ps.toList.drop 1)).all (fun (a, next) => a.1 < next.1) && am_lsc M j ps.toList I.2.2.2.2.2)
  | .getfield idx => am_nx M j 3 && decide ((M.2.2.2.2.1, idx, I.2.2.1, I.2.2.2.1) ∈ am_fl)
  | .putfield idx => am_nx M j 3 && (decide ((M.2.2.2.2.1, idx, I.2.2.1, I.2.2.2.1) ∈ am_fl) && decide ((am_ft I.2.2.1 I.2.2.2.1).2.2.2 = false ∨ ((am_ft I.2.2.1 I.2.2.2.1).2.2.2 = true ∧ M.1.name = "<init>" ∧ (am_ft I.2.2.1 I.2.2.2.1).1 = am_own M.2.2.2.2.1)))
  | .iaload => am_nx M j 1
  | .baload => am_nx M j 1
  | .laload => am_nx M j 1
  | .aaload => am_nx M j 1
  | .iastore => am_nx M j 1
  | .bastore => am_nx M j 1
  | .lastore => am_nx M j 1
  | .aastore => am_nx M j 1
  | .arraylength => am_nx M j 1
  | .newarray _ => am_nx M j 2
  | .anewarray idx => am_nx M j 3 && decide ((M.2.2.2.2.1, idx, I.2.2.1) ∈ am_ck ∧ (I.2.2.1 = 6 ∨ I.2.2.1 = 3))
  | .new idx => am_nx M j 3 && decide ((M.2.2.2.2.1, idx, I.2.2.1) ∈ am_ck)
  | .invokespecial idx => am_nx M j 3 && (if I.2.2.1 = 1000 then decide ((M.2.2.2.2.1, idx) ∈ am_mo ∧ 1 ≤ M.2.2.2.2.2.1.1 ∧ 20 ≤ M.2.2.2.2.2.1.2) else am_cal M idx I.2.2.1 I.2.2.2.1 2)
  | .invokestatic idx => am_nx M j 3 && (if I.2.2.1 = 1001 then decide ((M.2.2.2.2.1, idx) ∈ am_mc ∧ 1 ≤ M.2.2.2.2.2.1.1 ∧ 26 ≤ M.2.2.2.2.2.1.2) else if 1000 < I.2.2.1 then decide ((M.2.2.2.2.1, idx, I.2.2.1) ∈ am_mm ∧ 1 ≤ M.2.2.2.2.2.1.1 ∧ 21 ≤ M.2.2.2.2.2.1.2) else am_cal M idx I.2.2.1 I.2.2.2.1 1)
  | .invokevirtual idx => am_nx M j 3 && am_cal M idx I.2.2.1 I.2.2.2.1 0
  | .ireturn => decide (I.2.1 = 1)
  | .return_ => decide (I.2.1 = 1)
  | _ => false
def am_chk (M : am_M) (j : Nat) : Bool := decide (decode M.2.1 (am_pc M j) = .ok ((am_ins M j).1, (am_ins M j).2.1)) && am_chkI M j (am_ins M j)
theorem am_cls {ci : Nat} (h : ci < 11) : am_cl[ci]? = some (am_own ci, am_ft ci, am_fn ci) := by
  match ci, h with
  | 0, _ => rfl
  | 1, _ => rfl
  | 2, _ => rfl
  | 3, _ => rfl
  | 4, _ => rfl
  | 5, _ => rfl
  | 6, _ => rfl
  | 7, _ => rfl
  | 8, _ => rfl
  | 9, _ => rfl
  | 10, _ => rfl
theorem am_ty_ok {ci : Nat} (h : ci < 11) : ∀ k, k < am_fn ci → parseFieldDescriptor (am_ft ci k).2.2.1 = some (am_fty ci k) := by
  match ci, h with
  | 0, _ => exact tyX0_ok
  | 1, _ => exact tyX1_ok
  | 2, _ => exact tyX2_ok
  | 3, _ => exact tyX3_ok
  | 4, _ => exact tyX4_ok
  | 5, _ => exact tyX5_ok
  | 6, _ => exact tyX6_ok
  | 7, _ => exact tyX7_ok
  | 8, _ => exact tyX8_ok
  | 9, _ => exact tyX9_ok
  | 10, _ => exact tyX10_ok
theorem am_nm_ok {ci : Nat} (h : ci < 11) : ∀ a, a < am_fn ci → ∀ b, b < am_fn ci → a ≠ b → (am_ft ci a).2.1 ≠ (am_ft ci b).2.1 := by
  match ci, h with
  | 0, _ => exact nmX0
  | 1, _ => exact nmX1
  | 2, _ => exact nmX2
  | 3, _ => exact nmX3
  | 4, _ => exact nmX4
  | 5, _ => exact nmX5
  | 6, _ => exact nmX6
  | 7, _ => exact nmX7
  | 8, _ => exact nmX8
  | 9, _ => exact nmX9
  | 10, _ => exact nmX10
/-! the words, by their places -/
def am_wok (w : Jvm.Cond) (q : Nat) : Bool := decide (lw_tbl[q]? = some w) && goodWord w
theorem am_wok_mem {w : Jvm.Cond} {q : Nat} (h : am_wok w q = true) : w ∈ am_tw := by
  unfold am_wok at h
  rw [Bool.and_eq_true, decide_eq_true_eq] at h
  exact List.mem_filter.mpr ⟨List.mem_of_getElem? h.1, h.2⟩
theorem am_wall {α : Type} (f : α → Jvm.Cond) (l : List α) (ps : List Nat) (hl : l.length = ps.length) (h : (l.zip ps).all (fun q => am_wok (f q.1) q.2) = true) : ∀ e ∈ l, f e ∈ am_tw := by
  intro e he
  obtain ⟨i, hi⟩ := List.getElem?_of_mem he
  have hlt : i < l.length := (List.getElem?_eq_some_iff.mp hi).1
  have hp : ps[i]? = some ps[i] := List.getElem?_eq_getElem (by omega)
  have hz : (e, ps[i]) ∈ l.zip ps := List.mem_of_getElem? (i := i) (by rw [List.getElem?_zip_eq_some]; exact ⟨hi, hp⟩)
  exact am_wok_mem (List.all_eq_true.mp h _ hz)
