/-! the law's own code -/
def am_fchk (j : Nat) : Bool := am_isno (am_ins M_L_law j) || am_chk M_L_law j
theorem am_rows {f : Nat → Bool} {n : Nat} (h : ∀ i, i < n → (List.range 16).all (fun r => f (16 * i + r)) = true) : (List.range (16 * n)).all f = true := by
  refine List.all_eq_true.mpr (fun j hj => ?_)
  have hj := List.mem_range.mp hj
  have := List.all_eq_true.mp (h (j / 16) (by omega)) (j % 16) (List.mem_range.mpr (by omega))
  rw [show 16 * (j / 16) + j % 16 = j by omega] at this
  exact this
theorem ck_law_0 : (List.range 16).all (fun r => am_fchk (16 * 0 + r)) = true := by decide +kernel
theorem ck_law_1 : (List.range 16).all (fun r => am_fchk (16 * 1 + r)) = true := by decide +kernel
theorem ck_law_2 : (List.range 16).all (fun r => am_fchk (16 * 2 + r)) = true := by decide +kernel
theorem ck_law_3 : (List.range 16).all (fun r => am_fchk (16 * 3 + r)) = true := by decide +kernel
theorem ck_law_4 : (List.range 16).all (fun r => am_fchk (16 * 4 + r)) = true := by decide +kernel
theorem ck_law_5 : (List.range 16).all (fun r => am_fchk (16 * 5 + r)) = true := by decide +kernel
theorem ck_law_6 : (List.range 16).all (fun r => am_fchk (16 * 6 + r)) = true := by decide +kernel
theorem ck_law_7 : (List.range 16).all (fun r => am_fchk (16 * 7 + r)) = true := by decide +kernel
theorem ck_law_8 : (List.range 16).all (fun r => am_fchk (16 * 8 + r)) = true := by decide +kernel
theorem ck_law_9 : (List.range 16).all (fun r => am_fchk (16 * 9 + r)) = true := by decide +kernel
theorem ck_law_10 : (List.range 16).all (fun r => am_fchk (16 * 10 + r)) = true := by decide +kernel
theorem ck_law_11 : (List.range 16).all (fun r => am_fchk (16 * 11 + r)) = true := by decide +kernel
theorem ck_law_12 : (List.range 16).all (fun r => am_fchk (16 * 12 + r)) = true := by decide +kernel
theorem ck_law_13 : (List.range 16).all (fun r => am_fchk (16 * 13 + r)) = true := by decide +kernel
theorem ck_law_14 : (List.range 16).all (fun r => am_fchk (16 * 14 + r)) = true := by decide +kernel
theorem ck_law_15 : (List.range 16).all (fun r => am_fchk (16 * 15 + r)) = true := by decide +kernel
theorem ck_law_16 : (List.range 16).all (fun r => am_fchk (16 * 16 + r)) = true := by decide +kernel
theorem ck_law_17 : (List.range 16).all (fun r => am_fchk (16 * 17 + r)) = true := by decide +kernel
theorem ck_law_18 : (List.range 16).all (fun r => am_fchk (16 * 18 + r)) = true := by decide +kernel
