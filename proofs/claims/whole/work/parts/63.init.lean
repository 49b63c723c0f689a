/-! the constructors -/
section RNew
variable {M : am_M} {j : Nat} {ls st : List Value} {h : am_H} {Φ : Option Value → am_H → Prop}
theorem rnew {n n1 i len ci : Nat} {z : Nat × Value × List (Int32 × Nat)} {fs : List Value} (hi : am_ins M j = (.new i, len, ci, z)) (hn : h.2.1 = n) (e : n + 1 = n1) (hd : am_dfl ci = fs) (kk : ∀ h1 : am_H, h1.2.1 = n1 → h1.2.2 = h.2.2 + fs.length → h1.1 n1 = .inr (ci, fs) → (∀ k, k ≠ n1 → h1.1 k = h.1 k) → am_R M (j + 1, ls, .ref n1 :: st) h1 Φ) : am_R M (j, ls, st) h Φ := by
  subst hn e hd
  refine am_R_step (F' := (j + 1, ls, .ref (h.2.1 + 1) :: st)) (h' := am_push h (.inr (ci, am_dfl ci)) (am_dfl ci).length) (by rw [hi]; rfl) (by rw [hi]; rfl) ?_
  exact kk _ rfl rfl (if_pos rfl) (fun k hk => if_neg hk)
theorem rnar {n n1 m : Nat} {t : ArrayType} {z : Nat × Nat × Nat × Value × List (Int32 × Nat)} {ty : FieldType} {zf : Nat → vp_A} {x : Int32} (hi : am_ins M j = (.newarray t, z)) (ht : am_nat t = some (ty, zf)) (hx : x = nI m) (hm : m ≤ 100000) (hn : h.2.1 = n) (e : n + 1 = n1) (kk : ∀ h1 : am_H, h1.2.1 = n1 → h1.2.2 = h.2.2 + m → h1.1 n1 = .inl (ty, zf m) → (∀ k, k ≠ n1 → h1.1 k = h.1 k) → am_R M (j + 1, ls, .ref n1 :: st) h1 Φ) : am_R M (j, ls, .int x :: st) h Φ := by
  subst hn e hx
  refine am_R_step (F' := (j + 1, ls, .ref (h.2.1 + 1) :: st)) (h' := am_push h (.inl (ty, zf m)) m) (by rw [hi]; rfl) ?_ ?_
  · rw [hi]
    simp only [am_step, am_i1, ht]
    rw [nI_clamp (by omega), if_neg]
    rintro (a | a)
    · exact nI_pos (by omega) a
    · omega
  · exact kk _ rfl rfl (if_pos rfl) (fun k hk => if_neg hk)
theorem rnaa {n n1 m i len ci : Nat} {z : Nat × Value × List (Int32 × Nat)} {x : Int32} {C : String} (hi : am_ins M j = (.anewarray i, len, ci, z)) (hC : am_own ci = C) (hx : x = nI m) (hm : m ≤ 100000) (hn : h.2.1 = n) (e : n + 1 = n1) (kk : ∀ h1 : am_H, h1.2.1 = n1 → h1.2.2 = h.2.2 + m → h1.1 n1 = .inl (.object C, m, .inr (.inr (.inr (.inr (fun _ => none))))) → (∀ k, k ≠ n1 → h1.1 k = h.1 k) → am_R M (j + 1, ls, .ref n1 :: st) h1 Φ) : am_R M (j, ls, .int x :: st) h Φ := by
  subst hn e hx hC
  refine am_R_step (F' := (j + 1, ls, .ref (h.2.1 + 1) :: st)) (h' := am_push h (.inl (.object (am_own ci), m, .inr (.inr (.inr (.inr (fun _ => none)))))) m) (by rw [hi]; rfl) ?_ ?_
  · rw [hi]
    simp only [am_step, am_i1]
    rw [nI_clamp (by omega), if_neg]
    rintro (a | a)
    · exact nI_pos (by omega) a
    · omega
  · exact kk _ rfl rfl (if_pos rfl) (fun k hk => if_neg hk)
theorem rpt {n len ci k : Nat} {z : Value × List (Int32 × Nat)} {a : Nat} {fs fs' : List Value} {v : Value} (hi : am_ins M j = (.putfield n, len, ci, k, z)) (hc : h.1 a = .inr (ci, fs)) (hl : Nat.blt k fs.length = true) (hf : am_fit (am_fty ci k) v = true) (e : fs.set k v = fs') (kk : ∀ h1 : am_H, h1.2.1 = h.2.1 → h1.2.2 = h.2.2 → h1.1 a = .inr (ci, fs') → (∀ k, k ≠ a → h1.1 k = h.1 k) → am_R M (j + 1, ls, st) h1 Φ) : am_R M (j, ls, v :: .ref a :: st) h Φ := by
  subst e
  exact rput hi hc (Nat.le_of_ble_eq_true hl) hf (kk _ rfl rfl am_set_eq (fun k hk => am_set_ne hk))
theorem rao {a n k v ci : Nat} {z : Nat × Nat × Nat × Value × List (Int32 × Nat)} {C : String} {f : Nat → Option Nat} {x : Int32} {fs : List Value} (hi : am_ins M j = (.aastore, z)) (hc : h.1 a = .inl (.object C, n, .inr (.inr (.inr (.inr f))))) (hC : (C = "SpiteLine$Scene" ∧ ci = 6) ∨ (C = "SpiteLine$Image" ∧ ci = 3)) (hv : h.1 v = .inr (ci, fs)) (hx : x = nI k) (hk : k < n) (hn : n < 2 ^ 31) (kk : ∀ h1 : am_H, h1.2.1 = h.2.1 → h1.2.2 = h.2.2 → h1.1 a = .inl (.object C, n, .inr (.inr (.inr (.inr (va_up f k (some v)))))) → (∀ k, k ≠ a → h1.1 k = h.1 k) → am_R M (j + 1, ls, st) h1 Φ) : am_R M (j, ls, .ref v :: .int x :: .ref a :: st) h Φ := by
  subst hx
  have hin := vp_in_nI hk hn
  refine am_R_step (F' := (j + 1, ls, st)) (h' := am_set h a (.inl (.object C, n, .inr (.inr (.inr (.inr (va_up f k (some v)))))))) (by rw [hi]; rfl) ?_ (kk _ rfl rfl am_set_eq (fun k hk => am_set_ne hk))
  rw [hi]
  simp only [am_step, am_arq, hc, am_oc]
  rcases hC with ⟨rfl, rfl⟩ | ⟨rfl, rfl⟩
  · rw [if_pos rfl]
    simp only [am_obj, hv, if_true]
    rw [if_neg hin, nI_clamp (by omega)]
  · rw [if_neg (by decide), if_pos rfl]
    simp only [am_obj, hv, if_true]
    rw [if_neg hin, nI_clamp (by omega)]
end RNew
theorem df0 : am_dfl 0 = [.null, .null, .int 0] := rfl
theorem df1 : am_dfl 1 = [.null, .int 0, .int 0] := rfl
theorem df2 : am_dfl 2 = [.int 0] := rfl
theorem df3 : am_dfl 3 = [.null, .int 0, .int 0] := rfl
theorem df4 : am_dfl 4 = [.int 0, .int 0, .int 0, .null, .null] := rfl
theorem df5 : am_dfl 5 = [.null, .null, .int 0, .int 0, .int 0, .int 0] := rfl
theorem df6 : am_dfl 6 = [.null, .null, .int 0, .int 0, .int 0, .int 0, .int 0] := rfl
theorem df7 : am_dfl 7 = [.null, .int 0] := rfl
theorem df8 : am_dfl 8 = [.null, .null, .int 0, .null, .int 0] := rfl
theorem df9 : am_dfl 9 = [.null, .null, .null, .null, .null, .null, .null, .null, .null, .null, .null, .int 0] := rfl
theorem df10 : am_dfl 10 = [.null, .int 0, .int 0, .int 0, .int 0, .int 0, .int 0, .null, .null, .int 0, .int 0, .int 0, .int 0, .int 0, .int 0, .null, .null, .null, .null, .null, .null, .null, .int 0, .null, .long 0, .null, .null, .int 0, .null, .int 0, .null, .int 0, .null, .null, .null] := rfl
theorem n_Scene {h : am_H} {a : Nat} (hn : h.2.1 = a) (hc : h.1 a = .inr (6, [.null, .null, .int 0, .int 0, .int 0, .int 0, .int 0])) (ha : 0 < a) : am_T M_Scene_init [.ref a] h (fun r h' => r = none ∧ h'.2.1 = a + 2 ∧ h'.2.2 = h.2.2 + 16 ∧ h'.1 a = .inr (6, [.ref (a + 1), .ref (a + 2), .int 0, .int 0, .int 0, .int 0, .int 0]) ∧ h'.1 (a + 1) = .inl (.int, 8, .inl (fun _ => 0)) ∧ h'.1 (a + 2) = .inl (.int, 8, .inl (fun _ => 0)) ∧ ∀ k, (k < a ∨ a + 2 < k) → h'.1 k = h.1 k) := by
  (try unfold am_E); unfold am_T
  refine rs [] rfl rfl rfl rfl ?_
  refine rs [] rfl rfl rfl rfl ?_
  refine rs [] rfl rfl rfl rfl ?_
  refine rk rfl rfl ?_
  refine rnar (m := 8) (n1 := a + 1) rfl rfl (by decide) (by decide) hn rfl (fun h1 n1 w1 c1 f1 => ?_)
  refine rpt (fs' := [.ref (a + 1), .null, .int 0, .int 0, .int 0, .int 0, .int 0]) rfl ((f1 _ (by omega)).trans (hc)) rfl rfl rfl (fun h2 n2 w2 c2 f2 => ?_)
  have m2 := n2.trans n1
  refine rs [] rfl rfl rfl rfl ?_
  refine rk rfl rfl ?_
  refine rnar (m := 8) (n1 := a + 2) rfl rfl (by decide) (by decide) m2 rfl (fun h3 n3 w3 c3 f3 => ?_)
  refine rpt (fs' := [.ref (a + 1), .ref (a + 2), .int 0, .int 0, .int 0, .int 0, .int 0]) rfl ((f3 _ (by omega)).trans (c2)) rfl rfl rfl (fun h4 n4 w4 c4 f4 => ?_)
  have m4 := n4.trans n3
  refine rs [] rfl rfl rfl rfl ?_
  refine rk rfl rfl ?_
  refine rpt (fs' := [.ref (a + 1), .ref (a + 2), .int 0, .int 0, .int 0, .int 0, .int 0]) rfl (c4) rfl rfl rfl (fun h5 n5 w5 c5 f5 => ?_)
  have m5 := n5.trans m4
  refine rs [] rfl rfl rfl rfl ?_
  refine rk rfl rfl ?_
  refine rpt (fs' := [.ref (a + 1), .ref (a + 2), .int 0, .int 0, .int 0, .int 0, .int 0]) rfl (c5) rfl rfl rfl (fun h6 n6 w6 c6 f6 => ?_)
  have m6 := n6.trans m5
  refine rs [] rfl rfl rfl rfl ?_
  refine rk rfl rfl ?_
  refine rpt (fs' := [.ref (a + 1), .ref (a + 2), .int 0, .int 0, .int 0, .int 0, .int 0]) rfl (c6) rfl rfl rfl (fun h7 n7 w7 c7 f7 => ?_)
  have m7 := n7.trans m6
  refine rs [] rfl rfl rfl rfl ?_
  refine rk rfl rfl ?_
  refine rpt (fs' := [.ref (a + 1), .ref (a + 2), .int 0, .int 0, .int 0, .int 0, .int 0]) rfl (c7) rfl rfl rfl (fun h8 n8 w8 c8 f8 => ?_)
  have m8 := n8.trans m7
  refine rs [] rfl rfl rfl rfl ?_
  refine rk rfl rfl ?_
  refine rpt (fs' := [.ref (a + 1), .ref (a + 2), .int 0, .int 0, .int 0, .int 0, .int 0]) rfl (c8) rfl rfl rfl (fun h9 n9 w9 c9 f9 => ?_)
  have m9 := n9.trans m8
  refine rret rfl rfl ⟨rfl, ?_⟩
  exact ⟨m9, by omega, c9, (f9 _ (by omega)).trans ((f8 _ (by omega)).trans ((f7 _ (by omega)).trans ((f6 _ (by omega)).trans ((f5 _ (by omega)).trans ((f4 _ (by omega)).trans ((f3 _ (by omega)).trans ((f2 _ (by omega)).trans (c1)))))))), (f9 _ (by omega)).trans ((f8 _ (by omega)).trans ((f7 _ (by omega)).trans ((f6 _ (by omega)).trans ((f5 _ (by omega)).trans ((f4 _ (by omega)).trans (c3)))))), fun k hk => ((f9 k (by omega)).trans ((f8 k (by omega)).trans ((f7 k (by omega)).trans ((f6 k (by omega)).trans ((f5 k (by omega)).trans ((f4 k (by omega)).trans ((f3 k (by omega)).trans ((f2 k (by omega)).trans ((f1 k (by omega)).trans (rfl))))))))))⟩
theorem n_Line {h : am_H} {a : Nat} (hn : h.2.1 = a) (hc : h.1 a = .inr (4, [.int 0, .int 0, .int 0, .null, .null])) (ha : 0 < a) : am_T M_Line_init [.ref a] h (fun r h' => r = none ∧ h'.2.1 = a + 2 ∧ h'.2.2 = h.2.2 + 16 ∧ h'.1 a = .inr (4, [.int 0, .int 0, .int 0, .ref (a + 1), .ref (a + 2)]) ∧ h'.1 (a + 1) = .inl (.int, 8, .inl (fun _ => 0)) ∧ h'.1 (a + 2) = .inl (.int, 8, .inl (fun _ => 0)) ∧ ∀ k, (k < a ∨ a + 2 < k) → h'.1 k = h.1 k) := by
  (try unfold am_E); unfold am_T
  refine rs [] rfl rfl rfl rfl ?_
  refine rs [] rfl rfl rfl rfl ?_
  refine rs [] rfl rfl rfl rfl ?_
  refine rk rfl rfl ?_
  refine rpt (fs' := [.int 0, .int 0, .int 0, .null, .null]) rfl (hc) rfl rfl rfl (fun h1 n1 w1 c1 f1 => ?_)
  have m1 := n1.trans hn
  refine rs [] rfl rfl rfl rfl ?_
  refine rk rfl rfl ?_
  refine rpt (fs' := [.int 0, .int 0, .int 0, .null, .null]) rfl (c1) rfl rfl rfl (fun h2 n2 w2 c2 f2 => ?_)
  have m2 := n2.trans m1
  refine rs [] rfl rfl rfl rfl ?_
  refine rk rfl rfl ?_
  refine rpt (fs' := [.int 0, .int 0, .int 0, .null, .null]) rfl (c2) rfl rfl rfl (fun h3 n3 w3 c3 f3 => ?_)
  have m3 := n3.trans m2
  refine rs [] rfl rfl rfl rfl ?_
  refine rk rfl rfl ?_
  refine rnar (m := 8) (n1 := a + 1) rfl rfl (by decide) (by decide) m3 rfl (fun h4 n4 w4 c4 f4 => ?_)
  refine rpt (fs' := [.int 0, .int 0, .int 0, .ref (a + 1), .null]) rfl ((f4 _ (by omega)).trans (c3)) rfl rfl rfl (fun h5 n5 w5 c5 f5 => ?_)
  have m5 := n5.trans n4
  refine rs [] rfl rfl rfl rfl ?_
  refine rk rfl rfl ?_
  refine rnar (m := 8) (n1 := a + 2) rfl rfl (by decide) (by decide) m5 rfl (fun h6 n6 w6 c6 f6 => ?_)
  refine rpt (fs' := [.int 0, .int 0, .int 0, .ref (a + 1), .ref (a + 2)]) rfl ((f6 _ (by omega)).trans (c5)) rfl rfl rfl (fun h7 n7 w7 c7 f7 => ?_)
  have m7 := n7.trans n6
  refine rret rfl rfl ⟨rfl, ?_⟩
  exact ⟨m7, by omega, c7, (f7 _ (by omega)).trans ((f6 _ (by omega)).trans ((f5 _ (by omega)).trans (c4))), (f7 _ (by omega)).trans (c6), fun k hk => ((f7 k (by omega)).trans ((f6 k (by omega)).trans ((f5 k (by omega)).trans ((f4 k (by omega)).trans ((f3 k (by omega)).trans ((f2 k (by omega)).trans ((f1 k (by omega)).trans (rfl))))))))⟩
theorem n_Text {h : am_H} {a : Nat} (hn : h.2.1 = a) (hc : h.1 a = .inr (7, [.null, .int 0])) (ha : 0 < a) : am_T M_Text_init [.ref a] h (fun r h' => r = none ∧ h'.2.1 = a + 1 ∧ h'.2.2 = h.2.2 + 200 ∧ h'.1 a = .inr (7, [.ref (a + 1), .int 0]) ∧ h'.1 (a + 1) = .inl (.int, 200, .inl (fun _ => 0)) ∧ ∀ k, (k < a ∨ a + 1 < k) → h'.1 k = h.1 k) := by
  (try unfold am_E); unfold am_T
  refine rs [] rfl rfl rfl rfl ?_
  refine rs [] rfl rfl rfl rfl ?_
  refine rs [] rfl rfl rfl rfl ?_
  refine rk rfl rfl ?_
  refine rnar (m := 200) (n1 := a + 1) rfl rfl (by decide) (by decide) hn rfl (fun h1 n1 w1 c1 f1 => ?_)
  refine rpt (fs' := [.ref (a + 1), .int 0]) rfl ((f1 _ (by omega)).trans (hc)) rfl rfl rfl (fun h2 n2 w2 c2 f2 => ?_)
  have m2 := n2.trans n1
  refine rs [] rfl rfl rfl rfl ?_
  refine rk rfl rfl ?_
  refine rpt (fs' := [.ref (a + 1), .int 0]) rfl (c2) rfl rfl rfl (fun h3 n3 w3 c3 f3 => ?_)
  have m3 := n3.trans m2
  refine rret rfl rfl ⟨rfl, ?_⟩
  exact ⟨m3, by omega, c3, (f3 _ (by omega)).trans ((f2 _ (by omega)).trans (c1)), fun k hk => ((f3 k (by omega)).trans ((f2 k (by omega)).trans ((f1 k (by omega)).trans (rfl))))⟩
theorem n_Witness {h : am_H} {a : Nat} (hn : h.2.1 = a) (hc : h.1 a = .inr (8, [.null, .null, .int 0, .null, .int 0])) (ha : 0 < a) : am_T M_Witness_init [.ref a] h (fun r h' => r = none ∧ h'.2.1 = a + 3 ∧ h'.2.2 = h.2.2 + 53 ∧ h'.1 a = .inr (8, [.ref (a + 1), .ref (a + 2), .int 0, .ref (a + 3), .int 0]) ∧ h'.1 (a + 1) = .inl (.int, 8, .inl (fun _ => 0)) ∧ h'.1 (a + 2) = .inl (.boolean, 8, .inl (fun _ => 0)) ∧ h'.1 (a + 3) = .inl (.int, 37, .inl (fun _ => 0)) ∧ ∀ k, (k < a ∨ a + 3 < k) → h'.1 k = h.1 k) := by
  (try unfold am_E); unfold am_T
  refine rs [] rfl rfl rfl rfl ?_
  refine rs [] rfl rfl rfl rfl ?_
  refine rs [] rfl rfl rfl rfl ?_
  refine rk rfl rfl ?_
  refine rnar (m := 8) (n1 := a + 1) rfl rfl (by decide) (by decide) hn rfl (fun h1 n1 w1 c1 f1 => ?_)
  refine rpt (fs' := [.ref (a + 1), .null, .int 0, .null, .int 0]) rfl ((f1 _ (by omega)).trans (hc)) rfl rfl rfl (fun h2 n2 w2 c2 f2 => ?_)
  have m2 := n2.trans n1
  refine rs [] rfl rfl rfl rfl ?_
  refine rk rfl rfl ?_
  refine rnar (m := 8) (n1 := a + 2) rfl rfl (by decide) (by decide) m2 rfl (fun h3 n3 w3 c3 f3 => ?_)
  refine rpt (fs' := [.ref (a + 1), .ref (a + 2), .int 0, .null, .int 0]) rfl ((f3 _ (by omega)).trans (c2)) rfl rfl rfl (fun h4 n4 w4 c4 f4 => ?_)
  have m4 := n4.trans n3
  refine rs [] rfl rfl rfl rfl ?_
  refine rk rfl rfl ?_
  refine rpt (fs' := [.ref (a + 1), .ref (a + 2), .int 0, .null, .int 0]) rfl (c4) rfl rfl rfl (fun h5 n5 w5 c5 f5 => ?_)
  have m5 := n5.trans m4
  refine rs [] rfl rfl rfl rfl ?_
  refine rk rfl rfl ?_
  refine rnar (m := 37) (n1 := a + 3) rfl rfl (by decide) (by decide) m5 rfl (fun h6 n6 w6 c6 f6 => ?_)
  refine rpt (fs' := [.ref (a + 1), .ref (a + 2), .int 0, .ref (a + 3), .int 0]) rfl ((f6 _ (by omega)).trans (c5)) rfl rfl rfl (fun h7 n7 w7 c7 f7 => ?_)
  have m7 := n7.trans n6
  refine rs [] rfl rfl rfl rfl ?_
  refine rk rfl rfl ?_
  refine rpt (fs' := [.ref (a + 1), .ref (a + 2), .int 0, .ref (a + 3), .int 0]) rfl (c7) rfl rfl rfl (fun h8 n8 w8 c8 f8 => ?_)
  have m8 := n8.trans m7
  refine rret rfl rfl ⟨rfl, ?_⟩
  exact ⟨m8, by omega, c8, (f8 _ (by omega)).trans ((f7 _ (by omega)).trans ((f6 _ (by omega)).trans ((f5 _ (by omega)).trans ((f4 _ (by omega)).trans ((f3 _ (by omega)).trans ((f2 _ (by omega)).trans (c1))))))), (f8 _ (by omega)).trans ((f7 _ (by omega)).trans ((f6 _ (by omega)).trans ((f5 _ (by omega)).trans ((f4 _ (by omega)).trans (c3))))), (f8 _ (by omega)).trans ((f7 _ (by omega)).trans (c6)), fun k hk => ((f8 k (by omega)).trans ((f7 k (by omega)).trans ((f6 k (by omega)).trans ((f5 k (by omega)).trans ((f4 k (by omega)).trans ((f3 k (by omega)).trans ((f2 k (by omega)).trans ((f1 k (by omega)).trans (rfl)))))))))⟩
theorem n_Book {h : am_H} {a : Nat} (hn : h.2.1 = a) (hc : h.1 a = .inr (0, [.null, .null, .int 0])) (ha : 0 < a) : am_T M_Book_init [.ref a] h (fun r h' => r = none ∧ h'.2.1 = a + 2 ∧ h'.2.2 = h.2.2 + 40 ∧ h'.1 a = .inr (0, [.ref (a + 1), .ref (a + 2), .int 0]) ∧ h'.1 (a + 1) = .inl (.int, 20, .inl (fun _ => 0)) ∧ h'.1 (a + 2) = .inl (.int, 20, .inl (fun _ => 0)) ∧ ∀ k, (k < a ∨ a + 2 < k) → h'.1 k = h.1 k) := by
  (try unfold am_E); unfold am_T
  refine rs [] rfl rfl rfl rfl ?_
  refine rs [] rfl rfl rfl rfl ?_
  refine rs [] rfl rfl rfl rfl ?_
  refine rk rfl rfl ?_
  refine rnar (m := 20) (n1 := a + 1) rfl rfl (by decide) (by decide) hn rfl (fun h1 n1 w1 c1 f1 => ?_)
  refine rpt (fs' := [.ref (a + 1), .null, .int 0]) rfl ((f1 _ (by omega)).trans (hc)) rfl rfl rfl (fun h2 n2 w2 c2 f2 => ?_)
  have m2 := n2.trans n1
  refine rs [] rfl rfl rfl rfl ?_
  refine rk rfl rfl ?_
  refine rnar (m := 20) (n1 := a + 2) rfl rfl (by decide) (by decide) m2 rfl (fun h3 n3 w3 c3 f3 => ?_)
  refine rpt (fs' := [.ref (a + 1), .ref (a + 2), .int 0]) rfl ((f3 _ (by omega)).trans (c2)) rfl rfl rfl (fun h4 n4 w4 c4 f4 => ?_)
  have m4 := n4.trans n3
  refine rs [] rfl rfl rfl rfl ?_
  refine rk rfl rfl ?_
  refine rpt (fs' := [.ref (a + 1), .ref (a + 2), .int 0]) rfl (c4) rfl rfl rfl (fun h5 n5 w5 c5 f5 => ?_)
  have m5 := n5.trans m4
  refine rret rfl rfl ⟨rfl, ?_⟩
  exact ⟨m5, by omega, c5, (f5 _ (by omega)).trans ((f4 _ (by omega)).trans ((f3 _ (by omega)).trans ((f2 _ (by omega)).trans (c1)))), (f5 _ (by omega)).trans ((f4 _ (by omega)).trans (c3)), fun k hk => ((f5 k (by omega)).trans ((f4 k (by omega)).trans ((f3 k (by omega)).trans ((f2 k (by omega)).trans ((f1 k (by omega)).trans (rfl))))))⟩
theorem n_Draws {h : am_H} {a : Nat} (hn : h.2.1 = a) (hc : h.1 a = .inr (2, [.int 0])) (ha : 0 < a) : am_T M_Draws_init [.ref a] h (fun r h' => r = none ∧ h'.2.1 = a + 0 ∧ h'.2.2 = h.2.2 + 0 ∧ h'.1 a = .inr (2, [.int 0]) ∧ ∀ k, (k < a ∨ a + 0 < k) → h'.1 k = h.1 k) := by
  (try unfold am_E); unfold am_T
  refine rs [] rfl rfl rfl rfl ?_
  refine rs [] rfl rfl rfl rfl ?_
  refine rs [] rfl rfl rfl rfl ?_
  refine rk rfl rfl ?_
  refine rpt (fs' := [.int 0]) rfl (hc) rfl rfl rfl (fun h1 n1 w1 c1 f1 => ?_)
  have m1 := n1.trans hn
  refine rret rfl rfl ⟨rfl, ?_⟩
  exact ⟨m1, by omega, c1, fun k hk => ((f1 k (by omega)).trans (rfl))⟩
theorem ne_lt {k n x : Nat} (h : k < n) (hx : n ≤ x) : k ≠ x := by omega
theorem ne_out {k lo hi x : Nat} (h : k < lo ∨ hi < k) (a : lo ≤ x) (b : x ≤ hi) : k ≠ x := by omega
set_option maxHeartbeats 4000000 in
theorem n_Mo {h : am_H} (hn : h.2.1 = 130) (hc : h.1 130 = .inr (10, [.null, .int 0, .int 0, .int 0, .int 0, .int 0, .int 0, .null, .null, .int 0, .int 0, .int 0, .int 0, .int 0, .int 0, .null, .null, .null, .null, .null, .null, .null, .int 0, .null, .long 0, .null, .null, .int 0, .null, .int 0, .null, .int 0, .null, .null, .null])) : am_T M_Mo_init [.ref 130] h (fun r h' => r = none ∧ h'.2.1 = 148 ∧ h'.2.2 = h.2.2 + 1576 ∧ h'.1 130 = .inr (10, [.ref 131, .int 0, .int (-1), .int 0, .int 0, .int 0, .int 0, .ref 132, .ref 133, .int 0, .int 0, .int 0, .int 0, .int 0, .int 0, .ref 134, .ref 135, .ref 136, .ref 137, .ref 138, .ref 139, .ref 140, .int 0, .ref 141, .long 0, .ref 142, .ref 143, .int 0, .ref 144, .int 0, .ref 145, .int 0, .ref 146, .ref 147, .ref 148]) ∧ h'.1 131 = .inl (.int, 200, .inl (fun _ => 0)) ∧ h'.1 132 = .inl (.int, 3, .inl (fun _ => 0)) ∧ h'.1 133 = .inl (.int, 40, .inl (fun _ => 0)) ∧ h'.1 134 = .inl (.int, 8, .inl (fun _ => 0)) ∧ h'.1 135 = .inl (.int, 8, .inl (fun _ => 0)) ∧ h'.1 136 = .inl (.int, 8, .inl (fun _ => 0)) ∧ h'.1 137 = .inl (.int, 8, .inl (fun _ => 0)) ∧ h'.1 138 = .inl (.int, 8, .inl (fun _ => 0)) ∧ h'.1 139 = .inl (.int, 8, .inl (fun _ => 0)) ∧ h'.1 140 = .inl (.int, 1080, .inl (fun _ => 0)) ∧ h'.1 141 = .inl (.int, 36, .inl (fun _ => 0)) ∧ h'.1 142 = .inl (.int, 8, .inl (fun _ => 0)) ∧ h'.1 143 = .inl (.int, 8, .inl (fun _ => 0)) ∧ h'.1 144 = .inl (.int, 37, .inl (fun _ => 0)) ∧ h'.1 145 = .inl (.int, 40, .inl (fun _ => 0)) ∧ h'.1 146 = .inl (.int, 72, .inl (fun _ => 0)) ∧ h'.1 147 = .inl (.long, 2, .inr (.inl (fun _ => 0))) ∧ h'.1 148 = .inl (.int, 2, .inl (fun _ => 0)) ∧ ∀ k, (k < 130 ∨ 148 < k) → h'.1 k = h.1 k) := by
  (try unfold am_E); unfold am_T
  refine rs [] rfl rfl rfl rfl ?_
  refine rs [] rfl rfl rfl rfl ?_
  refine rs [] rfl rfl rfl rfl ?_
  refine rk rfl rfl ?_
  refine rnar (m := 200) (n1 := 131) rfl rfl (by decide) (by decide) hn rfl (fun h1 n1 w1 c1 f1 => ?_)
  refine rpt (fs' := [.ref 131, .int 0, .int 0, .int 0, .int 0, .int 0, .int 0, .null, .null, .int 0, .int 0, .int 0, .int 0, .int 0, .int 0, .null, .null, .null, .null, .null, .null, .null, .int 0, .null, .long 0, .null, .null, .int 0, .null, .int 0, .null, .int 0, .null, .null, .null]) rfl ((f1 _ (by decide)).trans (hc)) rfl rfl rfl (fun h2 n2 w2 c2 f2 => ?_)
  have m2 := n2.trans n1
  refine rs [] rfl rfl rfl rfl ?_
  refine rk rfl rfl ?_
  refine rnar (m := 3) (n1 := 132) rfl rfl (by decide) (by decide) m2 rfl (fun h3 n3 w3 c3 f3 => ?_)
  refine rpt (fs' := [.ref 131, .int 0, .int 0, .int 0, .int 0, .int 0, .int 0, .ref 132, .null, .int 0, .int 0, .int 0, .int 0, .int 0, .int 0, .null, .null, .null, .null, .null, .null, .null, .int 0, .null, .long 0, .null, .null, .int 0, .null, .int 0, .null, .int 0, .null, .null, .null]) rfl ((f3 _ (by decide)).trans (c2)) rfl rfl rfl (fun h4 n4 w4 c4 f4 => ?_)
  have m4 := n4.trans n3
  refine rs [] rfl rfl rfl rfl ?_
  refine rk rfl rfl ?_
  refine rnar (m := 40) (n1 := 133) rfl rfl (by decide) (by decide) m4 rfl (fun h5 n5 w5 c5 f5 => ?_)
  refine rpt (fs' := [.ref 131, .int 0, .int 0, .int 0, .int 0, .int 0, .int 0, .ref 132, .ref 133, .int 0, .int 0, .int 0, .int 0, .int 0, .int 0, .null, .null, .null, .null, .null, .null, .null, .int 0, .null, .long 0, .null, .null, .int 0, .null, .int 0, .null, .int 0, .null, .null, .null]) rfl ((f5 _ (by decide)).trans (c4)) rfl rfl rfl (fun h6 n6 w6 c6 f6 => ?_)
  have m6 := n6.trans n5
  refine rs [] rfl rfl rfl rfl ?_
  refine rk rfl rfl ?_
  refine rnar (m := 8) (n1 := 134) rfl rfl (by decide) (by decide) m6 rfl (fun h7 n7 w7 c7 f7 => ?_)
  refine rpt (fs' := [.ref 131, .int 0, .int 0, .int 0, .int 0, .int 0, .int 0, .ref 132, .ref 133, .int 0, .int 0, .int 0, .int 0, .int 0, .int 0, .ref 134, .null, .null, .null, .null, .null, .null, .int 0, .null, .long 0, .null, .null, .int 0, .null, .int 0, .null, .int 0, .null, .null, .null]) rfl ((f7 _ (by decide)).trans (c6)) rfl rfl rfl (fun h8 n8 w8 c8 f8 => ?_)
  have m8 := n8.trans n7
  refine rs [] rfl rfl rfl rfl ?_
  refine rk rfl rfl ?_
  refine rnar (m := 8) (n1 := 135) rfl rfl (by decide) (by decide) m8 rfl (fun h9 n9 w9 c9 f9 => ?_)
  refine rpt (fs' := [.ref 131, .int 0, .int 0, .int 0, .int 0, .int 0, .int 0, .ref 132, .ref 133, .int 0, .int 0, .int 0, .int 0, .int 0, .int 0, .ref 134, .ref 135, .null, .null, .null, .null, .null, .int 0, .null, .long 0, .null, .null, .int 0, .null, .int 0, .null, .int 0, .null, .null, .null]) rfl ((f9 _ (by decide)).trans (c8)) rfl rfl rfl (fun h10 n10 w10 c10 f10 => ?_)
  have m10 := n10.trans n9
  refine rs [] rfl rfl rfl rfl ?_
  refine rk rfl rfl ?_
  refine rnar (m := 8) (n1 := 136) rfl rfl (by decide) (by decide) m10 rfl (fun h11 n11 w11 c11 f11 => ?_)
  refine rpt (fs' := [.ref 131, .int 0, .int 0, .int 0, .int 0, .int 0, .int 0, .ref 132, .ref 133, .int 0, .int 0, .int 0, .int 0, .int 0, .int 0, .ref 134, .ref 135, .ref 136, .null, .null, .null, .null, .int 0, .null, .long 0, .null, .null, .int 0, .null, .int 0, .null, .int 0, .null, .null, .null]) rfl ((f11 _ (by decide)).trans (c10)) rfl rfl rfl (fun h12 n12 w12 c12 f12 => ?_)
  have m12 := n12.trans n11
  refine rs [] rfl rfl rfl rfl ?_
  refine rk rfl rfl ?_
  refine rnar (m := 8) (n1 := 137) rfl rfl (by decide) (by decide) m12 rfl (fun h13 n13 w13 c13 f13 => ?_)
  refine rpt (fs' := [.ref 131, .int 0, .int 0, .int 0, .int 0, .int 0, .int 0, .ref 132, .ref 133, .int 0, .int 0, .int 0, .int 0, .int 0, .int 0, .ref 134, .ref 135, .ref 136, .ref 137, .null, .null, .null, .int 0, .null, .long 0, .null, .null, .int 0, .null, .int 0, .null, .int 0, .null, .null, .null]) rfl ((f13 _ (by decide)).trans (c12)) rfl rfl rfl (fun h14 n14 w14 c14 f14 => ?_)
  have m14 := n14.trans n13
  refine rs [] rfl rfl rfl rfl ?_
  refine rk rfl rfl ?_
  refine rnar (m := 8) (n1 := 138) rfl rfl (by decide) (by decide) m14 rfl (fun h15 n15 w15 c15 f15 => ?_)
  refine rpt (fs' := [.ref 131, .int 0, .int 0, .int 0, .int 0, .int 0, .int 0, .ref 132, .ref 133, .int 0, .int 0, .int 0, .int 0, .int 0, .int 0, .ref 134, .ref 135, .ref 136, .ref 137, .ref 138, .null, .null, .int 0, .null, .long 0, .null, .null, .int 0, .null, .int 0, .null, .int 0, .null, .null, .null]) rfl ((f15 _ (by decide)).trans (c14)) rfl rfl rfl (fun h16 n16 w16 c16 f16 => ?_)
  have m16 := n16.trans n15
  refine rs [] rfl rfl rfl rfl ?_
  refine rk rfl rfl ?_
  refine rnar (m := 8) (n1 := 139) rfl rfl (by decide) (by decide) m16 rfl (fun h17 n17 w17 c17 f17 => ?_)
  refine rpt (fs' := [.ref 131, .int 0, .int 0, .int 0, .int 0, .int 0, .int 0, .ref 132, .ref 133, .int 0, .int 0, .int 0, .int 0, .int 0, .int 0, .ref 134, .ref 135, .ref 136, .ref 137, .ref 138, .ref 139, .null, .int 0, .null, .long 0, .null, .null, .int 0, .null, .int 0, .null, .int 0, .null, .null, .null]) rfl ((f17 _ (by decide)).trans (c16)) rfl rfl rfl (fun h18 n18 w18 c18 f18 => ?_)
  have m18 := n18.trans n17
  refine rs [] rfl rfl rfl rfl ?_
  refine rk rfl rfl ?_
  refine rnar (m := 1080) (n1 := 140) rfl rfl (by decide) (by decide) m18 rfl (fun h19 n19 w19 c19 f19 => ?_)
  refine rpt (fs' := [.ref 131, .int 0, .int 0, .int 0, .int 0, .int 0, .int 0, .ref 132, .ref 133, .int 0, .int 0, .int 0, .int 0, .int 0, .int 0, .ref 134, .ref 135, .ref 136, .ref 137, .ref 138, .ref 139, .ref 140, .int 0, .null, .long 0, .null, .null, .int 0, .null, .int 0, .null, .int 0, .null, .null, .null]) rfl ((f19 _ (by decide)).trans (c18)) rfl rfl rfl (fun h20 n20 w20 c20 f20 => ?_)
  have m20 := n20.trans n19
  refine rs [] rfl rfl rfl rfl ?_
  refine rk rfl rfl ?_
  refine rnar (m := 36) (n1 := 141) rfl rfl (by decide) (by decide) m20 rfl (fun h21 n21 w21 c21 f21 => ?_)
  refine rpt (fs' := [.ref 131, .int 0, .int 0, .int 0, .int 0, .int 0, .int 0, .ref 132, .ref 133, .int 0, .int 0, .int 0, .int 0, .int 0, .int 0, .ref 134, .ref 135, .ref 136, .ref 137, .ref 138, .ref 139, .ref 140, .int 0, .ref 141, .long 0, .null, .null, .int 0, .null, .int 0, .null, .int 0, .null, .null, .null]) rfl ((f21 _ (by decide)).trans (c20)) rfl rfl rfl (fun h22 n22 w22 c22 f22 => ?_)
  have m22 := n22.trans n21
  refine rs [] rfl rfl rfl rfl ?_
  refine rk rfl rfl ?_
  refine rnar (m := 8) (n1 := 142) rfl rfl (by decide) (by decide) m22 rfl (fun h23 n23 w23 c23 f23 => ?_)
  refine rpt (fs' := [.ref 131, .int 0, .int 0, .int 0, .int 0, .int 0, .int 0, .ref 132, .ref 133, .int 0, .int 0, .int 0, .int 0, .int 0, .int 0, .ref 134, .ref 135, .ref 136, .ref 137, .ref 138, .ref 139, .ref 140, .int 0, .ref 141, .long 0, .ref 142, .null, .int 0, .null, .int 0, .null, .int 0, .null, .null, .null]) rfl ((f23 _ (by decide)).trans (c22)) rfl rfl rfl (fun h24 n24 w24 c24 f24 => ?_)
  have m24 := n24.trans n23
  refine rs [] rfl rfl rfl rfl ?_
  refine rk rfl rfl ?_
  refine rnar (m := 8) (n1 := 143) rfl rfl (by decide) (by decide) m24 rfl (fun h25 n25 w25 c25 f25 => ?_)
  refine rpt (fs' := [.ref 131, .int 0, .int 0, .int 0, .int 0, .int 0, .int 0, .ref 132, .ref 133, .int 0, .int 0, .int 0, .int 0, .int 0, .int 0, .ref 134, .ref 135, .ref 136, .ref 137, .ref 138, .ref 139, .ref 140, .int 0, .ref 141, .long 0, .ref 142, .ref 143, .int 0, .null, .int 0, .null, .int 0, .null, .null, .null]) rfl ((f25 _ (by decide)).trans (c24)) rfl rfl rfl (fun h26 n26 w26 c26 f26 => ?_)
  have m26 := n26.trans n25
  refine rs [] rfl rfl rfl rfl ?_
  refine rk rfl rfl ?_
  refine rnar (m := 37) (n1 := 144) rfl rfl (by decide) (by decide) m26 rfl (fun h27 n27 w27 c27 f27 => ?_)
  refine rpt (fs' := [.ref 131, .int 0, .int 0, .int 0, .int 0, .int 0, .int 0, .ref 132, .ref 133, .int 0, .int 0, .int 0, .int 0, .int 0, .int 0, .ref 134, .ref 135, .ref 136, .ref 137, .ref 138, .ref 139, .ref 140, .int 0, .ref 141, .long 0, .ref 142, .ref 143, .int 0, .ref 144, .int 0, .null, .int 0, .null, .null, .null]) rfl ((f27 _ (by decide)).trans (c26)) rfl rfl rfl (fun h28 n28 w28 c28 f28 => ?_)
  have m28 := n28.trans n27
  refine rs [] rfl rfl rfl rfl ?_
  refine rk rfl rfl ?_
  refine rnar (m := 40) (n1 := 145) rfl rfl (by decide) (by decide) m28 rfl (fun h29 n29 w29 c29 f29 => ?_)
  refine rpt (fs' := [.ref 131, .int 0, .int 0, .int 0, .int 0, .int 0, .int 0, .ref 132, .ref 133, .int 0, .int 0, .int 0, .int 0, .int 0, .int 0, .ref 134, .ref 135, .ref 136, .ref 137, .ref 138, .ref 139, .ref 140, .int 0, .ref 141, .long 0, .ref 142, .ref 143, .int 0, .ref 144, .int 0, .ref 145, .int 0, .null, .null, .null]) rfl ((f29 _ (by decide)).trans (c28)) rfl rfl rfl (fun h30 n30 w30 c30 f30 => ?_)
  have m30 := n30.trans n29
  refine rs [] rfl rfl rfl rfl ?_
  refine rk rfl rfl ?_
  refine rnar (m := 72) (n1 := 146) rfl rfl (by decide) (by decide) m30 rfl (fun h31 n31 w31 c31 f31 => ?_)
  refine rpt (fs' := [.ref 131, .int 0, .int 0, .int 0, .int 0, .int 0, .int 0, .ref 132, .ref 133, .int 0, .int 0, .int 0, .int 0, .int 0, .int 0, .ref 134, .ref 135, .ref 136, .ref 137, .ref 138, .ref 139, .ref 140, .int 0, .ref 141, .long 0, .ref 142, .ref 143, .int 0, .ref 144, .int 0, .ref 145, .int 0, .ref 146, .null, .null]) rfl ((f31 _ (by decide)).trans (c30)) rfl rfl rfl (fun h32 n32 w32 c32 f32 => ?_)
  have m32 := n32.trans n31
  refine rs [] rfl rfl rfl rfl ?_
  refine rk rfl rfl ?_
  refine rnar (m := 2) (n1 := 147) rfl rfl (by decide) (by decide) m32 rfl (fun h33 n33 w33 c33 f33 => ?_)
  refine rpt (fs' := [.ref 131, .int 0, .int 0, .int 0, .int 0, .int 0, .int 0, .ref 132, .ref 133, .int 0, .int 0, .int 0, .int 0, .int 0, .int 0, .ref 134, .ref 135, .ref 136, .ref 137, .ref 138, .ref 139, .ref 140, .int 0, .ref 141, .long 0, .ref 142, .ref 143, .int 0, .ref 144, .int 0, .ref 145, .int 0, .ref 146, .ref 147, .null]) rfl ((f33 _ (by decide)).trans (c32)) rfl rfl rfl (fun h34 n34 w34 c34 f34 => ?_)
  have m34 := n34.trans n33
  refine rs [] rfl rfl rfl rfl ?_
  refine rk rfl rfl ?_
  refine rnar (m := 2) (n1 := 148) rfl rfl (by decide) (by decide) m34 rfl (fun h35 n35 w35 c35 f35 => ?_)
  refine rpt (fs' := [.ref 131, .int 0, .int 0, .int 0, .int 0, .int 0, .int 0, .ref 132, .ref 133, .int 0, .int 0, .int 0, .int 0, .int 0, .int 0, .ref 134, .ref 135, .ref 136, .ref 137, .ref 138, .ref 139, .ref 140, .int 0, .ref 141, .long 0, .ref 142, .ref 143, .int 0, .ref 144, .int 0, .ref 145, .int 0, .ref 146, .ref 147, .ref 148]) rfl ((f35 _ (by decide)).trans (c34)) rfl rfl rfl (fun h36 n36 w36 c36 f36 => ?_)
  have m36 := n36.trans n35
  refine rs [] rfl rfl rfl rfl ?_
  refine rk rfl rfl ?_
  refine rpt (fs' := [.ref 131, .int 0, .int (-1), .int 0, .int 0, .int 0, .int 0, .ref 132, .ref 133, .int 0, .int 0, .int 0, .int 0, .int 0, .int 0, .ref 134, .ref 135, .ref 136, .ref 137, .ref 138, .ref 139, .ref 140, .int 0, .ref 141, .long 0, .ref 142, .ref 143, .int 0, .ref 144, .int 0, .ref 145, .int 0, .ref 146, .ref 147, .ref 148]) rfl (c36) rfl rfl rfl (fun h37 n37 w37 c37 f37 => ?_)
  have m37 := n37.trans m36
  refine rret rfl rfl ⟨rfl, ?_⟩
  exact ⟨m37, by omega, c37, (f37 _ (by decide)).trans ((f36 _ (by decide)).trans ((f35 _ (by decide)).trans ((f34 _ (by decide)).trans ((f33 _ (by decide)).trans ((f32 _ (by decide)).trans ((f31 _ (by decide)).trans ((f30 _ (by decide)).trans ((f29 _ (by decide)).trans ((f28 _ (by decide)).trans ((f27 _ (by decide)).trans ((f26 _ (by decide)).trans ((f25 _ (by decide)).trans ((f24 _ (by decide)).trans ((f23 _ (by decide)).trans ((f22 _ (by decide)).trans ((f21 _ (by decide)).trans ((f20 _ (by decide)).trans ((f19 _ (by decide)).trans ((f18 _ (by decide)).trans ((f17 _ (by decide)).trans ((f16 _ (by decide)).trans ((f15 _ (by decide)).trans ((f14 _ (by decide)).trans ((f13 _ (by decide)).trans ((f12 _ (by decide)).trans ((f11 _ (by decide)).trans ((f10 _ (by decide)).trans ((f9 _ (by decide)).trans ((f8 _ (by decide)).trans ((f7 _ (by decide)).trans ((f6 _ (by decide)).trans ((f5 _ (by decide)).trans ((f4 _ (by decide)).trans ((f3 _ (by decide)).trans ((f2 _ (by decide)).trans (c1)))))))))))))))))))))))))))))))))))), (f37 _ (by decide)).trans ((f36 _ (by decide)).trans ((f35 _ (by decide)).trans ((f34 _ (by decide)).trans ((f33 _ (by decide)).trans ((f32 _ (by decide)).trans ((f31 _ (by decide)).trans ((f30 _ (by decide)).trans ((f29 _ (by decide)).trans ((f28 _ (by decide)).trans ((f27 _ (by decide)).trans ((f26 _ (by decide)).trans ((f25 _ (by decide)).trans ((f24 _ (by decide)).trans ((f23 _ (by decide)).trans ((f22 _ (by decide)).trans ((f21 _ (by decide)).trans ((f20 _ (by decide)).trans ((f19 _ (by decide)).trans ((f18 _ (by decide)).trans ((f17 _ (by decide)).trans ((f16 _ (by decide)).trans ((f15 _ (by decide)).trans ((f14 _ (by decide)).trans ((f13 _ (by decide)).trans ((f12 _ (by decide)).trans ((f11 _ (by decide)).trans ((f10 _ (by decide)).trans ((f9 _ (by decide)).trans ((f8 _ (by decide)).trans ((f7 _ (by decide)).trans ((f6 _ (by decide)).trans ((f5 _ (by decide)).trans ((f4 _ (by decide)).trans (c3)))))))))))))))))))))))))))))))))), (f37 _ (by decide)).trans ((f36 _ (by decide)).trans ((f35 _ (by decide)).trans ((f34 _ (by decide)).trans ((f33 _ (by decide)).trans ((f32 _ (by decide)).trans ((f31 _ (by decide)).trans ((f30 _ (by decide)).trans ((f29 _ (by decide)).trans ((f28 _ (by decide)).trans ((f27 _ (by decide)).trans ((f26 _ (by decide)).trans ((f25 _ (by decide)).trans ((f24 _ (by decide)).trans ((f23 _ (by decide)).trans ((f22 _ (by decide)).trans ((f21 _ (by decide)).trans ((f20 _ (by decide)).trans ((f19 _ (by decide)).trans ((f18 _ (by decide)).trans ((f17 _ (by decide)).trans ((f16 _ (by decide)).trans ((f15 _ (by decide)).trans ((f14 _ (by decide)).trans ((f13 _ (by decide)).trans ((f12 _ (by decide)).trans ((f11 _ (by decide)).trans ((f10 _ (by decide)).trans ((f9 _ (by decide)).trans ((f8 _ (by decide)).trans ((f7 _ (by decide)).trans ((f6 _ (by decide)).trans (c5)))))))))))))))))))))))))))))))), (f37 _ (by decide)).trans ((f36 _ (by decide)).trans ((f35 _ (by decide)).trans ((f34 _ (by decide)).trans ((f33 _ (by decide)).trans ((f32 _ (by decide)).trans ((f31 _ (by decide)).trans ((f30 _ (by decide)).trans ((f29 _ (by decide)).trans ((f28 _ (by decide)).trans ((f27 _ (by decide)).trans ((f26 _ (by decide)).trans ((f25 _ (by decide)).trans ((f24 _ (by decide)).trans ((f23 _ (by decide)).trans ((f22 _ (by decide)).trans ((f21 _ (by decide)).trans ((f20 _ (by decide)).trans ((f19 _ (by decide)).trans ((f18 _ (by decide)).trans ((f17 _ (by decide)).trans ((f16 _ (by decide)).trans ((f15 _ (by decide)).trans ((f14 _ (by decide)).trans ((f13 _ (by decide)).trans ((f12 _ (by decide)).trans ((f11 _ (by decide)).trans ((f10 _ (by decide)).trans ((f9 _ (by decide)).trans ((f8 _ (by decide)).trans (c7)))))))))))))))))))))))))))))), (f37 _ (by decide)).trans ((f36 _ (by decide)).trans ((f35 _ (by decide)).trans ((f34 _ (by decide)).trans ((f33 _ (by decide)).trans ((f32 _ (by decide)).trans ((f31 _ (by decide)).trans ((f30 _ (by decide)).trans ((f29 _ (by decide)).trans ((f28 _ (by decide)).trans ((f27 _ (by decide)).trans ((f26 _ (by decide)).trans ((f25 _ (by decide)).trans ((f24 _ (by decide)).trans ((f23 _ (by decide)).trans ((f22 _ (by decide)).trans ((f21 _ (by decide)).trans ((f20 _ (by decide)).trans ((f19 _ (by decide)).trans ((f18 _ (by decide)).trans ((f17 _ (by decide)).trans ((f16 _ (by decide)).trans ((f15 _ (by decide)).trans ((f14 _ (by decide)).trans ((f13 _ (by decide)).trans ((f12 _ (by decide)).trans ((f11 _ (by decide)).trans ((f10 _ (by decide)).trans (c9)))))))))))))))))))))))))))), (f37 _ (by decide)).trans ((f36 _ (by decide)).trans ((f35 _ (by decide)).trans ((f34 _ (by decide)).trans ((f33 _ (by decide)).trans ((f32 _ (by decide)).trans ((f31 _ (by decide)).trans ((f30 _ (by decide)).trans ((f29 _ (by decide)).trans ((f28 _ (by decide)).trans ((f27 _ (by decide)).trans ((f26 _ (by decide)).trans ((f25 _ (by decide)).trans ((f24 _ (by decide)).trans ((f23 _ (by decide)).trans ((f22 _ (by decide)).trans ((f21 _ (by decide)).trans ((f20 _ (by decide)).trans ((f19 _ (by decide)).trans ((f18 _ (by decide)).trans ((f17 _ (by decide)).trans ((f16 _ (by decide)).trans ((f15 _ (by decide)).trans ((f14 _ (by decide)).trans ((f13 _ (by decide)).trans ((f12 _ (by decide)).trans (c11)))))))))))))))))))))))))), (f37 _ (by decide)).trans ((f36 _ (by decide)).trans ((f35 _ (by decide)).trans ((f34 _ (by decide)).trans ((f33 _ (by decide)).trans ((f32 _ (by decide)).trans ((f31 _ (by decide)).trans ((f30 _ (by decide)).trans ((f29 _ (by decide)).trans ((f28 _ (by decide)).trans ((f27 _ (by decide)).trans ((f26 _ (by decide)).trans ((f25 _ (by decide)).trans ((f24 _ (by decide)).trans ((f23 _ (by decide)).trans ((f22 _ (by decide)).trans ((f21 _ (by decide)).trans ((f20 _ (by decide)).trans ((f19 _ (by decide)).trans ((f18 _ (by decide)).trans ((f17 _ (by decide)).trans ((f16 _ (by decide)).trans ((f15 _ (by decide)).trans ((f14 _ (by decide)).trans (c13)))))))))))))))))))))))), (f37 _ (by decide)).trans ((f36 _ (by decide)).trans ((f35 _ (by decide)).trans ((f34 _ (by decide)).trans ((f33 _ (by decide)).trans ((f32 _ (by decide)).trans ((f31 _ (by decide)).trans ((f30 _ (by decide)).trans ((f29 _ (by decide)).trans ((f28 _ (by decide)).trans ((f27 _ (by decide)).trans ((f26 _ (by decide)).trans ((f25 _ (by decide)).trans ((f24 _ (by decide)).trans ((f23 _ (by decide)).trans ((f22 _ (by decide)).trans ((f21 _ (by decide)).trans ((f20 _ (by decide)).trans ((f19 _ (by decide)).trans ((f18 _ (by decide)).trans ((f17 _ (by decide)).trans ((f16 _ (by decide)).trans (c15)))))))))))))))))))))), (f37 _ (by decide)).trans ((f36 _ (by decide)).trans ((f35 _ (by decide)).trans ((f34 _ (by decide)).trans ((f33 _ (by decide)).trans ((f32 _ (by decide)).trans ((f31 _ (by decide)).trans ((f30 _ (by decide)).trans ((f29 _ (by decide)).trans ((f28 _ (by decide)).trans ((f27 _ (by decide)).trans ((f26 _ (by decide)).trans ((f25 _ (by decide)).trans ((f24 _ (by decide)).trans ((f23 _ (by decide)).trans ((f22 _ (by decide)).trans ((f21 _ (by decide)).trans ((f20 _ (by decide)).trans ((f19 _ (by decide)).trans ((f18 _ (by decide)).trans (c17)))))))))))))))))))), (f37 _ (by decide)).trans ((f36 _ (by decide)).trans ((f35 _ (by decide)).trans ((f34 _ (by decide)).trans ((f33 _ (by decide)).trans ((f32 _ (by decide)).trans ((f31 _ (by decide)).trans ((f30 _ (by decide)).trans ((f29 _ (by decide)).trans ((f28 _ (by decide)).trans ((f27 _ (by decide)).trans ((f26 _ (by decide)).trans ((f25 _ (by decide)).trans ((f24 _ (by decide)).trans ((f23 _ (by decide)).trans ((f22 _ (by decide)).trans ((f21 _ (by decide)).trans ((f20 _ (by decide)).trans (c19)))))))))))))))))), (f37 _ (by decide)).trans ((f36 _ (by decide)).trans ((f35 _ (by decide)).trans ((f34 _ (by decide)).trans ((f33 _ (by decide)).trans ((f32 _ (by decide)).trans ((f31 _ (by decide)).trans ((f30 _ (by decide)).trans ((f29 _ (by decide)).trans ((f28 _ (by decide)).trans ((f27 _ (by decide)).trans ((f26 _ (by decide)).trans ((f25 _ (by decide)).trans ((f24 _ (by decide)).trans ((f23 _ (by decide)).trans ((f22 _ (by decide)).trans (c21)))))))))))))))), (f37 _ (by decide)).trans ((f36 _ (by decide)).trans ((f35 _ (by decide)).trans ((f34 _ (by decide)).trans ((f33 _ (by decide)).trans ((f32 _ (by decide)).trans ((f31 _ (by decide)).trans ((f30 _ (by decide)).trans ((f29 _ (by decide)).trans ((f28 _ (by decide)).trans ((f27 _ (by decide)).trans ((f26 _ (by decide)).trans ((f25 _ (by decide)).trans ((f24 _ (by decide)).trans (c23)))))))))))))), (f37 _ (by decide)).trans ((f36 _ (by decide)).trans ((f35 _ (by decide)).trans ((f34 _ (by decide)).trans ((f33 _ (by decide)).trans ((f32 _ (by decide)).trans ((f31 _ (by decide)).trans ((f30 _ (by decide)).trans ((f29 _ (by decide)).trans ((f28 _ (by decide)).trans ((f27 _ (by decide)).trans ((f26 _ (by decide)).trans (c25)))))))))))), (f37 _ (by decide)).trans ((f36 _ (by decide)).trans ((f35 _ (by decide)).trans ((f34 _ (by decide)).trans ((f33 _ (by decide)).trans ((f32 _ (by decide)).trans ((f31 _ (by decide)).trans ((f30 _ (by decide)).trans ((f29 _ (by decide)).trans ((f28 _ (by decide)).trans (c27)))))))))), (f37 _ (by decide)).trans ((f36 _ (by decide)).trans ((f35 _ (by decide)).trans ((f34 _ (by decide)).trans ((f33 _ (by decide)).trans ((f32 _ (by decide)).trans ((f31 _ (by decide)).trans ((f30 _ (by decide)).trans (c29)))))))), (f37 _ (by decide)).trans ((f36 _ (by decide)).trans ((f35 _ (by decide)).trans ((f34 _ (by decide)).trans ((f33 _ (by decide)).trans ((f32 _ (by decide)).trans (c31)))))), (f37 _ (by decide)).trans ((f36 _ (by decide)).trans ((f35 _ (by decide)).trans ((f34 _ (by decide)).trans (c33)))), (f37 _ (by decide)).trans ((f36 _ (by decide)).trans (c35)), fun k hk => ((f37 k (ne_out hk (by decide) (by decide))).trans ((f36 k (ne_out hk (by decide) (by decide))).trans ((f35 k (ne_out hk (by decide) (by decide))).trans ((f34 k (ne_out hk (by decide) (by decide))).trans ((f33 k (ne_out hk (by decide) (by decide))).trans ((f32 k (ne_out hk (by decide) (by decide))).trans ((f31 k (ne_out hk (by decide) (by decide))).trans ((f30 k (ne_out hk (by decide) (by decide))).trans ((f29 k (ne_out hk (by decide) (by decide))).trans ((f28 k (ne_out hk (by decide) (by decide))).trans ((f27 k (ne_out hk (by decide) (by decide))).trans ((f26 k (ne_out hk (by decide) (by decide))).trans ((f25 k (ne_out hk (by decide) (by decide))).trans ((f24 k (ne_out hk (by decide) (by decide))).trans ((f23 k (ne_out hk (by decide) (by decide))).trans ((f22 k (ne_out hk (by decide) (by decide))).trans ((f21 k (ne_out hk (by decide) (by decide))).trans ((f20 k (ne_out hk (by decide) (by decide))).trans ((f19 k (ne_out hk (by decide) (by decide))).trans ((f18 k (ne_out hk (by decide) (by decide))).trans ((f17 k (ne_out hk (by decide) (by decide))).trans ((f16 k (ne_out hk (by decide) (by decide))).trans ((f15 k (ne_out hk (by decide) (by decide))).trans ((f14 k (ne_out hk (by decide) (by decide))).trans ((f13 k (ne_out hk (by decide) (by decide))).trans ((f12 k (ne_out hk (by decide) (by decide))).trans ((f11 k (ne_out hk (by decide) (by decide))).trans ((f10 k (ne_out hk (by decide) (by decide))).trans ((f9 k (ne_out hk (by decide) (by decide))).trans ((f8 k (ne_out hk (by decide) (by decide))).trans ((f7 k (ne_out hk (by decide) (by decide))).trans ((f6 k (ne_out hk (by decide) (by decide))).trans ((f5 k (ne_out hk (by decide) (by decide))).trans ((f4 k (ne_out hk (by decide) (by decide))).trans ((f3 k (ne_out hk (by decide) (by decide))).trans ((f2 k (ne_out hk (by decide) (by decide))).trans ((f1 k (ne_out hk (by decide) (by decide))).trans (rfl))))))))))))))))))))))))))))))))))))))⟩
