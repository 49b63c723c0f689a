/-! the law: its calls -/
section LawCases
variable {h : am_H} {len N P rc bc i L : Nat} {fa G sd : Int32} {tx wa me rx rh bw bs xs : Nat → Int32} {S S' : Sc} {dd dd' : List Sc} {i0 i1 : Im} {Φ : Option Value → am_H → Prop}
/-- class and model have come to the same, and the script is there -/
def lwI (L : Nat) (xs : Nat → Int32) (z : Nat × Nat) (q : Q) (h : am_H) : Prop := cRep q h ∧ mRep q h ∧ wfQ q ∧ h.1 0 = .inl (.int, L, .inl xs) ∧ h.2 = z
theorem cRep.top {q : Q} (R : cRep q h) : ∃ fs, h.1 1 = .inr (9, fs) := by
  obtain ⟨⟨len, tx⟩, fa, ⟨N, P, G, wa, me⟩, S, dd, ⟨rc, rx, rh⟩, ⟨bc, bw, bs⟩, sd, i0, i1⟩ := q
  exact ⟨_, R.1⟩
theorem mRep.topq {q : Q} (R : mRep q h) : ∃ fs, h.1 130 = .inr (10, fs) := by
  obtain ⟨⟨len, tx⟩, fa, ⟨N, P, G, wa, me⟩, S, dd, ⟨rc, rx, rh⟩, ⟨bc, bw, bs⟩, sd, i0, i1⟩ := q
  obtain ⟨ra, rf, rn, rm, sm, x1⟩ := R.top
  exact ⟨_, x1⟩
theorem lw_feed (hL : L ≤ 192) (hi : i + 3 ≤ L) (I : lwI L xs h.2 ⟨⟨len, tx⟩, fa, ⟨N, P, G, wa, me⟩, S, dd, ⟨rc, rx, rh⟩, ⟨bc, bw, bs⟩, sd, i0, i1⟩ h) (tl : ∀ q h', lwI L xs h.2 q h' → am_R M_L_law (603, [.ref 0, .ref 1, .ref 130, .int (nI i)], []) h' Φ) : am_R M_L_law (22, [.ref 0, .ref 1, .ref 130, .int (nI i)], []) h Φ := by
  obtain ⟨R, T, W, hs, -⟩ := I
  obtain ⟨fs1, x1⟩ := R.top
  have k1 : nI i + 1 = nI (i + 1) := nI_1 i
  have k2 : nI i + 2 = nI (i + 2) := by rw [i2, nI_add]
  repeat (first | refine rs [] rfl rfl rfl rfl ?_ | refine rk rfl rfl ?_ | refine rgoh [] rfl rfl ?_ | refine rgeta (hi := rfl) (kk := ?_) | refine rialda (hi := rfl) (kk := ?_))
  refine rcvt rfl rfl rfl rfl rfl x1 rfl (v_feed R) ?_
  rintro r h1 ⟨rfl, R1, f1⟩
  have hs1 : h1.1 0 = .inl (.int, L, .inl xs) := (f1.2 0 (by omega)).trans hs
  have T1 := T.fr f1 (by omega)
  obtain ⟨fs2, y1⟩ := T1.topq
  show am_R M_L_law (29, [.ref 0, .ref 1, .ref 130, .int (nI i)], [.int (o_feed (xs (i + 1)) ⟨⟨len, tx⟩, fa, ⟨N, P, G, wa, me⟩, S, dd, ⟨rc, rx, rh⟩, ⟨bc, bw, bs⟩, sd, i0, i1⟩).1]) _ _
  repeat (first | refine rs [] rfl rfl rfl rfl ?_ | refine rk rfl rfl ?_ | refine rgoh [] rfl rfl ?_ | refine rgeta (hi := rfl) (kk := ?_) | refine rialda (hi := rfl) (kk := ?_))
  refine rcvt rfl rfl rfl rfl rfl y1 rfl (w_feed T1) ?_
  rintro r h2 ⟨rfl, T2, f2⟩
  show am_R M_L_law (36, [.ref 0, .ref 1, .ref 130, .int (nI i)], [.int (o_feed (xs (i + 1)) ⟨⟨len, tx⟩, fa, ⟨N, P, G, wa, me⟩, S, dd, ⟨rc, rx, rh⟩, ⟨bc, bw, bs⟩, sd, i0, i1⟩).1, .int (o_feed (xs (i + 1)) ⟨⟨len, tx⟩, fa, ⟨N, P, G, wa, me⟩, S, dd, ⟨rc, rx, rh⟩, ⟨bc, bw, bs⟩, sd, i0, i1⟩).1]) _ _
  (first | refine rif rfl rfl (fun c9 => ?_) (fun c9 => ?_) | refine ric rfl rfl (fun c9 => ?_) (fun c9 => ?_))
  · exact tl (o_feed (xs (i + 1)) ⟨⟨len, tx⟩, fa, ⟨N, P, G, wa, me⟩, S, dd, ⟨rc, rx, rh⟩, ⟨bc, bw, bs⟩, sd, i0, i1⟩).2 h2 ⟨R1.fr (fr_wd f2 (by omega) (by omega)), T2, wf_feed W, (f2.2 0 (by omega)).trans hs1, f2.1.trans f1.1⟩
  · exact absurd rfl c9
theorem lw_line (hL : L ≤ 192) (hi : i + 3 ≤ L) (I : lwI L xs h.2 ⟨⟨len, tx⟩, fa, ⟨N, P, G, wa, me⟩, S, dd, ⟨rc, rx, rh⟩, ⟨bc, bw, bs⟩, sd, i0, i1⟩ h) (tl : ∀ q h', lwI L xs h.2 q h' → am_R M_L_law (603, [.ref 0, .ref 1, .ref 130, .int (nI i)], []) h' Φ) : am_R M_L_law (39, [.ref 0, .ref 1, .ref 130, .int (nI i)], []) h Φ := by
  obtain ⟨R, T, W, hs, -⟩ := I
  obtain ⟨fs1, x1⟩ := R.top
  have k1 : nI i + 1 = nI (i + 1) := nI_1 i
  have k2 : nI i + 2 = nI (i + 2) := by rw [i2, nI_add]
  repeat (first | refine rs [] rfl rfl rfl rfl ?_ | refine rk rfl rfl ?_ | refine rgoh [] rfl rfl ?_ | refine rgeta (hi := rfl) (kk := ?_) | refine rialda (hi := rfl) (kk := ?_))
  refine rcvt rfl rfl rfl rfl rfl x1 rfl (v_line R) ?_
  rintro r h1 ⟨rfl, R1, f1⟩
  have hs1 : h1.1 0 = .inl (.int, L, .inl xs) := (f1.2 0 (by omega)).trans hs
  have T1 := T.fr f1 (by omega)
  obtain ⟨fs2, y1⟩ := T1.topq
  show am_R M_L_law (41, [.ref 0, .ref 1, .ref 130, .int (nI i)], [.int (o_line  ⟨⟨len, tx⟩, fa, ⟨N, P, G, wa, me⟩, S, dd, ⟨rc, rx, rh⟩, ⟨bc, bw, bs⟩, sd, i0, i1⟩).1]) _ _
  repeat (first | refine rs [] rfl rfl rfl rfl ?_ | refine rk rfl rfl ?_ | refine rgoh [] rfl rfl ?_ | refine rgeta (hi := rfl) (kk := ?_) | refine rialda (hi := rfl) (kk := ?_))
  refine rcvt rfl rfl rfl rfl rfl y1 rfl (w_line T1) ?_
  rintro r h2 ⟨rfl, T2, f2⟩
  show am_R M_L_law (43, [.ref 0, .ref 1, .ref 130, .int (nI i)], [.int (o_line  ⟨⟨len, tx⟩, fa, ⟨N, P, G, wa, me⟩, S, dd, ⟨rc, rx, rh⟩, ⟨bc, bw, bs⟩, sd, i0, i1⟩).1, .int (o_line  ⟨⟨len, tx⟩, fa, ⟨N, P, G, wa, me⟩, S, dd, ⟨rc, rx, rh⟩, ⟨bc, bw, bs⟩, sd, i0, i1⟩).1]) _ _
  (first | refine rif rfl rfl (fun c9 => ?_) (fun c9 => ?_) | refine ric rfl rfl (fun c9 => ?_) (fun c9 => ?_))
  · exact tl (o_line  ⟨⟨len, tx⟩, fa, ⟨N, P, G, wa, me⟩, S, dd, ⟨rc, rx, rh⟩, ⟨bc, bw, bs⟩, sd, i0, i1⟩).2 h2 ⟨R1.fr (fr_wd f2 (by omega) (by omega)), T2, wf_line W, (f2.2 0 (by omega)).trans hs1, f2.1.trans f1.1⟩
  · exact absurd rfl c9
theorem lw_fault (hL : L ≤ 192) (hi : i + 3 ≤ L) (I : lwI L xs h.2 ⟨⟨len, tx⟩, fa, ⟨N, P, G, wa, me⟩, S, dd, ⟨rc, rx, rh⟩, ⟨bc, bw, bs⟩, sd, i0, i1⟩ h) (tl : ∀ q h', lwI L xs h.2 q h' → am_R M_L_law (603, [.ref 0, .ref 1, .ref 130, .int (nI i)], []) h' Φ) : am_R M_L_law (46, [.ref 0, .ref 1, .ref 130, .int (nI i)], []) h Φ := by
  obtain ⟨R, T, W, hs, -⟩ := I
  obtain ⟨fs1, x1⟩ := R.top
  have k1 : nI i + 1 = nI (i + 1) := nI_1 i
  have k2 : nI i + 2 = nI (i + 2) := by rw [i2, nI_add]
  repeat (first | refine rs [] rfl rfl rfl rfl ?_ | refine rk rfl rfl ?_ | refine rgoh [] rfl rfl ?_ | refine rgeta (hi := rfl) (kk := ?_) | refine rialda (hi := rfl) (kk := ?_))
  refine rcvt rfl rfl rfl rfl rfl x1 rfl (v_fault R) ?_
  rintro r h1 ⟨rfl, R1, f1⟩
  have hs1 : h1.1 0 = .inl (.int, L, .inl xs) := (f1.2 0 (by omega)).trans hs
  have T1 := T.fr f1 (by omega)
  obtain ⟨fs2, y1⟩ := T1.topq
  show am_R M_L_law (48, [.ref 0, .ref 1, .ref 130, .int (nI i)], [.int fa]) _ _
  repeat (first | refine rs [] rfl rfl rfl rfl ?_ | refine rk rfl rfl ?_ | refine rgoh [] rfl rfl ?_ | refine rgeta (hi := rfl) (kk := ?_) | refine rialda (hi := rfl) (kk := ?_))
  refine rcvt rfl rfl rfl rfl rfl y1 rfl (w_fault T1) ?_
  rintro r h2 ⟨rfl, T2, f2⟩
  show am_R M_L_law (50, [.ref 0, .ref 1, .ref 130, .int (nI i)], [.int fa, .int fa]) _ _
  (first | refine rif rfl rfl (fun c9 => ?_) (fun c9 => ?_) | refine ric rfl rfl (fun c9 => ?_) (fun c9 => ?_))
  · exact tl ⟨⟨len, tx⟩, fa, ⟨N, P, G, wa, me⟩, S, dd, ⟨rc, rx, rh⟩, ⟨bc, bw, bs⟩, sd, i0, i1⟩ h2 ⟨R1.fr (fr_wd f2 (by omega) (by omega)), T2, W, (f2.2 0 (by omega)).trans hs1, f2.1.trans f1.1⟩
  · exact absurd rfl c9
theorem lw_told (hL : L ≤ 192) (hi : i + 3 ≤ L) (I : lwI L xs h.2 ⟨⟨len, tx⟩, fa, ⟨N, P, G, wa, me⟩, S, dd, ⟨rc, rx, rh⟩, ⟨bc, bw, bs⟩, sd, i0, i1⟩ h) (tl : ∀ q h', lwI L xs h.2 q h' → am_R M_L_law (603, [.ref 0, .ref 1, .ref 130, .int (nI i)], []) h' Φ) : am_R M_L_law (53, [.ref 0, .ref 1, .ref 130, .int (nI i)], []) h Φ := by
  obtain ⟨R, T, W, hs, -⟩ := I
  obtain ⟨fs1, x1⟩ := R.top
  have k1 : nI i + 1 = nI (i + 1) := nI_1 i
  have k2 : nI i + 2 = nI (i + 2) := by rw [i2, nI_add]
  repeat (first | refine rs [] rfl rfl rfl rfl ?_ | refine rk rfl rfl ?_ | refine rgoh [] rfl rfl ?_ | refine rgeta (hi := rfl) (kk := ?_) | refine rialda (hi := rfl) (kk := ?_))
  refine rcvt rfl rfl rfl rfl rfl x1 rfl (v_told R) ?_
  rintro r h1 ⟨rfl, R1, f1⟩
  have hs1 : h1.1 0 = .inl (.int, L, .inl xs) := (f1.2 0 (by omega)).trans hs
  have T1 := T.fr f1 (by omega)
  obtain ⟨fs2, y1⟩ := T1.topq
  show am_R M_L_law (60, [.ref 0, .ref 1, .ref 130, .int (nI i)], [.int (o_told (xs (i + 1)) ⟨⟨len, tx⟩, fa, ⟨N, P, G, wa, me⟩, S, dd, ⟨rc, rx, rh⟩, ⟨bc, bw, bs⟩, sd, i0, i1⟩).1]) _ _
  repeat (first | refine rs [] rfl rfl rfl rfl ?_ | refine rk rfl rfl ?_ | refine rgoh [] rfl rfl ?_ | refine rgeta (hi := rfl) (kk := ?_) | refine rialda (hi := rfl) (kk := ?_))
  refine rcvt rfl rfl rfl rfl rfl y1 rfl (w_told W T1) ?_
  rintro r h2 ⟨rfl, T2, f2⟩
  show am_R M_L_law (67, [.ref 0, .ref 1, .ref 130, .int (nI i)], [.int (o_told (xs (i + 1)) ⟨⟨len, tx⟩, fa, ⟨N, P, G, wa, me⟩, S, dd, ⟨rc, rx, rh⟩, ⟨bc, bw, bs⟩, sd, i0, i1⟩).1, .int (o_told (xs (i + 1)) ⟨⟨len, tx⟩, fa, ⟨N, P, G, wa, me⟩, S, dd, ⟨rc, rx, rh⟩, ⟨bc, bw, bs⟩, sd, i0, i1⟩).1]) _ _
  (first | refine rif rfl rfl (fun c9 => ?_) (fun c9 => ?_) | refine ric rfl rfl (fun c9 => ?_) (fun c9 => ?_))
  · exact tl (o_told (xs (i + 1)) ⟨⟨len, tx⟩, fa, ⟨N, P, G, wa, me⟩, S, dd, ⟨rc, rx, rh⟩, ⟨bc, bw, bs⟩, sd, i0, i1⟩).2 h2 ⟨R1.fr (fr_wd f2 (by omega) (by omega)), T2, W, (f2.2 0 (by omega)).trans hs1, f2.1.trans f1.1⟩
  · exact absurd rfl c9
theorem lw_person (hL : L ≤ 192) (hi : i + 3 ≤ L) (I : lwI L xs h.2 ⟨⟨len, tx⟩, fa, ⟨N, P, G, wa, me⟩, S, dd, ⟨rc, rx, rh⟩, ⟨bc, bw, bs⟩, sd, i0, i1⟩ h) (tl : ∀ q h', lwI L xs h.2 q h' → am_R M_L_law (603, [.ref 0, .ref 1, .ref 130, .int (nI i)], []) h' Φ) : am_R M_L_law (70, [.ref 0, .ref 1, .ref 130, .int (nI i)], []) h Φ := by
  obtain ⟨R, T, W, hs, -⟩ := I
  obtain ⟨fs1, x1⟩ := R.top
  have k1 : nI i + 1 = nI (i + 1) := nI_1 i
  have k2 : nI i + 2 = nI (i + 2) := by rw [i2, nI_add]
  repeat (first | refine rs [] rfl rfl rfl rfl ?_ | refine rk rfl rfl ?_ | refine rgoh [] rfl rfl ?_ | refine rgeta (hi := rfl) (kk := ?_) | refine rialda (hi := rfl) (kk := ?_))
  refine rcvt rfl rfl rfl rfl rfl x1 rfl (v_person R) ?_
  rintro r h1 ⟨rfl, R1, f1⟩
  have hs1 : h1.1 0 = .inl (.int, L, .inl xs) := (f1.2 0 (by omega)).trans hs
  have T1 := T.fr f1 (by omega)
  obtain ⟨fs2, y1⟩ := T1.topq
  show am_R M_L_law (82, [.ref 0, .ref 1, .ref 130, .int (nI i)], [.int (o_person (xs (i + 1)) (xs (i + 2)) ⟨⟨len, tx⟩, fa, ⟨N, P, G, wa, me⟩, S, dd, ⟨rc, rx, rh⟩, ⟨bc, bw, bs⟩, sd, i0, i1⟩).1]) _ _
  repeat (first | refine rs [] rfl rfl rfl rfl ?_ | refine rk rfl rfl ?_ | refine rgoh [] rfl rfl ?_ | refine rgeta (hi := rfl) (kk := ?_) | refine rialda (hi := rfl) (kk := ?_))
  refine rcvt rfl rfl rfl rfl rfl y1 rfl (w_person T1) ?_
  rintro r h2 ⟨rfl, T2, f2⟩
  show am_R M_L_law (94, [.ref 0, .ref 1, .ref 130, .int (nI i)], [.int (o_person (xs (i + 1)) (xs (i + 2)) ⟨⟨len, tx⟩, fa, ⟨N, P, G, wa, me⟩, S, dd, ⟨rc, rx, rh⟩, ⟨bc, bw, bs⟩, sd, i0, i1⟩).1, .int (o_person (xs (i + 1)) (xs (i + 2)) ⟨⟨len, tx⟩, fa, ⟨N, P, G, wa, me⟩, S, dd, ⟨rc, rx, rh⟩, ⟨bc, bw, bs⟩, sd, i0, i1⟩).1]) _ _
  (first | refine rif rfl rfl (fun c9 => ?_) (fun c9 => ?_) | refine ric rfl rfl (fun c9 => ?_) (fun c9 => ?_))
  · exact tl (o_person (xs (i + 1)) (xs (i + 2)) ⟨⟨len, tx⟩, fa, ⟨N, P, G, wa, me⟩, S, dd, ⟨rc, rx, rh⟩, ⟨bc, bw, bs⟩, sd, i0, i1⟩).2 h2 ⟨R1.fr (fr_wd f2 (by omega) (by omega)), T2, W, (f2.2 0 (by omega)).trans hs1, f2.1.trans f1.1⟩
  · exact absurd rfl c9
theorem lw_station (hL : L ≤ 192) (hi : i + 3 ≤ L) (I : lwI L xs h.2 ⟨⟨len, tx⟩, fa, ⟨N, P, G, wa, me⟩, S, dd, ⟨rc, rx, rh⟩, ⟨bc, bw, bs⟩, sd, i0, i1⟩ h) (tl : ∀ q h', lwI L xs h.2 q h' → am_R M_L_law (603, [.ref 0, .ref 1, .ref 130, .int (nI i)], []) h' Φ) : am_R M_L_law (97, [.ref 0, .ref 1, .ref 130, .int (nI i)], []) h Φ := by
  obtain ⟨R, T, W, hs, -⟩ := I
  obtain ⟨fs1, x1⟩ := R.top
  have k1 : nI i + 1 = nI (i + 1) := nI_1 i
  have k2 : nI i + 2 = nI (i + 2) := by rw [i2, nI_add]
  repeat (first | refine rs [] rfl rfl rfl rfl ?_ | refine rk rfl rfl ?_ | refine rgoh [] rfl rfl ?_ | refine rgeta (hi := rfl) (kk := ?_) | refine rialda (hi := rfl) (kk := ?_))
  refine rcvt rfl rfl rfl rfl rfl x1 rfl (v_station R) ?_
  rintro r h1 ⟨rfl, R1, f1⟩
  have hs1 : h1.1 0 = .inl (.int, L, .inl xs) := (f1.2 0 (by omega)).trans hs
  have T1 := T.fr f1 (by omega)
  obtain ⟨fs2, y1⟩ := T1.topq
  show am_R M_L_law (109, [.ref 0, .ref 1, .ref 130, .int (nI i)], [.int (o_station (xs (i + 1)) (xs (i + 2)) ⟨⟨len, tx⟩, fa, ⟨N, P, G, wa, me⟩, S, dd, ⟨rc, rx, rh⟩, ⟨bc, bw, bs⟩, sd, i0, i1⟩).1]) _ _
  repeat (first | refine rs [] rfl rfl rfl rfl ?_ | refine rk rfl rfl ?_ | refine rgoh [] rfl rfl ?_ | refine rgeta (hi := rfl) (kk := ?_) | refine rialda (hi := rfl) (kk := ?_))
  refine rcvt rfl rfl rfl rfl rfl y1 rfl (w_station T1) ?_
  rintro r h2 ⟨rfl, T2, f2⟩
  show am_R M_L_law (121, [.ref 0, .ref 1, .ref 130, .int (nI i)], [.int (o_station (xs (i + 1)) (xs (i + 2)) ⟨⟨len, tx⟩, fa, ⟨N, P, G, wa, me⟩, S, dd, ⟨rc, rx, rh⟩, ⟨bc, bw, bs⟩, sd, i0, i1⟩).1, .int (o_station (xs (i + 1)) (xs (i + 2)) ⟨⟨len, tx⟩, fa, ⟨N, P, G, wa, me⟩, S, dd, ⟨rc, rx, rh⟩, ⟨bc, bw, bs⟩, sd, i0, i1⟩).1]) _ _
  (first | refine rif rfl rfl (fun c9 => ?_) (fun c9 => ?_) | refine ric rfl rfl (fun c9 => ?_) (fun c9 => ?_))
  · exact tl (o_station (xs (i + 1)) (xs (i + 2)) ⟨⟨len, tx⟩, fa, ⟨N, P, G, wa, me⟩, S, dd, ⟨rc, rx, rh⟩, ⟨bc, bw, bs⟩, sd, i0, i1⟩).2 h2 ⟨R1.fr (fr_wd f2 (by omega) (by omega)), T2, W, (f2.2 0 (by omega)).trans hs1, f2.1.trans f1.1⟩
  · exact absurd rfl c9
theorem lw_mien (hL : L ≤ 192) (hi : i + 3 ≤ L) (I : lwI L xs h.2 ⟨⟨len, tx⟩, fa, ⟨N, P, G, wa, me⟩, S, dd, ⟨rc, rx, rh⟩, ⟨bc, bw, bs⟩, sd, i0, i1⟩ h) (tl : ∀ q h', lwI L xs h.2 q h' → am_R M_L_law (603, [.ref 0, .ref 1, .ref 130, .int (nI i)], []) h' Φ) : am_R M_L_law (124, [.ref 0, .ref 1, .ref 130, .int (nI i)], []) h Φ := by
  obtain ⟨R, T, W, hs, -⟩ := I
  obtain ⟨fs1, x1⟩ := R.top
  have k1 : nI i + 1 = nI (i + 1) := nI_1 i
  have k2 : nI i + 2 = nI (i + 2) := by rw [i2, nI_add]
  repeat (first | refine rs [] rfl rfl rfl rfl ?_ | refine rk rfl rfl ?_ | refine rgoh [] rfl rfl ?_ | refine rgeta (hi := rfl) (kk := ?_) | refine rialda (hi := rfl) (kk := ?_))
  refine rcvt rfl rfl rfl rfl rfl x1 rfl (v_mien R) ?_
  rintro r h1 ⟨rfl, R1, f1⟩
  have hs1 : h1.1 0 = .inl (.int, L, .inl xs) := (f1.2 0 (by omega)).trans hs
  have T1 := T.fr f1 (by omega)
  obtain ⟨fs2, y1⟩ := T1.topq
  show am_R M_L_law (136, [.ref 0, .ref 1, .ref 130, .int (nI i)], [.int (o_mien (xs (i + 1)) (xs (i + 2)) ⟨⟨len, tx⟩, fa, ⟨N, P, G, wa, me⟩, S, dd, ⟨rc, rx, rh⟩, ⟨bc, bw, bs⟩, sd, i0, i1⟩).1]) _ _
  repeat (first | refine rs [] rfl rfl rfl rfl ?_ | refine rk rfl rfl ?_ | refine rgoh [] rfl rfl ?_ | refine rgeta (hi := rfl) (kk := ?_) | refine rialda (hi := rfl) (kk := ?_))
  refine rcvt rfl rfl rfl rfl rfl y1 rfl (w_mien T1) ?_
  rintro r h2 ⟨rfl, T2, f2⟩
  show am_R M_L_law (148, [.ref 0, .ref 1, .ref 130, .int (nI i)], [.int (o_mien (xs (i + 1)) (xs (i + 2)) ⟨⟨len, tx⟩, fa, ⟨N, P, G, wa, me⟩, S, dd, ⟨rc, rx, rh⟩, ⟨bc, bw, bs⟩, sd, i0, i1⟩).1, .int (o_mien (xs (i + 1)) (xs (i + 2)) ⟨⟨len, tx⟩, fa, ⟨N, P, G, wa, me⟩, S, dd, ⟨rc, rx, rh⟩, ⟨bc, bw, bs⟩, sd, i0, i1⟩).1]) _ _
  (first | refine rif rfl rfl (fun c9 => ?_) (fun c9 => ?_) | refine ric rfl rfl (fun c9 => ?_) (fun c9 => ?_))
  · exact tl (o_mien (xs (i + 1)) (xs (i + 2)) ⟨⟨len, tx⟩, fa, ⟨N, P, G, wa, me⟩, S, dd, ⟨rc, rx, rh⟩, ⟨bc, bw, bs⟩, sd, i0, i1⟩).2 h2 ⟨R1.fr (fr_wd f2 (by omega) (by omega)), T2, wf_mien W, (f2.2 0 (by omega)).trans hs1, f2.1.trans f1.1⟩
  · exact absurd rfl c9
theorem lw_feet (hL : L ≤ 192) (hi : i + 3 ≤ L) (I : lwI L xs h.2 ⟨⟨len, tx⟩, fa, ⟨N, P, G, wa, me⟩, S, dd, ⟨rc, rx, rh⟩, ⟨bc, bw, bs⟩, sd, i0, i1⟩ h) (tl : ∀ q h', lwI L xs h.2 q h' → am_R M_L_law (603, [.ref 0, .ref 1, .ref 130, .int (nI i)], []) h' Φ) : am_R M_L_law (151, [.ref 0, .ref 1, .ref 130, .int (nI i)], []) h Φ := by
  obtain ⟨R, T, W, hs, -⟩ := I
  obtain ⟨fs1, x1⟩ := R.top
  have k1 : nI i + 1 = nI (i + 1) := nI_1 i
  have k2 : nI i + 2 = nI (i + 2) := by rw [i2, nI_add]
  repeat (first | refine rs [] rfl rfl rfl rfl ?_ | refine rk rfl rfl ?_ | refine rgoh [] rfl rfl ?_ | refine rgeta (hi := rfl) (kk := ?_) | refine rialda (hi := rfl) (kk := ?_))
  (first | refine rif rfl rfl (fun c7 => ?_) (fun c7 => ?_) | refine ric rfl rfl (fun c7 => ?_) (fun c7 => ?_))
  · repeat (first | refine rs [] rfl rfl rfl rfl ?_ | refine rk rfl rfl ?_ | refine rgoh [] rfl rfl ?_ | refine rgeta (hi := rfl) (kk := ?_) | refine rialda (hi := rfl) (kk := ?_))
    refine rcvt rfl rfl rfl rfl rfl x1 rfl (v_feet R) ?_
    rintro r h1 ⟨rfl, R1, f1⟩
    have hs1 : h1.1 0 = .inl (.int, L, .inl xs) := (f1.2 0 (by omega)).trans hs
    have T1 := T.fr f1 (by omega)
    obtain ⟨fs2, y1⟩ := T1.topq
    show am_R M_L_law (167, [.ref 0, .ref 1, .ref 130, .int (nI i)], [.int (o_feet (xs (i + 1)) (0) ⟨⟨len, tx⟩, fa, ⟨N, P, G, wa, me⟩, S, dd, ⟨rc, rx, rh⟩, ⟨bc, bw, bs⟩, sd, i0, i1⟩).1]) _ _
    repeat (first | refine rs [] rfl rfl rfl rfl ?_ | refine rk rfl rfl ?_ | refine rgoh [] rfl rfl ?_ | refine rgeta (hi := rfl) (kk := ?_) | refine rialda (hi := rfl) (kk := ?_))
    (first | refine rif rfl rfl (fun c8 => ?_) (fun c8 => ?_) | refine ric rfl rfl (fun c8 => ?_) (fun c8 => ?_))
    · repeat (first | refine rs [] rfl rfl rfl rfl ?_ | refine rk rfl rfl ?_ | refine rgoh [] rfl rfl ?_ | refine rgeta (hi := rfl) (kk := ?_) | refine rialda (hi := rfl) (kk := ?_))
      refine rcvt rfl rfl rfl rfl rfl y1 rfl (w_feet T1) ?_
      rintro r h2 ⟨rfl, T2, f2⟩
      show am_R M_L_law (183, [.ref 0, .ref 1, .ref 130, .int (nI i)], [.int (o_feet (xs (i + 1)) (0) ⟨⟨len, tx⟩, fa, ⟨N, P, G, wa, me⟩, S, dd, ⟨rc, rx, rh⟩, ⟨bc, bw, bs⟩, sd, i0, i1⟩).1, .int (o_feet (xs (i + 1)) (0) ⟨⟨len, tx⟩, fa, ⟨N, P, G, wa, me⟩, S, dd, ⟨rc, rx, rh⟩, ⟨bc, bw, bs⟩, sd, i0, i1⟩).1]) _ _
      (first | refine rif rfl rfl (fun c9 => ?_) (fun c9 => ?_) | refine ric rfl rfl (fun c9 => ?_) (fun c9 => ?_))
      · exact tl (o_feet (xs (i + 1)) (0) ⟨⟨len, tx⟩, fa, ⟨N, P, G, wa, me⟩, S, dd, ⟨rc, rx, rh⟩, ⟨bc, bw, bs⟩, sd, i0, i1⟩).2 h2 ⟨R1.fr (fr_wd f2 (by omega) (by omega)), T2, wf_feet W, (f2.2 0 (by omega)).trans hs1, f2.1.trans f1.1⟩
      · exact absurd rfl c9
    · exact absurd c7 c8
  · repeat (first | refine rs [] rfl rfl rfl rfl ?_ | refine rk rfl rfl ?_ | refine rgoh [] rfl rfl ?_ | refine rgeta (hi := rfl) (kk := ?_) | refine rialda (hi := rfl) (kk := ?_))
    refine rcvt rfl rfl rfl rfl rfl x1 rfl (v_feet R) ?_
    rintro r h1 ⟨rfl, R1, f1⟩
    have hs1 : h1.1 0 = .inl (.int, L, .inl xs) := (f1.2 0 (by omega)).trans hs
    have T1 := T.fr f1 (by omega)
    obtain ⟨fs2, y1⟩ := T1.topq
    show am_R M_L_law (167, [.ref 0, .ref 1, .ref 130, .int (nI i)], [.int (o_feet (xs (i + 1)) (1) ⟨⟨len, tx⟩, fa, ⟨N, P, G, wa, me⟩, S, dd, ⟨rc, rx, rh⟩, ⟨bc, bw, bs⟩, sd, i0, i1⟩).1]) _ _
    repeat (first | refine rs [] rfl rfl rfl rfl ?_ | refine rk rfl rfl ?_ | refine rgoh [] rfl rfl ?_ | refine rgeta (hi := rfl) (kk := ?_) | refine rialda (hi := rfl) (kk := ?_))
    (first | refine rif rfl rfl (fun c8 => ?_) (fun c8 => ?_) | refine ric rfl rfl (fun c8 => ?_) (fun c8 => ?_))
    · exact absurd c8 c7
    · repeat (first | refine rs [] rfl rfl rfl rfl ?_ | refine rk rfl rfl ?_ | refine rgoh [] rfl rfl ?_ | refine rgeta (hi := rfl) (kk := ?_) | refine rialda (hi := rfl) (kk := ?_))
      refine rcvt rfl rfl rfl rfl rfl y1 rfl (w_feet T1) ?_
      rintro r h2 ⟨rfl, T2, f2⟩
      show am_R M_L_law (183, [.ref 0, .ref 1, .ref 130, .int (nI i)], [.int (o_feet (xs (i + 1)) (1) ⟨⟨len, tx⟩, fa, ⟨N, P, G, wa, me⟩, S, dd, ⟨rc, rx, rh⟩, ⟨bc, bw, bs⟩, sd, i0, i1⟩).1, .int (o_feet (xs (i + 1)) (1) ⟨⟨len, tx⟩, fa, ⟨N, P, G, wa, me⟩, S, dd, ⟨rc, rx, rh⟩, ⟨bc, bw, bs⟩, sd, i0, i1⟩).1]) _ _
      (first | refine rif rfl rfl (fun c9 => ?_) (fun c9 => ?_) | refine ric rfl rfl (fun c9 => ?_) (fun c9 => ?_))
      · exact tl (o_feet (xs (i + 1)) (1) ⟨⟨len, tx⟩, fa, ⟨N, P, G, wa, me⟩, S, dd, ⟨rc, rx, rh⟩, ⟨bc, bw, bs⟩, sd, i0, i1⟩).2 h2 ⟨R1.fr (fr_wd f2 (by omega) (by omega)), T2, wf_feet W, (f2.2 0 (by omega)).trans hs1, f2.1.trans f1.1⟩
      · exact absurd rfl c9
theorem lw_flowers (hL : L ≤ 192) (hi : i + 3 ≤ L) (I : lwI L xs h.2 ⟨⟨len, tx⟩, fa, ⟨N, P, G, wa, me⟩, S, dd, ⟨rc, rx, rh⟩, ⟨bc, bw, bs⟩, sd, i0, i1⟩ h) (tl : ∀ q h', lwI L xs h.2 q h' → am_R M_L_law (603, [.ref 0, .ref 1, .ref 130, .int (nI i)], []) h' Φ) : am_R M_L_law (186, [.ref 0, .ref 1, .ref 130, .int (nI i)], []) h Φ := by
  obtain ⟨R, T, W, hs, -⟩ := I
  obtain ⟨fs1, x1⟩ := R.top
  have k1 : nI i + 1 = nI (i + 1) := nI_1 i
  have k2 : nI i + 2 = nI (i + 2) := by rw [i2, nI_add]
  repeat (first | refine rs [] rfl rfl rfl rfl ?_ | refine rk rfl rfl ?_ | refine rgoh [] rfl rfl ?_ | refine rgeta (hi := rfl) (kk := ?_) | refine rialda (hi := rfl) (kk := ?_))
  (first | refine rif rfl rfl (fun c7 => ?_) (fun c7 => ?_) | refine ric rfl rfl (fun c7 => ?_) (fun c7 => ?_))
  · repeat (first | refine rs [] rfl rfl rfl rfl ?_ | refine rk rfl rfl ?_ | refine rgoh [] rfl rfl ?_ | refine rgeta (hi := rfl) (kk := ?_) | refine rialda (hi := rfl) (kk := ?_))
    refine rcvt rfl rfl rfl rfl rfl x1 rfl (v_flowers R) ?_
    rintro r h1 ⟨rfl, R1, f1⟩
    have hs1 : h1.1 0 = .inl (.int, L, .inl xs) := (f1.2 0 (by omega)).trans hs
    have T1 := T.fr f1 (by omega)
    obtain ⟨fs2, y1⟩ := T1.topq
    show am_R M_L_law (202, [.ref 0, .ref 1, .ref 130, .int (nI i)], [.int (o_flowers (xs (i + 1)) (0) ⟨⟨len, tx⟩, fa, ⟨N, P, G, wa, me⟩, S, dd, ⟨rc, rx, rh⟩, ⟨bc, bw, bs⟩, sd, i0, i1⟩).1]) _ _
    repeat (first | refine rs [] rfl rfl rfl rfl ?_ | refine rk rfl rfl ?_ | refine rgoh [] rfl rfl ?_ | refine rgeta (hi := rfl) (kk := ?_) | refine rialda (hi := rfl) (kk := ?_))
    (first | refine rif rfl rfl (fun c8 => ?_) (fun c8 => ?_) | refine ric rfl rfl (fun c8 => ?_) (fun c8 => ?_))
    · repeat (first | refine rs [] rfl rfl rfl rfl ?_ | refine rk rfl rfl ?_ | refine rgoh [] rfl rfl ?_ | refine rgeta (hi := rfl) (kk := ?_) | refine rialda (hi := rfl) (kk := ?_))
      refine rcvt rfl rfl rfl rfl rfl y1 rfl (w_flowers T1) ?_
      rintro r h2 ⟨rfl, T2, f2⟩
      show am_R M_L_law (218, [.ref 0, .ref 1, .ref 130, .int (nI i)], [.int (o_flowers (xs (i + 1)) (0) ⟨⟨len, tx⟩, fa, ⟨N, P, G, wa, me⟩, S, dd, ⟨rc, rx, rh⟩, ⟨bc, bw, bs⟩, sd, i0, i1⟩).1, .int (o_flowers (xs (i + 1)) (0) ⟨⟨len, tx⟩, fa, ⟨N, P, G, wa, me⟩, S, dd, ⟨rc, rx, rh⟩, ⟨bc, bw, bs⟩, sd, i0, i1⟩).1]) _ _
      (first | refine rif rfl rfl (fun c9 => ?_) (fun c9 => ?_) | refine ric rfl rfl (fun c9 => ?_) (fun c9 => ?_))
      · exact tl (o_flowers (xs (i + 1)) (0) ⟨⟨len, tx⟩, fa, ⟨N, P, G, wa, me⟩, S, dd, ⟨rc, rx, rh⟩, ⟨bc, bw, bs⟩, sd, i0, i1⟩).2 h2 ⟨R1.fr (fr_wd f2 (by omega) (by omega)), T2, wf_flowers W, (f2.2 0 (by omega)).trans hs1, f2.1.trans f1.1⟩
      · exact absurd rfl c9
    · exact absurd c7 c8
  · repeat (first | refine rs [] rfl rfl rfl rfl ?_ | refine rk rfl rfl ?_ | refine rgoh [] rfl rfl ?_ | refine rgeta (hi := rfl) (kk := ?_) | refine rialda (hi := rfl) (kk := ?_))
    refine rcvt rfl rfl rfl rfl rfl x1 rfl (v_flowers R) ?_
    rintro r h1 ⟨rfl, R1, f1⟩
    have hs1 : h1.1 0 = .inl (.int, L, .inl xs) := (f1.2 0 (by omega)).trans hs
    have T1 := T.fr f1 (by omega)
    obtain ⟨fs2, y1⟩ := T1.topq
    show am_R M_L_law (202, [.ref 0, .ref 1, .ref 130, .int (nI i)], [.int (o_flowers (xs (i + 1)) (1) ⟨⟨len, tx⟩, fa, ⟨N, P, G, wa, me⟩, S, dd, ⟨rc, rx, rh⟩, ⟨bc, bw, bs⟩, sd, i0, i1⟩).1]) _ _
    repeat (first | refine rs [] rfl rfl rfl rfl ?_ | refine rk rfl rfl ?_ | refine rgoh [] rfl rfl ?_ | refine rgeta (hi := rfl) (kk := ?_) | refine rialda (hi := rfl) (kk := ?_))
    (first | refine rif rfl rfl (fun c8 => ?_) (fun c8 => ?_) | refine ric rfl rfl (fun c8 => ?_) (fun c8 => ?_))
    · exact absurd c8 c7
    · repeat (first | refine rs [] rfl rfl rfl rfl ?_ | refine rk rfl rfl ?_ | refine rgoh [] rfl rfl ?_ | refine rgeta (hi := rfl) (kk := ?_) | refine rialda (hi := rfl) (kk := ?_))
      refine rcvt rfl rfl rfl rfl rfl y1 rfl (w_flowers T1) ?_
      rintro r h2 ⟨rfl, T2, f2⟩
      show am_R M_L_law (218, [.ref 0, .ref 1, .ref 130, .int (nI i)], [.int (o_flowers (xs (i + 1)) (1) ⟨⟨len, tx⟩, fa, ⟨N, P, G, wa, me⟩, S, dd, ⟨rc, rx, rh⟩, ⟨bc, bw, bs⟩, sd, i0, i1⟩).1, .int (o_flowers (xs (i + 1)) (1) ⟨⟨len, tx⟩, fa, ⟨N, P, G, wa, me⟩, S, dd, ⟨rc, rx, rh⟩, ⟨bc, bw, bs⟩, sd, i0, i1⟩).1]) _ _
      (first | refine rif rfl rfl (fun c9 => ?_) (fun c9 => ?_) | refine ric rfl rfl (fun c9 => ?_) (fun c9 => ?_))
      · exact tl (o_flowers (xs (i + 1)) (1) ⟨⟨len, tx⟩, fa, ⟨N, P, G, wa, me⟩, S, dd, ⟨rc, rx, rh⟩, ⟨bc, bw, bs⟩, sd, i0, i1⟩).2 h2 ⟨R1.fr (fr_wd f2 (by omega) (by omega)), T2, wf_flowers W, (f2.2 0 (by omega)).trans hs1, f2.1.trans f1.1⟩
      · exact absurd rfl c9
theorem lw_walk (hL : L ≤ 192) (hi : i + 3 ≤ L) (I : lwI L xs h.2 ⟨⟨len, tx⟩, fa, ⟨N, P, G, wa, me⟩, S, dd, ⟨rc, rx, rh⟩, ⟨bc, bw, bs⟩, sd, i0, i1⟩ h) (tl : ∀ q h', lwI L xs h.2 q h' → am_R M_L_law (603, [.ref 0, .ref 1, .ref 130, .int (nI i)], []) h' Φ) : am_R M_L_law (221, [.ref 0, .ref 1, .ref 130, .int (nI i)], []) h Φ := by
  obtain ⟨R, T, W, hs, -⟩ := I
  obtain ⟨fs1, x1⟩ := R.top
  have k1 : nI i + 1 = nI (i + 1) := nI_1 i
  have k2 : nI i + 2 = nI (i + 2) := by rw [i2, nI_add]
  repeat (first | refine rs [] rfl rfl rfl rfl ?_ | refine rk rfl rfl ?_ | refine rgoh [] rfl rfl ?_ | refine rgeta (hi := rfl) (kk := ?_) | refine rialda (hi := rfl) (kk := ?_))
  refine rcvt rfl rfl rfl rfl rfl x1 rfl (v_walk R) ?_
  rintro r h1 ⟨rfl, R1, f1⟩
  have hs1 : h1.1 0 = .inl (.int, L, .inl xs) := (f1.2 0 (by omega)).trans hs
  have T1 := T.fr f1 (by omega)
  obtain ⟨fs2, y1⟩ := T1.topq
  show am_R M_L_law (233, [.ref 0, .ref 1, .ref 130, .int (nI i)], [.int (o_walk (xs (i + 1)) (xs (i + 2)) ⟨⟨len, tx⟩, fa, ⟨N, P, G, wa, me⟩, S, dd, ⟨rc, rx, rh⟩, ⟨bc, bw, bs⟩, sd, i0, i1⟩).1]) _ _
  repeat (first | refine rs [] rfl rfl rfl rfl ?_ | refine rk rfl rfl ?_ | refine rgoh [] rfl rfl ?_ | refine rgeta (hi := rfl) (kk := ?_) | refine rialda (hi := rfl) (kk := ?_))
  refine rcvt rfl rfl rfl rfl rfl y1 rfl (w_walk T1) ?_
  rintro r h2 ⟨rfl, T2, f2⟩
  show am_R M_L_law (245, [.ref 0, .ref 1, .ref 130, .int (nI i)], [.int (o_walk (xs (i + 1)) (xs (i + 2)) ⟨⟨len, tx⟩, fa, ⟨N, P, G, wa, me⟩, S, dd, ⟨rc, rx, rh⟩, ⟨bc, bw, bs⟩, sd, i0, i1⟩).1, .int (o_walk (xs (i + 1)) (xs (i + 2)) ⟨⟨len, tx⟩, fa, ⟨N, P, G, wa, me⟩, S, dd, ⟨rc, rx, rh⟩, ⟨bc, bw, bs⟩, sd, i0, i1⟩).1]) _ _
  (first | refine rif rfl rfl (fun c9 => ?_) (fun c9 => ?_) | refine ric rfl rfl (fun c9 => ?_) (fun c9 => ?_))
  · exact tl (o_walk (xs (i + 1)) (xs (i + 2)) ⟨⟨len, tx⟩, fa, ⟨N, P, G, wa, me⟩, S, dd, ⟨rc, rx, rh⟩, ⟨bc, bw, bs⟩, sd, i0, i1⟩).2 h2 ⟨R1.fr (fr_wd f2 (by omega) (by omega)), T2, wf_walk W, (f2.2 0 (by omega)).trans hs1, f2.1.trans f1.1⟩
  · exact absurd rfl c9
theorem lw_fog (hL : L ≤ 192) (hi : i + 3 ≤ L) (I : lwI L xs h.2 ⟨⟨len, tx⟩, fa, ⟨N, P, G, wa, me⟩, S, dd, ⟨rc, rx, rh⟩, ⟨bc, bw, bs⟩, sd, i0, i1⟩ h) (tl : ∀ q h', lwI L xs h.2 q h' → am_R M_L_law (603, [.ref 0, .ref 1, .ref 130, .int (nI i)], []) h' Φ) : am_R M_L_law (248, [.ref 0, .ref 1, .ref 130, .int (nI i)], []) h Φ := by
  obtain ⟨R, T, W, hs, -⟩ := I
  obtain ⟨fs1, x1⟩ := R.top
  have k1 : nI i + 1 = nI (i + 1) := nI_1 i
  have k2 : nI i + 2 = nI (i + 2) := by rw [i2, nI_add]
  repeat (first | refine rs [] rfl rfl rfl rfl ?_ | refine rk rfl rfl ?_ | refine rgoh [] rfl rfl ?_ | refine rgeta (hi := rfl) (kk := ?_) | refine rialda (hi := rfl) (kk := ?_))
  refine rcvt rfl rfl rfl rfl rfl x1 rfl (v_fog R) ?_
  rintro r h1 ⟨rfl, R1, f1⟩
  have hs1 : h1.1 0 = .inl (.int, L, .inl xs) := (f1.2 0 (by omega)).trans hs
  have T1 := T.fr f1 (by omega)
  obtain ⟨fs2, y1⟩ := T1.topq
  show am_R M_L_law (255, [.ref 0, .ref 1, .ref 130, .int (nI i)], [.int (o_fog (xs (i + 1)) ⟨⟨len, tx⟩, fa, ⟨N, P, G, wa, me⟩, S, dd, ⟨rc, rx, rh⟩, ⟨bc, bw, bs⟩, sd, i0, i1⟩).1]) _ _
  repeat (first | refine rs [] rfl rfl rfl rfl ?_ | refine rk rfl rfl ?_ | refine rgoh [] rfl rfl ?_ | refine rgeta (hi := rfl) (kk := ?_) | refine rialda (hi := rfl) (kk := ?_))
  refine rcvt rfl rfl rfl rfl rfl y1 rfl (w_fog T1) ?_
  rintro r h2 ⟨rfl, T2, f2⟩
  show am_R M_L_law (262, [.ref 0, .ref 1, .ref 130, .int (nI i)], [.int (o_fog (xs (i + 1)) ⟨⟨len, tx⟩, fa, ⟨N, P, G, wa, me⟩, S, dd, ⟨rc, rx, rh⟩, ⟨bc, bw, bs⟩, sd, i0, i1⟩).1, .int (o_fog (xs (i + 1)) ⟨⟨len, tx⟩, fa, ⟨N, P, G, wa, me⟩, S, dd, ⟨rc, rx, rh⟩, ⟨bc, bw, bs⟩, sd, i0, i1⟩).1]) _ _
  (first | refine rif rfl rfl (fun c9 => ?_) (fun c9 => ?_) | refine ric rfl rfl (fun c9 => ?_) (fun c9 => ?_))
  · exact tl (o_fog (xs (i + 1)) ⟨⟨len, tx⟩, fa, ⟨N, P, G, wa, me⟩, S, dd, ⟨rc, rx, rh⟩, ⟨bc, bw, bs⟩, sd, i0, i1⟩).2 h2 ⟨R1.fr (fr_wd f2 (by omega) (by omega)), T2, wf_fog W, (f2.2 0 (by omega)).trans hs1, f2.1.trans f1.1⟩
  · exact absurd rfl c9
theorem lw_train (hL : L ≤ 192) (hi : i + 3 ≤ L) (I : lwI L xs h.2 ⟨⟨len, tx⟩, fa, ⟨N, P, G, wa, me⟩, S, dd, ⟨rc, rx, rh⟩, ⟨bc, bw, bs⟩, sd, i0, i1⟩ h) (tl : ∀ q h', lwI L xs h.2 q h' → am_R M_L_law (603, [.ref 0, .ref 1, .ref 130, .int (nI i)], []) h' Φ) : am_R M_L_law (265, [.ref 0, .ref 1, .ref 130, .int (nI i)], []) h Φ := by
  obtain ⟨R, T, W, hs, -⟩ := I
  obtain ⟨fs1, x1⟩ := R.top
  have k1 : nI i + 1 = nI (i + 1) := nI_1 i
  have k2 : nI i + 2 = nI (i + 2) := by rw [i2, nI_add]
  repeat (first | refine rs [] rfl rfl rfl rfl ?_ | refine rk rfl rfl ?_ | refine rgoh [] rfl rfl ?_ | refine rgeta (hi := rfl) (kk := ?_) | refine rialda (hi := rfl) (kk := ?_))
  refine rcvt rfl rfl rfl rfl rfl x1 rfl (v_train R) ?_
  rintro r h1 ⟨rfl, R1, f1⟩
  have hs1 : h1.1 0 = .inl (.int, L, .inl xs) := (f1.2 0 (by omega)).trans hs
  have T1 := T.fr f1 (by omega)
  obtain ⟨fs2, y1⟩ := T1.topq
  show am_R M_L_law (272, [.ref 0, .ref 1, .ref 130, .int (nI i)], [.int (o_train (xs (i + 1)) ⟨⟨len, tx⟩, fa, ⟨N, P, G, wa, me⟩, S, dd, ⟨rc, rx, rh⟩, ⟨bc, bw, bs⟩, sd, i0, i1⟩).1]) _ _
  repeat (first | refine rs [] rfl rfl rfl rfl ?_ | refine rk rfl rfl ?_ | refine rgoh [] rfl rfl ?_ | refine rgeta (hi := rfl) (kk := ?_) | refine rialda (hi := rfl) (kk := ?_))
  refine rcvt rfl rfl rfl rfl rfl y1 rfl (w_train W T1) ?_
  rintro r h2 ⟨rfl, T2, f2⟩
  show am_R M_L_law (279, [.ref 0, .ref 1, .ref 130, .int (nI i)], [.int (o_train (xs (i + 1)) ⟨⟨len, tx⟩, fa, ⟨N, P, G, wa, me⟩, S, dd, ⟨rc, rx, rh⟩, ⟨bc, bw, bs⟩, sd, i0, i1⟩).1, .int (o_train (xs (i + 1)) ⟨⟨len, tx⟩, fa, ⟨N, P, G, wa, me⟩, S, dd, ⟨rc, rx, rh⟩, ⟨bc, bw, bs⟩, sd, i0, i1⟩).1]) _ _
  (first | refine rif rfl rfl (fun c9 => ?_) (fun c9 => ?_) | refine ric rfl rfl (fun c9 => ?_) (fun c9 => ?_))
  · exact tl (o_train (xs (i + 1)) ⟨⟨len, tx⟩, fa, ⟨N, P, G, wa, me⟩, S, dd, ⟨rc, rx, rh⟩, ⟨bc, bw, bs⟩, sd, i0, i1⟩).2 h2 ⟨R1.fr (fr_wd f2 (by omega) (by omega)), T2, wf_train W, (f2.2 0 (by omega)).trans hs1, f2.1.trans f1.1⟩
  · exact absurd rfl c9
theorem lw_drift (hL : L ≤ 192) (hi : i + 3 ≤ L) (I : lwI L xs h.2 ⟨⟨len, tx⟩, fa, ⟨N, P, G, wa, me⟩, S, dd, ⟨rc, rx, rh⟩, ⟨bc, bw, bs⟩, sd, i0, i1⟩ h) (tl : ∀ q h', lwI L xs h.2 q h' → am_R M_L_law (603, [.ref 0, .ref 1, .ref 130, .int (nI i)], []) h' Φ) : am_R M_L_law (282, [.ref 0, .ref 1, .ref 130, .int (nI i)], []) h Φ := by
  obtain ⟨R, T, W, hs, -⟩ := I
  obtain ⟨fs1, x1⟩ := R.top
  have k1 : nI i + 1 = nI (i + 1) := nI_1 i
  have k2 : nI i + 2 = nI (i + 2) := by rw [i2, nI_add]
  repeat (first | refine rs [] rfl rfl rfl rfl ?_ | refine rk rfl rfl ?_ | refine rgoh [] rfl rfl ?_ | refine rgeta (hi := rfl) (kk := ?_) | refine rialda (hi := rfl) (kk := ?_))
  refine rcvt rfl rfl rfl rfl rfl x1 rfl (v_drift R) ?_
  rintro r h1 ⟨rfl, R1, f1⟩
  have hs1 : h1.1 0 = .inl (.int, L, .inl xs) := (f1.2 0 (by omega)).trans hs
  have T1 := T.fr f1 (by omega)
  obtain ⟨fs2, y1⟩ := T1.topq
  show am_R M_L_law (289, [.ref 0, .ref 1, .ref 130, .int (nI i)], [.int (o_drift (xs (i + 1)) ⟨⟨len, tx⟩, fa, ⟨N, P, G, wa, me⟩, S, dd, ⟨rc, rx, rh⟩, ⟨bc, bw, bs⟩, sd, i0, i1⟩).1]) _ _
  repeat (first | refine rs [] rfl rfl rfl rfl ?_ | refine rk rfl rfl ?_ | refine rgoh [] rfl rfl ?_ | refine rgeta (hi := rfl) (kk := ?_) | refine rialda (hi := rfl) (kk := ?_))
  refine rcvt rfl rfl rfl rfl rfl y1 rfl (w_drift W T1) ?_
  rintro r h2 ⟨rfl, T2, f2⟩
  show am_R M_L_law (296, [.ref 0, .ref 1, .ref 130, .int (nI i)], [.int (o_drift (xs (i + 1)) ⟨⟨len, tx⟩, fa, ⟨N, P, G, wa, me⟩, S, dd, ⟨rc, rx, rh⟩, ⟨bc, bw, bs⟩, sd, i0, i1⟩).1, .int (o_drift (xs (i + 1)) ⟨⟨len, tx⟩, fa, ⟨N, P, G, wa, me⟩, S, dd, ⟨rc, rx, rh⟩, ⟨bc, bw, bs⟩, sd, i0, i1⟩).1]) _ _
  (first | refine rif rfl rfl (fun c9 => ?_) (fun c9 => ?_) | refine ric rfl rfl (fun c9 => ?_) (fun c9 => ?_))
  · exact tl (o_drift (xs (i + 1)) ⟨⟨len, tx⟩, fa, ⟨N, P, G, wa, me⟩, S, dd, ⟨rc, rx, rh⟩, ⟨bc, bw, bs⟩, sd, i0, i1⟩).2 h2 ⟨R1.fr (fr_wd f2 (by omega) (by omega)), T2, wf_drift W, (f2.2 0 (by omega)).trans hs1, f2.1.trans f1.1⟩
  · exact absurd rfl c9
theorem lw_undo (hL : L ≤ 192) (hi : i + 3 ≤ L) (I : lwI L xs h.2 ⟨⟨len, tx⟩, fa, ⟨N, P, G, wa, me⟩, S, dd, ⟨rc, rx, rh⟩, ⟨bc, bw, bs⟩, sd, i0, i1⟩ h) (tl : ∀ q h', lwI L xs h.2 q h' → am_R M_L_law (603, [.ref 0, .ref 1, .ref 130, .int (nI i)], []) h' Φ) : am_R M_L_law (299, [.ref 0, .ref 1, .ref 130, .int (nI i)], []) h Φ := by
  obtain ⟨R, T, W, hs, -⟩ := I
  obtain ⟨fs1, x1⟩ := R.top
  have k1 : nI i + 1 = nI (i + 1) := nI_1 i
  have k2 : nI i + 2 = nI (i + 2) := by rw [i2, nI_add]
  repeat (first | refine rs [] rfl rfl rfl rfl ?_ | refine rk rfl rfl ?_ | refine rgoh [] rfl rfl ?_ | refine rgeta (hi := rfl) (kk := ?_) | refine rialda (hi := rfl) (kk := ?_))
  refine rcvt rfl rfl rfl rfl rfl x1 rfl (v_undo R) ?_
  rintro r h1 ⟨rfl, R1, f1⟩
  have hs1 : h1.1 0 = .inl (.int, L, .inl xs) := (f1.2 0 (by omega)).trans hs
  have T1 := T.fr f1 (by omega)
  obtain ⟨fs2, y1⟩ := T1.topq
  show am_R M_L_law (306, [.ref 0, .ref 1, .ref 130, .int (nI i)], [.int (o_undo (xs (i + 1)) ⟨⟨len, tx⟩, fa, ⟨N, P, G, wa, me⟩, S, dd, ⟨rc, rx, rh⟩, ⟨bc, bw, bs⟩, sd, i0, i1⟩).1]) _ _
  repeat (first | refine rs [] rfl rfl rfl rfl ?_ | refine rk rfl rfl ?_ | refine rgoh [] rfl rfl ?_ | refine rgeta (hi := rfl) (kk := ?_) | refine rialda (hi := rfl) (kk := ?_))
  refine rcvt rfl rfl rfl rfl rfl y1 rfl (w_undo T1) ?_
  rintro r h2 ⟨rfl, T2, f2⟩
  show am_R M_L_law (313, [.ref 0, .ref 1, .ref 130, .int (nI i)], [.int (o_undo (xs (i + 1)) ⟨⟨len, tx⟩, fa, ⟨N, P, G, wa, me⟩, S, dd, ⟨rc, rx, rh⟩, ⟨bc, bw, bs⟩, sd, i0, i1⟩).1, .int (o_undo (xs (i + 1)) ⟨⟨len, tx⟩, fa, ⟨N, P, G, wa, me⟩, S, dd, ⟨rc, rx, rh⟩, ⟨bc, bw, bs⟩, sd, i0, i1⟩).1]) _ _
  (first | refine rif rfl rfl (fun c9 => ?_) (fun c9 => ?_) | refine ric rfl rfl (fun c9 => ?_) (fun c9 => ?_))
  · exact tl (o_undo (xs (i + 1)) ⟨⟨len, tx⟩, fa, ⟨N, P, G, wa, me⟩, S, dd, ⟨rc, rx, rh⟩, ⟨bc, bw, bs⟩, sd, i0, i1⟩).2 h2 ⟨R1.fr (fr_wd f2 (by omega) (by omega)), T2, wf_undo W, (f2.2 0 (by omega)).trans hs1, f2.1.trans f1.1⟩
  · exact absurd rfl c9
theorem lw_stops (hL : L ≤ 192) (hi : i + 3 ≤ L) (I : lwI L xs h.2 ⟨⟨len, tx⟩, fa, ⟨N, P, G, wa, me⟩, S, dd, ⟨rc, rx, rh⟩, ⟨bc, bw, bs⟩, sd, i0, i1⟩ h) (tl : ∀ q h', lwI L xs h.2 q h' → am_R M_L_law (603, [.ref 0, .ref 1, .ref 130, .int (nI i)], []) h' Φ) : am_R M_L_law (316, [.ref 0, .ref 1, .ref 130, .int (nI i)], []) h Φ := by
  obtain ⟨R, T, W, hs, -⟩ := I
  obtain ⟨fs1, x1⟩ := R.top
  have k1 : nI i + 1 = nI (i + 1) := nI_1 i
  have k2 : nI i + 2 = nI (i + 2) := by rw [i2, nI_add]
  repeat (first | refine rs [] rfl rfl rfl rfl ?_ | refine rk rfl rfl ?_ | refine rgoh [] rfl rfl ?_ | refine rgeta (hi := rfl) (kk := ?_) | refine rialda (hi := rfl) (kk := ?_))
  refine rcvt rfl rfl rfl rfl rfl x1 rfl (v_stops R) ?_
  rintro r h1 ⟨rfl, R1, f1⟩
  have hs1 : h1.1 0 = .inl (.int, L, .inl xs) := (f1.2 0 (by omega)).trans hs
  have T1 := T.fr f1 (by omega)
  obtain ⟨fs2, y1⟩ := T1.topq
  show am_R M_L_law (318, [.ref 0, .ref 1, .ref 130, .int (nI i)], [.int (o_stops  ⟨⟨len, tx⟩, fa, ⟨N, P, G, wa, me⟩, S, dd, ⟨rc, rx, rh⟩, ⟨bc, bw, bs⟩, sd, i0, i1⟩).1]) _ _
  repeat (first | refine rs [] rfl rfl rfl rfl ?_ | refine rk rfl rfl ?_ | refine rgoh [] rfl rfl ?_ | refine rgeta (hi := rfl) (kk := ?_) | refine rialda (hi := rfl) (kk := ?_))
  refine rcvt rfl rfl rfl rfl rfl y1 rfl (w_stops W T1) ?_
  rintro r h2 ⟨rfl, T2, f2⟩
  show am_R M_L_law (320, [.ref 0, .ref 1, .ref 130, .int (nI i)], [.int (o_stops  ⟨⟨len, tx⟩, fa, ⟨N, P, G, wa, me⟩, S, dd, ⟨rc, rx, rh⟩, ⟨bc, bw, bs⟩, sd, i0, i1⟩).1, .int (o_stops  ⟨⟨len, tx⟩, fa, ⟨N, P, G, wa, me⟩, S, dd, ⟨rc, rx, rh⟩, ⟨bc, bw, bs⟩, sd, i0, i1⟩).1]) _ _
  (first | refine rif rfl rfl (fun c9 => ?_) (fun c9 => ?_) | refine ric rfl rfl (fun c9 => ?_) (fun c9 => ?_))
  · exact tl (o_stops  ⟨⟨len, tx⟩, fa, ⟨N, P, G, wa, me⟩, S, dd, ⟨rc, rx, rh⟩, ⟨bc, bw, bs⟩, sd, i0, i1⟩).2 h2 ⟨R1.fr (fr_wd f2 (by omega) (by omega)), T2, W, (f2.2 0 (by omega)).trans hs1, f2.1.trans f1.1⟩
  · exact absurd rfl c9
theorem lw_calm (hL : L ≤ 192) (hi : i + 3 ≤ L) (I : lwI L xs h.2 ⟨⟨len, tx⟩, fa, ⟨N, P, G, wa, me⟩, S, dd, ⟨rc, rx, rh⟩, ⟨bc, bw, bs⟩, sd, i0, i1⟩ h) (tl : ∀ q h', lwI L xs h.2 q h' → am_R M_L_law (603, [.ref 0, .ref 1, .ref 130, .int (nI i)], []) h' Φ) : am_R M_L_law (323, [.ref 0, .ref 1, .ref 130, .int (nI i)], []) h Φ := by
  obtain ⟨R, T, W, hs, -⟩ := I
  obtain ⟨fs1, x1⟩ := R.top
  have k1 : nI i + 1 = nI (i + 1) := nI_1 i
  have k2 : nI i + 2 = nI (i + 2) := by rw [i2, nI_add]
  repeat (first | refine rs [] rfl rfl rfl rfl ?_ | refine rk rfl rfl ?_ | refine rgoh [] rfl rfl ?_ | refine rgeta (hi := rfl) (kk := ?_) | refine rialda (hi := rfl) (kk := ?_))
  refine rcvt rfl rfl rfl rfl rfl x1 rfl (v_calm R) ?_
  rintro r h1 ⟨rfl, R1, f1⟩
  have hs1 : h1.1 0 = .inl (.int, L, .inl xs) := (f1.2 0 (by omega)).trans hs
  have T1 := T.fr f1 (by omega)
  obtain ⟨fs2, y1⟩ := T1.topq
  show am_R M_L_law (330, [.ref 0, .ref 1, .ref 130, .int (nI i)], [.int (o_calm (xs (i + 1)) ⟨⟨len, tx⟩, fa, ⟨N, P, G, wa, me⟩, S, dd, ⟨rc, rx, rh⟩, ⟨bc, bw, bs⟩, sd, i0, i1⟩).1]) _ _
  repeat (first | refine rs [] rfl rfl rfl rfl ?_ | refine rk rfl rfl ?_ | refine rgoh [] rfl rfl ?_ | refine rgeta (hi := rfl) (kk := ?_) | refine rialda (hi := rfl) (kk := ?_))
  refine rcvt rfl rfl rfl rfl rfl y1 rfl (w_calm T1) ?_
  rintro r h2 ⟨rfl, T2, f2⟩
  show am_R M_L_law (337, [.ref 0, .ref 1, .ref 130, .int (nI i)], [.int (o_calm (xs (i + 1)) ⟨⟨len, tx⟩, fa, ⟨N, P, G, wa, me⟩, S, dd, ⟨rc, rx, rh⟩, ⟨bc, bw, bs⟩, sd, i0, i1⟩).1, .int (o_calm (xs (i + 1)) ⟨⟨len, tx⟩, fa, ⟨N, P, G, wa, me⟩, S, dd, ⟨rc, rx, rh⟩, ⟨bc, bw, bs⟩, sd, i0, i1⟩).1]) _ _
  (first | refine rif rfl rfl (fun c9 => ?_) (fun c9 => ?_) | refine ric rfl rfl (fun c9 => ?_) (fun c9 => ?_))
  · exact tl (o_calm (xs (i + 1)) ⟨⟨len, tx⟩, fa, ⟨N, P, G, wa, me⟩, S, dd, ⟨rc, rx, rh⟩, ⟨bc, bw, bs⟩, sd, i0, i1⟩).2 h2 ⟨R1.fr (fr_wd f2 (by omega) (by omega)), T2, W, (f2.2 0 (by omega)).trans hs1, f2.1.trans f1.1⟩
  · exact absurd rfl c9
theorem lw_journey (hL : L ≤ 192) (hi : i + 3 ≤ L) (I : lwI L xs h.2 ⟨⟨len, tx⟩, fa, ⟨N, P, G, wa, me⟩, S, dd, ⟨rc, rx, rh⟩, ⟨bc, bw, bs⟩, sd, i0, i1⟩ h) (tl : ∀ q h', lwI L xs h.2 q h' → am_R M_L_law (603, [.ref 0, .ref 1, .ref 130, .int (nI i)], []) h' Φ) : am_R M_L_law (340, [.ref 0, .ref 1, .ref 130, .int (nI i)], []) h Φ := by
  obtain ⟨R, T, W, hs, -⟩ := I
  obtain ⟨fs1, x1⟩ := R.top
  have k1 : nI i + 1 = nI (i + 1) := nI_1 i
  have k2 : nI i + 2 = nI (i + 2) := by rw [i2, nI_add]
  repeat (first | refine rs [] rfl rfl rfl rfl ?_ | refine rk rfl rfl ?_ | refine rgoh [] rfl rfl ?_ | refine rgeta (hi := rfl) (kk := ?_) | refine rialda (hi := rfl) (kk := ?_))
  refine rcvt rfl rfl rfl rfl rfl x1 rfl (v_journey R) ?_
  rintro r h1 ⟨rfl, R1, f1⟩
  have hs1 : h1.1 0 = .inl (.int, L, .inl xs) := (f1.2 0 (by omega)).trans hs
  have T1 := T.fr f1 (by omega)
  obtain ⟨fs2, y1⟩ := T1.topq
  show am_R M_L_law (347, [.ref 0, .ref 1, .ref 130, .int (nI i)], [.int (o_journey (xs (i + 1)) ⟨⟨len, tx⟩, fa, ⟨N, P, G, wa, me⟩, S, dd, ⟨rc, rx, rh⟩, ⟨bc, bw, bs⟩, sd, i0, i1⟩).1]) _ _
  repeat (first | refine rs [] rfl rfl rfl rfl ?_ | refine rk rfl rfl ?_ | refine rgoh [] rfl rfl ?_ | refine rgeta (hi := rfl) (kk := ?_) | refine rialda (hi := rfl) (kk := ?_))
  refine rcvt rfl rfl rfl rfl rfl y1 rfl (w_journey W T1) ?_
  rintro r h2 ⟨rfl, T2, f2⟩
  show am_R M_L_law (354, [.ref 0, .ref 1, .ref 130, .int (nI i)], [.int (o_journey (xs (i + 1)) ⟨⟨len, tx⟩, fa, ⟨N, P, G, wa, me⟩, S, dd, ⟨rc, rx, rh⟩, ⟨bc, bw, bs⟩, sd, i0, i1⟩).1, .int (o_journey (xs (i + 1)) ⟨⟨len, tx⟩, fa, ⟨N, P, G, wa, me⟩, S, dd, ⟨rc, rx, rh⟩, ⟨bc, bw, bs⟩, sd, i0, i1⟩).1]) _ _
  (first | refine rif rfl rfl (fun c9 => ?_) (fun c9 => ?_) | refine ric rfl rfl (fun c9 => ?_) (fun c9 => ?_))
  · exact tl (o_journey (xs (i + 1)) ⟨⟨len, tx⟩, fa, ⟨N, P, G, wa, me⟩, S, dd, ⟨rc, rx, rh⟩, ⟨bc, bw, bs⟩, sd, i0, i1⟩).2 h2 ⟨R1.fr (fr_wd f2 (by omega) (by omega)), T2, W, (f2.2 0 (by omega)).trans hs1, f2.1.trans f1.1⟩
  · exact absurd rfl c9
theorem lw_never (hL : L ≤ 192) (hi : i + 3 ≤ L) (I : lwI L xs h.2 ⟨⟨len, tx⟩, fa, ⟨N, P, G, wa, me⟩, S, dd, ⟨rc, rx, rh⟩, ⟨bc, bw, bs⟩, sd, i0, i1⟩ h) (tl : ∀ q h', lwI L xs h.2 q h' → am_R M_L_law (603, [.ref 0, .ref 1, .ref 130, .int (nI i)], []) h' Φ) : am_R M_L_law (357, [.ref 0, .ref 1, .ref 130, .int (nI i)], []) h Φ := by
  obtain ⟨R, T, W, hs, -⟩ := I
  obtain ⟨fs1, x1⟩ := R.top
  have k1 : nI i + 1 = nI (i + 1) := nI_1 i
  have k2 : nI i + 2 = nI (i + 2) := by rw [i2, nI_add]
  repeat (first | refine rs [] rfl rfl rfl rfl ?_ | refine rk rfl rfl ?_ | refine rgoh [] rfl rfl ?_ | refine rgeta (hi := rfl) (kk := ?_) | refine rialda (hi := rfl) (kk := ?_))
  refine rcvt rfl rfl rfl rfl rfl x1 rfl (v_never R) ?_
  rintro r h1 ⟨rfl, R1, f1⟩
  have hs1 : h1.1 0 = .inl (.int, L, .inl xs) := (f1.2 0 (by omega)).trans hs
  have T1 := T.fr f1 (by omega)
  obtain ⟨fs2, y1⟩ := T1.topq
  show am_R M_L_law (364, [.ref 0, .ref 1, .ref 130, .int (nI i)], [.int (o_never (xs (i + 1)) ⟨⟨len, tx⟩, fa, ⟨N, P, G, wa, me⟩, S, dd, ⟨rc, rx, rh⟩, ⟨bc, bw, bs⟩, sd, i0, i1⟩).1]) _ _
  repeat (first | refine rs [] rfl rfl rfl rfl ?_ | refine rk rfl rfl ?_ | refine rgoh [] rfl rfl ?_ | refine rgeta (hi := rfl) (kk := ?_) | refine rialda (hi := rfl) (kk := ?_))
  refine rcvt rfl rfl rfl rfl rfl y1 rfl (w_never W T1) ?_
  rintro r h2 ⟨rfl, T2, f2⟩
  show am_R M_L_law (371, [.ref 0, .ref 1, .ref 130, .int (nI i)], [.int (o_never (xs (i + 1)) ⟨⟨len, tx⟩, fa, ⟨N, P, G, wa, me⟩, S, dd, ⟨rc, rx, rh⟩, ⟨bc, bw, bs⟩, sd, i0, i1⟩).1, .int (o_never (xs (i + 1)) ⟨⟨len, tx⟩, fa, ⟨N, P, G, wa, me⟩, S, dd, ⟨rc, rx, rh⟩, ⟨bc, bw, bs⟩, sd, i0, i1⟩).1]) _ _
  (first | refine rif rfl rfl (fun c9 => ?_) (fun c9 => ?_) | refine ric rfl rfl (fun c9 => ?_) (fun c9 => ?_))
  · exact tl (o_never (xs (i + 1)) ⟨⟨len, tx⟩, fa, ⟨N, P, G, wa, me⟩, S, dd, ⟨rc, rx, rh⟩, ⟨bc, bw, bs⟩, sd, i0, i1⟩).2 h2 ⟨R1.fr (fr_wd f2 (by omega) (by omega)), T2, W, (f2.2 0 (by omega)).trans hs1, f2.1.trans f1.1⟩
  · exact absurd rfl c9
theorem lw_cut (hL : L ≤ 192) (hi : i + 3 ≤ L) (I : lwI L xs h.2 ⟨⟨len, tx⟩, fa, ⟨N, P, G, wa, me⟩, S, dd, ⟨rc, rx, rh⟩, ⟨bc, bw, bs⟩, sd, i0, i1⟩ h) (tl : ∀ q h', lwI L xs h.2 q h' → am_R M_L_law (603, [.ref 0, .ref 1, .ref 130, .int (nI i)], []) h' Φ) : am_R M_L_law (374, [.ref 0, .ref 1, .ref 130, .int (nI i)], []) h Φ := by
  obtain ⟨R, T, W, hs, -⟩ := I
  obtain ⟨fs1, x1⟩ := R.top
  have k1 : nI i + 1 = nI (i + 1) := nI_1 i
  have k2 : nI i + 2 = nI (i + 2) := by rw [i2, nI_add]
  repeat (first | refine rs [] rfl rfl rfl rfl ?_ | refine rk rfl rfl ?_ | refine rgoh [] rfl rfl ?_ | refine rgeta (hi := rfl) (kk := ?_) | refine rialda (hi := rfl) (kk := ?_))
  refine rcvt rfl rfl rfl rfl rfl x1 rfl (v_cut R) ?_
  rintro r h1 ⟨rfl, R1, f1⟩
  have hs1 : h1.1 0 = .inl (.int, L, .inl xs) := (f1.2 0 (by omega)).trans hs
  have T1 := T.fr f1 (by omega)
  obtain ⟨fs2, y1⟩ := T1.topq
  show am_R M_L_law (381, [.ref 0, .ref 1, .ref 130, .int (nI i)], [.int (o_cut (xs (i + 1)) ⟨⟨len, tx⟩, fa, ⟨N, P, G, wa, me⟩, S, dd, ⟨rc, rx, rh⟩, ⟨bc, bw, bs⟩, sd, i0, i1⟩).1]) _ _
  repeat (first | refine rs [] rfl rfl rfl rfl ?_ | refine rk rfl rfl ?_ | refine rgoh [] rfl rfl ?_ | refine rgeta (hi := rfl) (kk := ?_) | refine rialda (hi := rfl) (kk := ?_))
  refine rcvt rfl rfl rfl rfl rfl y1 rfl (w_cut W T1) ?_
  rintro r h2 ⟨rfl, T2, f2⟩
  show am_R M_L_law (388, [.ref 0, .ref 1, .ref 130, .int (nI i)], [.int (o_cut (xs (i + 1)) ⟨⟨len, tx⟩, fa, ⟨N, P, G, wa, me⟩, S, dd, ⟨rc, rx, rh⟩, ⟨bc, bw, bs⟩, sd, i0, i1⟩).1, .int (o_cut (xs (i + 1)) ⟨⟨len, tx⟩, fa, ⟨N, P, G, wa, me⟩, S, dd, ⟨rc, rx, rh⟩, ⟨bc, bw, bs⟩, sd, i0, i1⟩).1]) _ _
  (first | refine rif rfl rfl (fun c9 => ?_) (fun c9 => ?_) | refine ric rfl rfl (fun c9 => ?_) (fun c9 => ?_))
  · exact tl (o_cut (xs (i + 1)) ⟨⟨len, tx⟩, fa, ⟨N, P, G, wa, me⟩, S, dd, ⟨rc, rx, rh⟩, ⟨bc, bw, bs⟩, sd, i0, i1⟩).2 h2 ⟨R1.fr (fr_wd f2 (by omega) (by omega)), T2, W, (f2.2 0 (by omega)).trans hs1, f2.1.trans f1.1⟩
  · exact absurd rfl c9
theorem lw_aunts (hL : L ≤ 192) (hi : i + 3 ≤ L) (I : lwI L xs h.2 ⟨⟨len, tx⟩, fa, ⟨N, P, G, wa, me⟩, S, dd, ⟨rc, rx, rh⟩, ⟨bc, bw, bs⟩, sd, i0, i1⟩ h) (tl : ∀ q h', lwI L xs h.2 q h' → am_R M_L_law (603, [.ref 0, .ref 1, .ref 130, .int (nI i)], []) h' Φ) : am_R M_L_law (391, [.ref 0, .ref 1, .ref 130, .int (nI i)], []) h Φ := by
  obtain ⟨R, T, W, hs, -⟩ := I
  obtain ⟨fs1, x1⟩ := R.top
  have k1 : nI i + 1 = nI (i + 1) := nI_1 i
  have k2 : nI i + 2 = nI (i + 2) := by rw [i2, nI_add]
  repeat (first | refine rs [] rfl rfl rfl rfl ?_ | refine rk rfl rfl ?_ | refine rgoh [] rfl rfl ?_ | refine rgeta (hi := rfl) (kk := ?_) | refine rialda (hi := rfl) (kk := ?_))
  refine rcvt rfl rfl rfl rfl rfl x1 rfl (v_aunts R) ?_
  rintro r h1 ⟨rfl, R1, f1⟩
  have hs1 : h1.1 0 = .inl (.int, L, .inl xs) := (f1.2 0 (by omega)).trans hs
  have T1 := T.fr f1 (by omega)
  obtain ⟨fs2, y1⟩ := T1.topq
  show am_R M_L_law (403, [.ref 0, .ref 1, .ref 130, .int (nI i)], [.int (o_aunts (xs (i + 1)) (xs (i + 2)) ⟨⟨len, tx⟩, fa, ⟨N, P, G, wa, me⟩, S, dd, ⟨rc, rx, rh⟩, ⟨bc, bw, bs⟩, sd, i0, i1⟩).1]) _ _
  repeat (first | refine rs [] rfl rfl rfl rfl ?_ | refine rk rfl rfl ?_ | refine rgoh [] rfl rfl ?_ | refine rgeta (hi := rfl) (kk := ?_) | refine rialda (hi := rfl) (kk := ?_))
  refine rcvt rfl rfl rfl rfl rfl y1 rfl (w_aunts W T1) ?_
  rintro r h2 ⟨rfl, T2, f2⟩
  show am_R M_L_law (415, [.ref 0, .ref 1, .ref 130, .int (nI i)], [.int (o_aunts (xs (i + 1)) (xs (i + 2)) ⟨⟨len, tx⟩, fa, ⟨N, P, G, wa, me⟩, S, dd, ⟨rc, rx, rh⟩, ⟨bc, bw, bs⟩, sd, i0, i1⟩).1, .int (o_aunts (xs (i + 1)) (xs (i + 2)) ⟨⟨len, tx⟩, fa, ⟨N, P, G, wa, me⟩, S, dd, ⟨rc, rx, rh⟩, ⟨bc, bw, bs⟩, sd, i0, i1⟩).1]) _ _
  (first | refine rif rfl rfl (fun c9 => ?_) (fun c9 => ?_) | refine ric rfl rfl (fun c9 => ?_) (fun c9 => ?_))
  · exact tl (o_aunts (xs (i + 1)) (xs (i + 2)) ⟨⟨len, tx⟩, fa, ⟨N, P, G, wa, me⟩, S, dd, ⟨rc, rx, rh⟩, ⟨bc, bw, bs⟩, sd, i0, i1⟩).2 h2 ⟨R1.fr (fr_wd f2 (by omega) (by omega)), T2, W, (f2.2 0 (by omega)).trans hs1, f2.1.trans f1.1⟩
  · exact absurd rfl c9
theorem lw_chance (hL : L ≤ 192) (hi : i + 3 ≤ L) (I : lwI L xs h.2 ⟨⟨len, tx⟩, fa, ⟨N, P, G, wa, me⟩, S, dd, ⟨rc, rx, rh⟩, ⟨bc, bw, bs⟩, sd, i0, i1⟩ h) (tl : ∀ q h', lwI L xs h.2 q h' → am_R M_L_law (603, [.ref 0, .ref 1, .ref 130, .int (nI i)], []) h' Φ) : am_R M_L_law (418, [.ref 0, .ref 1, .ref 130, .int (nI i)], []) h Φ := by
  obtain ⟨R, T, W, hs, -⟩ := I
  obtain ⟨fs1, x1⟩ := R.top
  have k1 : nI i + 1 = nI (i + 1) := nI_1 i
  have k2 : nI i + 2 = nI (i + 2) := by rw [i2, nI_add]
  repeat (first | refine rs [] rfl rfl rfl rfl ?_ | refine rk rfl rfl ?_ | refine rgoh [] rfl rfl ?_ | refine rgeta (hi := rfl) (kk := ?_) | refine rialda (hi := rfl) (kk := ?_))
  refine rcvt rfl rfl rfl rfl rfl x1 rfl (v_chance R) ?_
  rintro r h1 ⟨rfl, R1, f1⟩
  have hs1 : h1.1 0 = .inl (.int, L, .inl xs) := (f1.2 0 (by omega)).trans hs
  have T1 := T.fr f1 (by omega)
  obtain ⟨fs2, y1⟩ := T1.topq
  show am_R M_L_law (430, [.ref 0, .ref 1, .ref 130, .int (nI i)], [.int (o_chance (xs (i + 1)) (xs (i + 2)) ⟨⟨len, tx⟩, fa, ⟨N, P, G, wa, me⟩, S, dd, ⟨rc, rx, rh⟩, ⟨bc, bw, bs⟩, sd, i0, i1⟩).1]) _ _
  repeat (first | refine rs [] rfl rfl rfl rfl ?_ | refine rk rfl rfl ?_ | refine rgoh [] rfl rfl ?_ | refine rgeta (hi := rfl) (kk := ?_) | refine rialda (hi := rfl) (kk := ?_))
  refine rcvt rfl rfl rfl rfl rfl y1 rfl (w_chance T1) ?_
  rintro r h2 ⟨rfl, T2, f2⟩
  show am_R M_L_law (442, [.ref 0, .ref 1, .ref 130, .int (nI i)], [.int (o_chance (xs (i + 1)) (xs (i + 2)) ⟨⟨len, tx⟩, fa, ⟨N, P, G, wa, me⟩, S, dd, ⟨rc, rx, rh⟩, ⟨bc, bw, bs⟩, sd, i0, i1⟩).1, .int (o_chance (xs (i + 1)) (xs (i + 2)) ⟨⟨len, tx⟩, fa, ⟨N, P, G, wa, me⟩, S, dd, ⟨rc, rx, rh⟩, ⟨bc, bw, bs⟩, sd, i0, i1⟩).1]) _ _
  (first | refine rif rfl rfl (fun c9 => ?_) (fun c9 => ?_) | refine ric rfl rfl (fun c9 => ?_) (fun c9 => ?_))
  · exact tl (o_chance (xs (i + 1)) (xs (i + 2)) ⟨⟨len, tx⟩, fa, ⟨N, P, G, wa, me⟩, S, dd, ⟨rc, rx, rh⟩, ⟨bc, bw, bs⟩, sd, i0, i1⟩).2 h2 ⟨R1.fr (fr_wd f2 (by omega) (by omega)), T2, W, (f2.2 0 (by omega)).trans hs1, f2.1.trans f1.1⟩
  · exact absurd rfl c9
theorem lw_ran (hL : L ≤ 192) (hi : i + 3 ≤ L) (I : lwI L xs h.2 ⟨⟨len, tx⟩, fa, ⟨N, P, G, wa, me⟩, S, dd, ⟨rc, rx, rh⟩, ⟨bc, bw, bs⟩, sd, i0, i1⟩ h) (tl : ∀ q h', lwI L xs h.2 q h' → am_R M_L_law (603, [.ref 0, .ref 1, .ref 130, .int (nI i)], []) h' Φ) : am_R M_L_law (445, [.ref 0, .ref 1, .ref 130, .int (nI i)], []) h Φ := by
  obtain ⟨R, T, W, hs, -⟩ := I
  obtain ⟨fs1, x1⟩ := R.top
  have k1 : nI i + 1 = nI (i + 1) := nI_1 i
  have k2 : nI i + 2 = nI (i + 2) := by rw [i2, nI_add]
  repeat (first | refine rs [] rfl rfl rfl rfl ?_ | refine rk rfl rfl ?_ | refine rgoh [] rfl rfl ?_ | refine rgeta (hi := rfl) (kk := ?_) | refine rialda (hi := rfl) (kk := ?_))
  (first | refine rif rfl rfl (fun c7 => ?_) (fun c7 => ?_) | refine ric rfl rfl (fun c7 => ?_) (fun c7 => ?_))
  · repeat (first | refine rs [] rfl rfl rfl rfl ?_ | refine rk rfl rfl ?_ | refine rgoh [] rfl rfl ?_ | refine rgeta (hi := rfl) (kk := ?_) | refine rialda (hi := rfl) (kk := ?_))
    refine rcvt rfl rfl rfl rfl rfl x1 rfl (v_ran R) ?_
    rintro r h1 ⟨rfl, R1, f1⟩
    have hs1 : h1.1 0 = .inl (.int, L, .inl xs) := (f1.2 0 (by omega)).trans hs
    have T1 := T.fr f1 (by omega)
    obtain ⟨fs2, y1⟩ := T1.topq
    show am_R M_L_law (461, [.ref 0, .ref 1, .ref 130, .int (nI i)], [.int (o_ran (xs (i + 1)) (0) ⟨⟨len, tx⟩, fa, ⟨N, P, G, wa, me⟩, S, dd, ⟨rc, rx, rh⟩, ⟨bc, bw, bs⟩, sd, i0, i1⟩).1]) _ _
    repeat (first | refine rs [] rfl rfl rfl rfl ?_ | refine rk rfl rfl ?_ | refine rgoh [] rfl rfl ?_ | refine rgeta (hi := rfl) (kk := ?_) | refine rialda (hi := rfl) (kk := ?_))
    (first | refine rif rfl rfl (fun c8 => ?_) (fun c8 => ?_) | refine ric rfl rfl (fun c8 => ?_) (fun c8 => ?_))
    · repeat (first | refine rs [] rfl rfl rfl rfl ?_ | refine rk rfl rfl ?_ | refine rgoh [] rfl rfl ?_ | refine rgeta (hi := rfl) (kk := ?_) | refine rialda (hi := rfl) (kk := ?_))
      refine rcvt rfl rfl rfl rfl rfl y1 rfl (w_ran (Or.inl rfl) T1) ?_
      rintro r h2 ⟨rfl, T2, f2⟩
      show am_R M_L_law (477, [.ref 0, .ref 1, .ref 130, .int (nI i)], [.int (o_ran (xs (i + 1)) (0) ⟨⟨len, tx⟩, fa, ⟨N, P, G, wa, me⟩, S, dd, ⟨rc, rx, rh⟩, ⟨bc, bw, bs⟩, sd, i0, i1⟩).1, .int (o_ran (xs (i + 1)) (0) ⟨⟨len, tx⟩, fa, ⟨N, P, G, wa, me⟩, S, dd, ⟨rc, rx, rh⟩, ⟨bc, bw, bs⟩, sd, i0, i1⟩).1]) _ _
      (first | refine rif rfl rfl (fun c9 => ?_) (fun c9 => ?_) | refine ric rfl rfl (fun c9 => ?_) (fun c9 => ?_))
      · exact tl (o_ran (xs (i + 1)) (0) ⟨⟨len, tx⟩, fa, ⟨N, P, G, wa, me⟩, S, dd, ⟨rc, rx, rh⟩, ⟨bc, bw, bs⟩, sd, i0, i1⟩).2 h2 ⟨R1.fr (fr_wd f2 (by omega) (by omega)), T2, wf_ran W, (f2.2 0 (by omega)).trans hs1, f2.1.trans f1.1⟩
      · exact absurd rfl c9
    · exact absurd c7 c8
  · repeat (first | refine rs [] rfl rfl rfl rfl ?_ | refine rk rfl rfl ?_ | refine rgoh [] rfl rfl ?_ | refine rgeta (hi := rfl) (kk := ?_) | refine rialda (hi := rfl) (kk := ?_))
    refine rcvt rfl rfl rfl rfl rfl x1 rfl (v_ran R) ?_
    rintro r h1 ⟨rfl, R1, f1⟩
    have hs1 : h1.1 0 = .inl (.int, L, .inl xs) := (f1.2 0 (by omega)).trans hs
    have T1 := T.fr f1 (by omega)
    obtain ⟨fs2, y1⟩ := T1.topq
    show am_R M_L_law (461, [.ref 0, .ref 1, .ref 130, .int (nI i)], [.int (o_ran (xs (i + 1)) (1) ⟨⟨len, tx⟩, fa, ⟨N, P, G, wa, me⟩, S, dd, ⟨rc, rx, rh⟩, ⟨bc, bw, bs⟩, sd, i0, i1⟩).1]) _ _
    repeat (first | refine rs [] rfl rfl rfl rfl ?_ | refine rk rfl rfl ?_ | refine rgoh [] rfl rfl ?_ | refine rgeta (hi := rfl) (kk := ?_) | refine rialda (hi := rfl) (kk := ?_))
    (first | refine rif rfl rfl (fun c8 => ?_) (fun c8 => ?_) | refine ric rfl rfl (fun c8 => ?_) (fun c8 => ?_))
    · exact absurd c8 c7
    · repeat (first | refine rs [] rfl rfl rfl rfl ?_ | refine rk rfl rfl ?_ | refine rgoh [] rfl rfl ?_ | refine rgeta (hi := rfl) (kk := ?_) | refine rialda (hi := rfl) (kk := ?_))
      refine rcvt rfl rfl rfl rfl rfl y1 rfl (w_ran (Or.inr rfl) T1) ?_
      rintro r h2 ⟨rfl, T2, f2⟩
      show am_R M_L_law (477, [.ref 0, .ref 1, .ref 130, .int (nI i)], [.int (o_ran (xs (i + 1)) (1) ⟨⟨len, tx⟩, fa, ⟨N, P, G, wa, me⟩, S, dd, ⟨rc, rx, rh⟩, ⟨bc, bw, bs⟩, sd, i0, i1⟩).1, .int (o_ran (xs (i + 1)) (1) ⟨⟨len, tx⟩, fa, ⟨N, P, G, wa, me⟩, S, dd, ⟨rc, rx, rh⟩, ⟨bc, bw, bs⟩, sd, i0, i1⟩).1]) _ _
      (first | refine rif rfl rfl (fun c9 => ?_) (fun c9 => ?_) | refine ric rfl rfl (fun c9 => ?_) (fun c9 => ?_))
      · exact tl (o_ran (xs (i + 1)) (1) ⟨⟨len, tx⟩, fa, ⟨N, P, G, wa, me⟩, S, dd, ⟨rc, rx, rh⟩, ⟨bc, bw, bs⟩, sd, i0, i1⟩).2 h2 ⟨R1.fr (fr_wd f2 (by omega) (by omega)), T2, wf_ran W, (f2.2 0 (by omega)).trans hs1, f2.1.trans f1.1⟩
      · exact absurd rfl c9
theorem lw_hoped (hL : L ≤ 192) (hi : i + 3 ≤ L) (I : lwI L xs h.2 ⟨⟨len, tx⟩, fa, ⟨N, P, G, wa, me⟩, S, dd, ⟨rc, rx, rh⟩, ⟨bc, bw, bs⟩, sd, i0, i1⟩ h) (tl : ∀ q h', lwI L xs h.2 q h' → am_R M_L_law (603, [.ref 0, .ref 1, .ref 130, .int (nI i)], []) h' Φ) : am_R M_L_law (480, [.ref 0, .ref 1, .ref 130, .int (nI i)], []) h Φ := by
  obtain ⟨R, T, W, hs, -⟩ := I
  obtain ⟨fs1, x1⟩ := R.top
  have k1 : nI i + 1 = nI (i + 1) := nI_1 i
  have k2 : nI i + 2 = nI (i + 2) := by rw [i2, nI_add]
  repeat (first | refine rs [] rfl rfl rfl rfl ?_ | refine rk rfl rfl ?_ | refine rgoh [] rfl rfl ?_ | refine rgeta (hi := rfl) (kk := ?_) | refine rialda (hi := rfl) (kk := ?_))
  refine rcvt rfl rfl rfl rfl rfl x1 rfl (v_hoped R) ?_
  rintro r h1 ⟨rfl, R1, f1⟩
  have hs1 : h1.1 0 = .inl (.int, L, .inl xs) := (f1.2 0 (by omega)).trans hs
  have T1 := T.fr f1 (by omega)
  obtain ⟨fs2, y1⟩ := T1.topq
  show am_R M_L_law (487, [.ref 0, .ref 1, .ref 130, .int (nI i)], [.int (o_hoped (xs (i + 1)) ⟨⟨len, tx⟩, fa, ⟨N, P, G, wa, me⟩, S, dd, ⟨rc, rx, rh⟩, ⟨bc, bw, bs⟩, sd, i0, i1⟩).1]) _ _
  repeat (first | refine rs [] rfl rfl rfl rfl ?_ | refine rk rfl rfl ?_ | refine rgoh [] rfl rfl ?_ | refine rgeta (hi := rfl) (kk := ?_) | refine rialda (hi := rfl) (kk := ?_))
  refine rcvt rfl rfl rfl rfl rfl y1 rfl (w_hoped W T1) ?_
  rintro r h2 ⟨rfl, T2, f2⟩
  show am_R M_L_law (494, [.ref 0, .ref 1, .ref 130, .int (nI i)], [.int (o_hoped (xs (i + 1)) ⟨⟨len, tx⟩, fa, ⟨N, P, G, wa, me⟩, S, dd, ⟨rc, rx, rh⟩, ⟨bc, bw, bs⟩, sd, i0, i1⟩).1, .int (o_hoped (xs (i + 1)) ⟨⟨len, tx⟩, fa, ⟨N, P, G, wa, me⟩, S, dd, ⟨rc, rx, rh⟩, ⟨bc, bw, bs⟩, sd, i0, i1⟩).1]) _ _
  (first | refine rif rfl rfl (fun c9 => ?_) (fun c9 => ?_) | refine ric rfl rfl (fun c9 => ?_) (fun c9 => ?_))
  · exact tl (o_hoped (xs (i + 1)) ⟨⟨len, tx⟩, fa, ⟨N, P, G, wa, me⟩, S, dd, ⟨rc, rx, rh⟩, ⟨bc, bw, bs⟩, sd, i0, i1⟩).2 h2 ⟨R1.fr (fr_wd f2 (by omega) (by omega)), T2, W, (f2.2 0 (by omega)).trans hs1, f2.1.trans f1.1⟩
  · exact absurd rfl c9
theorem lw_sure (hL : L ≤ 192) (hi : i + 3 ≤ L) (I : lwI L xs h.2 ⟨⟨len, tx⟩, fa, ⟨N, P, G, wa, me⟩, S, dd, ⟨rc, rx, rh⟩, ⟨bc, bw, bs⟩, sd, i0, i1⟩ h) (tl : ∀ q h', lwI L xs h.2 q h' → am_R M_L_law (603, [.ref 0, .ref 1, .ref 130, .int (nI i)], []) h' Φ) : am_R M_L_law (497, [.ref 0, .ref 1, .ref 130, .int (nI i)], []) h Φ := by
  obtain ⟨R, T, W, hs, -⟩ := I
  obtain ⟨fs1, x1⟩ := R.top
  have k1 : nI i + 1 = nI (i + 1) := nI_1 i
  have k2 : nI i + 2 = nI (i + 2) := by rw [i2, nI_add]
  repeat (first | refine rs [] rfl rfl rfl rfl ?_ | refine rk rfl rfl ?_ | refine rgoh [] rfl rfl ?_ | refine rgeta (hi := rfl) (kk := ?_) | refine rialda (hi := rfl) (kk := ?_))
  refine rcvt rfl rfl rfl rfl rfl x1 rfl (v_sure R) ?_
  rintro r h1 ⟨rfl, R1, f1⟩
  have hs1 : h1.1 0 = .inl (.int, L, .inl xs) := (f1.2 0 (by omega)).trans hs
  have T1 := T.fr f1 (by omega)
  obtain ⟨fs2, y1⟩ := T1.topq
  show am_R M_L_law (499, [.ref 0, .ref 1, .ref 130, .int (nI i)], [.int (o_sure  ⟨⟨len, tx⟩, fa, ⟨N, P, G, wa, me⟩, S, dd, ⟨rc, rx, rh⟩, ⟨bc, bw, bs⟩, sd, i0, i1⟩).1]) _ _
  repeat (first | refine rs [] rfl rfl rfl rfl ?_ | refine rk rfl rfl ?_ | refine rgoh [] rfl rfl ?_ | refine rgeta (hi := rfl) (kk := ?_) | refine rialda (hi := rfl) (kk := ?_))
  refine rcvt rfl rfl rfl rfl rfl y1 rfl (w_sure W T1) ?_
  rintro r h2 ⟨rfl, T2, f2⟩
  show am_R M_L_law (501, [.ref 0, .ref 1, .ref 130, .int (nI i)], [.int (o_sure  ⟨⟨len, tx⟩, fa, ⟨N, P, G, wa, me⟩, S, dd, ⟨rc, rx, rh⟩, ⟨bc, bw, bs⟩, sd, i0, i1⟩).1, .int (o_sure  ⟨⟨len, tx⟩, fa, ⟨N, P, G, wa, me⟩, S, dd, ⟨rc, rx, rh⟩, ⟨bc, bw, bs⟩, sd, i0, i1⟩).1]) _ _
  (first | refine rif rfl rfl (fun c9 => ?_) (fun c9 => ?_) | refine ric rfl rfl (fun c9 => ?_) (fun c9 => ?_))
  · exact tl (o_sure  ⟨⟨len, tx⟩, fa, ⟨N, P, G, wa, me⟩, S, dd, ⟨rc, rx, rh⟩, ⟨bc, bw, bs⟩, sd, i0, i1⟩).2 h2 ⟨R1.fr (fr_wd f2 (by omega) (by omega)), T2, W, (f2.2 0 (by omega)).trans hs1, f2.1.trans f1.1⟩
  · exact absurd rfl c9
theorem lw_look (hL : L ≤ 192) (hi : i + 3 ≤ L) (I : lwI L xs h.2 ⟨⟨len, tx⟩, fa, ⟨N, P, G, wa, me⟩, S, dd, ⟨rc, rx, rh⟩, ⟨bc, bw, bs⟩, sd, i0, i1⟩ h) (tl : ∀ q h', lwI L xs h.2 q h' → am_R M_L_law (603, [.ref 0, .ref 1, .ref 130, .int (nI i)], []) h' Φ) : am_R M_L_law (504, [.ref 0, .ref 1, .ref 130, .int (nI i)], []) h Φ := by
  obtain ⟨R, T, W, hs, -⟩ := I
  obtain ⟨fs1, x1⟩ := R.top
  have k1 : nI i + 1 = nI (i + 1) := nI_1 i
  have k2 : nI i + 2 = nI (i + 2) := by rw [i2, nI_add]
  repeat (first | refine rs [] rfl rfl rfl rfl ?_ | refine rk rfl rfl ?_ | refine rgoh [] rfl rfl ?_ | refine rgeta (hi := rfl) (kk := ?_) | refine rialda (hi := rfl) (kk := ?_))
  refine rcvt rfl rfl rfl rfl rfl x1 rfl (v_look R) ?_
  rintro r h1 ⟨rfl, R1, f1⟩
  have hs1 : h1.1 0 = .inl (.int, L, .inl xs) := (f1.2 0 (by omega)).trans hs
  have T1 := T.fr f1 (by omega)
  obtain ⟨fs2, y1⟩ := T1.topq
  show am_R M_L_law (506, [.ref 0, .ref 1, .ref 130, .int (nI i)], [.int (o_look  ⟨⟨len, tx⟩, fa, ⟨N, P, G, wa, me⟩, S, dd, ⟨rc, rx, rh⟩, ⟨bc, bw, bs⟩, sd, i0, i1⟩).1]) _ _
  repeat (first | refine rs [] rfl rfl rfl rfl ?_ | refine rk rfl rfl ?_ | refine rgoh [] rfl rfl ?_ | refine rgeta (hi := rfl) (kk := ?_) | refine rialda (hi := rfl) (kk := ?_))
  refine rcvt rfl rfl rfl rfl rfl y1 rfl (w_look W T1) ?_
  rintro r h2 ⟨rfl, T2, f2⟩
  show am_R M_L_law (508, [.ref 0, .ref 1, .ref 130, .int (nI i)], [.int (o_look  ⟨⟨len, tx⟩, fa, ⟨N, P, G, wa, me⟩, S, dd, ⟨rc, rx, rh⟩, ⟨bc, bw, bs⟩, sd, i0, i1⟩).1, .int (o_look  ⟨⟨len, tx⟩, fa, ⟨N, P, G, wa, me⟩, S, dd, ⟨rc, rx, rh⟩, ⟨bc, bw, bs⟩, sd, i0, i1⟩).1]) _ _
  (first | refine rif rfl rfl (fun c9 => ?_) (fun c9 => ?_) | refine ric rfl rfl (fun c9 => ?_) (fun c9 => ?_))
  · exact tl (o_look  ⟨⟨len, tx⟩, fa, ⟨N, P, G, wa, me⟩, S, dd, ⟨rc, rx, rh⟩, ⟨bc, bw, bs⟩, sd, i0, i1⟩).2 h2 ⟨R1.fr (fr_wd f2 (by omega) (by omega)), T2, W, (f2.2 0 (by omega)).trans hs1, f2.1.trans f1.1⟩
  · exact absurd rfl c9
theorem lw_write (hL : L ≤ 192) (hi : i + 3 ≤ L) (I : lwI L xs h.2 ⟨⟨len, tx⟩, fa, ⟨N, P, G, wa, me⟩, S, dd, ⟨rc, rx, rh⟩, ⟨bc, bw, bs⟩, sd, i0, i1⟩ h) (tl : ∀ q h', lwI L xs h.2 q h' → am_R M_L_law (603, [.ref 0, .ref 1, .ref 130, .int (nI i)], []) h' Φ) : am_R M_L_law (511, [.ref 0, .ref 1, .ref 130, .int (nI i)], []) h Φ := by
  obtain ⟨R, T, W, hs, -⟩ := I
  obtain ⟨fs1, x1⟩ := R.top
  have k1 : nI i + 1 = nI (i + 1) := nI_1 i
  have k2 : nI i + 2 = nI (i + 2) := by rw [i2, nI_add]
  repeat (first | refine rs [] rfl rfl rfl rfl ?_ | refine rk rfl rfl ?_ | refine rgoh [] rfl rfl ?_ | refine rgeta (hi := rfl) (kk := ?_) | refine rialda (hi := rfl) (kk := ?_))
  refine rcvt rfl rfl rfl rfl rfl x1 rfl (v_write R) ?_
  rintro r h1 ⟨rfl, R1, f1⟩
  have hs1 : h1.1 0 = .inl (.int, L, .inl xs) := (f1.2 0 (by omega)).trans hs
  have T1 := T.fr f1 (by omega)
  obtain ⟨fs2, y1⟩ := T1.topq
  show am_R M_L_law (523, [.ref 0, .ref 1, .ref 130, .int (nI i)], [.int (o_write (xs (i + 1)) (xs (i + 2)) ⟨⟨len, tx⟩, fa, ⟨N, P, G, wa, me⟩, S, dd, ⟨rc, rx, rh⟩, ⟨bc, bw, bs⟩, sd, i0, i1⟩).1]) _ _
  repeat (first | refine rs [] rfl rfl rfl rfl ?_ | refine rk rfl rfl ?_ | refine rgoh [] rfl rfl ?_ | refine rgeta (hi := rfl) (kk := ?_) | refine rialda (hi := rfl) (kk := ?_))
  refine rcvt rfl rfl rfl rfl rfl y1 rfl (w_write T1) ?_
  rintro r h2 ⟨rfl, T2, f2⟩
  show am_R M_L_law (535, [.ref 0, .ref 1, .ref 130, .int (nI i)], [.int (o_write (xs (i + 1)) (xs (i + 2)) ⟨⟨len, tx⟩, fa, ⟨N, P, G, wa, me⟩, S, dd, ⟨rc, rx, rh⟩, ⟨bc, bw, bs⟩, sd, i0, i1⟩).1, .int (o_write (xs (i + 1)) (xs (i + 2)) ⟨⟨len, tx⟩, fa, ⟨N, P, G, wa, me⟩, S, dd, ⟨rc, rx, rh⟩, ⟨bc, bw, bs⟩, sd, i0, i1⟩).1]) _ _
  (first | refine rif rfl rfl (fun c9 => ?_) (fun c9 => ?_) | refine ric rfl rfl (fun c9 => ?_) (fun c9 => ?_))
  · exact tl (o_write (xs (i + 1)) (xs (i + 2)) ⟨⟨len, tx⟩, fa, ⟨N, P, G, wa, me⟩, S, dd, ⟨rc, rx, rh⟩, ⟨bc, bw, bs⟩, sd, i0, i1⟩).2 h2 ⟨R1.fr (fr_wd f2 (by omega) (by omega)), T2, wf_write W, (f2.2 0 (by omega)).trans hs1, f2.1.trans f1.1⟩
  · exact absurd rfl c9
theorem lw_judge (hL : L ≤ 192) (hi : i + 3 ≤ L) (I : lwI L xs h.2 ⟨⟨len, tx⟩, fa, ⟨N, P, G, wa, me⟩, S, dd, ⟨rc, rx, rh⟩, ⟨bc, bw, bs⟩, sd, i0, i1⟩ h) (tl : ∀ q h', lwI L xs h.2 q h' → am_R M_L_law (603, [.ref 0, .ref 1, .ref 130, .int (nI i)], []) h' Φ) : am_R M_L_law (538, [.ref 0, .ref 1, .ref 130, .int (nI i)], []) h Φ := by
  obtain ⟨R, T, W, hs, -⟩ := I
  obtain ⟨fs1, x1⟩ := R.top
  have k1 : nI i + 1 = nI (i + 1) := nI_1 i
  have k2 : nI i + 2 = nI (i + 2) := by rw [i2, nI_add]
  repeat (first | refine rs [] rfl rfl rfl rfl ?_ | refine rk rfl rfl ?_ | refine rgoh [] rfl rfl ?_ | refine rgeta (hi := rfl) (kk := ?_) | refine rialda (hi := rfl) (kk := ?_))
  refine rcvt rfl rfl rfl rfl rfl x1 rfl (v_judge R W.2.2.2.2.2.2.2.1) ?_
  rintro r h1 ⟨rfl, R1, f1⟩
  have hs1 : h1.1 0 = .inl (.int, L, .inl xs) := (f1.2 0 (by omega)).trans hs
  have T1 := T.fr f1 (by omega)
  obtain ⟨fs2, y1⟩ := T1.topq
  show am_R M_L_law (540, [.ref 0, .ref 1, .ref 130, .int (nI i)], [.int (o_judge  ⟨⟨len, tx⟩, fa, ⟨N, P, G, wa, me⟩, S, dd, ⟨rc, rx, rh⟩, ⟨bc, bw, bs⟩, sd, i0, i1⟩).1]) _ _
  repeat (first | refine rs [] rfl rfl rfl rfl ?_ | refine rk rfl rfl ?_ | refine rgoh [] rfl rfl ?_ | refine rgeta (hi := rfl) (kk := ?_) | refine rialda (hi := rfl) (kk := ?_))
  refine rcvt rfl rfl rfl rfl rfl y1 rfl (w_judge W T1) ?_
  rintro r h2 ⟨rfl, T2, f2⟩
  show am_R M_L_law (542, [.ref 0, .ref 1, .ref 130, .int (nI i)], [.int (o_judge  ⟨⟨len, tx⟩, fa, ⟨N, P, G, wa, me⟩, S, dd, ⟨rc, rx, rh⟩, ⟨bc, bw, bs⟩, sd, i0, i1⟩).1, .int (o_judge  ⟨⟨len, tx⟩, fa, ⟨N, P, G, wa, me⟩, S, dd, ⟨rc, rx, rh⟩, ⟨bc, bw, bs⟩, sd, i0, i1⟩).1]) _ _
  (first | refine rif rfl rfl (fun c9 => ?_) (fun c9 => ?_) | refine ric rfl rfl (fun c9 => ?_) (fun c9 => ?_))
  · exact tl (o_judge  ⟨⟨len, tx⟩, fa, ⟨N, P, G, wa, me⟩, S, dd, ⟨rc, rx, rh⟩, ⟨bc, bw, bs⟩, sd, i0, i1⟩).2 h2 ⟨R1.fr (fr_wd f2 (by omega) (by omega)), T2, W, (f2.2 0 (by omega)).trans hs1, f2.1.trans f1.1⟩
  · exact absurd rfl c9
theorem lw_tear (hL : L ≤ 192) (hi : i + 3 ≤ L) (I : lwI L xs h.2 ⟨⟨len, tx⟩, fa, ⟨N, P, G, wa, me⟩, S, dd, ⟨rc, rx, rh⟩, ⟨bc, bw, bs⟩, sd, i0, i1⟩ h) (tl : ∀ q h', lwI L xs h.2 q h' → am_R M_L_law (603, [.ref 0, .ref 1, .ref 130, .int (nI i)], []) h' Φ) : am_R M_L_law (545, [.ref 0, .ref 1, .ref 130, .int (nI i)], []) h Φ := by
  obtain ⟨R, T, W, hs, -⟩ := I
  obtain ⟨fs1, x1⟩ := R.top
  have k1 : nI i + 1 = nI (i + 1) := nI_1 i
  have k2 : nI i + 2 = nI (i + 2) := by rw [i2, nI_add]
  repeat (first | refine rs [] rfl rfl rfl rfl ?_ | refine rk rfl rfl ?_ | refine rgoh [] rfl rfl ?_ | refine rgeta (hi := rfl) (kk := ?_) | refine rialda (hi := rfl) (kk := ?_))
  refine rcvt rfl rfl rfl rfl rfl x1 rfl (v_tear R) ?_
  rintro r h1 ⟨rfl, R1, f1⟩
  have hs1 : h1.1 0 = .inl (.int, L, .inl xs) := (f1.2 0 (by omega)).trans hs
  have T1 := T.fr f1 (by omega)
  obtain ⟨fs2, y1⟩ := T1.topq
  show am_R M_L_law (547, [.ref 0, .ref 1, .ref 130, .int (nI i)], [.int (o_tear  ⟨⟨len, tx⟩, fa, ⟨N, P, G, wa, me⟩, S, dd, ⟨rc, rx, rh⟩, ⟨bc, bw, bs⟩, sd, i0, i1⟩).1]) _ _
  repeat (first | refine rs [] rfl rfl rfl rfl ?_ | refine rk rfl rfl ?_ | refine rgoh [] rfl rfl ?_ | refine rgeta (hi := rfl) (kk := ?_) | refine rialda (hi := rfl) (kk := ?_))
  refine rcvt rfl rfl rfl rfl rfl y1 rfl (w_tear T1) ?_
  rintro r h2 ⟨rfl, T2, f2⟩
  show am_R M_L_law (549, [.ref 0, .ref 1, .ref 130, .int (nI i)], [.int (o_tear  ⟨⟨len, tx⟩, fa, ⟨N, P, G, wa, me⟩, S, dd, ⟨rc, rx, rh⟩, ⟨bc, bw, bs⟩, sd, i0, i1⟩).1, .int (o_tear  ⟨⟨len, tx⟩, fa, ⟨N, P, G, wa, me⟩, S, dd, ⟨rc, rx, rh⟩, ⟨bc, bw, bs⟩, sd, i0, i1⟩).1]) _ _
  (first | refine rif rfl rfl (fun c9 => ?_) (fun c9 => ?_) | refine ric rfl rfl (fun c9 => ?_) (fun c9 => ?_))
  · exact tl (o_tear  ⟨⟨len, tx⟩, fa, ⟨N, P, G, wa, me⟩, S, dd, ⟨rc, rx, rh⟩, ⟨bc, bw, bs⟩, sd, i0, i1⟩).2 h2 ⟨R1.fr (fr_wd f2 (by omega) (by omega)), T2, wf_tear W, (f2.2 0 (by omega)).trans hs1, f2.1.trans f1.1⟩
  · exact absurd rfl c9
theorem lw_seed (hL : L ≤ 192) (hi : i + 3 ≤ L) (I : lwI L xs h.2 ⟨⟨len, tx⟩, fa, ⟨N, P, G, wa, me⟩, S, dd, ⟨rc, rx, rh⟩, ⟨bc, bw, bs⟩, sd, i0, i1⟩ h) (tl : ∀ q h', lwI L xs h.2 q h' → am_R M_L_law (603, [.ref 0, .ref 1, .ref 130, .int (nI i)], []) h' Φ) : am_R M_L_law (552, [.ref 0, .ref 1, .ref 130, .int (nI i)], []) h Φ := by
  obtain ⟨R, T, W, hs, -⟩ := I
  obtain ⟨fs1, x1⟩ := R.top
  have k1 : nI i + 1 = nI (i + 1) := nI_1 i
  have k2 : nI i + 2 = nI (i + 2) := by rw [i2, nI_add]
  repeat (first | refine rs [] rfl rfl rfl rfl ?_ | refine rk rfl rfl ?_ | refine rgoh [] rfl rfl ?_ | refine rgeta (hi := rfl) (kk := ?_) | refine rialda (hi := rfl) (kk := ?_))
  refine rcvt rfl rfl rfl rfl rfl x1 rfl (v_seed R) ?_
  rintro r h1 ⟨rfl, R1, f1⟩
  have hs1 : h1.1 0 = .inl (.int, L, .inl xs) := (f1.2 0 (by omega)).trans hs
  have T1 := T.fr f1 (by omega)
  obtain ⟨fs2, y1⟩ := T1.topq
  show am_R M_L_law (559, [.ref 0, .ref 1, .ref 130, .int (nI i)], [.int (o_seed (xs (i + 1)) ⟨⟨len, tx⟩, fa, ⟨N, P, G, wa, me⟩, S, dd, ⟨rc, rx, rh⟩, ⟨bc, bw, bs⟩, sd, i0, i1⟩).1]) _ _
  repeat (first | refine rs [] rfl rfl rfl rfl ?_ | refine rk rfl rfl ?_ | refine rgoh [] rfl rfl ?_ | refine rgeta (hi := rfl) (kk := ?_) | refine rialda (hi := rfl) (kk := ?_))
  refine rcvt rfl rfl rfl rfl rfl y1 rfl (w_seed T1) ?_
  rintro r h2 ⟨rfl, T2, f2⟩
  show am_R M_L_law (566, [.ref 0, .ref 1, .ref 130, .int (nI i)], [.int (o_seed (xs (i + 1)) ⟨⟨len, tx⟩, fa, ⟨N, P, G, wa, me⟩, S, dd, ⟨rc, rx, rh⟩, ⟨bc, bw, bs⟩, sd, i0, i1⟩).1, .int (o_seed (xs (i + 1)) ⟨⟨len, tx⟩, fa, ⟨N, P, G, wa, me⟩, S, dd, ⟨rc, rx, rh⟩, ⟨bc, bw, bs⟩, sd, i0, i1⟩).1]) _ _
  (first | refine rif rfl rfl (fun c9 => ?_) (fun c9 => ?_) | refine ric rfl rfl (fun c9 => ?_) (fun c9 => ?_))
  · exact tl (o_seed (xs (i + 1)) ⟨⟨len, tx⟩, fa, ⟨N, P, G, wa, me⟩, S, dd, ⟨rc, rx, rh⟩, ⟨bc, bw, bs⟩, sd, i0, i1⟩).2 h2 ⟨R1.fr (fr_wd f2 (by omega) (by omega)), T2, wf_seed W, (f2.2 0 (by omega)).trans hs1, f2.1.trans f1.1⟩
  · exact absurd rfl c9
theorem lw_keep (hL : L ≤ 192) (hi : i + 3 ≤ L) (I : lwI L xs h.2 ⟨⟨len, tx⟩, fa, ⟨N, P, G, wa, me⟩, S, dd, ⟨rc, rx, rh⟩, ⟨bc, bw, bs⟩, sd, i0, i1⟩ h) (tl : ∀ q h', lwI L xs h.2 q h' → am_R M_L_law (603, [.ref 0, .ref 1, .ref 130, .int (nI i)], []) h' Φ) : am_R M_L_law (569, [.ref 0, .ref 1, .ref 130, .int (nI i)], []) h Φ := by
  obtain ⟨R, T, W, hs, -⟩ := I
  obtain ⟨fs1, x1⟩ := R.top
  have k1 : nI i + 1 = nI (i + 1) := nI_1 i
  have k2 : nI i + 2 = nI (i + 2) := by rw [i2, nI_add]
  repeat (first | refine rs [] rfl rfl rfl rfl ?_ | refine rk rfl rfl ?_ | refine rgoh [] rfl rfl ?_ | refine rgeta (hi := rfl) (kk := ?_) | refine rialda (hi := rfl) (kk := ?_))
  refine rcvt rfl rfl rfl rfl rfl x1 rfl (v_keep R) ?_
  rintro r h1 ⟨rfl, R1, f1⟩
  have hs1 : h1.1 0 = .inl (.int, L, .inl xs) := (f1.2 0 (by omega)).trans hs
  have T1 := T.fr f1 (by omega)
  obtain ⟨fs2, y1⟩ := T1.topq
  show am_R M_L_law (576, [.ref 0, .ref 1, .ref 130, .int (nI i)], [.int (o_keep (xs (i + 1)) ⟨⟨len, tx⟩, fa, ⟨N, P, G, wa, me⟩, S, dd, ⟨rc, rx, rh⟩, ⟨bc, bw, bs⟩, sd, i0, i1⟩).1]) _ _
  repeat (first | refine rs [] rfl rfl rfl rfl ?_ | refine rk rfl rfl ?_ | refine rgoh [] rfl rfl ?_ | refine rgeta (hi := rfl) (kk := ?_) | refine rialda (hi := rfl) (kk := ?_))
  refine rcvt rfl rfl rfl rfl rfl y1 rfl (w_keep T1) ?_
  rintro r h2 ⟨rfl, T2, f2⟩
  show am_R M_L_law (583, [.ref 0, .ref 1, .ref 130, .int (nI i)], [.int (o_keep (xs (i + 1)) ⟨⟨len, tx⟩, fa, ⟨N, P, G, wa, me⟩, S, dd, ⟨rc, rx, rh⟩, ⟨bc, bw, bs⟩, sd, i0, i1⟩).1, .int (o_keep (xs (i + 1)) ⟨⟨len, tx⟩, fa, ⟨N, P, G, wa, me⟩, S, dd, ⟨rc, rx, rh⟩, ⟨bc, bw, bs⟩, sd, i0, i1⟩).1]) _ _
  (first | refine rif rfl rfl (fun c9 => ?_) (fun c9 => ?_) | refine ric rfl rfl (fun c9 => ?_) (fun c9 => ?_))
  · exact tl (o_keep (xs (i + 1)) ⟨⟨len, tx⟩, fa, ⟨N, P, G, wa, me⟩, S, dd, ⟨rc, rx, rh⟩, ⟨bc, bw, bs⟩, sd, i0, i1⟩).2 h2 ⟨R1.fr (fr_wd f2 (by omega) (by omega)), T2, wf_keep W, (f2.2 0 (by omega)).trans hs1, f2.1.trans f1.1⟩
  · exact absurd rfl c9
theorem lw_goBack (hL : L ≤ 192) (hi : i + 3 ≤ L) (I : lwI L xs h.2 ⟨⟨len, tx⟩, fa, ⟨N, P, G, wa, me⟩, S, dd, ⟨rc, rx, rh⟩, ⟨bc, bw, bs⟩, sd, i0, i1⟩ h) (tl : ∀ q h', lwI L xs h.2 q h' → am_R M_L_law (603, [.ref 0, .ref 1, .ref 130, .int (nI i)], []) h' Φ) : am_R M_L_law (586, [.ref 0, .ref 1, .ref 130, .int (nI i)], []) h Φ := by
  obtain ⟨R, T, W, hs, -⟩ := I
  obtain ⟨fs1, x1⟩ := R.top
  have k1 : nI i + 1 = nI (i + 1) := nI_1 i
  have k2 : nI i + 2 = nI (i + 2) := by rw [i2, nI_add]
  repeat (first | refine rs [] rfl rfl rfl rfl ?_ | refine rk rfl rfl ?_ | refine rgoh [] rfl rfl ?_ | refine rgeta (hi := rfl) (kk := ?_) | refine rialda (hi := rfl) (kk := ?_))
  refine rcvt rfl rfl rfl rfl rfl x1 rfl (v_goBack R) ?_
  rintro r h1 ⟨rfl, R1, f1⟩
  have hs1 : h1.1 0 = .inl (.int, L, .inl xs) := (f1.2 0 (by omega)).trans hs
  have T1 := T.fr f1 (by omega)
  obtain ⟨fs2, y1⟩ := T1.topq
  show am_R M_L_law (593, [.ref 0, .ref 1, .ref 130, .int (nI i)], [.int (o_goBack (xs (i + 1)) ⟨⟨len, tx⟩, fa, ⟨N, P, G, wa, me⟩, S, dd, ⟨rc, rx, rh⟩, ⟨bc, bw, bs⟩, sd, i0, i1⟩).1]) _ _
  repeat (first | refine rs [] rfl rfl rfl rfl ?_ | refine rk rfl rfl ?_ | refine rgoh [] rfl rfl ?_ | refine rgeta (hi := rfl) (kk := ?_) | refine rialda (hi := rfl) (kk := ?_))
  refine rcvt rfl rfl rfl rfl rfl y1 rfl (w_goBack T1) ?_
  rintro r h2 ⟨rfl, T2, f2⟩
  show am_R M_L_law (600, [.ref 0, .ref 1, .ref 130, .int (nI i)], [.int (o_goBack (xs (i + 1)) ⟨⟨len, tx⟩, fa, ⟨N, P, G, wa, me⟩, S, dd, ⟨rc, rx, rh⟩, ⟨bc, bw, bs⟩, sd, i0, i1⟩).1, .int (o_goBack (xs (i + 1)) ⟨⟨len, tx⟩, fa, ⟨N, P, G, wa, me⟩, S, dd, ⟨rc, rx, rh⟩, ⟨bc, bw, bs⟩, sd, i0, i1⟩).1]) _ _
  (first | refine rif rfl rfl (fun c9 => ?_) (fun c9 => ?_) | refine ric rfl rfl (fun c9 => ?_) (fun c9 => ?_))
  · exact tl (o_goBack (xs (i + 1)) ⟨⟨len, tx⟩, fa, ⟨N, P, G, wa, me⟩, S, dd, ⟨rc, rx, rh⟩, ⟨bc, bw, bs⟩, sd, i0, i1⟩).2 h2 ⟨R1.fr (fr_wd f2 (by omega) (by omega)), T2, wf_goBack W, (f2.2 0 (by omega)).trans hs1, f2.1.trans f1.1⟩
  · exact absurd rfl c9
end LawCases
