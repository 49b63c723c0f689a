/-! the class's Reader: a person's clause -/
theorem nI_tn (x : Int32) : nI x.toBitVec.toNat = x := by
  apply Int32.toBitVec_inj.1
  show BitVec.ofNat 32 x.toBitVec.toNat = x.toBitVec
  simp
theorem bnB_f {o : (Nat × Nat) ⊕ Nat} {k j : Nat} : bnB o false k j = o := by cases o <;> rfl
theorem i4 : (4 : Int32) = nI 4 := by decide
theorem i9 : (9 : Int32) = nI 9 := by decide
section CPers
variable {h : am_H} {len : Nat} {tx : Nat → Int32} {pl : Int32}
theorem atO_raw {o : (Nat × Nat) ⊕ Nat} {c : am_C} (q : atO len pl o c) : ∃ kd pl' i nu, c = rdc kd pl' i nu := by
  obtain ⟨nu, q⟩ := q
  cases o with
  | inl e => obtain ⟨k, j⟩ := e; obtain ⟨-, i, -, rfl⟩ := q; exact ⟨_, _, _, _, rfl⟩
  | inr i => obtain ⟨-, rfl⟩ := q; exact ⟨_, _, _, _, rfl⟩
theorem c_rdB {o : (Nat × Nat) ⊕ Nat} {c : am_C} {k w : Nat} {x y : Int32} (hx : x = nI k) (hy : y = nI w) (hk : 0 < k ∧ k < 100) (hr : atO len pl o c) : am_T M_Reader_blame [.ref 4, .int x, .int y] (am_set h 4 c) (fun r h' => ∃ c', r = none ∧ h' = am_set h 4 c' ∧ atO len pl (bnB o true k w) c') := by
  obtain ⟨nu, hr⟩ := hr
  refine am_R.imp (c_blame hx hy hk (by rw [am_set_eq]; exact hr)) ?_
  rintro r h' ⟨rfl, c', rfl, q3⟩
  rw [am_set_set]
  exact ⟨c', rfl, rfl, nu, q3⟩
set_option maxHeartbeats 2000000 in
theorem c_readPerson {i : Nat} {c : am_C} {N G F : Int32} {ps : List Pn} (hT : cTx len tx h) (hr : atO len pl (.inr i) c) (hp : pRd N G F ps h) (hps : ps.length < 8) : am_T M_Reader_readPerson [.ref 4, .ref 2] (am_set h 4 c) (fun r h' => r = none ∧ ∃ c' h1, h' = am_set h1 4 c' ∧ am_fr 4 11 h h1 ∧ match psS len tx N ps.length i with | .inl e => atO len pl (.inl e) c' ∧ h1 = h | .inr q => atO len pl (.inr q.1) c' ∧ pRd N G F (ps ++ [q.2]) h1) := by
  obtain ⟨wa, me, wh, mi, fe, fl, p1, p2, p3, p4, p5, p6, p7⟩ := id hp
  obtain ⟨z, ec⟩ := rd4 hr
  have r4 : (am_set h 4 c).1 4 = .inr (5, .ref 5 :: .ref 8 :: z) := by rw [am_set_eq]; exact ec
  have hi : i ≤ len := (atO_inr hr).1
  have hl2 : len ≤ 200 := hT.1
  (try unfold am_E); unfold am_T
  repeat (first | refine rs [] rfl rfl rfl rfl ?_ | refine rk rfl rfl ?_ | refine rgoh [] rfl rfl ?_ | refine rgeta (hi := rfl) (kk := ?_) | refine rialda (hi := rfl) (kk := ?_))
  refine rcvt rfl rfl rfl rfl rfl r4 rfl (c_rdN hT hr) ?_
  rintro r h1 ⟨v1, c1, rfl, rfl, a1, b1⟩
  obtain ⟨z1, ec1⟩ := rd4 a1
  have r41 : (am_set h 4 c1).1 4 = .inr (5, .ref 5 :: .ref 8 :: z1) := by rw [am_set_eq]; exact ec1
  show am_R M_Reader_readPerson (9, _, [.int v1]) _ _
  repeat (first | refine rs [] rfl rfl rfl rfl ?_ | refine rk rfl rfl ?_ | refine rgoh [] rfl rfl ?_ | refine rgeta (hi := rfl) (kk := ?_) | refine rialda (hi := rfl) (kk := ?_))
  refine rcvt rfl rfl rfl rfl rfl r41 rfl (c_rdN hT a1) ?_
  rintro r h1 ⟨v2, c2, rfl, rfl, a2, b2⟩
  obtain ⟨kd2, pl2, ia2, nu2, ec2⟩ := atO_raw a2
  have r42 : (am_set h 4 c2).1 4 = rdc kd2 pl2 ia2 nu2 := by rw [am_set_eq]; exact ec2
  show am_R M_Reader_readPerson (19, _, [.int v2]) _ _
  suffices h28 : ∀ c', atO len pl (bnB (bnN len tx (bnN len tx (.inr i) 0 (N - 1)) 0 (N - 1)) (decide (v2 = v1)) 4 nu2.toBitVec.toNat) c' → am_R M_Reader_readPerson (28, [.ref 4, .ref 2, .int v1, .int v2, .null, .null, .null, .null], []) (am_set h 4 c') (fun r h' => r = none ∧ ∃ c' h1, h' = am_set h1 4 c' ∧ am_fr 4 11 h h1 ∧ match psS len tx N ps.length i with | .inl e => atO len pl (.inl e) c' ∧ h1 = h | .inr q => atO len pl (.inr q.1) c' ∧ pRd N G F (ps ++ [q.2]) h1) by
    repeat (first | refine rs [] rfl rfl rfl rfl ?_ | refine rk rfl rfl ?_ | refine rgoh [] rfl rfl ?_ | refine rgeta (hi := rfl) (kk := ?_) | refine rialda (hi := rfl) (kk := ?_))
    (first | refine rif rfl rfl (fun c1 => ?_) (fun c1 => ?_) | refine ric rfl rfl (fun c1 => ?_) (fun c1 => ?_))
    · repeat (first | refine rs [] rfl rfl rfl rfl ?_ | refine rk rfl rfl ?_ | refine rgoh [] rfl rfl ?_ | refine rgeta (hi := rfl) (kk := ?_) | refine rialda (hi := rfl) (kk := ?_))
      refine rcvt rfl rfl rfl rfl rfl r42 rfl (c_rdB i4 (nI_tn nu2).symm (by omega) a2) ?_
      rintro r h1 ⟨c', rfl, rfl, a3⟩
      refine h28 c' ?_
      rw [decide_eq_true c1]
      exact a3
    · refine h28 c2 ?_
      rw [decide_eq_false c1, bnB_f]
      exact a2
  intro c2' a2'
  obtain ⟨z2, ec2'⟩ := rd4 a2'
  have r42' : (am_set h 4 c2').1 4 = .inr (5, .ref 5 :: .ref 8 :: z2) := by rw [am_set_eq]; exact ec2'
  repeat (first | refine rs [] rfl rfl rfl rfl ?_ | refine rk rfl rfl ?_ | refine rgoh [] rfl rfl ?_ | refine rgeta (hi := rfl) (kk := ?_) | refine rialda (hi := rfl) (kk := ?_))
  refine rcvt rfl rfl rfl rfl rfl r42' rfl (c_rdN hT a2') ?_
  rintro r h1 ⟨v3, c3, rfl, rfl, a3, b3⟩
  obtain ⟨kd3, pl3, i3', nu3, ec3⟩ := atO_raw a3
  have r43 : (am_set h 4 c3).1 4 = rdc kd3 pl3 i3' nu3 := by rw [am_set_eq]; exact ec3
  show am_R M_Reader_readPerson (33, _, [.int v3]) _ _
  suffices h47 : ∀ c', atO len pl (bnB (bnN len tx (bnB (bnN len tx (bnN len tx (.inr i) 0 (N - 1)) 0 (N - 1)) (decide (v2 = v1)) 4 nu2.toBitVec.toNat) 0 9) (decide (¬ v3 = 9 ∧ ¬ v3 < nI ps.length)) 2 nu3.toBitVec.toNat) c' → am_R M_Reader_readPerson (47, [.ref 4, .ref 2, .int v1, .int v2, .int v3, .null, .null, .null], []) (am_set h 4 c') (fun r h' => r = none ∧ ∃ c' h1, h' = am_set h1 4 c' ∧ am_fr 4 11 h h1 ∧ match psS len tx N ps.length i with | .inl e => atO len pl (.inl e) c' ∧ h1 = h | .inr q => atO len pl (.inr q.1) c' ∧ pRd N G F (ps ++ [q.2]) h1) by
    repeat (first | refine rs [] rfl rfl rfl rfl ?_ | refine rk rfl rfl ?_ | refine rgoh [] rfl rfl ?_ | refine rgeta (hi := rfl) (kk := ?_) | refine rialda (hi := rfl) (kk := ?_))
    (first | refine rif rfl rfl (fun c1 => ?_) (fun c1 => ?_) | refine ric rfl rfl (fun c1 => ?_) (fun c1 => ?_))
    · refine h47 c3 ?_
      rw [decide_eq_false (p := ¬ v3 = 9 ∧ ¬ v3 < nI ps.length) (fun q => q.1 c1), bnB_f]
      exact a3
    · repeat (first | refine rs [] rfl rfl rfl rfl ?_ | refine rk rfl rfl ?_ | refine rgoh [] rfl rfl ?_ | refine rgeta (hi := rfl) (kk := ?_) | refine rialda (hi := rfl) (kk := ?_))
      (first | refine rif rfl rfl (fun c2 => ?_) (fun c2 => ?_) | refine ric rfl rfl (fun c2 => ?_) (fun c2 => ?_))
      · refine h47 c3 ?_
        rw [decide_eq_false (p := ¬ v3 = 9 ∧ ¬ v3 < nI ps.length) (fun q => q.2 c2), bnB_f]
        exact a3
      · repeat (first | refine rs [] rfl rfl rfl rfl ?_ | refine rk rfl rfl ?_ | refine rgoh [] rfl rfl ?_ | refine rgeta (hi := rfl) (kk := ?_) | refine rialda (hi := rfl) (kk := ?_))
        refine rcvt rfl rfl rfl rfl rfl r43 rfl (c_rdB i2 (nI_tn nu3).symm (by omega) a3) ?_
        rintro r h1 ⟨c', rfl, rfl, a3'⟩
        refine h47 c' ?_
        rw [decide_eq_true (p := ¬ v3 = 9 ∧ ¬ v3 < nI ps.length) ⟨c1, c2⟩]
        exact a3'
  intro c3' a3'
  obtain ⟨z3, ec3'⟩ := rd4 a3'
  have r43' : (am_set h 4 c3').1 4 = .inr (5, .ref 5 :: .ref 8 :: z3) := by rw [am_set_eq]; exact ec3'
  repeat (first | refine rs [] rfl rfl rfl rfl ?_ | refine rk rfl rfl ?_ | refine rgoh [] rfl rfl ?_ | refine rgeta (hi := rfl) (kk := ?_) | refine rialda (hi := rfl) (kk := ?_))
  refine rcvt rfl rfl rfl rfl rfl r43' rfl (c_rdN hT a3') ?_
  rintro r h1 ⟨v4, c4, rfl, rfl, a4, b4⟩
  obtain ⟨z4, ec4⟩ := rd4 a4
  have r44 : (am_set h 4 c4).1 4 = .inr (5, .ref 5 :: .ref 8 :: z4) := by rw [am_set_eq]; exact ec4
  show am_R M_Reader_readPerson (52, _, [.int v4]) _ _
  repeat (first | refine rs [] rfl rfl rfl rfl ?_ | refine rk rfl rfl ?_ | refine rgoh [] rfl rfl ?_ | refine rgeta (hi := rfl) (kk := ?_) | refine rialda (hi := rfl) (kk := ?_))
  refine rcvt rfl rfl rfl rfl rfl r44 rfl (c_rdN hT a4) ?_
  rintro r h1 ⟨v5, c5, rfl, rfl, a5, b5⟩
  obtain ⟨z5, ec5⟩ := rd4 a5
  have r45 : (am_set h 4 c5).1 4 = .inr (5, .ref 5 :: .ref 8 :: z5) := by rw [am_set_eq]; exact ec5
  show am_R M_Reader_readPerson (58, _, [.int v5]) _ _
  repeat (first | refine rs [] rfl rfl rfl rfl ?_ | refine rk rfl rfl ?_ | refine rgoh [] rfl rfl ?_ | refine rgeta (hi := rfl) (kk := ?_) | refine rialda (hi := rfl) (kk := ?_))
  refine rcvt rfl rfl rfl rfl rfl r45 rfl (c_rdE hT a5) ?_
  rintro r h1 ⟨c6, rfl, rfl, a6⟩
  show am_R M_Reader_readPerson (62, [.ref 4, .ref 2, .int v1, .int v2, .int v3, .int v4, .int v5, .null], []) _ _
  have flt : ∀ e, bnS len tx (bnN len tx (bnN len tx (bnB (bnN len tx (bnB (bnN len tx (bnN len tx (.inr i) 0 (N - 1)) 0 (N - 1)) (decide (v2 = v1)) 4 nu2.toBitVec.toNat) 0 9) (decide (¬ v3 = 9 ∧ ¬ v3 < nI ps.length)) 2 nu3.toBitVec.toNat) 0 9) 0 3) 59 = .inl e → psS len tx N ps.length i = .inl e → am_R M_Reader_readPerson (62, [.ref 4, .ref 2, .int v1, .int v2, .int v3, .int v4, .int v5, .null], []) (am_set h 4 c6) (fun r h' => r = none ∧ ∃ c' h1, h' = am_set h1 4 c' ∧ am_fr 4 11 h h1 ∧ match psS len tx N ps.length i with | .inl e => atO len pl (.inl e) c' ∧ h1 = h | .inr q => atO len pl (.inr q.1) c' ∧ pRd N G F (ps ++ [q.2]) h1) := by
    intro e e1 e2
    rw [e1] at a6
    obtain ⟨k, j⟩ := e
    obtain ⟨hk, nu, i', hi', rfl⟩ := atO_inl a6
    have hk0 : ¬ nI k = 0 := nI_ne0 hk.1 (by omega)
    repeat (first | refine rs [] rfl rfl rfl rfl ?_ | refine rk rfl rfl ?_ | refine rgoh [] rfl rfl ?_ | refine rgeta (hi := rfl) (kk := ?_) | refine rialda (hi := rfl) (kk := ?_))
    (first | refine rif rfl rfl (fun c1 => ?_) (fun c1 => ?_) | refine ric rfl rfl (fun c1 => ?_) (fun c1 => ?_))
    · exact absurd c1 hk0
    · repeat (first | refine rs [] rfl rfl rfl rfl ?_ | refine rk rfl rfl ?_ | refine rgoh [] rfl rfl ?_ | refine rgeta (hi := rfl) (kk := ?_) | refine rialda (hi := rfl) (kk := ?_))
      refine rret rfl rfl ?_
      rw [e2]
      exact ⟨rfl, _, h, rfl, fr_rf, a6, rfl⟩
  cases e1 : numS len tx i 0 (N - 1) with
  | inl e => exact flt e (by simp only [bnN, bnS, bnB, e1]) (by unfold psS; rw [e1])
  | inr q1 =>
    obtain ⟨w1, d1, l1⟩ := b1 i q1 rfl e1
    cases e2 : numS len tx q1.1 0 (N - 1) with
    | inl e => exact flt e (by simp only [bnN, bnS, bnB, e1, e2]) (by unfold psS; rw [e1]; dsimp only; rw [e2])
    | inr q2 =>
      obtain ⟨w2, d2, l2⟩ := b2 q1.1 q2 (by simp only [bnN, e1]) e2
      have hsk1 := sk_le (tx := tx) l1
      have n2 : nu2.toBitVec.toNat = sk len tx q1.1 := by
        rw [ec2] at d2
        have : nu2 = nI (sk len tx q1.1) := by
          have := (Prod.mk.inj (Sum.inr.inj d2)).2
          simp only [List.cons.injEq, Value.int.injEq, and_true, true_and] at this
          exact this.2.2.2
        rw [this, pk_tn (by omega)]
      by_cases e3 : v2 = v1
      · have e3' : q2.2 = q1.2 := by rw [← w1, ← w2]; exact e3
        refine flt (4, sk len tx q1.1) ?_ ?_
        · rw [decide_eq_true e3, n2]
          simp only [bnN, bnS, bnB, e1, e2]
        · unfold psS; rw [e1]; dsimp only; rw [e2]; dsimp only; rw [if_pos e3']
      · have e3' : ¬ q2.2 = q1.2 := by rw [← w1, ← w2]; exact e3
        rw [decide_eq_false e3, bnB_f] at *
        cases e4 : numS len tx q2.1 0 9 with
        | inl e =>
          refine flt e ?_ ?_
          · simp only [bnN, bnS, bnB, e1, e2, e4]
          · unfold psS; rw [e1]; dsimp only; rw [e2]; dsimp only; rw [if_neg e3', e4]
        | inr q3 =>
          obtain ⟨w3, d3, l3⟩ := b3 q2.1 q3 (by simp only [bnN, e1, e2]) e4
          have hsk2 := sk_le (tx := tx) l2
          have n3 : nu3.toBitVec.toNat = sk len tx q2.1 := by
            rw [ec3] at d3
            have : nu3 = nI (sk len tx q2.1) := by
              have := (Prod.mk.inj (Sum.inr.inj d3)).2
              simp only [List.cons.injEq, Value.int.injEq, and_true, true_and] at this
              exact this.2.2.2
            rw [this, pk_tn (by omega)]
          by_cases e5 : ¬ v3 = 9 ∧ ¬ v3 < nI ps.length
          · have e5' : ¬ q3.2 = 9 ∧ ¬ q3.2 < nI ps.length := by rw [← w3]; exact e5
            refine flt (2, sk len tx q2.1) ?_ ?_
            · rw [decide_eq_true e5, n3]
              simp only [bnN, bnS, bnB, e1, e2, e4]
            · unfold psS; rw [e1]; dsimp only; rw [e2]; dsimp only; rw [if_neg e3', e4]; dsimp only; rw [if_pos e5']
          · have e5' : ¬ (¬ q3.2 = 9 ∧ ¬ q3.2 < nI ps.length) := by rw [← w3]; exact e5
            rw [decide_eq_false e5, bnB_f] at *
            cases e6 : numS len tx q3.1 0 9 with
            | inl e =>
              refine flt e ?_ ?_
              · simp only [bnN, bnS, e1, e2, e4, e6]
              · unfold psS; rw [e1]; dsimp only; rw [e2]; dsimp only; rw [if_neg e3', e4]; dsimp only; rw [if_neg e5', e6]
            | inr q4 =>
              have w4 := (b4 q3.1 q4 (by simp only [bnN, e1, e2, e4]) e6).1
              cases e7 : numS len tx q4.1 0 3 with
              | inl e =>
                refine flt e ?_ ?_
                · simp only [bnN, bnS, e1, e2, e4, e6, e7]
                · unfold psS; rw [e1]; dsimp only; rw [e2]; dsimp only; rw [if_neg e3', e4]; dsimp only; rw [if_neg e5', e6]; dsimp only; rw [e7]
              | inr q5 =>
                have w5 := (b5 q4.1 q5 (by simp only [bnN, e1, e2, e4, e6]) e7).1
                cases e8 : sgS len tx q5.1 59 with
                | inl e =>
                  refine flt e ?_ ?_
                  · simp only [bnN, bnS, e1, e2, e4, e6, e7, e8]
                  · unfold psS; rw [e1]; dsimp only; rw [e2]; dsimp only; rw [if_neg e3', e4]; dsimp only; rw [if_neg e5', e6]; dsimp only; rw [e7]; dsimp only; rw [e8]
                | inr i6 =>
                  have es : psS len tx N ps.length i = .inr (i6, q1.2, q2.2, if q3.2 = 9 then -1 else q3.2, q4.2, q5.2) := by unfold psS; rw [e1]; dsimp only; rw [e2]; dsimp only; rw [if_neg e3', e4]; dsimp only; rw [if_neg e5', e6]; dsimp only; rw [e7]; dsimp only; rw [e8]
                  have a7 : atO len pl (.inr i6) c6 := by
                    have : bnS len tx (bnN len tx (bnN len tx (bnN len tx (bnN len tx (bnN len tx (.inr i) 0 (N - 1)) 0 (N - 1)) 0 9) 0 9) 0 3) 59 = .inr i6 := by simp only [bnN, bnS, e1, e2, e4, e6, e7, e8]
                    rw [this] at a6
                    exact a6
                  obtain ⟨hi6, nu, rfl⟩ := atO_inr a7
                  have hP : ∀ q : Pn × Nat, q.2 = ps.length → True := fun _ _ => trivial
                  clear flt a6 b1 b2 b3 b4 b5
                  generalize hPl : ps.length = P at *
                  repeat (first | refine rs [] rfl rfl rfl rfl ?_ | refine rk rfl rfl ?_ | refine rgoh [] rfl rfl ?_ | refine rgeta (hi := rfl) (kk := ?_) | refine rialda (hi := rfl) (kk := ?_))
                  (first | refine rift rfl rfl ?_ | refine riff rfl rfl ?_ | refine rict rfl rfl ?_ | refine ricf rfl rfl ?_)
                  repeat (first | refine rs [] rfl rfl rfl rfl ?_ | refine rk rfl rfl ?_ | refine rgoh [] rfl rfl ?_ | refine rgeta (hi := rfl) (kk := ?_) | refine rialda (hi := rfl) (kk := ?_))
                  (first | refine rif rfl rfl (fun c8 => ?_) (fun c8 => ?_) | refine ric rfl rfl (fun c8 => ?_) (fun c8 => ?_))
                  · exfalso
                    rw [i8, nI_leI (by omega) (by omega)] at c8
                    omega
                  · repeat (first | refine rs [] rfl rfl rfl rfl ?_ | refine rk rfl rfl ?_ | refine rgoh [] rfl rfl ?_ | refine rgeta (hi := rfl) (kk := ?_) | refine rialda (hi := rfl) (kk := ?_))
                    refine riasta (hi := rfl) (kk := ?_)
                    repeat (first | refine rs [] rfl rfl rfl rfl ?_ | refine rk rfl rfl ?_ | refine rgoh [] rfl rfl ?_ | refine rgeta (hi := rfl) (kk := ?_) | refine rialda (hi := rfl) (kk := ?_))
                    suffices h88 : ∀ m', m' = (if v3 = 9 then -1 else v3) → am_R M_Reader_readPerson (88, [.ref 4, .ref 2, .int v1, .int v2, .int v3, .int v4, .int v5, .int (nI P)], [.int m', .int (nI P), .ref 7]) (am_set (am_set h 4 (rdc 0 pl (nI i6) nu)) 6 (iar (upd wa P v2))) (fun r h' => r = none ∧ ∃ c' h1, h' = am_set h1 4 c' ∧ am_fr 4 11 h h1 ∧ match psS len tx N P i with | .inl e => atO len pl (.inl e) c' ∧ h1 = h | .inr q => atO len pl (.inr q.1) c' ∧ pRd N G F (ps ++ [q.2]) h1) by
                      (first | refine rif rfl rfl (fun c9 => ?_) (fun c9 => ?_) | refine ric rfl rfl (fun c9 => ?_) (fun c9 => ?_))
                      · repeat (first | refine rs [] rfl rfl rfl rfl ?_ | refine rk rfl rfl ?_ | refine rgoh [] rfl rfl ?_ | refine rgeta (hi := rfl) (kk := ?_) | refine rialda (hi := rfl) (kk := ?_))
                        exact h88 _ (by rw [if_pos c9])
                      · repeat (first | refine rs [] rfl rfl rfl rfl ?_ | refine rk rfl rfl ?_ | refine rgoh [] rfl rfl ?_ | refine rgeta (hi := rfl) (kk := ?_) | refine rialda (hi := rfl) (kk := ?_))
                        exact h88 _ (by rw [if_neg c9])
                    intro m' hm'
                    refine riasta (hi := rfl) (kk := ?_)
                    repeat (first | refine rs [] rfl rfl rfl rfl ?_ | refine rk rfl rfl ?_ | refine rgoh [] rfl rfl ?_ | refine rgeta (hi := rfl) (kk := ?_) | refine rialda (hi := rfl) (kk := ?_))
                    refine riasta (hi := rfl) (kk := ?_)
                    repeat (first | refine rs [] rfl rfl rfl rfl ?_ | refine rk rfl rfl ?_ | refine rgoh [] rfl rfl ?_ | refine rgeta (hi := rfl) (kk := ?_) | refine rialda (hi := rfl) (kk := ?_))
                    refine riasta (hi := rfl) (kk := ?_)
                    repeat (first | refine rs [] rfl rfl rfl rfl ?_ | refine rk rfl rfl ?_ | refine rgoh [] rfl rfl ?_ | refine rgeta (hi := rfl) (kk := ?_) | refine rialda (hi := rfl) (kk := ?_))
                    refine rcss rfl rfl rfl rfl rfl (c_bit) ?_
                    repeat (first | refine rs [] rfl rfl rfl rfl ?_ | refine rk rfl rfl ?_ | refine rgoh [] rfl rfl ?_ | refine rgeta (hi := rfl) (kk := ?_) | refine rialda (hi := rfl) (kk := ?_))
                    suffices h115 : ∀ za : Int32, (if za = 0 then 0 else 1) = bitv v5 0 → am_R M_Reader_readPerson (115, [.ref 4, .ref 2, .int v1, .int v2, .int v3, .int v4, .int v5, .int (nI P)], [.int za, .int (nI P), .int fe, .ref 8]) (am_set (am_set (am_set (am_set (am_set h 4 (rdc 0 pl (nI i6) nu)) 6 (iar (upd wa P v2))) 7 (iar (upd me P m'))) 9 (iar (upd wh P v1))) 10 (iar (upd mi P v4))) (fun r h' => r = none ∧ ∃ c' h1, h' = am_set h1 4 c' ∧ am_fr 4 11 h h1 ∧ match psS len tx N P i with | .inl e => atO len pl (.inl e) c' ∧ h1 = h | .inr q => atO len pl (.inr q.1) c' ∧ pRd N G F (ps ++ [q.2]) h1) by
                      (first | refine rif rfl rfl (fun c9 => ?_) (fun c9 => ?_) | refine ric rfl rfl (fun c9 => ?_) (fun c9 => ?_))
                      · repeat (first | refine rs [] rfl rfl rfl rfl ?_ | refine rk rfl rfl ?_ | refine rgoh [] rfl rfl ?_ | refine rgeta (hi := rfl) (kk := ?_) | refine rialda (hi := rfl) (kk := ?_))
                        exact h115 1 (by rw [c9]; decide)
                      · repeat (first | refine rs [] rfl rfl rfl rfl ?_ | refine rk rfl rfl ?_ | refine rgoh [] rfl rfl ?_ | refine rgeta (hi := rfl) (kk := ?_) | refine rialda (hi := rfl) (kk := ?_))
                        refine h115 0 ?_
                        rcases bitv_01 (x := v5) (k := 0) (by omega) with g | g
                        · rw [nI_0] at g
                          rw [g]
                          decide
                        · rw [nI_0] at g
                          exact absurd g c9
                    intro za hza
                    refine rcss rfl rfl rfl rfl rfl (c_withBit) ?_
                    refine rputa (hi := rfl) (kk := ?_)
                    repeat (first | refine rs [] rfl rfl rfl rfl ?_ | refine rk rfl rfl ?_ | refine rgoh [] rfl rfl ?_ | refine rgeta (hi := rfl) (kk := ?_) | refine rialda (hi := rfl) (kk := ?_))
                    refine rcss rfl rfl rfl rfl rfl (c_bit) ?_
                    repeat (first | refine rs [] rfl rfl rfl rfl ?_ | refine rk rfl rfl ?_ | refine rgoh [] rfl rfl ?_ | refine rgeta (hi := rfl) (kk := ?_) | refine rialda (hi := rfl) (kk := ?_))
                    suffices h131 : ∀ zb : Int32, (if zb = 0 then 0 else 1) = bitv v5 1 → am_R M_Reader_readPerson (131, [.ref 4, .ref 2, .int v1, .int v2, .int v3, .int v4, .int v5, .int (nI P)], [.int zb, .int (nI P), .int fl, .ref 8]) (am_set (am_set (am_set (am_set (am_set (am_set h 4 (rdc 0 pl (nI i6) nu)) 6 (iar (upd wa P v2))) 7 (iar (upd me P m'))) 9 (iar (upd wh P v1))) 10 (iar (upd mi P v4))) 8 (.inr (6, [.ref 9, .ref 10, .int (if za = 0 then fe &&& (sh1 (nI P) ^^^ (-1)) else fe ||| sh1 (nI P)), .int fl, .int F, .int 0, .int 0]))) (fun r h' => r = none ∧ ∃ c' h1, h' = am_set h1 4 c' ∧ am_fr 4 11 h h1 ∧ match psS len tx N P i with | .inl e => atO len pl (.inl e) c' ∧ h1 = h | .inr q => atO len pl (.inr q.1) c' ∧ pRd N G F (ps ++ [q.2]) h1) by
                      (first | refine rif rfl rfl (fun c9 => ?_) (fun c9 => ?_) | refine ric rfl rfl (fun c9 => ?_) (fun c9 => ?_))
                      · repeat (first | refine rs [] rfl rfl rfl rfl ?_ | refine rk rfl rfl ?_ | refine rgoh [] rfl rfl ?_ | refine rgeta (hi := rfl) (kk := ?_) | refine rialda (hi := rfl) (kk := ?_))
                        exact h131 1 (by rw [c9]; decide)
                      · repeat (first | refine rs [] rfl rfl rfl rfl ?_ | refine rk rfl rfl ?_ | refine rgoh [] rfl rfl ?_ | refine rgeta (hi := rfl) (kk := ?_) | refine rialda (hi := rfl) (kk := ?_))
                        refine h131 0 ?_
                        rcases bitv_01 (x := v5) (k := 1) (by omega) with g | g
                        · rw [← i1] at g
                          rw [g]
                          decide
                        · rw [← i1] at g
                          exact absurd g c9
                    intro zb hzb
                    refine rcss rfl rfl rfl rfl rfl (c_withBit) ?_
                    repeat (first | refine rs [] rfl rfl rfl rfl ?_ | refine rk rfl rfl ?_ | refine rgoh [] rfl rfl ?_ | refine rgeta (hi := rfl) (kk := ?_) | refine rialda (hi := rfl) (kk := ?_))
                    refine rputa (hi := rfl) (kk := ?_)
                    refine rret rfl rfl ?_
                    rw [es]
                    refine ⟨rfl, rdc 0 pl (nI i6) nu, am_set (am_set (am_set (am_set (am_set (am_set h 6 (iar (upd wa P v2))) 7 (iar (upd me P m'))) 9 (iar (upd wh P v1))) 10 (iar (upd mi P v4))) 8 (.inr (6, [.ref 9, .ref 10, .int (if za = 0 then fe &&& (sh1 (nI P) ^^^ (-1)) else fe ||| sh1 (nI P)), .int (if zb = 0 then fl &&& (sh1 (nI P) ^^^ (-1)) else fl ||| sh1 (nI P)), .int F, .int 0, .int 0]))) 5 (.inr (4, [.int N, .int G, .int (nI (P + 1)), .ref 6, .ref 7])), ?_, ?_, a7, ?_⟩
                    · rw [am_set_set, am_set_comm (a := 5) (b := 4) (by omega), am_set_comm (a := 8) (b := 4) (by omega), am_set_comm (a := 10) (b := 4) (by omega), am_set_comm (a := 9) (b := 4) (by omega), am_set_comm (a := 7) (b := 4) (by omega), am_set_comm (a := 6) (b := 4) (by omega), nI_succ]
                      rfl
                    · exact fr_set (fr_set (fr_set (fr_set (fr_set (fr_set fr_rf (by omega) (by omega)) (by omega) (by omega)) (by omega) (by omega)) (by omega) (by omega)) (by omega) (by omega)) (by omega) (by omega)
                    · refine ⟨upd wa P v2, upd me P m', upd wh P v1, upd mi P v4, (if za = 0 then fe &&& (sh1 (nI P) ^^^ (-1)) else fe ||| sh1 (nI P)), (if zb = 0 then fl &&& (sh1 (nI P) ^^^ (-1)) else fl ||| sh1 (nI P)), ?_, ?_, ?_, ?_, ?_, ?_, fun p q hq => ?_⟩
                      · rw [am_set_eq, List.length_append, hPl]
                        rfl
                      · simp (disch := omega) only [am_set_ne, am_set_eq]
                      · simp (disch := omega) only [am_set_ne, am_set_eq]
                      · simp (disch := omega) only [am_set_ne, am_set_eq]
                      · simp (disch := omega) only [am_set_ne, am_set_eq]
                      · simp (disch := omega) only [am_set_ne, am_set_eq]
                      · have hpl : p < (ps ++ [((q1.2, q2.2, if q3.2 = 9 then -1 else q3.2, q4.2, q5.2) : Pn)]).length := (List.getElem?_eq_some_iff.mp hq).1
                        rw [List.length_append, hPl] at hpl
                        have hpl : p < P + 1 := hpl
                        rw [bitv_wb (by omega) (by omega), bitv_wb (by omega) (by omega)]
                        by_cases hpp : p = P
                        · subst hpp
                          rw [List.getElem?_append_right (by omega), hPl, Nat.sub_self] at hq
                          cases hq
                          rw [pk_us, pk_us, pk_us, pk_us, if_pos rfl, if_pos rfl, hza, hzb, hm']
                          exact ⟨w1, w2, by rw [w3], w4, by rw [w5], by rw [w5]⟩
                        · rw [List.getElem?_append_left (by omega)] at hq
                          rw [pk_un hpp, pk_un hpp, pk_un hpp, pk_un hpp, if_neg hpp, if_neg hpp]
                          exact p7 p q hq
end CPers
