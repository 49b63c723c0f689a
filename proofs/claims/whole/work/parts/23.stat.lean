/-! the class's Reader: clauses -/
abbrev Pn : Type := Int32 × Int32 × Int32 × Int32 × Int32
def stS (len : Nat) (tx : Nat → Int32) (i : Nat) : (Nat × Nat) ⊕ (Nat × Int32 × Int32 × Int32) :=
  match numS len tx i 2 8 with
  | .inl e => .inl e
  | .inr q1 => (match numS len tx q1.1 1 15 with
    | .inl e => .inl e
    | .inr q2 => (match numS len tx q2.1 0 9 with
      | .inl e => .inl e
      | .inr q3 => (match sgS len tx q3.1 59 with
        | .inl e => .inl e
        | .inr i4 => .inr (i4, q1.2, q2.2, q3.2))))
def psS (len : Nat) (tx : Nat → Int32) (N : Int32) (P : Nat) (i : Nat) : (Nat × Nat) ⊕ (Nat × Pn) :=
  match numS len tx i 0 (N - 1) with
  | .inl e => .inl e
  | .inr q1 => (match numS len tx q1.1 0 (N - 1) with
    | .inl e => .inl e
    | .inr q2 => if q2.2 = q1.2 then .inl (4, sk len tx q1.1) else (match numS len tx q2.1 0 9 with
      | .inl e => .inl e
      | .inr q3 => if ¬ q3.2 = 9 ∧ ¬ q3.2 < nI P then .inl (2, sk len tx q2.1) else (match numS len tx q3.1 0 9 with
        | .inl e => .inl e
        | .inr q4 => (match numS len tx q4.1 0 3 with
          | .inl e => .inl e
          | .inr q5 => (match sgS len tx q5.1 59 with
            | .inl e => .inl e
            | .inr i6 => .inr (i6, q1.2, q2.2, if q3.2 = 9 then -1 else q3.2, q4.2, q5.2))))))
/-- the reader holds a line of N stations and the persons ps -/
def pRd (N G F : Int32) (ps : List Pn) (h : am_H) : Prop := ∃ (wa me wh mi : Nat → Int32) (fe fl : Int32), h.1 5 = .inr (4, [.int N, .int G, .int (nI ps.length), .ref 6, .ref 7]) ∧ h.1 6 = iar wa ∧ h.1 7 = iar me ∧ h.1 8 = .inr (6, [.ref 9, .ref 10, .int fe, .int fl, .int F, .int 0, .int 0]) ∧ h.1 9 = iar wh ∧ h.1 10 = iar mi ∧ ∀ p q, ps[p]? = some q → wh p = q.1 ∧ wa p = q.2.1 ∧ me p = q.2.2.1 ∧ mi p = q.2.2.2.1 ∧ bitv fe (nI p) = bitv q.2.2.2.2 0 ∧ bitv fl (nI p) = bitv q.2.2.2.2 1
theorem pRd.set4 {N G F : Int32} {ps : List Pn} {h : am_H} {c : am_C} (q : pRd N G F ps h) : pRd N G F ps (am_set h 4 c) := by
  obtain ⟨wa, me, wh, mi, fe, fl, q1, q2, q3, q4, q5, q6, q7⟩ := q
  exact ⟨wa, me, wh, mi, fe, fl, by rw [am_set_ne (by omega)]; exact q1, by rw [am_set_ne (by omega)]; exact q2, by rw [am_set_ne (by omega)]; exact q3, by rw [am_set_ne (by omega)]; exact q4, by rw [am_set_ne (by omega)]; exact q5, by rw [am_set_ne (by omega)]; exact q6, q7⟩
/-- reading has come to o: nothing but the reader's cells has changed -/
def atO (len : Nat) (pl : Int32) (o : (Nat × Nat) ⊕ Nat) (c : am_C) : Prop := ∃ nu, rdS len pl o nu c
theorem rd4 {len : Nat} {pl : Int32} {o : (Nat × Nat) ⊕ Nat} {c : am_C} (q : atO len pl o c) : ∃ z, c = .inr (5, .ref 5 :: .ref 8 :: z) := by
  obtain ⟨nu, q⟩ := q
  cases o with
  | inl e => obtain ⟨k, j⟩ := e; obtain ⟨-, i, -, rfl⟩ := q; exact ⟨_, rfl⟩
  | inr i => obtain ⟨-, rfl⟩ := q; exact ⟨_, rfl⟩
section CStat
variable {h : am_H} {len : Nat} {tx : Nat → Int32} {pl : Int32}
/-- a number, with the reader's cell set -/
theorem c_rdN {o : (Nat × Nat) ⊕ Nat} {c : am_C} {lo up : Int32} (hT : cTx len tx h) (hr : atO len pl o c) : am_T M_Reader_readNumber [.ref 4, .ref 2, .int lo, .int up] (am_set h 4 c) (fun r h' => ∃ v c', r = some (.int v) ∧ h' = am_set h 4 c' ∧ atO len pl (bnN len tx o lo up) c' ∧ ∀ i q, o = .inr i → numS len tx i lo up = .inr q → v = q.2 ∧ c' = rdc 0 pl (nI q.1) (nI (sk len tx i)) ∧ q.1 ≤ len) := by
  obtain ⟨nu, hr⟩ := hr
  refine am_R.imp (c_readNumber (hT.set (by omega)) (by rw [am_set_eq]; exact hr)) ?_
  rintro r h' ⟨v, nu', c', rfl, rfl, q3, q4⟩
  rw [am_set_set]
  refine ⟨v, c', rfl, rfl, ⟨nu', q3⟩, fun i q e1 e2 => ?_⟩
  obtain ⟨z1, z2⟩ := q4 i q e1 e2
  subst e1
  have eb : bnN len tx (.inr i) lo up = .inr q.1 := by
    show (match numS len tx i lo up with | .inl e => Sum.inl e | .inr q => .inr q.1) = _
    rw [e2]
  rw [eb] at q3
  obtain ⟨q5, q6⟩ := q3
  exact ⟨z1, by rw [q6, z2], q5⟩
theorem c_rdE {o : (Nat × Nat) ⊕ Nat} {c : am_C} (hT : cTx len tx h) (hr : atO len pl o c) : am_T M_Reader_readEnd [.ref 4, .ref 2] (am_set h 4 c) (fun r h' => ∃ c', r = none ∧ h' = am_set h 4 c' ∧ atO len pl (bnS len tx o 59) c') := by
  obtain ⟨nu, hr⟩ := hr
  refine am_R.imp (c_readEnd (hT.set (by omega)) (by rw [am_set_eq]; exact hr)) ?_
  rintro r h' ⟨c', rfl, rfl, q3⟩
  rw [am_set_set]
  exact ⟨c', rfl, rfl, nu, q3⟩
theorem atO_inr {i : Nat} {c : am_C} (q : atO len pl (.inr i) c) : i ≤ len ∧ ∃ nu, c = rdc 0 pl (nI i) nu := by
  obtain ⟨nu, q1, q2⟩ := q
  exact ⟨q1, nu, q2⟩
theorem atO_inl {k j : Nat} {c : am_C} (q : atO len pl (.inl (k, j)) c) : (0 < k ∧ k < 100) ∧ ∃ nu i, i ≤ len ∧ c = rdc (nI k) (nI j) (nI i) nu := by
  obtain ⟨nu, q1, i, q2, q3⟩ := q
  exact ⟨q1, nu, i, q2, q3⟩
set_option maxHeartbeats 1000000 in
theorem c_readStations {i : Nat} {c : am_C} {N G F : Int32} {ps : List Pn} (hT : cTx len tx h) (hr : atO len pl (.inr i) c) (hp : pRd N G F ps h) : am_T M_Reader_readStations [.ref 4, .ref 2] (am_set h 4 c) (fun r h' => r = none ∧ ∃ c' h1, h' = am_set h1 4 c' ∧ am_fr 4 11 h h1 ∧ match stS len tx i with | .inl e => atO len pl (.inl e) c' ∧ h1 = h | .inr q => atO len pl (.inr q.1) c' ∧ pRd q.2.1 q.2.2.1 q.2.2.2 ps h1) := by
  obtain ⟨z, ec⟩ := rd4 hr
  have r4 : (am_set h 4 c).1 4 = .inr (5, .ref 5 :: .ref 8 :: z) := by rw [am_set_eq]; exact ec
  (try unfold am_E); unfold am_T
  repeat (first | refine rs [] rfl rfl rfl rfl ?_ | refine rk rfl rfl ?_ | refine rgoh [] rfl rfl ?_ | refine rgeta (hi := rfl) (kk := ?_) | refine rialda (hi := rfl) (kk := ?_))
  refine rcvt rfl rfl rfl rfl rfl r4 rfl (c_rdN hT hr) ?_
  rintro r h1 ⟨v1, c1, rfl, rfl, a1, b1⟩
  obtain ⟨z1, ec1⟩ := rd4 a1
  have r41 : (am_set h 4 c1).1 4 = .inr (5, .ref 5 :: .ref 8 :: z1) := by rw [am_set_eq]; exact ec1
  show am_R M_Reader_readStations (5, _, [.int v1]) _ _
  repeat (first | refine rs [] rfl rfl rfl rfl ?_ | refine rk rfl rfl ?_ | refine rgoh [] rfl rfl ?_ | refine rgeta (hi := rfl) (kk := ?_) | refine rialda (hi := rfl) (kk := ?_))
  refine rcvt rfl rfl rfl rfl rfl r41 rfl (c_rdN hT a1) ?_
  rintro r h1 ⟨v2, c2, rfl, rfl, a2, b2⟩
  obtain ⟨z2, ec2⟩ := rd4 a2
  have r42 : (am_set h 4 c2).1 4 = .inr (5, .ref 5 :: .ref 8 :: z2) := by rw [am_set_eq]; exact ec2
  show am_R M_Reader_readStations (11, _, [.int v2]) _ _
  repeat (first | refine rs [] rfl rfl rfl rfl ?_ | refine rk rfl rfl ?_ | refine rgoh [] rfl rfl ?_ | refine rgeta (hi := rfl) (kk := ?_) | refine rialda (hi := rfl) (kk := ?_))
  refine rcvt rfl rfl rfl rfl rfl r42 rfl (c_rdN hT a2) ?_
  rintro r h1 ⟨v3, c3, rfl, rfl, a3, b3⟩
  obtain ⟨z3, ec3⟩ := rd4 a3
  have r43 : (am_set h 4 c3).1 4 = .inr (5, .ref 5 :: .ref 8 :: z3) := by rw [am_set_eq]; exact ec3
  show am_R M_Reader_readStations (17, _, [.int v3]) _ _
  repeat (first | refine rs [] rfl rfl rfl rfl ?_ | refine rk rfl rfl ?_ | refine rgoh [] rfl rfl ?_ | refine rgeta (hi := rfl) (kk := ?_) | refine rialda (hi := rfl) (kk := ?_))
  refine rcvt rfl rfl rfl rfl rfl r43 rfl (c_rdE hT a3) ?_
  rintro r h1 ⟨c4, rfl, rfl, a4⟩
  show am_R M_Reader_readStations (21, [.ref 4, .ref 2, .int v1, .int v2, .int v3], []) _ _
  have flt : ∀ e, bnS len tx (bnN len tx (bnN len tx (bnN len tx (.inr i) 2 8) 1 15) 0 9) 59 = .inl e → stS len tx i = .inl e → am_R M_Reader_readStations (21, [.ref 4, .ref 2, .int v1, .int v2, .int v3], []) (am_set h 4 c4) (fun r h' => r = none ∧ ∃ c' h1, h' = am_set h1 4 c' ∧ am_fr 4 11 h h1 ∧ match stS len tx i with | .inl e => atO len pl (.inl e) c' ∧ h1 = h | .inr q => atO len pl (.inr q.1) c' ∧ pRd q.2.1 q.2.2.1 q.2.2.2 ps h1) := by
    intro e e1 e2
    rw [e1] at a4
    obtain ⟨k, j⟩ := e
    obtain ⟨hk, nu, i', hi', rfl⟩ := atO_inl a4
    have hk0 : ¬ nI k = 0 := nI_ne0 hk.1 (by omega)
    repeat (first | refine rs [] rfl rfl rfl rfl ?_ | refine rk rfl rfl ?_ | refine rgoh [] rfl rfl ?_ | refine rgeta (hi := rfl) (kk := ?_) | refine rialda (hi := rfl) (kk := ?_))
    (first | refine rif rfl rfl (fun c1 => ?_) (fun c1 => ?_) | refine ric rfl rfl (fun c1 => ?_) (fun c1 => ?_))
    · exact absurd c1 hk0
    · repeat (first | refine rs [] rfl rfl rfl rfl ?_ | refine rk rfl rfl ?_ | refine rgoh [] rfl rfl ?_ | refine rgeta (hi := rfl) (kk := ?_) | refine rialda (hi := rfl) (kk := ?_))
      refine rret rfl rfl ?_
      rw [e2]
      exact ⟨rfl, _, h, rfl, fr_rf, a4, rfl⟩
  cases e1 : numS len tx i 2 8 with
  | inl e => exact flt e (by simp only [bnN, bnS, e1]) (by unfold stS; rw [e1])
  | inr q1 =>
    cases e2 : numS len tx q1.1 1 15 with
    | inl e => exact flt e (by simp only [bnN, bnS, e1, e2]) (by unfold stS; rw [e1]; dsimp only; rw [e2])
    | inr q2 =>
      cases e3 : numS len tx q2.1 0 9 with
      | inl e => exact flt e (by simp only [bnN, bnS, e1, e2, e3]) (by unfold stS; rw [e1]; dsimp only; rw [e2]; dsimp only; rw [e3])
      | inr q3 =>
        cases e4 : sgS len tx q3.1 59 with
        | inl e => exact flt e (by simp only [bnN, bnS, e1, e2, e3, e4]) (by unfold stS; rw [e1]; dsimp only; rw [e2]; dsimp only; rw [e3]; dsimp only; rw [e4])
        | inr i4 =>
          have es : stS len tx i = .inr (i4, q1.2, q2.2, q3.2) := by unfold stS; rw [e1]; dsimp only; rw [e2]; dsimp only; rw [e3]; dsimp only; rw [e4]
          have w1 := (b1 i q1 rfl e1).1
          have w2 := (b2 q1.1 q2 (by simp only [bnN, e1]) e2).1
          have w3 := (b3 q2.1 q3 (by simp only [bnN, e1, e2]) e3).1
          have a5 : atO len pl (.inr i4) c4 := by
            have : bnS len tx (bnN len tx (bnN len tx (bnN len tx (.inr i) 2 8) 1 15) 0 9) 59 = .inr i4 := by simp only [bnN, bnS, e1, e2, e3, e4]
            rw [this] at a4
            exact a4
          obtain ⟨hi4, nu, rfl⟩ := atO_inr a5
          obtain ⟨wa, me, wh, mi, fe, fl, p1, p2, p3, p4, p5, p6, p7⟩ := hp
          repeat (first | refine rs [] rfl rfl rfl rfl ?_ | refine rk rfl rfl ?_ | refine rgoh [] rfl rfl ?_ | refine rgeta (hi := rfl) (kk := ?_) | refine rialda (hi := rfl) (kk := ?_))
          (first | refine rift rfl rfl ?_ | refine riff rfl rfl ?_ | refine rict rfl rfl ?_ | refine ricf rfl rfl ?_)
          repeat (first | refine rs [] rfl rfl rfl rfl ?_ | refine rk rfl rfl ?_ | refine rgoh [] rfl rfl ?_ | refine rgeta (hi := rfl) (kk := ?_) | refine rialda (hi := rfl) (kk := ?_))
          refine rputa (hi := rfl) (kk := ?_)
          repeat (first | refine rs [] rfl rfl rfl rfl ?_ | refine rk rfl rfl ?_ | refine rgoh [] rfl rfl ?_ | refine rgeta (hi := rfl) (kk := ?_) | refine rialda (hi := rfl) (kk := ?_))
          refine rputa (hi := rfl) (kk := ?_)
          repeat (first | refine rs [] rfl rfl rfl rfl ?_ | refine rk rfl rfl ?_ | refine rgoh [] rfl rfl ?_ | refine rgeta (hi := rfl) (kk := ?_) | refine rialda (hi := rfl) (kk := ?_))
          refine rret rfl rfl ?_
          rw [es]
          refine ⟨rfl, rdc 0 pl (nI i4) nu, am_set (am_set h 5 (.inr (4, [.int v1, .int v2, .int (nI ps.length), .ref 6, .ref 7]))) 8 (.inr (6, [.ref 9, .ref 10, .int fe, .int fl, .int v3, .int 0, .int 0])), ?_, fr_set (fr_set fr_rf (by omega) (by omega)) (by omega) (by omega), a5, ?_⟩
          · rw [am_set_set, am_set_comm (a := 8) (b := 4) (by omega), am_set_comm (a := 5) (b := 4) (by omega)]
            rfl
          · subst w1 w2 w3
            refine ⟨wa, me, wh, mi, fe, fl, ?_, ?_, ?_, ?_, ?_, ?_, p7⟩ <;> simp (disch := omega) only [am_set_ne, am_set_eq] <;> assumption
end CStat
