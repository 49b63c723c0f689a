/-! the model's reading: clauses -/
/-- by whom he would be met -/
def mtS (len : Nat) (tx : Nat → Int32) (P : Nat) (i : Nat) : (Nat × Nat) ⊕ (Nat × Int32) :=
  match numS len tx i 0 9 with
  | .inl e => .inl e
  | .inr q3 => if ¬ q3.2 = 9 ∧ ¬ q3.2 < nI P then .inl (2, sk len tx i) else .inr (q3.1, if q3.2 = 9 then -1 else q3.2)
def ftS (len : Nat) (tx : Nat → Int32) (i : Nat) : (Nat × Nat) ⊕ (Nat × Int32 × Int32 × Int32) :=
  match sgS len tx i 115 with
  | .inl e => .inl e
  | .inr j => stS len tx j
theorem i5 : (5 : Int32) = nI 5 := by decide
section MRead
variable {h : am_H} {fa ra rf rn rm N G fog P tr sp dm um sm em : Int32} {sd : Int64} {len i : Nat} {tx g1 g2 : Nat → Int32}
theorem w_numA {lo up : Int32} (hl : len ≤ 200) (hi : i ≤ len) (hm : h.1 130 = mO (nI len) fa (nI i) rf rn rm N G fog P tr sp dm sd um sm em) (ht : h.1 131 = .inl (.int, 200, .inl tx)) : am_T M_Mo_number [.ref 130, .int lo, .int up] h (fun r h' => am_fk [130] h h' ∧ match numS len tx i lo up with | .inl e => r = some (.int 0) ∧ h'.1 130 = mO (nI len) fa (nI e.2) (nI e.1) rn rm N G fog P tr sp dm sd um sm em | .inr q => r = some (.int 1) ∧ h'.1 130 = mO (nI len) fa (nI q.1) rf q.2 rm N G fog P tr sp dm sd um sm em) := by
  refine am_R.imp (w_number (lo := lo) (up := up) hl hi hm ht) ?_
  intro r h' q
  cases e : numS len tx i lo up with
  | inl z =>
    rw [e] at q
    obtain ⟨q1, rfl⟩ := q
    exact ⟨fl_set fl_rf (by decide), q1, am_set_eq⟩
  | inr z =>
    rw [e] at q
    obtain ⟨q1, rfl⟩ := q
    exact ⟨fl_set fl_rf (by decide), q1, am_set_eq⟩
theorem w_sgnA {c : Int32} (hl : len ≤ 200) (hi : i ≤ len) (hm : h.1 130 = mO (nI len) fa (nI i) rf rn rm N G fog P tr sp dm sd um sm em) (ht : h.1 131 = .inl (.int, 200, .inl tx)) : am_T M_Mo_sign [.ref 130, .int c] h (fun r h' => am_fk [130] h h' ∧ match sgS len tx i c with | .inl e => r = some (.int 0) ∧ h'.1 130 = mO (nI len) fa (nI e.2) (nI e.1) rn rm N G fog P tr sp dm sd um sm em | .inr j => r = some (.int 1) ∧ h'.1 130 = mO (nI len) fa (nI j) rf rn rm N G fog P tr sp dm sd um sm em) := by
  refine am_R.imp (w_sign (c := c) hl hi hm ht) ?_
  intro r h' q
  cases e : sgS len tx i c with
  | inl z =>
    rw [e] at q
    obtain ⟨q1, rfl⟩ := q
    exact ⟨fl_set fl_rf (by decide), q1, am_set_eq⟩
  | inr z =>
    rw [e] at q
    obtain ⟨q1, rfl⟩ := q
    exact ⟨fl_set fl_rf (by decide), q1, am_set_eq⟩
set_option maxHeartbeats 1000000 in
theorem w_readsFirst (hl : len ≤ 200) (hi : i ≤ len) (hm : h.1 130 = mO (nI len) fa (nI i) rf rn rm N G fog P tr sp dm sd um sm em) (ht : h.1 131 = .inl (.int, 200, .inl tx)) (h2 : h.1 132 = .inl (.int, 3, .inl g1)) : am_T M_Mo_readsFirst [.ref 130] h (fun r h' => am_fk [130, 132] h h' ∧ ∃ rn' g, h'.1 132 = .inl (.int, 3, .inl g) ∧ match ftS len tx i with | .inl e => r = some (.int 0) ∧ h'.1 130 = mO (nI len) fa (nI e.2) (nI e.1) rn' rm N G fog P tr sp dm sd um sm em | .inr q => r = some (.int 1) ∧ h'.1 130 = mO (nI len) fa (nI q.1) rf rn' rm N G fog P tr sp dm sd um sm em ∧ g 0 = q.2.1 ∧ g 1 = q.2.2.1 ∧ g 2 = q.2.2.2) := by
  have F : am_fk [130, 132] h h := fl_rf
  (try unfold am_E); unfold am_T
  repeat (first | refine rs [] rfl rfl rfl rfl ?_ | refine rk rfl rfl ?_ | refine rgoh [] rfl rfl ?_ | refine rgeta (hi := rfl) (kk := ?_) | refine rialda (hi := rfl) (kk := ?_))
  refine rcvt rfl rfl rfl rfl rfl hm rfl (w_sgnA hl hi hm ht) ?_
  rintro r k1 ⟨f1, q⟩
  have ht : k1.1 131 = .inl (.int, 200, .inl tx) := by rw [f1.2 _ (by decide)]; exact ht
  have h2 : k1.1 132 = .inl (.int, 3, .inl g1) := by rw [f1.2 _ (by decide)]; exact h2
  have F := fl_tr F f1 (by decide)
  cases e1 : sgS len tx i 115 with
  | inl z =>
    rw [e1] at q
    obtain ⟨rfl, hm⟩ := q
    show am_R M_Mo_readsFirst (3, [.ref 130, _], [.int 0]) _ _
    (first | refine rift rfl rfl ?_ | refine riff rfl rfl ?_ | refine rict rfl rfl ?_ | refine ricf rfl rfl ?_)
    repeat (first | refine rs [] rfl rfl rfl rfl ?_ | refine rk rfl rfl ?_ | refine rgoh [] rfl rfl ?_ | refine rgeta (hi := rfl) (kk := ?_) | refine rialda (hi := rfl) (kk := ?_))
    have ev : ftS len tx i = .inl z := by simp only [ftS, e1]
    refine rret rfl rfl ?_
    rw [ev]
    exact ⟨F, rn, g1, h2, rfl, hm⟩
  | inr j0 =>
    rw [e1] at q
    obtain ⟨rfl, hm⟩ := q
    have p0 := sgS_pos hi (by decide) e1
    have p0 : j0 ≤ len := p0.2
    show am_R M_Mo_readsFirst (3, [.ref 130, _], [.int 1]) _ _
    (first | refine rift rfl rfl ?_ | refine riff rfl rfl ?_ | refine rict rfl rfl ?_ | refine ricf rfl rfl ?_)
    repeat (first | refine rs [8] rfl rfl rfl rfl ?_ | refine rk rfl rfl ?_ | refine rgoh [8] rfl rfl ?_ | refine rgeta (hi := rfl) (kk := ?_) | refine rialda (hi := rfl) (kk := ?_))
    repeat (first | refine rs [] rfl rfl rfl rfl ?_ | refine rk rfl rfl ?_ | refine rgoh [] rfl rfl ?_ | refine rgeta (hi := rfl) (kk := ?_) | refine rialda (hi := rfl) (kk := ?_))
    (first | refine rift rfl rfl ?_ | refine riff rfl rfl ?_ | refine rict rfl rfl ?_ | refine ricf rfl rfl ?_)
    repeat (first | refine rs [] rfl rfl rfl rfl ?_ | refine rk rfl rfl ?_ | refine rgoh [] rfl rfl ?_ | refine rgeta (hi := rfl) (kk := ?_) | refine rialda (hi := rfl) (kk := ?_))
    (first | refine rift rfl rfl ?_ | refine riff rfl rfl ?_ | refine rict rfl rfl ?_ | refine ricf rfl rfl ?_)
    repeat (first | refine rs [] rfl rfl rfl rfl ?_ | refine rk rfl rfl ?_ | refine rgoh [] rfl rfl ?_ | refine rgeta (hi := rfl) (kk := ?_) | refine rialda (hi := rfl) (kk := ?_))
    (first | refine rift rfl rfl ?_ | refine riff rfl rfl ?_ | refine rict rfl rfl ?_ | refine ricf rfl rfl ?_)
    repeat (first | refine rs [] rfl rfl rfl rfl ?_ | refine rk rfl rfl ?_ | refine rgoh [] rfl rfl ?_ | refine rgeta (hi := rfl) (kk := ?_) | refine rialda (hi := rfl) (kk := ?_))
    refine rcvt rfl rfl rfl rfl rfl hm rfl (w_numA hl p0 hm ht) ?_
    rintro r k2 ⟨f2, q⟩
    have ht : k2.1 131 = .inl (.int, 200, .inl tx) := by rw [f2.2 _ (by decide)]; exact ht
    have h2 : k2.1 132 = .inl (.int, 3, .inl g1) := by rw [f2.2 _ (by decide)]; exact h2
    have F := fl_tr F f2 (by decide)
    cases e2 : numS len tx j0 2 8 with
    | inl z =>
      rw [e2] at q
      obtain ⟨rfl, hm⟩ := q
      show am_R M_Mo_readsFirst (33, [.ref 130, _], [.int 0]) _ _
      (first | refine rift rfl rfl ?_ | refine riff rfl rfl ?_ | refine rict rfl rfl ?_ | refine ricf rfl rfl ?_)
      repeat (first | refine rs [] rfl rfl rfl rfl ?_ | refine rk rfl rfl ?_ | refine rgoh [] rfl rfl ?_ | refine rgeta (hi := rfl) (kk := ?_) | refine rialda (hi := rfl) (kk := ?_))
      have ev : ftS len tx i = .inl z := by simp only [ftS, stS, e1, e2]
      refine rret rfl rfl ?_
      rw [ev]
      exact ⟨F, rn, g1, h2, rfl, hm⟩
    | inr q1 =>
      rw [e2] at q
      obtain ⟨rfl, hm⟩ := q
      have p1 := (numS_pos p0 e2).2.1
      show am_R M_Mo_readsFirst (33, [.ref 130, _], [.int 1]) _ _
      (first | refine rift rfl rfl ?_ | refine riff rfl rfl ?_ | refine rict rfl rfl ?_ | refine ricf rfl rfl ?_)
      repeat (first | refine rs [8] rfl rfl rfl rfl ?_ | refine rk rfl rfl ?_ | refine rgoh [8] rfl rfl ?_ | refine rgeta (hi := rfl) (kk := ?_) | refine rialda (hi := rfl) (kk := ?_))
      refine riasta (hi := rfl) (hik := nI_0.symm) (kk := ?_)
      have F : am_fk [130, 132] h (am_set k2 132 (.inl (.int, 3, .inl (upd g1 0 q1.2)))) := fl_set F (by decide)
      have hm : (am_set k2 132 (.inl (.int, 3, .inl (upd g1 0 q1.2)))).1 130 = _ := (am_set_ne (by omega)).trans hm
      have ht : (am_set k2 132 (.inl (.int, 3, .inl (upd g1 0 q1.2)))).1 131 = _ := (am_set_ne (by omega)).trans ht
      have h2 : (am_set k2 132 (.inl (.int, 3, .inl (upd g1 0 q1.2)))).1 132 = .inl (.int, 3, .inl (upd g1 0 q1.2)) := am_set_eq
      show am_R M_Mo_readsFirst (42, _, _) (am_set k2 132 (.inl (.int, 3, .inl (upd g1 0 q1.2)))) _
      generalize am_set k2 132 (.inl (.int, 3, .inl (upd g1 0 q1.2))) = m2 at *
      repeat (first | refine rs [8] rfl rfl rfl rfl ?_ | refine rk rfl rfl ?_ | refine rgoh [8] rfl rfl ?_ | refine rgeta (hi := rfl) (kk := ?_) | refine rialda (hi := rfl) (kk := ?_))
      repeat (first | refine rs [] rfl rfl rfl rfl ?_ | refine rk rfl rfl ?_ | refine rgoh [] rfl rfl ?_ | refine rgeta (hi := rfl) (kk := ?_) | refine rialda (hi := rfl) (kk := ?_))
      (first | refine rift rfl rfl ?_ | refine riff rfl rfl ?_ | refine rict rfl rfl ?_ | refine ricf rfl rfl ?_)
      repeat (first | refine rs [] rfl rfl rfl rfl ?_ | refine rk rfl rfl ?_ | refine rgoh [] rfl rfl ?_ | refine rgeta (hi := rfl) (kk := ?_) | refine rialda (hi := rfl) (kk := ?_))
      (first | refine rift rfl rfl ?_ | refine riff rfl rfl ?_ | refine rict rfl rfl ?_ | refine ricf rfl rfl ?_)
      repeat (first | refine rs [] rfl rfl rfl rfl ?_ | refine rk rfl rfl ?_ | refine rgoh [] rfl rfl ?_ | refine rgeta (hi := rfl) (kk := ?_) | refine rialda (hi := rfl) (kk := ?_))
      (first | refine rift rfl rfl ?_ | refine riff rfl rfl ?_ | refine rict rfl rfl ?_ | refine ricf rfl rfl ?_)
      repeat (first | refine rs [] rfl rfl rfl rfl ?_ | refine rk rfl rfl ?_ | refine rgoh [] rfl rfl ?_ | refine rgeta (hi := rfl) (kk := ?_) | refine rialda (hi := rfl) (kk := ?_))
      (first | refine rift rfl rfl ?_ | refine riff rfl rfl ?_ | refine rict rfl rfl ?_ | refine ricf rfl rfl ?_)
      repeat (first | refine rs [] rfl rfl rfl rfl ?_ | refine rk rfl rfl ?_ | refine rgoh [] rfl rfl ?_ | refine rgeta (hi := rfl) (kk := ?_) | refine rialda (hi := rfl) (kk := ?_))
      (first | refine rift rfl rfl ?_ | refine riff rfl rfl ?_ | refine rict rfl rfl ?_ | refine ricf rfl rfl ?_)
      repeat (first | refine rs [] rfl rfl rfl rfl ?_ | refine rk rfl rfl ?_ | refine rgoh [] rfl rfl ?_ | refine rgeta (hi := rfl) (kk := ?_) | refine rialda (hi := rfl) (kk := ?_))
      refine rcvt rfl rfl rfl rfl rfl hm rfl (w_numA hl p1 hm ht) ?_
      rintro r k3 ⟨f3, q⟩
      have ht : k3.1 131 = .inl (.int, 200, .inl tx) := by rw [f3.2 _ (by decide)]; exact ht
      have h2 : k3.1 132 = .inl (.int, 3, .inl (upd g1 0 q1.2)) := by rw [f3.2 _ (by decide)]; exact h2
      have F := fl_tr F f3 (by decide)
      cases e3 : numS len tx q1.1 1 15 with
      | inl z =>
        rw [e3] at q
        obtain ⟨rfl, hm⟩ := q
        show am_R M_Mo_readsFirst (33, [.ref 130, _], [.int 0]) _ _
        (first | refine rift rfl rfl ?_ | refine riff rfl rfl ?_ | refine rict rfl rfl ?_ | refine ricf rfl rfl ?_)
        repeat (first | refine rs [] rfl rfl rfl rfl ?_ | refine rk rfl rfl ?_ | refine rgoh [] rfl rfl ?_ | refine rgeta (hi := rfl) (kk := ?_) | refine rialda (hi := rfl) (kk := ?_))
        have ev : ftS len tx i = .inl z := by simp only [ftS, stS, e1, e2, e3]
        refine rret rfl rfl ?_
        rw [ev]
        exact ⟨F, q1.2, (upd g1 0 q1.2), h2, rfl, hm⟩
      | inr q2 =>
        rw [e3] at q
        obtain ⟨rfl, hm⟩ := q
        have p2 := (numS_pos p1 e3).2.1
        show am_R M_Mo_readsFirst (33, [.ref 130, _], [.int 1]) _ _
        (first | refine rift rfl rfl ?_ | refine riff rfl rfl ?_ | refine rict rfl rfl ?_ | refine ricf rfl rfl ?_)
        repeat (first | refine rs [8] rfl rfl rfl rfl ?_ | refine rk rfl rfl ?_ | refine rgoh [8] rfl rfl ?_ | refine rgeta (hi := rfl) (kk := ?_) | refine rialda (hi := rfl) (kk := ?_))
        refine riasta (hi := rfl) (hik := show (0 + 1 : Int32) = nI 1 by decide) (kk := ?_)
        have F : am_fk [130, 132] h (am_set k3 132 (.inl (.int, 3, .inl (upd (upd g1 0 q1.2) 1 q2.2)))) := fl_set F (by decide)
        have hm : (am_set k3 132 (.inl (.int, 3, .inl (upd (upd g1 0 q1.2) 1 q2.2)))).1 130 = _ := (am_set_ne (by omega)).trans hm
        have ht : (am_set k3 132 (.inl (.int, 3, .inl (upd (upd g1 0 q1.2) 1 q2.2)))).1 131 = _ := (am_set_ne (by omega)).trans ht
        have h2 : (am_set k3 132 (.inl (.int, 3, .inl (upd (upd g1 0 q1.2) 1 q2.2)))).1 132 = .inl (.int, 3, .inl (upd (upd g1 0 q1.2) 1 q2.2)) := am_set_eq
        show am_R M_Mo_readsFirst (42, _, _) (am_set k3 132 (.inl (.int, 3, .inl (upd (upd g1 0 q1.2) 1 q2.2)))) _
        generalize am_set k3 132 (.inl (.int, 3, .inl (upd (upd g1 0 q1.2) 1 q2.2))) = m3 at *
        repeat (first | refine rs [8] rfl rfl rfl rfl ?_ | refine rk rfl rfl ?_ | refine rgoh [8] rfl rfl ?_ | refine rgeta (hi := rfl) (kk := ?_) | refine rialda (hi := rfl) (kk := ?_))
        repeat (first | refine rs [] rfl rfl rfl rfl ?_ | refine rk rfl rfl ?_ | refine rgoh [] rfl rfl ?_ | refine rgeta (hi := rfl) (kk := ?_) | refine rialda (hi := rfl) (kk := ?_))
        (first | refine rift rfl rfl ?_ | refine riff rfl rfl ?_ | refine rict rfl rfl ?_ | refine ricf rfl rfl ?_)
        repeat (first | refine rs [] rfl rfl rfl rfl ?_ | refine rk rfl rfl ?_ | refine rgoh [] rfl rfl ?_ | refine rgeta (hi := rfl) (kk := ?_) | refine rialda (hi := rfl) (kk := ?_))
        (first | refine rift rfl rfl ?_ | refine riff rfl rfl ?_ | refine rict rfl rfl ?_ | refine ricf rfl rfl ?_)
        repeat (first | refine rs [] rfl rfl rfl rfl ?_ | refine rk rfl rfl ?_ | refine rgoh [] rfl rfl ?_ | refine rgeta (hi := rfl) (kk := ?_) | refine rialda (hi := rfl) (kk := ?_))
        (first | refine rift rfl rfl ?_ | refine riff rfl rfl ?_ | refine rict rfl rfl ?_ | refine ricf rfl rfl ?_)
        repeat (first | refine rs [] rfl rfl rfl rfl ?_ | refine rk rfl rfl ?_ | refine rgoh [] rfl rfl ?_ | refine rgeta (hi := rfl) (kk := ?_) | refine rialda (hi := rfl) (kk := ?_))
        (first | refine rift rfl rfl ?_ | refine riff rfl rfl ?_ | refine rict rfl rfl ?_ | refine ricf rfl rfl ?_)
        repeat (first | refine rs [] rfl rfl rfl rfl ?_ | refine rk rfl rfl ?_ | refine rgoh [] rfl rfl ?_ | refine rgeta (hi := rfl) (kk := ?_) | refine rialda (hi := rfl) (kk := ?_))
        (first | refine rift rfl rfl ?_ | refine riff rfl rfl ?_ | refine rict rfl rfl ?_ | refine ricf rfl rfl ?_)
        repeat (first | refine rs [] rfl rfl rfl rfl ?_ | refine rk rfl rfl ?_ | refine rgoh [] rfl rfl ?_ | refine rgeta (hi := rfl) (kk := ?_) | refine rialda (hi := rfl) (kk := ?_))
        refine rcvt rfl rfl rfl rfl rfl hm rfl (w_numA hl p2 hm ht) ?_
        rintro r k4 ⟨f4, q⟩
        have ht : k4.1 131 = .inl (.int, 200, .inl tx) := by rw [f4.2 _ (by decide)]; exact ht
        have h2 : k4.1 132 = .inl (.int, 3, .inl (upd (upd g1 0 q1.2) 1 q2.2)) := by rw [f4.2 _ (by decide)]; exact h2
        have F := fl_tr F f4 (by decide)
        cases e4 : numS len tx q2.1 0 9 with
        | inl z =>
          rw [e4] at q
          obtain ⟨rfl, hm⟩ := q
          show am_R M_Mo_readsFirst (33, [.ref 130, _], [.int 0]) _ _
          (first | refine rift rfl rfl ?_ | refine riff rfl rfl ?_ | refine rict rfl rfl ?_ | refine ricf rfl rfl ?_)
          repeat (first | refine rs [] rfl rfl rfl rfl ?_ | refine rk rfl rfl ?_ | refine rgoh [] rfl rfl ?_ | refine rgeta (hi := rfl) (kk := ?_) | refine rialda (hi := rfl) (kk := ?_))
          have ev : ftS len tx i = .inl z := by simp only [ftS, stS, e1, e2, e3, e4]
          refine rret rfl rfl ?_
          rw [ev]
          exact ⟨F, q2.2, (upd (upd g1 0 q1.2) 1 q2.2), h2, rfl, hm⟩
        | inr q3 =>
          rw [e4] at q
          obtain ⟨rfl, hm⟩ := q
          have p3 := (numS_pos p2 e4).2.1
          show am_R M_Mo_readsFirst (33, [.ref 130, _], [.int 1]) _ _
          (first | refine rift rfl rfl ?_ | refine riff rfl rfl ?_ | refine rict rfl rfl ?_ | refine ricf rfl rfl ?_)
          repeat (first | refine rs [8] rfl rfl rfl rfl ?_ | refine rk rfl rfl ?_ | refine rgoh [8] rfl rfl ?_ | refine rgeta (hi := rfl) (kk := ?_) | refine rialda (hi := rfl) (kk := ?_))
          refine riasta (hi := rfl) (hik := show (0 + 1 + 1 : Int32) = nI 2 by decide) (kk := ?_)
          have F : am_fk [130, 132] h (am_set k4 132 (.inl (.int, 3, .inl (upd (upd (upd g1 0 q1.2) 1 q2.2) 2 q3.2)))) := fl_set F (by decide)
          have hm : (am_set k4 132 (.inl (.int, 3, .inl (upd (upd (upd g1 0 q1.2) 1 q2.2) 2 q3.2)))).1 130 = _ := (am_set_ne (by omega)).trans hm
          have ht : (am_set k4 132 (.inl (.int, 3, .inl (upd (upd (upd g1 0 q1.2) 1 q2.2) 2 q3.2)))).1 131 = _ := (am_set_ne (by omega)).trans ht
          have h2 : (am_set k4 132 (.inl (.int, 3, .inl (upd (upd (upd g1 0 q1.2) 1 q2.2) 2 q3.2)))).1 132 = .inl (.int, 3, .inl (upd (upd (upd g1 0 q1.2) 1 q2.2) 2 q3.2)) := am_set_eq
          show am_R M_Mo_readsFirst (42, _, _) (am_set k4 132 (.inl (.int, 3, .inl (upd (upd (upd g1 0 q1.2) 1 q2.2) 2 q3.2)))) _
          generalize am_set k4 132 (.inl (.int, 3, .inl (upd (upd (upd g1 0 q1.2) 1 q2.2) 2 q3.2))) = m4 at *
          repeat (first | refine rs [8] rfl rfl rfl rfl ?_ | refine rk rfl rfl ?_ | refine rgoh [8] rfl rfl ?_ | refine rgeta (hi := rfl) (kk := ?_) | refine rialda (hi := rfl) (kk := ?_))
          repeat (first | refine rs [] rfl rfl rfl rfl ?_ | refine rk rfl rfl ?_ | refine rgoh [] rfl rfl ?_ | refine rgeta (hi := rfl) (kk := ?_) | refine rialda (hi := rfl) (kk := ?_))
          (first | refine rift rfl rfl ?_ | refine riff rfl rfl ?_ | refine rict rfl rfl ?_ | refine ricf rfl rfl ?_)
          repeat (first | refine rs [] rfl rfl rfl rfl ?_ | refine rk rfl rfl ?_ | refine rgoh [] rfl rfl ?_ | refine rgeta (hi := rfl) (kk := ?_) | refine rialda (hi := rfl) (kk := ?_))
          refine rcvt rfl rfl rfl rfl rfl hm rfl (w_sgnA hl p3 hm ht) ?_
          rintro r k5 ⟨f5, q⟩
          have ht : k5.1 131 = .inl (.int, 200, .inl tx) := by rw [f5.2 _ (by decide)]; exact ht
          have h2 : k5.1 132 = .inl (.int, 3, .inl (upd (upd (upd g1 0 q1.2) 1 q2.2) 2 q3.2)) := by rw [f5.2 _ (by decide)]; exact h2
          have F := fl_tr F f5 (by decide)
          cases e5 : sgS len tx q3.1 59 with
          | inl z =>
            rw [e5] at q
            obtain ⟨rfl, hm⟩ := q
            show am_R M_Mo_readsFirst (47, [.ref 130, _], [.int 0]) _ _
            skip
            have ev : ftS len tx i = .inl z := by simp only [ftS, stS, e1, e2, e3, e4, e5]
            refine rret rfl rfl ?_
            rw [ev]
            exact ⟨F, _, _, h2, rfl, hm⟩
          | inr j4 =>
            rw [e5] at q
            obtain ⟨rfl, hm⟩ := q
            show am_R M_Mo_readsFirst (47, [.ref 130, _], [.int 1]) _ _
            have ev : ftS len tx i = .inr (j4, q1.2, q2.2, q3.2) := by simp only [ftS, stS, e1, e2, e3, e4, e5]
            refine rret rfl rfl ?_
            rw [ev]
            refine ⟨F, _, _, h2, rfl, hm, ?_, ?_, ?_⟩
            · rw [pk_un (by omega), pk_un (by omega), pk_us]
            · rw [pk_un (by omega), pk_us]
            · rw [pk_us]
end MRead
