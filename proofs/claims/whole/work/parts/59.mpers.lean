/-! the model's reading: a person's clause -/
def psM (len : Nat) (tx : Nat → Int32) (N : Int32) (P : Nat) (i : Nat) : (Nat × Nat) ⊕ (Nat × Pn) :=
  match numS len tx i 0 (N - 1) with
  | .inl e => .inl e
  | .inr q1 => (match numS len tx q1.1 0 (N - 1) with
    | .inl e => .inl e
    | .inr q2 => if q2.2 = q1.2 then .inl (4, sk len tx q1.1) else (match mtS len tx P q2.1 with
      | .inl e => .inl e
      | .inr q3 => (match numS len tx q3.1 0 9 with
        | .inl e => .inl e
        | .inr q4 => (match numS len tx q4.1 0 3 with
          | .inl e => .inl e
          | .inr q5 => (match sgS len tx q5.1 59 with
            | .inl e => .inl e
            | .inr i6 => .inr (i6, q1.2, q2.2, q3.2, q4.2, q5.2))))))
theorem psS_M {len : Nat} {tx : Nat → Int32} {N : Int32} {P i : Nat} : psS len tx N P i = psM len tx N P i := by
  unfold psS psM mtS
  cases numS len tx i 0 (N - 1) with
  | inl e => rfl
  | inr q1 =>
    dsimp only
    cases numS len tx q1.1 0 (N - 1) with
    | inl e => rfl
    | inr q2 =>
      dsimp only
      split
      · rfl
      · cases numS len tx q2.1 0 9 with
        | inl e => rfl
        | inr q3 =>
          dsimp only
          split
          · rfl
          · rfl
theorem mtS_pos {len : Nat} {tx : Nat → Int32} {P i : Nat} {q : Nat × Int32} (hi : i ≤ len) (e : mtS len tx P i = .inr q) : q.1 ≤ len := by
  unfold mtS at e
  split at e
  · cases e
  · rename_i q3 e3
    split at e
    · cases e
    · cases e
      exact (numS_pos hi e3).2.1
section MPers
variable {h : am_H} {fa ra rf rn rm N G fog P tr sp dm um sm em : Int32} {sd : Int64} {len i : Nat} {tx g1 g2 : Nat → Int32}
set_option maxHeartbeats 1000000 in
theorem w_readsMet {t n : Nat} {x0 : Int32} (hx : x0 = nI t) (ht40 : t < 40) (hrm : rm = nI n) (hl : len ≤ 200) (hi : i ≤ len) (hm : h.1 130 = mO (nI len) fa (nI i) rf rn rm N G fog P tr sp dm sd um sm em) (ht : h.1 131 = .inl (.int, 200, .inl tx)) (h3 : h.1 133 = .inl (.int, 40, .inl g2)) : am_T M_Mo_readsMet [.ref 130, .int x0] h (fun r h' => am_fk [130, 133] h h' ∧ ∃ rn' g, h'.1 133 = .inl (.int, 40, .inl g) ∧ match mtS len tx n i with | .inl e => r = some (.int 0) ∧ h'.1 130 = mO (nI len) fa (nI e.2) (nI e.1) rn' rm N G fog P tr sp dm sd um sm em | .inr q => r = some (.int 1) ∧ h'.1 130 = mO (nI len) fa (nI q.1) rf rn' rm N G fog P tr sp dm sd um sm em ∧ g = upd g2 t q.2) := by
  subst hx hrm
  have hs := sk_le (tx := tx) hi
  (try unfold am_E); unfold am_T
  repeat (first | refine rs [] rfl rfl rfl rfl ?_ | refine rk rfl rfl ?_ | refine rgoh [] rfl rfl ?_ | refine rgeta (hi := rfl) (kk := ?_) | refine rialda (hi := rfl) (kk := ?_))
  (first | refine rcvs rfl rfl rfl rfl rfl (by first | assumption | (simp (disch := omega) only [am_set_ne, am_set_eq]; first | assumption | rfl)) rfl (w_skip hl hi hm ht) ?_ | refine rcvn rfl rfl rfl rfl rfl (by first | assumption | (simp (disch := omega) only [am_set_ne, am_set_eq]; first | assumption | rfl)) rfl (w_skip hl hi hm ht) ?_)
  have F : am_fk [130, 133] h (am_set h 130 (mO (nI len) fa (nI (sk len tx i)) rf rn (nI n) N G fog P tr sp dm sd um sm em)) := fl_set fl_rf (by decide)
  have hm : (am_set h 130 (mO (nI len) fa (nI (sk len tx i)) rf rn (nI n) N G fog P tr sp dm sd um sm em)).1 130 = mO (nI len) fa (nI (sk len tx i)) rf rn (nI n) N G fog P tr sp dm sd um sm em := am_set_eq
  have ht : (am_set h 130 (mO (nI len) fa (nI (sk len tx i)) rf rn (nI n) N G fog P tr sp dm sd um sm em)).1 131 = .inl (.int, 200, .inl tx) := by rw [am_set_ne (by omega)]; exact ht
  have h3 : (am_set h 130 (mO (nI len) fa (nI (sk len tx i)) rf rn (nI n) N G fog P tr sp dm sd um sm em)).1 133 = .inl (.int, 40, .inl g2) := by rw [am_set_ne (by omega)]; exact h3
  generalize am_set h 130 (mO (nI len) fa (nI (sk len tx i)) rf rn (nI n) N G fog P tr sp dm sd um sm em) = k0 at *
  repeat (first | refine rs [] rfl rfl rfl rfl ?_ | refine rk rfl rfl ?_ | refine rgoh [] rfl rfl ?_ | refine rgeta (hi := rfl) (kk := ?_) | refine rialda (hi := rfl) (kk := ?_))
  refine rcvt rfl rfl rfl rfl rfl hm rfl (w_numA hl hs.2 hm ht) ?_
  rintro r k1 ⟨f1, q⟩
  rw [numS_sk hi] at q
  have h3 : k1.1 133 = .inl (.int, 40, .inl g2) := by rw [f1.2 _ (by decide)]; exact h3
  have F := fl_tr F f1 (by decide)
  cases e1 : numS len tx i 0 9 with
  | inl z =>
    rw [e1] at q
    obtain ⟨rfl, hm⟩ := q
    show am_R M_Mo_readsMet (9, [.ref 130, .int (nI t), .int (nI (sk len tx i))], [.int 0]) _ _
    (first | refine rift rfl rfl ?_ | refine riff rfl rfl ?_ | refine rict rfl rfl ?_ | refine ricf rfl rfl ?_)
    repeat (first | refine rs [] rfl rfl rfl rfl ?_ | refine rk rfl rfl ?_ | refine rgoh [] rfl rfl ?_ | refine rgeta (hi := rfl) (kk := ?_) | refine rialda (hi := rfl) (kk := ?_))
    have ev : mtS len tx n i = .inl z := by simp only [mtS, e1]
    refine rret rfl rfl ?_
    rw [ev]
    exact ⟨F, rn, g2, h3, rfl, hm⟩
  | inr q3 =>
    rw [e1] at q
    obtain ⟨rfl, hm⟩ := q
    show am_R M_Mo_readsMet (9, [.ref 130, .int (nI t), .int (nI (sk len tx i))], [.int 1]) _ _
    (first | refine rift rfl rfl ?_ | refine riff rfl rfl ?_ | refine rict rfl rfl ?_ | refine ricf rfl rfl ?_)
    repeat (first | refine rs [] rfl rfl rfl rfl ?_ | refine rk rfl rfl ?_ | refine rgoh [] rfl rfl ?_ | refine rgeta (hi := rfl) (kk := ?_) | refine rialda (hi := rfl) (kk := ?_))
    have ok : ¬ (¬ q3.2 = 9 ∧ ¬ q3.2 < nI n) → am_R M_Mo_readsMet (28, [.ref 130, .int (nI t), .int (nI (sk len tx i))], []) k1 (fun r h' => am_fk [130, 133] h h' ∧ ∃ rn' g, h'.1 133 = .inl (.int, 40, .inl g) ∧ match mtS len tx n i with | .inl e => r = some (.int 0) ∧ h'.1 130 = mO (nI len) fa (nI e.2) (nI e.1) rn' (nI n) N G fog P tr sp dm sd um sm em | .inr q => r = some (.int 1) ∧ h'.1 130 = mO (nI len) fa (nI q.1) rf rn' (nI n) N G fog P tr sp dm sd um sm em ∧ g = upd g2 t q.2) := by
      intro no
      have ev : mtS len tx n i = .inr (q3.1, if q3.2 = 9 then -1 else q3.2) := by
        simp only [mtS, e1]
        rw [if_neg no]
      rw [ev]
      repeat (first | refine rs [] rfl rfl rfl rfl ?_ | refine rk rfl rfl ?_ | refine rgoh [] rfl rfl ?_ | refine rgeta (hi := rfl) (kk := ?_) | refine rialda (hi := rfl) (kk := ?_))
      (first | refine rif rfl rfl (fun c4 => ?_) (fun c4 => ?_) | refine ric rfl rfl (fun c4 => ?_) (fun c4 => ?_))
      · repeat (first | refine rs [] rfl rfl rfl rfl ?_ | refine rk rfl rfl ?_ | refine rgoh [] rfl rfl ?_ | refine rgeta (hi := rfl) (kk := ?_) | refine rialda (hi := rfl) (kk := ?_))
        refine riasta (hi := rfl) (kk := ?_)
        repeat (first | refine rs [] rfl rfl rfl rfl ?_ | refine rk rfl rfl ?_ | refine rgoh [] rfl rfl ?_ | refine rgeta (hi := rfl) (kk := ?_) | refine rialda (hi := rfl) (kk := ?_))
        refine rret rfl rfl ?_
        refine ⟨fl_set F (by decide), q3.2, _, am_set_eq, rfl, by rw [am_set_ne (by omega)]; exact hm, ?_⟩
        rw [if_pos c4]
      · repeat (first | refine rs [] rfl rfl rfl rfl ?_ | refine rk rfl rfl ?_ | refine rgoh [] rfl rfl ?_ | refine rgeta (hi := rfl) (kk := ?_) | refine rialda (hi := rfl) (kk := ?_))
        refine riasta (hi := rfl) (kk := ?_)
        repeat (first | refine rs [] rfl rfl rfl rfl ?_ | refine rk rfl rfl ?_ | refine rgoh [] rfl rfl ?_ | refine rgeta (hi := rfl) (kk := ?_) | refine rialda (hi := rfl) (kk := ?_))
        refine rret rfl rfl ?_
        refine ⟨fl_set F (by decide), q3.2, _, am_set_eq, rfl, by rw [am_set_ne (by omega)]; exact hm, ?_⟩
        rw [if_neg c4]
    (first | refine rif rfl rfl (fun c2 => ?_) (fun c2 => ?_) | refine ric rfl rfl (fun c2 => ?_) (fun c2 => ?_))
    · exact ok (fun a => a.1 c2)
    · repeat (first | refine rs [] rfl rfl rfl rfl ?_ | refine rk rfl rfl ?_ | refine rgoh [] rfl rfl ?_ | refine rgeta (hi := rfl) (kk := ?_) | refine rialda (hi := rfl) (kk := ?_))
      (first | refine rif rfl rfl (fun c3 => ?_) (fun c3 => ?_) | refine ric rfl rfl (fun c3 => ?_) (fun c3 => ?_))
      · exact ok (fun a => a.2 c3)
      · have ev : mtS len tx n i = .inl (2, sk len tx i) := by
          simp only [mtS, e1]
          rw [if_pos ⟨c2, c3⟩]
        rw [ev]
        repeat (first | refine rs [] rfl rfl rfl rfl ?_ | refine rk rfl rfl ?_ | refine rgoh [] rfl rfl ?_ | refine rgeta (hi := rfl) (kk := ?_) | refine rialda (hi := rfl) (kk := ?_))
        refine rputa (hi := rfl) (kk := ?_)
        repeat (first | refine rs [] rfl rfl rfl rfl ?_ | refine rk rfl rfl ?_ | refine rgoh [] rfl rfl ?_ | refine rgeta (hi := rfl) (kk := ?_) | refine rialda (hi := rfl) (kk := ?_))
        (first | refine rcvs rfl rfl rfl rfl rfl (by first | assumption | (simp (disch := omega) only [am_set_ne, am_set_eq]; first | assumption | rfl)) rfl (w_fails am_set_eq) ?_ | refine rcvn rfl rfl rfl rfl rfl (by first | assumption | (simp (disch := omega) only [am_set_ne, am_set_eq]; first | assumption | rfl)) rfl (w_fails am_set_eq) ?_)
        refine rret rfl rfl ?_
        rw [am_set_set]
        exact ⟨fl_set F (by decide), q3.2, g2, by rw [am_set_ne (by omega)]; exact h3, rfl, am_set_eq⟩
set_option maxHeartbeats 2000000 in
theorem w_readsPerson {n : Nat} (hn : n < 8) (hrm : rm = nI n) (hl : len ≤ 200) (hi : i < len) (hm : h.1 130 = mO (nI len) fa (nI i) rf rn rm N G fog P tr sp dm sd um sm em) (ht : h.1 131 = .inl (.int, 200, .inl tx)) (h2 : h.1 132 = .inl (.int, 3, .inl g1)) (h3 : h.1 133 = .inl (.int, 40, .inl g2)) : am_T M_Mo_readsPerson [.ref 130] h (fun r h' => am_fk [130, 133] h h' ∧ ∃ rn' rm' g, h'.1 133 = .inl (.int, 40, .inl g) ∧ match psS len tx (g1 0) n (i + 1) with | .inl e => r = some (.int 0) ∧ h'.1 130 = mO (nI len) fa (nI e.2) (nI e.1) rn' rm' N G fog P tr sp dm sd um sm em | .inr q => r = some (.int 1) ∧ h'.1 130 = mO (nI len) fa (nI q.1) rf rn' (nI (n + 1)) N G fog P tr sp dm sd um sm em ∧ (g (5 * n) = q.2.1 ∧ g (5 * n + 1) = q.2.2.1 ∧ g (5 * n + 2) = q.2.2.2.1 ∧ g (5 * n + 3) = q.2.2.2.2.1 ∧ g (5 * n + 4) = q.2.2.2.2.2) ∧ ∀ k, k < 5 * n → g k = g2 k) := by
  subst hrm
  have e5 : 5 * nI n = nI (5 * n) := by rw [i5, nI_mul]
  rw [psS_M]
  (try unfold am_E); unfold am_T
  repeat (first | refine rs [] rfl rfl rfl rfl ?_ | refine rk rfl rfl ?_ | refine rgoh [] rfl rfl ?_ | refine rgeta (hi := rfl) (kk := ?_) | refine rialda (hi := rfl) (kk := ?_))
  refine rputa (hi := rfl) (kk := ?_)
  rw [e5]
  have F : am_fk [130, 133] h (am_set h 130 (mO (nI len) fa (nI (i + 1)) rf rn (nI n) N G fog P tr sp dm sd um sm em)) := fl_set fl_rf (by decide)
  have hm : (am_set h 130 (mO (nI len) fa (nI (i + 1)) rf rn (nI n) N G fog P tr sp dm sd um sm em)).1 130 = mO (nI len) fa (nI (i + 1)) rf rn (nI n) N G fog P tr sp dm sd um sm em := am_set_eq
  have ht : (am_set h 130 (mO (nI len) fa (nI (i + 1)) rf rn (nI n) N G fog P tr sp dm sd um sm em)).1 131 = .inl (.int, 200, .inl tx) := by rw [am_set_ne (by omega)]; exact ht
  have h2 : (am_set h 130 (mO (nI len) fa (nI (i + 1)) rf rn (nI n) N G fog P tr sp dm sd um sm em)).1 132 = .inl (.int, 3, .inl g1) := by rw [am_set_ne (by omega)]; exact h2
  have h3 : (am_set h 130 (mO (nI len) fa (nI (i + 1)) rf rn (nI n) N G fog P tr sp dm sd um sm em)).1 133 = .inl (.int, 40, .inl g2) := by rw [am_set_ne (by omega)]; exact h3
  rw [nI_succ] at F hm ht h2 h3
  show am_R M_Mo_readsPerson (11, [.ref 130, .int (nI (5 * n)), _], []) (am_set h 130 (mO (nI len) fa (nI i + 1) rf rn (nI n) N G fog P tr sp dm sd um sm em)) _
  generalize am_set h 130 (mO (nI len) fa (nI i + 1) rf rn (nI n) N G fog P tr sp dm sd um sm em) = k0 at *
  rw [← nI_succ] at hm
  have p0 : i + 1 ≤ len := by omega
  repeat (first | refine rs [] rfl rfl rfl rfl ?_ | refine rk rfl rfl ?_ | refine rgoh [] rfl rfl ?_ | refine rgeta (hi := rfl) (kk := ?_) | refine rialda (hi := rfl) (kk := ?_))
  refine rialda (hi := rfl) (hik := nI_0.symm) (kk := ?_)
  repeat (first | refine rs [] rfl rfl rfl rfl ?_ | refine rk rfl rfl ?_ | refine rgoh [] rfl rfl ?_ | refine rgeta (hi := rfl) (kk := ?_) | refine rialda (hi := rfl) (kk := ?_))
  refine rcvt rfl rfl rfl rfl rfl hm rfl (w_numA hl p0 hm ht) ?_
  rintro r k1 ⟨f1, q⟩
  have ht : k1.1 131 = .inl (.int, 200, .inl tx) := by rw [f1.2 _ (by decide)]; exact ht
  have h2 : k1.1 132 = .inl (.int, 3, .inl g1) := by rw [f1.2 _ (by decide)]; exact h2
  have h3 : k1.1 133 = .inl (.int, 40, .inl g2) := by rw [f1.2 _ (by decide)]; exact h3
  have F := fl_tr F f1 (by decide)
  cases e1 : numS len tx (i + 1) 0 (g1 0 - 1) with
  | inl z =>
    rw [e1] at q
    obtain ⟨rfl, hm⟩ := q
    show am_R M_Mo_readsPerson (20, [.ref 130, .int (nI (5 * n)), _], [.int 0]) _ _
    (first | refine rift rfl rfl ?_ | refine riff rfl rfl ?_ | refine rict rfl rfl ?_ | refine ricf rfl rfl ?_)
    repeat (first | refine rs [] rfl rfl rfl rfl ?_ | refine rk rfl rfl ?_ | refine rgoh [] rfl rfl ?_ | refine rgeta (hi := rfl) (kk := ?_) | refine rialda (hi := rfl) (kk := ?_))
    have ev : psM len tx (g1 0) n (i + 1) = .inl z := by simp only [psM, e1]
    refine rret rfl rfl ?_
    rw [ev]
    exact ⟨F, rn, (nI n), g2, h3, rfl, hm⟩
  | inr q1 =>
    rw [e1] at q
    obtain ⟨rfl, hm⟩ := q
    have p1 := (numS_pos p0 e1).2.1
    show am_R M_Mo_readsPerson (20, [.ref 130, .int (nI (5 * n)), _], [.int 1]) _ _
    (first | refine rift rfl rfl ?_ | refine riff rfl rfl ?_ | refine rict rfl rfl ?_ | refine ricf rfl rfl ?_)
    repeat (first | refine rs [] rfl rfl rfl rfl ?_ | refine rk rfl rfl ?_ | refine rgoh [] rfl rfl ?_ | refine rgeta (hi := rfl) (kk := ?_) | refine rialda (hi := rfl) (kk := ?_))
    refine riasta (hi := rfl) (hik := rfl) (kk := ?_)
    have F : am_fk [130, 133] h (am_set k1 133 (.inl (.int, 40, .inl (upd g2 (5 * n) q1.2)))) := fl_set F (by decide)
    have hm : (am_set k1 133 (.inl (.int, 40, .inl (upd g2 (5 * n) q1.2)))).1 130 = _ := (am_set_ne (by omega)).trans hm
    have ht : (am_set k1 133 (.inl (.int, 40, .inl (upd g2 (5 * n) q1.2)))).1 131 = _ := (am_set_ne (by omega)).trans ht
    have h2 : (am_set k1 133 (.inl (.int, 40, .inl (upd g2 (5 * n) q1.2)))).1 132 = _ := (am_set_ne (by omega)).trans h2
    have h3 : (am_set k1 133 (.inl (.int, 40, .inl (upd g2 (5 * n) q1.2)))).1 133 = .inl (.int, 40, .inl (upd g2 (5 * n) q1.2)) := am_set_eq
    show am_R M_Mo_readsPerson (29, [.ref 130, .int (nI (5 * n)), _], _) (am_set k1 133 (.inl (.int, 40, .inl (upd g2 (5 * n) q1.2)))) _
    generalize am_set k1 133 (.inl (.int, 40, .inl (upd g2 (5 * n) q1.2))) = m1 at *
    repeat (first | refine rs [] rfl rfl rfl rfl ?_ | refine rk rfl rfl ?_ | refine rgoh [] rfl rfl ?_ | refine rgeta (hi := rfl) (kk := ?_) | refine rialda (hi := rfl) (kk := ?_))
    (first | refine rcvs rfl rfl rfl rfl rfl (by first | assumption | (simp (disch := omega) only [am_set_ne, am_set_eq]; first | assumption | rfl)) rfl (w_skip hl p1 hm ht) ?_ | refine rcvn rfl rfl rfl rfl rfl (by first | assumption | (simp (disch := omega) only [am_set_ne, am_set_eq]; first | assumption | rfl)) rfl (w_skip hl p1 hm ht) ?_)
    have s1 := sk_le (tx := tx) p1
    have F : am_fk [130, 133] h (am_set m1 130 (mO (nI len) fa (nI (sk len tx q1.1)) rf q1.2 (nI n) N G fog P tr sp dm sd um sm em)) := fl_set F (by decide)
    have hm : (am_set m1 130 (mO (nI len) fa (nI (sk len tx q1.1)) rf q1.2 (nI n) N G fog P tr sp dm sd um sm em)).1 130 = mO (nI len) fa (nI (sk len tx q1.1)) rf q1.2 (nI n) N G fog P tr sp dm sd um sm em := am_set_eq
    have ht : (am_set m1 130 (mO (nI len) fa (nI (sk len tx q1.1)) rf q1.2 (nI n) N G fog P tr sp dm sd um sm em)).1 131 = _ := (am_set_ne (by omega)).trans ht
    have h2 : (am_set m1 130 (mO (nI len) fa (nI (sk len tx q1.1)) rf q1.2 (nI n) N G fog P tr sp dm sd um sm em)).1 132 = _ := (am_set_ne (by omega)).trans h2
    have h3 : (am_set m1 130 (mO (nI len) fa (nI (sk len tx q1.1)) rf q1.2 (nI n) N G fog P tr sp dm sd um sm em)).1 133 = _ := (am_set_ne (by omega)).trans h3
    generalize am_set m1 130 (mO (nI len) fa (nI (sk len tx q1.1)) rf q1.2 (nI n) N G fog P tr sp dm sd um sm em) = l1 at *
    repeat (first | refine rs [] rfl rfl rfl rfl ?_ | refine rk rfl rfl ?_ | refine rgoh [] rfl rfl ?_ | refine rgeta (hi := rfl) (kk := ?_) | refine rialda (hi := rfl) (kk := ?_))
    refine rialda (hi := rfl) (hik := nI_0.symm) (kk := ?_)
    repeat (first | refine rs [] rfl rfl rfl rfl ?_ | refine rk rfl rfl ?_ | refine rgoh [] rfl rfl ?_ | refine rgeta (hi := rfl) (kk := ?_) | refine rialda (hi := rfl) (kk := ?_))
    refine rcvt rfl rfl rfl rfl rfl hm rfl (w_numA hl s1.2 hm ht) ?_
    rintro r k2 ⟨f2, q⟩
    rw [numS_sk p1] at q
    have ht : k2.1 131 = .inl (.int, 200, .inl tx) := by rw [f2.2 _ (by decide)]; exact ht
    have h2 : k2.1 132 = .inl (.int, 3, .inl g1) := by rw [f2.2 _ (by decide)]; exact h2
    have h3 : k2.1 133 = .inl (.int, 40, .inl (upd g2 (5 * n) q1.2)) := by rw [f2.2 _ (by decide)]; exact h3
    have F := fl_tr F f2 (by decide)
    cases e2 : numS len tx q1.1 0 (g1 0 - 1) with
    | inl z =>
      rw [e2] at q
      obtain ⟨rfl, hm⟩ := q
      show am_R M_Mo_readsPerson (43, [.ref 130, .int (nI (5 * n)), .int (nI (sk len tx q1.1))], [.int 0]) _ _
      (first | refine rift rfl rfl ?_ | refine riff rfl rfl ?_ | refine rict rfl rfl ?_ | refine ricf rfl rfl ?_)
      repeat (first | refine rs [] rfl rfl rfl rfl ?_ | refine rk rfl rfl ?_ | refine rgoh [] rfl rfl ?_ | refine rgeta (hi := rfl) (kk := ?_) | refine rialda (hi := rfl) (kk := ?_))
      have ev : psM len tx (g1 0) n (i + 1) = .inl z := by simp only [psM, e1, e2]
      refine rret rfl rfl ?_
      rw [ev]
      exact ⟨F, q1.2, (nI n), (upd g2 (5 * n) q1.2), h3, rfl, hm⟩
    | inr q2 =>
      rw [e2] at q
      obtain ⟨rfl, hm⟩ := q
      have p2 := (numS_pos p1 e2).2.1
      show am_R M_Mo_readsPerson (43, [.ref 130, .int (nI (5 * n)), .int (nI (sk len tx q1.1))], [.int 1]) _ _
      (first | refine rift rfl rfl ?_ | refine riff rfl rfl ?_ | refine rict rfl rfl ?_ | refine ricf rfl rfl ?_)
      repeat (first | refine rs [] rfl rfl rfl rfl ?_ | refine rk rfl rfl ?_ | refine rgoh [] rfl rfl ?_ | refine rgeta (hi := rfl) (kk := ?_) | refine rialda (hi := rfl) (kk := ?_))
      refine riasta (hi := rfl) (hik := nI_1 _) (kk := ?_)
      have F : am_fk [130, 133] h (am_set k2 133 (.inl (.int, 40, .inl (upd (upd g2 (5 * n) q1.2) (5 * n + 1) q2.2)))) := fl_set F (by decide)
      have hm : (am_set k2 133 (.inl (.int, 40, .inl (upd (upd g2 (5 * n) q1.2) (5 * n + 1) q2.2)))).1 130 = _ := (am_set_ne (by omega)).trans hm
      have ht : (am_set k2 133 (.inl (.int, 40, .inl (upd (upd g2 (5 * n) q1.2) (5 * n + 1) q2.2)))).1 131 = _ := (am_set_ne (by omega)).trans ht
      have h2 : (am_set k2 133 (.inl (.int, 40, .inl (upd (upd g2 (5 * n) q1.2) (5 * n + 1) q2.2)))).1 132 = _ := (am_set_ne (by omega)).trans h2
      have h3 : (am_set k2 133 (.inl (.int, 40, .inl (upd (upd g2 (5 * n) q1.2) (5 * n + 1) q2.2)))).1 133 = .inl (.int, 40, .inl (upd (upd g2 (5 * n) q1.2) (5 * n + 1) q2.2)) := am_set_eq
      show am_R M_Mo_readsPerson (54, [.ref 130, .int (nI (5 * n)), .int (nI (sk len tx q1.1))], _) (am_set k2 133 (.inl (.int, 40, .inl (upd (upd g2 (5 * n) q1.2) (5 * n + 1) q2.2)))) _
      generalize am_set k2 133 (.inl (.int, 40, .inl (upd (upd g2 (5 * n) q1.2) (5 * n + 1) q2.2))) = m2 at *
      repeat (first | refine rs [] rfl rfl rfl rfl ?_ | refine rk rfl rfl ?_ | refine rgoh [] rfl rfl ?_ | refine rgeta (hi := rfl) (kk := ?_) | refine rialda (hi := rfl) (kk := ?_))
      rw [pk_un (show 5 * n ≠ 5 * n + 1 by omega), pk_us]
      (first | refine rif rfl rfl (fun c1 => ?_) (fun c1 => ?_) | refine ric rfl rfl (fun c1 => ?_) (fun c1 => ?_))
      · have ev : psM len tx (g1 0) n (i + 1) = .inl (4, sk len tx q1.1) := by
          simp only [psM, e1, e2]
          rw [if_pos c1]
        rw [ev]
        repeat (first | refine rs [] rfl rfl rfl rfl ?_ | refine rk rfl rfl ?_ | refine rgoh [] rfl rfl ?_ | refine rgeta (hi := rfl) (kk := ?_) | refine rialda (hi := rfl) (kk := ?_))
        refine rputa (hi := rfl) (kk := ?_)
        repeat (first | refine rs [] rfl rfl rfl rfl ?_ | refine rk rfl rfl ?_ | refine rgoh [] rfl rfl ?_ | refine rgeta (hi := rfl) (kk := ?_) | refine rialda (hi := rfl) (kk := ?_))
        (first | refine rcvs rfl rfl rfl rfl rfl (by first | assumption | (simp (disch := omega) only [am_set_ne, am_set_eq]; first | assumption | rfl)) rfl (w_fails am_set_eq) ?_ | refine rcvn rfl rfl rfl rfl rfl (by first | assumption | (simp (disch := omega) only [am_set_ne, am_set_eq]; first | assumption | rfl)) rfl (w_fails am_set_eq) ?_)
        refine rret rfl rfl ?_
        rw [am_set_set]
        exact ⟨fl_set F (by decide), q2.2, nI n, _, (am_set_ne (by omega)).trans h3, rfl, am_set_eq⟩
      · repeat (first | refine rs [] rfl rfl rfl rfl ?_ | refine rk rfl rfl ?_ | refine rgoh [] rfl rfl ?_ | refine rgeta (hi := rfl) (kk := ?_) | refine rialda (hi := rfl) (kk := ?_))
        refine rcvt rfl rfl rfl rfl rfl hm rfl (w_readsMet (t := 5 * n + 2) (by rw [i2, nI_add]) (by omega) rfl hl p2 hm ht h3) ?_
        rintro r k3 ⟨f3, rn3, g3, h3', q⟩
        have ht : k3.1 131 = .inl (.int, 200, .inl tx) := by rw [f3.2 _ (by decide)]; exact ht
        have h2 : k3.1 132 = .inl (.int, 3, .inl g1) := by rw [f3.2 _ (by decide)]; exact h2
        have F := fl_tr F f3 (by decide)
        cases e3 : mtS len tx n q2.1 with
        | inl z =>
          rw [e3] at q
          obtain ⟨rfl, hm⟩ := q
          show am_R M_Mo_readsPerson (73, [.ref 130, .int (nI (5 * n)), .int (nI (sk len tx q1.1))], [.int 0]) _ _
          (first | refine rift rfl rfl ?_ | refine riff rfl rfl ?_ | refine rict rfl rfl ?_ | refine ricf rfl rfl ?_)
          repeat (first | refine rs [] rfl rfl rfl rfl ?_ | refine rk rfl rfl ?_ | refine rgoh [] rfl rfl ?_ | refine rgeta (hi := rfl) (kk := ?_) | refine rialda (hi := rfl) (kk := ?_))
          have ev : psM len tx (g1 0) n (i + 1) = .inl z := by
            simp only [psM, e1, e2, e3]
            rw [if_neg c1]
          refine rret rfl rfl ?_
          rw [ev]
          exact ⟨F, rn3, nI n, g3, h3', rfl, hm⟩
        | inr q3 =>
          rw [e3] at q
          obtain ⟨rfl, hm, eg⟩ := q
          have p3 := mtS_pos p2 e3
          have h3 := h3'
          rw [eg] at h3
          show am_R M_Mo_readsPerson (73, [.ref 130, .int (nI (5 * n)), .int (nI (sk len tx q1.1))], [.int 1]) _ _
          (first | refine rift rfl rfl ?_ | refine riff rfl rfl ?_ | refine rict rfl rfl ?_ | refine ricf rfl rfl ?_)
          repeat (first | refine rs [] rfl rfl rfl rfl ?_ | refine rk rfl rfl ?_ | refine rgoh [] rfl rfl ?_ | refine rgeta (hi := rfl) (kk := ?_) | refine rialda (hi := rfl) (kk := ?_))
          refine rcvt rfl rfl rfl rfl rfl hm rfl (w_numA hl p3 hm ht) ?_
          rintro r k4 ⟨f4, q⟩
          have ht : k4.1 131 = .inl (.int, 200, .inl tx) := by rw [f4.2 _ (by decide)]; exact ht
          have h2 : k4.1 132 = .inl (.int, 3, .inl g1) := by rw [f4.2 _ (by decide)]; exact h2
          have h3 : k4.1 133 = .inl (.int, 40, .inl (upd (upd (upd g2 (5 * n) q1.2) (5 * n + 1) q2.2) (5 * n + 2) q3.2)) := by rw [f4.2 _ (by decide)]; exact h3
          have F := fl_tr F f4 (by decide)
          cases e4 : numS len tx q3.1 0 9 with
          | inl z =>
            rw [e4] at q
            obtain ⟨rfl, hm⟩ := q
            show am_R M_Mo_readsPerson (78, [.ref 130, .int (nI (5 * n)), .int (nI (sk len tx q1.1))], [.int 0]) _ _
            (first | refine rift rfl rfl ?_ | refine riff rfl rfl ?_ | refine rict rfl rfl ?_ | refine ricf rfl rfl ?_)
            repeat (first | refine rs [] rfl rfl rfl rfl ?_ | refine rk rfl rfl ?_ | refine rgoh [] rfl rfl ?_ | refine rgeta (hi := rfl) (kk := ?_) | refine rialda (hi := rfl) (kk := ?_))
            have ev : psM len tx (g1 0) n (i + 1) = .inl z := by
              simp only [psM, e1, e2, e3, e4]
              rw [if_neg c1]
            refine rret rfl rfl ?_
            rw [ev]
            exact ⟨F, rn3, (nI n), (upd (upd (upd g2 (5 * n) q1.2) (5 * n + 1) q2.2) (5 * n + 2) q3.2), h3, rfl, hm⟩
          | inr q4 =>
            rw [e4] at q
            obtain ⟨rfl, hm⟩ := q
            have p4 := (numS_pos p3 e4).2.1
            show am_R M_Mo_readsPerson (78, [.ref 130, .int (nI (5 * n)), .int (nI (sk len tx q1.1))], [.int 1]) _ _
            (first | refine rift rfl rfl ?_ | refine riff rfl rfl ?_ | refine rict rfl rfl ?_ | refine ricf rfl rfl ?_)
            repeat (first | refine rs [] rfl rfl rfl rfl ?_ | refine rk rfl rfl ?_ | refine rgoh [] rfl rfl ?_ | refine rgeta (hi := rfl) (kk := ?_) | refine rialda (hi := rfl) (kk := ?_))
            refine riasta (hi := rfl) (hik := by rw [i3, nI_add]) (kk := ?_)
            have F : am_fk [130, 133] h (am_set k4 133 (.inl (.int, 40, .inl (upd (upd (upd (upd g2 (5 * n) q1.2) (5 * n + 1) q2.2) (5 * n + 2) q3.2) (5 * n + 3) q4.2)))) := fl_set F (by decide)
            have hm : (am_set k4 133 (.inl (.int, 40, .inl (upd (upd (upd (upd g2 (5 * n) q1.2) (5 * n + 1) q2.2) (5 * n + 2) q3.2) (5 * n + 3) q4.2)))).1 130 = _ := (am_set_ne (by omega)).trans hm
            have ht : (am_set k4 133 (.inl (.int, 40, .inl (upd (upd (upd (upd g2 (5 * n) q1.2) (5 * n + 1) q2.2) (5 * n + 2) q3.2) (5 * n + 3) q4.2)))).1 131 = _ := (am_set_ne (by omega)).trans ht
            have h2 : (am_set k4 133 (.inl (.int, 40, .inl (upd (upd (upd (upd g2 (5 * n) q1.2) (5 * n + 1) q2.2) (5 * n + 2) q3.2) (5 * n + 3) q4.2)))).1 132 = _ := (am_set_ne (by omega)).trans h2
            have h3 : (am_set k4 133 (.inl (.int, 40, .inl (upd (upd (upd (upd g2 (5 * n) q1.2) (5 * n + 1) q2.2) (5 * n + 2) q3.2) (5 * n + 3) q4.2)))).1 133 = .inl (.int, 40, .inl (upd (upd (upd (upd g2 (5 * n) q1.2) (5 * n + 1) q2.2) (5 * n + 2) q3.2) (5 * n + 3) q4.2)) := am_set_eq
            show am_R M_Mo_readsPerson (89, [.ref 130, .int (nI (5 * n)), .int (nI (sk len tx q1.1))], _) (am_set k4 133 (.inl (.int, 40, .inl (upd (upd (upd (upd g2 (5 * n) q1.2) (5 * n + 1) q2.2) (5 * n + 2) q3.2) (5 * n + 3) q4.2)))) _
            generalize am_set k4 133 (.inl (.int, 40, .inl (upd (upd (upd (upd g2 (5 * n) q1.2) (5 * n + 1) q2.2) (5 * n + 2) q3.2) (5 * n + 3) q4.2))) = m4 at *
            repeat (first | refine rs [] rfl rfl rfl rfl ?_ | refine rk rfl rfl ?_ | refine rgoh [] rfl rfl ?_ | refine rgeta (hi := rfl) (kk := ?_) | refine rialda (hi := rfl) (kk := ?_))
            refine rcvt rfl rfl rfl rfl rfl hm rfl (w_numA hl p4 hm ht) ?_
            rintro r k5 ⟨f5, q⟩
            have ht : k5.1 131 = .inl (.int, 200, .inl tx) := by rw [f5.2 _ (by decide)]; exact ht
            have h2 : k5.1 132 = .inl (.int, 3, .inl g1) := by rw [f5.2 _ (by decide)]; exact h2
            have h3 : k5.1 133 = .inl (.int, 40, .inl (upd (upd (upd (upd g2 (5 * n) q1.2) (5 * n + 1) q2.2) (5 * n + 2) q3.2) (5 * n + 3) q4.2)) := by rw [f5.2 _ (by decide)]; exact h3
            have F := fl_tr F f5 (by decide)
            cases e5 : numS len tx q4.1 0 3 with
            | inl z =>
              rw [e5] at q
              obtain ⟨rfl, hm⟩ := q
              show am_R M_Mo_readsPerson (93, [.ref 130, .int (nI (5 * n)), .int (nI (sk len tx q1.1))], [.int 0]) _ _
              (first | refine rift rfl rfl ?_ | refine riff rfl rfl ?_ | refine rict rfl rfl ?_ | refine ricf rfl rfl ?_)
              repeat (first | refine rs [] rfl rfl rfl rfl ?_ | refine rk rfl rfl ?_ | refine rgoh [] rfl rfl ?_ | refine rgeta (hi := rfl) (kk := ?_) | refine rialda (hi := rfl) (kk := ?_))
              have ev : psM len tx (g1 0) n (i + 1) = .inl z := by
                simp only [psM, e1, e2, e3, e4, e5]
                rw [if_neg c1]
              refine rret rfl rfl ?_
              rw [ev]
              exact ⟨F, q4.2, (nI n), (upd (upd (upd (upd g2 (5 * n) q1.2) (5 * n + 1) q2.2) (5 * n + 2) q3.2) (5 * n + 3) q4.2), h3, rfl, hm⟩
            | inr q5 =>
              rw [e5] at q
              obtain ⟨rfl, hm⟩ := q
              have p5 := (numS_pos p4 e5).2.1
              show am_R M_Mo_readsPerson (93, [.ref 130, .int (nI (5 * n)), .int (nI (sk len tx q1.1))], [.int 1]) _ _
              (first | refine rift rfl rfl ?_ | refine riff rfl rfl ?_ | refine rict rfl rfl ?_ | refine ricf rfl rfl ?_)
              repeat (first | refine rs [] rfl rfl rfl rfl ?_ | refine rk rfl rfl ?_ | refine rgoh [] rfl rfl ?_ | refine rgeta (hi := rfl) (kk := ?_) | refine rialda (hi := rfl) (kk := ?_))
              refine riasta (hi := rfl) (hik := by rw [i4, nI_add]) (kk := ?_)
              have F : am_fk [130, 133] h (am_set k5 133 (.inl (.int, 40, .inl (upd (upd (upd (upd (upd g2 (5 * n) q1.2) (5 * n + 1) q2.2) (5 * n + 2) q3.2) (5 * n + 3) q4.2) (5 * n + 4) q5.2)))) := fl_set F (by decide)
              have hm : (am_set k5 133 (.inl (.int, 40, .inl (upd (upd (upd (upd (upd g2 (5 * n) q1.2) (5 * n + 1) q2.2) (5 * n + 2) q3.2) (5 * n + 3) q4.2) (5 * n + 4) q5.2)))).1 130 = _ := (am_set_ne (by omega)).trans hm
              have ht : (am_set k5 133 (.inl (.int, 40, .inl (upd (upd (upd (upd (upd g2 (5 * n) q1.2) (5 * n + 1) q2.2) (5 * n + 2) q3.2) (5 * n + 3) q4.2) (5 * n + 4) q5.2)))).1 131 = _ := (am_set_ne (by omega)).trans ht
              have h2 : (am_set k5 133 (.inl (.int, 40, .inl (upd (upd (upd (upd (upd g2 (5 * n) q1.2) (5 * n + 1) q2.2) (5 * n + 2) q3.2) (5 * n + 3) q4.2) (5 * n + 4) q5.2)))).1 132 = _ := (am_set_ne (by omega)).trans h2
              have h3 : (am_set k5 133 (.inl (.int, 40, .inl (upd (upd (upd (upd (upd g2 (5 * n) q1.2) (5 * n + 1) q2.2) (5 * n + 2) q3.2) (5 * n + 3) q4.2) (5 * n + 4) q5.2)))).1 133 = .inl (.int, 40, .inl (upd (upd (upd (upd (upd g2 (5 * n) q1.2) (5 * n + 1) q2.2) (5 * n + 2) q3.2) (5 * n + 3) q4.2) (5 * n + 4) q5.2)) := am_set_eq
              show am_R M_Mo_readsPerson (104, [.ref 130, .int (nI (5 * n)), .int (nI (sk len tx q1.1))], _) (am_set k5 133 (.inl (.int, 40, .inl (upd (upd (upd (upd (upd g2 (5 * n) q1.2) (5 * n + 1) q2.2) (5 * n + 2) q3.2) (5 * n + 3) q4.2) (5 * n + 4) q5.2)))) _
              generalize am_set k5 133 (.inl (.int, 40, .inl (upd (upd (upd (upd (upd g2 (5 * n) q1.2) (5 * n + 1) q2.2) (5 * n + 2) q3.2) (5 * n + 3) q4.2) (5 * n + 4) q5.2))) = m5 at *
              repeat (first | refine rs [] rfl rfl rfl rfl ?_ | refine rk rfl rfl ?_ | refine rgoh [] rfl rfl ?_ | refine rgeta (hi := rfl) (kk := ?_) | refine rialda (hi := rfl) (kk := ?_))
              refine rputa (hi := rfl) (kk := ?_)
              have F : am_fk [130, 133] h (am_set m5 130 (mO (nI len) fa (nI q5.1) rf q5.2 (nI n + 1) N G fog P tr sp dm sd um sm em)) := fl_set F (by decide)
              have hm : (am_set m5 130 (mO (nI len) fa (nI q5.1) rf q5.2 (nI n + 1) N G fog P tr sp dm sd um sm em)).1 130 = mO (nI len) fa (nI q5.1) rf q5.2 (nI n + 1) N G fog P tr sp dm sd um sm em := am_set_eq
              have ht : (am_set m5 130 (mO (nI len) fa (nI q5.1) rf q5.2 (nI n + 1) N G fog P tr sp dm sd um sm em)).1 131 = _ := (am_set_ne (by omega)).trans ht
              have h2 : (am_set m5 130 (mO (nI len) fa (nI q5.1) rf q5.2 (nI n + 1) N G fog P tr sp dm sd um sm em)).1 132 = _ := (am_set_ne (by omega)).trans h2
              have h3 : (am_set m5 130 (mO (nI len) fa (nI q5.1) rf q5.2 (nI n + 1) N G fog P tr sp dm sd um sm em)).1 133 = _ := (am_set_ne (by omega)).trans h3
              show am_R M_Mo_readsPerson (110, [.ref 130, .int (nI (5 * n)), .int (nI (sk len tx q1.1))], []) (am_set m5 130 (mO (nI len) fa (nI q5.1) rf q5.2 (nI n + 1) N G fog P tr sp dm sd um sm em)) _
              generalize am_set m5 130 (mO (nI len) fa (nI q5.1) rf q5.2 (nI n + 1) N G fog P tr sp dm sd um sm em) = l5 at *
              repeat (first | refine rs [] rfl rfl rfl rfl ?_ | refine rk rfl rfl ?_ | refine rgoh [] rfl rfl ?_ | refine rgeta (hi := rfl) (kk := ?_) | refine rialda (hi := rfl) (kk := ?_))
              refine rcvt rfl rfl rfl rfl rfl hm rfl (w_sgnA hl p5 hm ht) ?_
              rintro r k6 ⟨f6, q⟩
              have ht : k6.1 131 = .inl (.int, 200, .inl tx) := by rw [f6.2 _ (by decide)]; exact ht
              have h2 : k6.1 132 = .inl (.int, 3, .inl g1) := by rw [f6.2 _ (by decide)]; exact h2
              have h3 : k6.1 133 = .inl (.int, 40, .inl (upd (upd (upd (upd (upd g2 (5 * n) q1.2) (5 * n + 1) q2.2) (5 * n + 2) q3.2) (5 * n + 3) q4.2) (5 * n + 4) q5.2)) := by rw [f6.2 _ (by decide)]; exact h3
              have F := fl_tr F f6 (by decide)
              cases e6 : sgS len tx q5.1 59 with
              | inl z =>
                rw [e6] at q
                obtain ⟨rfl, hm⟩ := q
                show am_R M_Mo_readsPerson (113, [.ref 130, .int (nI (5 * n)), .int (nI (sk len tx q1.1))], [.int 0]) _ _
                skip
                have ev : psM len tx (g1 0) n (i + 1) = .inl z := by
                  simp only [psM, e1, e2, e3, e4, e5, e6]
                  rw [if_neg c1]
                refine rret rfl rfl ?_
                rw [ev]
                exact ⟨F, q5.2, (nI n + 1), (upd (upd (upd (upd (upd g2 (5 * n) q1.2) (5 * n + 1) q2.2) (5 * n + 2) q3.2) (5 * n + 3) q4.2) (5 * n + 4) q5.2), h3, rfl, hm⟩
              | inr i6 =>
                rw [e6] at q
                obtain ⟨rfl, hm⟩ := q
                show am_R M_Mo_readsPerson (113, [.ref 130, .int (nI (5 * n)), .int (nI (sk len tx q1.1))], [.int 1]) _ _
                have ev : psM len tx (g1 0) n (i + 1) = .inr (i6, q1.2, q2.2, q3.2, q4.2, q5.2) := by
                  simp only [psM, e1, e2, e3, e4, e5, e6]
                  rw [if_neg c1]
                refine rret rfl rfl ?_
                rw [ev]
                refine ⟨F, q5.2, nI n + 1, (upd (upd (upd (upd (upd g2 (5 * n) q1.2) (5 * n + 1) q2.2) (5 * n + 2) q3.2) (5 * n + 3) q4.2) (5 * n + 4) q5.2), h3, rfl, by rw [nI_succ]; exact hm, ⟨?_, ?_, ?_, ?_, ?_⟩, fun k hk => ?_⟩
                · rw [pk_un (by omega), pk_un (by omega), pk_un (by omega), pk_un (by omega), pk_us]
                · rw [pk_un (by omega), pk_un (by omega), pk_un (by omega), pk_us]
                · rw [pk_un (by omega), pk_un (by omega), pk_us]
                · rw [pk_un (by omega), pk_us]
                · rw [pk_us]
                · rw [pk_un (by omega), pk_un (by omega), pk_un (by omega), pk_un (by omega), pk_un (by omega)]
end MPers
