/-! the model's reading: the whole text -/
def lsP (g : Nat → Int32) (ps : List Pn) : Prop := ∀ p z, ps[p]? = some z → g (5 * p) = z.1 ∧ g (5 * p + 1) = z.2.1 ∧ g (5 * p + 2) = z.2.2.1 ∧ g (5 * p + 3) = z.2.2.2.1 ∧ g (5 * p + 4) = z.2.2.2.2
theorem lsP_s {g g' : Nat → Int32} {ps : List Pn} {z : Pn} (q : lsP g ps) (e : g' (5 * ps.length) = z.1 ∧ g' (5 * ps.length + 1) = z.2.1 ∧ g' (5 * ps.length + 2) = z.2.2.1 ∧ g' (5 * ps.length + 3) = z.2.2.2.1 ∧ g' (5 * ps.length + 4) = z.2.2.2.2) (f : ∀ k, k < 5 * ps.length → g' k = g k) : lsP g' (ps ++ [z]) := by
  intro p y hp
  rcases Nat.lt_or_ge p ps.length with w | w
  · rw [List.getElem?_append_left w] at hp
    rw [f _ (by omega), f _ (by omega), f _ (by omega), f _ (by omega), f _ (by omega)]
    exact q p y hp
  · rw [List.getElem?_append_right w] at hp
    have h0 : p - ps.length < 1 := (List.getElem?_eq_some_iff.mp hp).1
    rw [show p - ps.length = 0 by omega] at hp
    cases hp
    rw [show p = ps.length by omega]
    exact e
section Fl
variable {len : Nat} {tx : Nat → Int32}
theorem numS_fl {i : Nat} {lo up : Int32} {e : Nat × Nat} (hi : i ≤ len) (h : numS len tx i lo up = .inl e) : sk len tx e.2 = e.2 ∧ e.2 ≤ len := by
  have hs := sk_le (tx := tx) hi
  unfold numS at h
  split at h
  · cases h
    exact ⟨sk_sk hi, hs.2⟩
  · split at h
    · cases h
      exact ⟨sk_sk hi, hs.2⟩
    · cases h
theorem sgS_fl {i : Nat} {c : Int32} {e : Nat × Nat} (hi : i ≤ len) (h : sgS len tx i c = .inl e) : sk len tx e.2 = e.2 ∧ e.2 ≤ len := by
  have hs := sk_le (tx := tx) hi
  unfold sgS at h
  split at h
  · cases h
  · cases h
    exact ⟨sk_sk hi, hs.2⟩
theorem ftS_fl {i : Nat} {e : Nat × Nat} (hi : i ≤ len) (h : ftS len tx i = .inl e) : sk len tx e.2 = e.2 ∧ e.2 ≤ len := by
  unfold ftS at h
  split at h
  · rename_i e1
    cases h
    exact sgS_fl hi e1
  · rename_i j e1
    have p0 := (sgS_pos hi (by decide) e1).2
    unfold stS at h
    split at h
    · rename_i e2
      cases h
      exact numS_fl p0 e2
    · rename_i q1 e2
      have p1 := (numS_pos p0 e2).2.1
      split at h
      · rename_i e3
        cases h
        exact numS_fl p1 e3
      · rename_i q2 e3
        have p2 := (numS_pos p1 e3).2.1
        split at h
        · rename_i e4
          cases h
          exact numS_fl p2 e4
        · rename_i q3 e4
          have p3 := (numS_pos p2 e4).2.1
          split at h
          · rename_i e5
            cases h
            exact sgS_fl p3 e5
          · cases h
theorem ftS_pos {i : Nat} {q : Nat × Int32 × Int32 × Int32} (hi : i ≤ len) (h : ftS len tx i = .inr q) : i < q.1 ∧ q.1 ≤ len ∧ (¬ q.2.1 < 2 ∧ ¬ 8 < q.2.1) := by
  unfold ftS at h
  split at h
  · cases h
  · rename_i j e1
    have p0 := sgS_pos hi (by decide) e1
    have := stS_pos p0.2 h
    exact ⟨by omega, this.2⟩
theorem prS_ft (hs : sk len tx 0 < len) : prS len tx = (match ftS len tx 0 with | .inl e => .inl e | .inr q => (match tlS len tx q.2.1 200 (sk len tx q.1) [] with | .inl e => .inl e | .inr ps => .inr (q.2.1, q.2.2.1, q.2.2.2, ps))) := by
  unfold prS ftS sgS
  rw [if_pos hs, ltr_at hs]
  by_cases c : tx (sk len tx 0) = 115
  · rw [if_pos c, if_pos c]
    dsimp only
    cases stS len tx (sk len tx 0 + 1) <;> rfl
  · rw [if_neg c, if_neg c]
end Fl
section MText
variable {fa N G fog P tr sp dm um sm em : Int32} {sd : Int64} {len : Nat} {tx g1 : Nat → Int32}
set_option maxHeartbeats 2000000 in
theorem w_readsT (hl : len ≤ 200) : ∀ (f i : Nat) (ps : List Pn) (h : am_H) (g2 : Nat → Int32) (rf rn : Int32) (v2 : Value), f ≤ 200 → 201 - f ≤ i → i ≤ len → ps.length ≤ 8 → h.1 130 = mO (nI len) fa (nI i) rf rn (nI ps.length) N G fog P tr sp dm sd um sm em → h.1 131 = .inl (.int, 200, .inl tx) → h.1 132 = .inl (.int, 3, .inl g1) → h.1 133 = .inl (.int, 40, .inl g2) → lsP g2 ps → am_R M_Mo_readsLine (11, [.ref 130, .int 1, v2], []) h (fun r h' => am_fk [130, 133] h h' ∧ ∃ rn' g, h'.1 133 = .inl (.int, 40, .inl g) ∧ match tlS len tx (g1 0) f i ps with | .inl e => r = some (.int 0) ∧ ∃ rm', h'.1 130 = mO (nI len) fa (nI e.2) (nI e.1) rn' rm' N G fog P tr sp dm sd um sm em | .inr ps' => r = some (.int 1) ∧ ∃ ra', h'.1 130 = mO (nI len) fa ra' rf rn' (nI ps'.length) N G fog P tr sp dm sd um sm em ∧ lsP g ps')
  | 0, i, ps, h, g2, rf, rn, v2, hf, hfi, hi, hps, hm, ht, h2, h3, q => by
    exfalso
    omega
  | f + 1, i, ps, h, g2, rf, rn, v2, hf, hfi, hi, hps, hm, ht, h2, h3, q => by
    have et : tlS len tx (g1 0) (f + 1) i ps = if i < len then (if tx i = 115 ∨ (tx i = 112 ∧ ps.length = 8) then .inl (3, i) else if tx i = 112 then (match psS len tx (g1 0) ps.length (i + 1) with | .inl e => .inl e | .inr q => tlS len tx (g1 0) f (sk len tx q.1) (ps ++ [q.2])) else .inl (1, i)) else .inr ps := rfl
    have flt : ∀ (e : Nat × Nat) h' v2 rn' rm' g, am_fk [130, 133] h h' → h'.1 133 = .inl (.int, 40, .inl g) → h'.1 130 = mO (nI len) fa (nI e.2) (nI e.1) rn' rm' N G fog P tr sp dm sd um sm em → tlS len tx (g1 0) (f + 1) i ps = .inl e → am_R M_Mo_readsLine (44, [.ref 130, .int 1, v2], [.int 0]) h' (fun r h' => am_fk [130, 133] h h' ∧ ∃ rn' g, h'.1 133 = .inl (.int, 40, .inl g) ∧ match tlS len tx (g1 0) (f + 1) i ps with | .inl e => r = some (.int 0) ∧ ∃ rm', h'.1 130 = mO (nI len) fa (nI e.2) (nI e.1) rn' rm' N G fog P tr sp dm sd um sm em | .inr ps' => r = some (.int 1) ∧ ∃ ra', h'.1 130 = mO (nI len) fa ra' rf rn' (nI ps'.length) N G fog P tr sp dm sd um sm em ∧ lsP g ps') := by
      intro e h' v2 rn' rm' g a1 a2 a3 a4
      rw [a4]
      repeat (first | refine rs [] rfl rfl rfl rfl ?_ | refine rk rfl rfl ?_ | refine rgoh [] rfl rfl ?_ | refine rgeta (hi := rfl) (kk := ?_) | refine rialda (hi := rfl) (kk := ?_))
      (first | refine rift rfl rfl ?_ | refine riff rfl rfl ?_ | refine rict rfl rfl ?_ | refine ricf rfl rfl ?_)
      repeat (first | refine rs [] rfl rfl rfl rfl ?_ | refine rk rfl rfl ?_ | refine rgoh [] rfl rfl ?_ | refine rgeta (hi := rfl) (kk := ?_) | refine rialda (hi := rfl) (kk := ?_))
      (first | refine rift rfl rfl ?_ | refine riff rfl rfl ?_ | refine rict rfl rfl ?_ | refine ricf rfl rfl ?_)
      repeat (first | refine rs [] rfl rfl rfl rfl ?_ | refine rk rfl rfl ?_ | refine rgoh [] rfl rfl ?_ | refine rgeta (hi := rfl) (kk := ?_) | refine rialda (hi := rfl) (kk := ?_))
      refine rret rfl rfl ?_
      exact ⟨a1, rn', g, a2, rfl, rm', a3⟩
    repeat (first | refine rs [] rfl rfl rfl rfl ?_ | refine rk rfl rfl ?_ | refine rgoh [] rfl rfl ?_ | refine rgeta (hi := rfl) (kk := ?_) | refine rialda (hi := rfl) (kk := ?_))
    (first | refine rift rfl rfl ?_ | refine riff rfl rfl ?_ | refine rict rfl rfl ?_ | refine ricf rfl rfl ?_)
    repeat (first | refine rs [] rfl rfl rfl rfl ?_ | refine rk rfl rfl ?_ | refine rgoh [] rfl rfl ?_ | refine rgeta (hi := rfl) (kk := ?_) | refine rialda (hi := rfl) (kk := ?_))
    by_cases c1 : i < len
    · rw [if_pos c1] at et
      (first | refine rif rfl rfl (fun d1 => ?_) (fun d1 => ?_) | refine ric rfl rfl (fun d1 => ?_) (fun d1 => ?_))
      · exact absurd c1 ((nI_lt_iff (by omega) (by omega)).mp d1)
      · repeat (first | refine rs [] rfl rfl rfl rfl ?_ | refine rk rfl rfl ?_ | refine rgoh [] rfl rfl ?_ | refine rgeta (hi := rfl) (kk := ?_) | refine rialda (hi := rfl) (kk := ?_))
        (first | refine rcvs rfl rfl rfl rfl rfl (by first | assumption | (simp (disch := omega) only [am_set_ne, am_set_eq]; first | assumption | rfl)) rfl (w_here hl hi hm ht) ?_ | refine rcvn rfl rfl rfl rfl rfl (by first | assumption | (simp (disch := omega) only [am_set_ne, am_set_eq]; first | assumption | rfl)) rfl (w_here hl hi hm ht) ?_)
        rw [ltr_at c1]
        repeat (first | refine rs [] rfl rfl rfl rfl ?_ | refine rk rfl rfl ?_ | refine rgoh [] rfl rfl ?_ | refine rgeta (hi := rfl) (kk := ?_) | refine rialda (hi := rfl) (kk := ?_))
        have f3 : tx i = 115 ∨ (tx i = 112 ∧ ps.length = 8) → am_R M_Mo_readsLine (31, [.ref 130, .int 1, .int (tx i)], []) h (fun r h' => am_fk [130, 133] h h' ∧ ∃ rn' g, h'.1 133 = .inl (.int, 40, .inl g) ∧ match tlS len tx (g1 0) (f + 1) i ps with | .inl e => r = some (.int 0) ∧ ∃ rm', h'.1 130 = mO (nI len) fa (nI e.2) (nI e.1) rn' rm' N G fog P tr sp dm sd um sm em | .inr ps' => r = some (.int 1) ∧ ∃ ra', h'.1 130 = mO (nI len) fa ra' rf rn' (nI ps'.length) N G fog P tr sp dm sd um sm em ∧ lsP g ps') := by
          intro c
          rw [if_pos c] at et
          repeat (first | refine rs [] rfl rfl rfl rfl ?_ | refine rk rfl rfl ?_ | refine rgoh [] rfl rfl ?_ | refine rgeta (hi := rfl) (kk := ?_) | refine rialda (hi := rfl) (kk := ?_))
          (first | refine rcvs rfl rfl rfl rfl rfl (by first | assumption | (simp (disch := omega) only [am_set_ne, am_set_eq]; first | assumption | rfl)) rfl (w_fails hm) ?_ | refine rcvn rfl rfl rfl rfl rfl (by first | assumption | (simp (disch := omega) only [am_set_ne, am_set_eq]; first | assumption | rfl)) rfl (w_fails hm) ?_)
          repeat (first | refine rs [44] rfl rfl rfl rfl ?_ | refine rk rfl rfl ?_ | refine rgoh [44] rfl rfl ?_ | refine rgeta (hi := rfl) (kk := ?_) | refine rialda (hi := rfl) (kk := ?_))
          exact flt (3, i) _ _ rn (nI ps.length) g2 (fl_set fl_rf (by decide)) ((am_set_ne (by omega)).trans h3) am_set_eq et
        (first | refine rif rfl rfl (fun c2 => ?_) (fun c2 => ?_) | refine ric rfl rfl (fun c2 => ?_) (fun c2 => ?_))
        · exact f3 (Or.inl c2)
        · repeat (first | refine rs [] rfl rfl rfl rfl ?_ | refine rk rfl rfl ?_ | refine rgoh [] rfl rfl ?_ | refine rgeta (hi := rfl) (kk := ?_) | refine rialda (hi := rfl) (kk := ?_))
          (first | refine rif rfl rfl (fun c3 => ?_) (fun c3 => ?_) | refine ric rfl rfl (fun c3 => ?_) (fun c3 => ?_))
          · repeat (first | refine rs [] rfl rfl rfl rfl ?_ | refine rk rfl rfl ?_ | refine rgoh [] rfl rfl ?_ | refine rgeta (hi := rfl) (kk := ?_) | refine rialda (hi := rfl) (kk := ?_))
            have tl : ¬ ps.length = 8 → am_R M_Mo_readsLine (35, [.ref 130, .int 1, .int (tx i)], []) h (fun r h' => am_fk [130, 133] h h' ∧ ∃ rn' g, h'.1 133 = .inl (.int, 40, .inl g) ∧ match tlS len tx (g1 0) (f + 1) i ps with | .inl e => r = some (.int 0) ∧ ∃ rm', h'.1 130 = mO (nI len) fa (nI e.2) (nI e.1) rn' rm' N G fog P tr sp dm sd um sm em | .inr ps' => r = some (.int 1) ∧ ∃ ra', h'.1 130 = mO (nI len) fa ra' rf rn' (nI ps'.length) N G fog P tr sp dm sd um sm em ∧ lsP g ps') := by
              intro c4
              rw [if_neg (by rintro (a | a); exact c2 a; exact c4 a.2), if_pos c3] at et
              repeat (first | refine rs [] rfl rfl rfl rfl ?_ | refine rk rfl rfl ?_ | refine rgoh [] rfl rfl ?_ | refine rgeta (hi := rfl) (kk := ?_) | refine rialda (hi := rfl) (kk := ?_))
              (first | refine rif rfl rfl (fun c5 => ?_) (fun c5 => ?_) | refine ric rfl rfl (fun c5 => ?_) (fun c5 => ?_))
              · repeat (first | refine rs [] rfl rfl rfl rfl ?_ | refine rk rfl rfl ?_ | refine rgoh [] rfl rfl ?_ | refine rgeta (hi := rfl) (kk := ?_) | refine rialda (hi := rfl) (kk := ?_))
                refine rcvt rfl rfl rfl rfl rfl hm rfl (w_readsPerson (by omega) rfl hl c1 hm ht h2 h3) ?_
                rintro r k1 ⟨a1, rn1, rm1, ga, a2, a3⟩
                cases ep : psS len tx (g1 0) ps.length (i + 1) with
                | inl e =>
                  rw [ep] at a3 et
                  obtain ⟨rfl, a4⟩ := a3
                  show am_R M_Mo_readsLine (40, [.ref 130, .int 1, .int (tx i)], [.int 0]) _ _
                  repeat (first | refine rs [44] rfl rfl rfl rfl ?_ | refine rk rfl rfl ?_ | refine rgoh [44] rfl rfl ?_ | refine rgeta (hi := rfl) (kk := ?_) | refine rialda (hi := rfl) (kk := ?_))
                  exact flt e k1 _ rn1 rm1 ga a1 a2 a4 et
                | inr qq =>
                  rw [ep] at a3 et
                  dsimp only at a3 et
                  obtain ⟨rfl, a4, a5, a6⟩ := a3
                  obtain ⟨b1, b2, -⟩ := psS_pos (by omega) ep
                  have hsk := sk_le (tx := tx) b2
                  have ht1 : k1.1 131 = .inl (.int, 200, .inl tx) := by rw [a1.2 _ (by decide)]; exact ht
                  show am_R M_Mo_readsLine (40, [.ref 130, .int 1, .int (tx i)], [.int 1]) _ _
                  repeat (first | refine rs [] rfl rfl rfl rfl ?_ | refine rk rfl rfl ?_ | refine rgoh [] rfl rfl ?_ | refine rgeta (hi := rfl) (kk := ?_) | refine rialda (hi := rfl) (kk := ?_))
                  (first | refine rift rfl rfl ?_ | refine riff rfl rfl ?_ | refine rict rfl rfl ?_ | refine ricf rfl rfl ?_)
                  repeat (first | refine rs [] rfl rfl rfl rfl ?_ | refine rk rfl rfl ?_ | refine rgoh [] rfl rfl ?_ | refine rgeta (hi := rfl) (kk := ?_) | refine rialda (hi := rfl) (kk := ?_))
                  (first | refine rcvs rfl rfl rfl rfl rfl (by first | assumption | (simp (disch := omega) only [am_set_ne, am_set_eq]; first | assumption | rfl)) rfl (w_skip hl b2 a4 ht1) ?_ | refine rcvn rfl rfl rfl rfl rfl (by first | assumption | (simp (disch := omega) only [am_set_ne, am_set_eq]; first | assumption | rfl)) rfl (w_skip hl b2 a4 ht1) ?_)
                  repeat (first | refine rs [11] rfl rfl rfl rfl ?_ | refine rk rfl rfl ?_ | refine rgoh [11] rfl rfl ?_ | refine rgeta (hi := rfl) (kk := ?_) | refine rialda (hi := rfl) (kk := ?_))
                  have el : (ps ++ [qq.2]).length = ps.length + 1 := by simp
                  have F : am_fk [130, 133] h (am_set k1 130 (mO (nI len) fa (nI (sk len tx qq.1)) rf rn1 (nI (ps.length + 1)) N G fog P tr sp dm sd um sm em)) := fl_set a1 (by decide)
                  have ih := w_readsT hl f (sk len tx qq.1) (ps ++ [qq.2]) (am_set k1 130 (mO (nI len) fa (nI (sk len tx qq.1)) rf rn1 (nI (ps.length + 1)) N G fog P tr sp dm sd um sm em)) ga rf rn1 (.int (tx i)) (by omega) (by omega) hsk.2 (by omega) (by rw [el]; exact am_set_eq) ((am_set_ne (by omega)).trans ht1) ((am_set_ne (by omega)).trans ((a1.2 _ (by decide)).trans h2)) ((am_set_ne (by omega)).trans a2) (lsP_s q a5 a6)
                  refine am_R.imp ih ?_
                  rintro r h' ⟨u1, u2⟩
                  rw [et]
                  exact ⟨fl_tr F u1 (fun _ a => a), u2⟩
              · exact absurd c3 c5
            by_cases c4 : ps.length = 8
            · (first | refine rif rfl rfl (fun d4 => ?_) (fun d4 => ?_) | refine ric rfl rfl (fun d4 => ?_) (fun d4 => ?_))
              · exact f3 (Or.inr ⟨c3, c4⟩)
              · exact absurd (by rw [c4]; decide) d4
            · (first | refine rif rfl rfl (fun d4 => ?_) (fun d4 => ?_) | refine ric rfl rfl (fun d4 => ?_) (fun d4 => ?_))
              · rw [i8', nI_eq (by omega) (by omega)] at d4
                exact absurd d4 c4
              · exact tl c4
          · rw [if_neg (by rintro (a | a); exact c2 a; exact c3 a.1), if_neg c3] at et
            repeat (first | refine rs [] rfl rfl rfl rfl ?_ | refine rk rfl rfl ?_ | refine rgoh [] rfl rfl ?_ | refine rgeta (hi := rfl) (kk := ?_) | refine rialda (hi := rfl) (kk := ?_))
            (first | refine rif rfl rfl (fun c5 => ?_) (fun c5 => ?_) | refine ric rfl rfl (fun c5 => ?_) (fun c5 => ?_))
            · exact absurd c5 c3
            · repeat (first | refine rs [] rfl rfl rfl rfl ?_ | refine rk rfl rfl ?_ | refine rgoh [] rfl rfl ?_ | refine rgeta (hi := rfl) (kk := ?_) | refine rialda (hi := rfl) (kk := ?_))
              (first | refine rcvs rfl rfl rfl rfl rfl (by first | assumption | (simp (disch := omega) only [am_set_ne, am_set_eq]; first | assumption | rfl)) rfl (w_fails hm) ?_ | refine rcvn rfl rfl rfl rfl rfl (by first | assumption | (simp (disch := omega) only [am_set_ne, am_set_eq]; first | assumption | rfl)) rfl (w_fails hm) ?_)
              repeat (first | refine rs [44] rfl rfl rfl rfl ?_ | refine rk rfl rfl ?_ | refine rgoh [44] rfl rfl ?_ | refine rgeta (hi := rfl) (kk := ?_) | refine rialda (hi := rfl) (kk := ?_))
              exact flt (1, i) _ _ rn (nI ps.length) g2 (fl_set fl_rf (by decide)) ((am_set_ne (by omega)).trans h3) am_set_eq et
    · rw [if_neg c1] at et
      (first | refine rif rfl rfl (fun d1 => ?_) (fun d1 => ?_) | refine ric rfl rfl (fun d1 => ?_) (fun d1 => ?_))
      · repeat (first | refine rs [] rfl rfl rfl rfl ?_ | refine rk rfl rfl ?_ | refine rgoh [] rfl rfl ?_ | refine rgeta (hi := rfl) (kk := ?_) | refine rialda (hi := rfl) (kk := ?_))
        refine rret rfl rfl ?_
        rw [et]
        exact ⟨fl_rf, rn, g2, h3, rfl, nI i, hm, q⟩
      · rw [nI_leI (by omega) (by omega)] at d1
        omega
set_option maxHeartbeats 1000000 in
theorem w_readsLine {h : am_H} {ra rf rn rm : Int32} {g2 : Nat → Int32} (hs : sk len tx 0 < len) (hl : len ≤ 200) (hm : h.1 130 = mO (nI len) fa ra rf rn rm N G fog P tr sp dm sd um sm em) (ht : h.1 131 = .inl (.int, 200, .inl tx)) (h2 : h.1 132 = .inl (.int, 3, .inl g1)) (h3 : h.1 133 = .inl (.int, 40, .inl g2)) : am_T M_Mo_readsLine [.ref 130] h (fun r h' => am_fk [130, 132, 133] h h' ∧ ∃ ra' rf' rn' rm' ga gb, h'.1 132 = .inl (.int, 3, .inl ga) ∧ h'.1 133 = .inl (.int, 40, .inl gb) ∧ h'.1 130 = mO (nI len) fa ra' rf' rn' rm' N G fog P tr sp dm sd um sm em ∧ match prS len tx with | .inl e => r = some (.int 0) ∧ ra' = nI e.2 ∧ rf' = nI e.1 | .inr q => r = some (.int 1) ∧ rm' = nI q.2.2.2.length ∧ (ga 0 = q.1 ∧ ga 1 = q.2.1 ∧ ga 2 = q.2.2.1) ∧ lsP gb q.2.2.2) := by
  rw [prS_ft hs]
  (try unfold am_E); unfold am_T
  repeat (first | refine rs [] rfl rfl rfl rfl ?_ | refine rk rfl rfl ?_ | refine rgoh [] rfl rfl ?_ | refine rgeta (hi := rfl) (kk := ?_) | refine rialda (hi := rfl) (kk := ?_))
  refine rputa (hi := rfl) (kk := ?_)
  repeat (first | refine rs [] rfl rfl rfl rfl ?_ | refine rk rfl rfl ?_ | refine rgoh [] rfl rfl ?_ | refine rgeta (hi := rfl) (kk := ?_) | refine rialda (hi := rfl) (kk := ?_))
  rw [am_set_set]
  have F : am_fk [130, 132, 133] h (am_set h 130 (mO (nI len) fa 0 rf rn 0 N G fog P tr sp dm sd um sm em)) := fl_set fl_rf (by decide)
  have hm : (am_set h 130 (mO (nI len) fa 0 rf rn 0 N G fog P tr sp dm sd um sm em)).1 130 = mO (nI len) fa (nI 0) rf rn (nI 0) N G fog P tr sp dm sd um sm em := am_set_eq
  have ht : (am_set h 130 (mO (nI len) fa 0 rf rn 0 N G fog P tr sp dm sd um sm em)).1 131 = .inl (.int, 200, .inl tx) := (am_set_ne (by omega)).trans ht
  have h2 : (am_set h 130 (mO (nI len) fa 0 rf rn 0 N G fog P tr sp dm sd um sm em)).1 132 = .inl (.int, 3, .inl g1) := (am_set_ne (by omega)).trans h2
  have h3 : (am_set h 130 (mO (nI len) fa 0 rf rn 0 N G fog P tr sp dm sd um sm em)).1 133 = .inl (.int, 40, .inl g2) := (am_set_ne (by omega)).trans h3
  show am_R M_Mo_readsLine (7, _, [.ref 130]) (am_set h 130 (mO (nI len) fa 0 rf rn 0 N G fog P tr sp dm sd um sm em)) _
  generalize am_set h 130 (mO (nI len) fa 0 rf rn 0 N G fog P tr sp dm sd um sm em) = k0 at *
  refine rcvt rfl rfl rfl rfl rfl hm rfl (w_readsFirst hl (by omega) hm ht h2) ?_
  rintro r k1 ⟨a1, rn1, ga, a2, a3⟩
  have F1 := fl_tr F a1 (by decide)
  have ht1 : k1.1 131 = .inl (.int, 200, .inl tx) := by rw [a1.2 _ (by decide)]; exact ht
  have h31 : k1.1 133 = .inl (.int, 40, .inl g2) := by rw [a1.2 _ (by decide)]; exact h3
  cases ef : ftS len tx 0 with
  | inl e =>
    rw [ef] at a3
    obtain ⟨rfl, a4⟩ := a3
    obtain ⟨b1, b2⟩ := ftS_fl (by omega) ef
    show am_R M_Mo_readsLine (8, [.ref 130, _, _], [.int 0]) _ _
    repeat (first | refine rs [] rfl rfl rfl rfl ?_ | refine rk rfl rfl ?_ | refine rgoh [] rfl rfl ?_ | refine rgeta (hi := rfl) (kk := ?_) | refine rialda (hi := rfl) (kk := ?_))
    (first | refine rcvs rfl rfl rfl rfl rfl (by first | assumption | (simp (disch := omega) only [am_set_ne, am_set_eq]; first | assumption | rfl)) rfl (w_skip hl b2 a4 ht1) ?_ | refine rcvn rfl rfl rfl rfl rfl (by first | assumption | (simp (disch := omega) only [am_set_ne, am_set_eq]; first | assumption | rfl)) rfl (w_skip hl b2 a4 ht1) ?_)
    rw [b1]
    repeat (first | refine rs [11] rfl rfl rfl rfl ?_ | refine rk rfl rfl ?_ | refine rgoh [11] rfl rfl ?_ | refine rgeta (hi := rfl) (kk := ?_) | refine rialda (hi := rfl) (kk := ?_))
    repeat (first | refine rs [] rfl rfl rfl rfl ?_ | refine rk rfl rfl ?_ | refine rgoh [] rfl rfl ?_ | refine rgeta (hi := rfl) (kk := ?_) | refine rialda (hi := rfl) (kk := ?_))
    (first | refine rift rfl rfl ?_ | refine riff rfl rfl ?_ | refine rict rfl rfl ?_ | refine ricf rfl rfl ?_)
    repeat (first | refine rs [] rfl rfl rfl rfl ?_ | refine rk rfl rfl ?_ | refine rgoh [] rfl rfl ?_ | refine rgeta (hi := rfl) (kk := ?_) | refine rialda (hi := rfl) (kk := ?_))
    refine rret rfl rfl ?_
    exact ⟨fl_set F1 (by decide), nI e.2, nI e.1, rn1, nI 0, ga, g2, (am_set_ne (by omega)).trans a2, (am_set_ne (by omega)).trans h31, am_set_eq, rfl, rfl, rfl⟩
  | inr qq =>
    rw [ef] at a3
    obtain ⟨rfl, a4, a5, a6, a7⟩ := a3
    obtain ⟨b1, b2, -⟩ := ftS_pos (by omega) ef
    have hsk := sk_le (tx := tx) b2
    show am_R M_Mo_readsLine (8, [.ref 130, _, _], [.int 1]) _ _
    repeat (first | refine rs [] rfl rfl rfl rfl ?_ | refine rk rfl rfl ?_ | refine rgoh [] rfl rfl ?_ | refine rgeta (hi := rfl) (kk := ?_) | refine rialda (hi := rfl) (kk := ?_))
    (first | refine rcvs rfl rfl rfl rfl rfl (by first | assumption | (simp (disch := omega) only [am_set_ne, am_set_eq]; first | assumption | rfl)) rfl (w_skip hl b2 a4 ht1) ?_ | refine rcvn rfl rfl rfl rfl rfl (by first | assumption | (simp (disch := omega) only [am_set_ne, am_set_eq]; first | assumption | rfl)) rfl (w_skip hl b2 a4 ht1) ?_)
    repeat (first | refine rs [11] rfl rfl rfl rfl ?_ | refine rk rfl rfl ?_ | refine rgoh [11] rfl rfl ?_ | refine rgeta (hi := rfl) (kk := ?_) | refine rialda (hi := rfl) (kk := ?_))
    have F2 : am_fk [130, 132, 133] h (am_set k1 130 (mO (nI len) fa (nI (sk len tx qq.1)) rf rn1 (nI 0) N G fog P tr sp dm sd um sm em)) := fl_set F1 (by decide)
    refine am_R.imp (w_readsT (g1 := ga) hl 200 (sk len tx qq.1) [] (am_set k1 130 (mO (nI len) fa (nI (sk len tx qq.1)) rf rn1 (nI 0) N G fog P tr sp dm sd um sm em)) g2 rf rn1 _ (by omega) (by omega) hsk.2 (by simp) am_set_eq ((am_set_ne (by omega)).trans ht1) ((am_set_ne (by omega)).trans a2) ((am_set_ne (by omega)).trans h31) (fun p z hz => by simp at hz)) ?_
    rintro r h' ⟨u1, rn2, gb, u2, u3⟩
    have F3 := fl_tr F2 u1 (by decide)
    have h2' : h'.1 132 = .inl (.int, 3, .inl ga) := (u1.2 _ (by decide)).trans ((am_set_ne (by omega)).trans a2)
    rw [a5] at u3
    dsimp only
    cases et : tlS len tx qq.2.1 200 (sk len tx qq.1) [] with
    | inl e =>
      rw [et] at u3
      obtain ⟨u4, rm', u5⟩ := u3
      exact ⟨F3, _, _, _, _, ga, gb, h2', u2, u5, u4, rfl, rfl⟩
    | inr ps =>
      rw [et] at u3
      obtain ⟨u4, ra', u5, u6⟩ := u3
      exact ⟨F3, _, _, _, _, ga, gb, h2', u2, u5, u4, rfl, ⟨a5, a6, a7⟩, u6⟩
end MText
