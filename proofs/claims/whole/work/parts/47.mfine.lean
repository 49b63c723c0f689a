/-! the model: run, notes, begin and back over its whole state -/
def wfS (N P : Nat) (S : Sc) : Prop := ∀ p, p < P → ∃ k, k < N ∧ S.1 p = nI k
def wfM (P : Nat) (me : Nat → Int32) : Prop := ∀ p, p < P → me p = -1 ∨ ∃ k, k < P ∧ me p = nI k
def wfI (N P : Nat) (o : Im) : Prop := ∀ z, o = some z → wfS N P z.1 ∧ ¬ z.2 < 0
def wfQ : Q → Prop
  | ⟨⟨len, tx⟩, fa, ⟨N, P, G, wa, me⟩, S, dd, ⟨rc, rx, rh⟩, ⟨bc, bw, bs⟩, sd, i0, i1⟩ => (N = 0 → P = 0) ∧ N ≤ 8 ∧ P ≤ 8 ∧ wfM P me ∧ wfS N P S ∧ (∀ z, z ∈ dd → wfS N P z) ∧ (∀ i, i < rc → ∃ k, k < N ∧ rx i = nI k) ∧ (∀ i, i < bc → ∃ k, k < P ∧ bw i = nI k) ∧ ¬ sd < 0 ∧ wfI N P i0 ∧ wfI N P i1
/-- the scene laid aside -/
def asD (P : Nat) (S : Sc) (h : am_H) : Prop := ∃ g, h.1 141 = .inl (.int, 36, .inl g) ∧ ntA P g 0 S
theorem asD.fl {P : Nat} {S : Sc} {L : List Nat} {h h' : am_H} (f : am_fk L h h') (m : 141 ∉ L) (q : asD P S h) : asD P S h' := by
  obtain ⟨g, q1, q2⟩ := q
  exact ⟨g, by rw [f.2 _ m]; exact q1, q2⟩
theorem nI_mul (a b : Nat) : nI a * nI b = nI (a * b) := (Int32.ofNat_mul a b).symm
theorem ntA_cg {P b c : Nat} {g g' : Nat → Int32} {S : Sc} (hP : P ≤ 8) (e : ∀ k, k < 36 → g' (c + k) = g (b + k)) (q : ntA P g b S) : ntA P g' c S := by
  obtain ⟨q1, q2, q3, q4⟩ := q
  refine ⟨(e 0 (by omega)).trans q1, (e 1 (by omega)).trans q2, (e 2 (by omega)).trans q3, fun p hp => ?_⟩
  obtain ⟨r1, r2, r3, r4⟩ := q4 p hp
  refine ⟨?_, ?_, ?_, ?_⟩
  · rw [show c + 3 + p = c + (3 + p) by omega, e _ (by omega), ← Nat.add_assoc]; exact r1
  · rw [show c + 11 + p = c + (11 + p) by omega, e _ (by omega), ← Nat.add_assoc]; exact r2
  · rw [show c + 19 + p = c + (19 + p) by omega, e _ (by omega), ← Nat.add_assoc]; exact r3
  · rw [show c + 27 + p = c + (27 + p) by omega, e _ (by omega), ← Nat.add_assoc]; exact r4
theorem layP_nt {P b : Nat} {g g' wh mi fe fl : Nat → Int32} {S : Sc} (hP : P ≤ 8) (q : layP g g' b 8 S.2.2.2.2.2.1 S.2.2.2.2.2.2 S.2.2.2.2.1 wh mi fe fl) (z : ∀ p, p < P → wh p = S.1 p ∧ mi p = S.2.1 p ∧ fe p = S.2.2.1 p ∧ fl p = S.2.2.2.1 p) : ntA P g' b S := by
  obtain ⟨q1, q2, q3, q4, q5⟩ := q
  refine ⟨q1, q2, q3, fun p hp => ?_⟩
  obtain ⟨r1, r2, r3, r4⟩ := q4 p (by omega)
  obtain ⟨s1, s2, s3, s4⟩ := z p hp
  exact ⟨r1.trans s1, r2.trans s2, r3.trans s3, r4.trans s4⟩
section MFine
variable {h h' : am_H} {len N P rc bc : Nat} {fa G sd : Int32} {tx wa me rx rh bw bs : Nat → Int32} {S S' : Sc} {dd dd' : List Sc} {i0 i1 : Im}
theorem shA_0 {p : Nat} (hp : p < 8) : shA 0 S p = S.2.1 p + 2 * S.2.2.1 p + 3 * S.2.2.2.1 p := by
  unfold shA
  rw [bitv_0 (by omega), if_neg (by decide)]
theorem w_run {shut : Int32} (hN0 : 1 ≤ N) (hme : wfM P me) (hS : wfS N P S) (R : mRep ⟨⟨len, tx⟩, fa, ⟨N, P, G, wa, me⟩, S, dd, ⟨rc, rx, rh⟩, ⟨bc, bw, bs⟩, sd, i0, i1⟩ h) : am_T M_Mo_run [.ref 130, .int shut] h (fun r h' => r = none ∧ mRep ⟨⟨len, tx⟩, fa, ⟨N, P, G, wa, me⟩, rnA N P G wa me shut S, dd, ⟨rc, rx, rh⟩, ⟨bc, bw, bs⟩, sd, i0, i1⟩ h' ∧ am_fk [130, 134] h h') := by
  obtain ⟨ra, rf, rn, rm, sm, x1, x2, x3, x4, x5, x6, x7, x8, x9, x10, x11⟩ := id R
  obtain ⟨y1, y2, waC, meC, y3, y4, y5, y6⟩ := id x4
  obtain ⟨wh, mi, fe, fl, z1, z2, z3, z4, z5⟩ := id x5
  refine w_runK (halts := stA 0 G N P S &&& (shut ^^^ (-1))) hN0 y1 y2 (fun p hp => ?_) (fun p hp => ?_) (fun j hj => ?_) x1 z1 y3 y4 z2 z3 z4 (fun g hg => ?_)
  · rw [(z5 p hp).1]
    exact hS p hp
  · rw [y6 p hp]
    exact hme p hp
  · rw [b_and, b_xor, b_m1 j hj, Bool.and_eq_true, stA_bt y1 hS hj, awP_congr (wh' := wh) (sh' := shM mi fe fl) (fun p hp => ?_)]
    · constructor
      · rintro ⟨⟨a, b⟩, c⟩
        refine ⟨a, b, fun d => ?_⟩
        rw [d] at c
        exact absurd c (by decide)
      · rintro ⟨a, b, c⟩
        refine ⟨⟨a, b⟩, ?_⟩
        cases d : bt shut j
        · rfl
        · exact absurd d c
    · obtain ⟨q1, q2, q3, q4⟩ := z5 p hp
      refine ⟨q1.symm, ?_⟩
      rw [shA_0 (by omega)]
      unfold shM
      rw [q2, q3, q4]
  · have f : am_fk [130, 134] h (am_set (am_set h 134 (iar g)) 130 (mO (nI len) fa ra rf rn rm (nI N) G S.2.2.2.2.1 (nI P) (S.2.2.2.2.2.1 + 1) (stA 0 G N P S &&& (shut ^^^ (-1))) (nI dd.length) sd.toInt64 (nI rc) sm (nI bc))) := fl_set (fl_set fl_rf (by decide)) (by decide)
    refine ⟨rfl, ⟨ra, rf, rn, rm, sm, am_set_eq, x2.fl f (by decide), x3.fl f (by decide), x4.fl f (by decide), ⟨g, mi, fe, fl, ?_, ?_, ?_, ?_, fun p hp => ?_⟩, x6.fl f (by decide), x7.fl f (by decide), x8.fl f (by decide), x9.fl f (by decide), x10.fl f (by decide), x11.fl f (by decide)⟩, f⟩
    · rw [am_set_ne (by omega)]; exact am_set_eq
    · rw [am_set_ne (by omega), am_set_ne (by omega)]; exact z2
    · rw [am_set_ne (by omega), am_set_ne (by omega)]; exact z3
    · rw [am_set_ne (by omega), am_set_ne (by omega)]; exact z4
    · refine ⟨?_, (z5 p hp).2⟩
      rw [hg p hp]
      exact rtF_eqP y5 y6 y2 (fun p hp => (z5 p hp).1) p hp
theorem w_noteT {v1 : Value} (hl : dd.length < 30) (R : mRep ⟨⟨len, tx⟩, fa, ⟨N, P, G, wa, me⟩, S, dd, ⟨rc, rx, rh⟩, ⟨bc, bw, bs⟩, sd, i0, i1⟩ h) : am_R M_Mo_notes (27, [.ref 130, v1], []) h (fun r h' => r = none ∧ mRep ⟨⟨len, tx⟩, fa, ⟨N, P, G, wa, me⟩, S, dd ++ [S], ⟨rc, rx, rh⟩, ⟨bc, bw, bs⟩, sd, i0, i1⟩ h' ∧ am_fk [130, 140] h h') := by
  obtain ⟨ra, rf, rn, rm, sm, x1, x2, x3, x4, x5, x6, x7, x8, x9, x10, x11⟩ := id R
  obtain ⟨y1, y2, waC, meC, y3, y4, y5, y6⟩ := id x4
  obtain ⟨wh, mi, fe, fl, z1, z2, z3, z4, z5⟩ := id x5
  obtain ⟨d1, gd, d2, d3⟩ := id x6
  repeat (first | refine rs [] rfl rfl rfl rfl ?_ | refine rk rfl rfl ?_ | refine rgoh [] rfl rfl ?_ | refine rgeta (hi := rfl) (kk := ?_) | refine rialda (hi := rfl) (kk := ?_))
  refine rcvt rfl rfl rfl rfl rfl x1 rfl (w_laysBy (b := 36 * dd.length) (Or.inl rfl) (by rw [i36, nI_mul]) (by omega) (by omega) x1 z1 z2 z3 z4 d2) ?_
  rintro r h1 ⟨rfl, g', rfl, hg⟩
  show am_R M_Mo_notes (35, _, []) _ _
  repeat (first | refine rs [] rfl rfl rfl rfl ?_ | refine rk rfl rfl ?_ | refine rgoh [] rfl rfl ?_ | refine rgeta (hi := rfl) (kk := ?_) | refine rialda (hi := rfl) (kk := ?_))
  refine rputa (hi := rfl) (kk := ?_)
  refine rret rfl rfl ?_
  have f : am_fk [130, 140] h (am_set (am_set h 140 (.inl (.int, 1080, .inl g'))) 130 (mO (nI len) fa ra rf rn rm (nI N) G S.2.2.2.2.1 (nI P) S.2.2.2.2.2.1 S.2.2.2.2.2.2 (nI dd.length + 1) sd.toInt64 (nI rc) sm (nI bc))) := fl_set (fl_set fl_rf (by decide)) (by decide)
  have el : (dd ++ [S]).length = dd.length + 1 := by simp
  refine ⟨rfl, ⟨ra, rf, rn, rm, sm, ?_, x2.fl f (by decide), x3.fl f (by decide), x4.fl f (by decide), x5.fl f (by decide), ⟨by omega, g', ?_, fun j S' hj => ?_⟩, x7.fl f (by decide), x8.fl f (by decide), x9.fl f (by decide), x10.fl f (by decide), x11.fl f (by decide)⟩, f⟩
  · rw [el, nI_succ]
    exact am_set_eq
  · rw [am_set_ne (by omega)]; exact am_set_eq
  · rcases Nat.lt_or_ge j dd.length with w | w
    · rw [List.getElem?_append_left w] at hj
      refine ntA_cg y2 (fun k hk => ?_) (d3 j S' hj)
      exact hg.2.2.2.2 _ (Or.inl (by omega))
    · rw [List.getElem?_append_right w] at hj
      have h0 : j - dd.length < 1 := (List.getElem?_eq_some_iff.mp hj).1
      rw [show j - dd.length = 0 by omega] at hj
      cases hj
      rw [show j = dd.length by omega]
      exact layP_nt y2 hg z5
set_option maxHeartbeats 1000000 in
theorem w_notes (R : mRep ⟨⟨len, tx⟩, fa, ⟨N, P, G, wa, me⟩, S, dd, ⟨rc, rx, rh⟩, ⟨bc, bw, bs⟩, sd, i0, i1⟩ h) : am_T M_Mo_notes [.ref 130] h (fun r h' => r = none ∧ mRep ⟨⟨len, tx⟩, fa, ⟨N, P, G, wa, me⟩, S, dnote dd S, ⟨rc, rx, rh⟩, ⟨bc, bw, bs⟩, sd, i0, i1⟩ h' ∧ am_fk [130, 140] h h') := by
  obtain ⟨ra, rf, rn, rm, sm, x1, x2, x3, x4, x5, x6, x7, x8, x9, x10, x11⟩ := id R
  obtain ⟨y1, y2, waC, meC, y3, y4, y5, y6⟩ := id x4
  obtain ⟨wh, mi, fe, fl, z1, z2, z3, z4, z5⟩ := id x5
  obtain ⟨d1, gd, d2, d3⟩ := id x6
  unfold dnote
  (try unfold am_E); unfold am_T
  repeat (first | refine rs [6] rfl rfl rfl rfl ?_ | refine rk rfl rfl ?_ | refine rgoh [6] rfl rfl ?_ | refine rgeta (hi := rfl) (kk := ?_) | refine rialda (hi := rfl) (kk := ?_))
  by_cases e : dd.length = 30
  · rw [if_pos e]
    (first | refine rif rfl rfl (fun c1 => ?_) (fun c1 => ?_) | refine ric rfl rfl (fun c1 => ?_) (fun c1 => ?_))
    · repeat (first | refine rs [6] rfl rfl rfl rfl ?_ | refine rk rfl rfl ?_ | refine rgoh [6] rfl rfl ?_ | refine rgeta (hi := rfl) (kk := ?_) | refine rialda (hi := rfl) (kk := ?_))
      have key : ∀ x g', x = nI 0 → (∀ k, k < 0 → g' k = gd (k + 36)) → (∀ k, 0 ≤ k → g' k = gd k) → am_R M_Mo_notes (6, [.ref 130, .int x], []) (am_set h 140 (.inl (.int, 1080, .inl g'))) (fun r h' => r = none ∧ mRep ⟨⟨len, tx⟩, fa, ⟨N, P, G, wa, me⟩, S, dd.tail ++ [S], ⟨rc, rx, rh⟩, ⟨bc, bw, bs⟩, sd, i0, i1⟩ h' ∧ am_fk [130, 140] h h') := by
        refine lup (P := fun i => ∀ x g', x = nI i → (∀ k, k < i → g' k = gd (k + 36)) → (∀ k, i ≤ k → g' k = gd k) → am_R M_Mo_notes (6, [.ref 130, .int x], []) (am_set h 140 (.inl (.int, 1080, .inl g'))) (fun r h' => r = none ∧ mRep ⟨⟨len, tx⟩, fa, ⟨N, P, G, wa, me⟩, S, dd.tail ++ [S], ⟨rc, rx, rh⟩, ⟨bc, bw, bs⟩, sd, i0, i1⟩ h' ∧ am_fk [130, 140] h h')) 1044 ?_ ?_
        · rintro x g' rfl a1 a2
          repeat (first | refine rs [] rfl rfl rfl rfl ?_ | refine rk rfl rfl ?_ | refine rgoh [] rfl rfl ?_ | refine rgeta (hi := rfl) (kk := ?_) | refine rialda (hi := rfl) (kk := ?_))
          (first | refine rift rfl rfl ?_ | refine riff rfl rfl ?_ | refine rict rfl rfl ?_ | refine ricf rfl rfl ?_)
          repeat (first | refine rs [] rfl rfl rfl rfl ?_ | refine rk rfl rfl ?_ | refine rgoh [] rfl rfl ?_ | refine rgeta (hi := rfl) (kk := ?_) | refine rialda (hi := rfl) (kk := ?_))
          refine rputa (hi := rfl) (kk := ?_)
          have f : am_fk [130, 140] h (am_set (am_set h 140 (.inl (.int, 1080, .inl g'))) 130 (mO (nI len) fa ra rf rn rm (nI N) G S.2.2.2.2.1 (nI P) S.2.2.2.2.2.1 S.2.2.2.2.2.2 (nI dd.length - 1) sd.toInt64 (nI rc) sm (nI bc))) := fl_set (fl_set fl_rf (by decide)) (by decide)
          have et : dd.tail.length = 29 := by rw [List.length_tail, e]
          have R1 : mRep ⟨⟨len, tx⟩, fa, ⟨N, P, G, wa, me⟩, S, dd.tail, ⟨rc, rx, rh⟩, ⟨bc, bw, bs⟩, sd, i0, i1⟩ (am_set (am_set h 140 (.inl (.int, 1080, .inl g'))) 130 (mO (nI len) fa ra rf rn rm (nI N) G S.2.2.2.2.1 (nI P) S.2.2.2.2.2.1 S.2.2.2.2.2.2 (nI dd.length - 1) sd.toInt64 (nI rc) sm (nI bc))) := by
            refine ⟨ra, rf, rn, rm, sm, ?_, x2.fl f (by decide), x3.fl f (by decide), x4.fl f (by decide), x5.fl f (by decide), ⟨by omega, g', ?_, fun j S' hj => ?_⟩, x7.fl f (by decide), x8.fl f (by decide), x9.fl f (by decide), x10.fl f (by decide), x11.fl f (by decide)⟩
            · rw [et, e]
              exact am_set_eq
            · rw [am_set_ne (by omega)]; exact am_set_eq
            · have hj2 : j < 29 := by
                have := (List.getElem?_eq_some_iff.mp hj).1
                omega
              rw [List.getElem?_tail] at hj
              refine ntA_cg y2 (fun k hk => ?_) (d3 (j + 1) S' hj)
              rw [a1 _ (by omega)]
              congr 1
              omega
          refine am_R.imp (w_noteT (by omega) R1) ?_
          rintro r h' ⟨rfl, g1, g2⟩
          exact ⟨rfl, g1, fl_tr f g2 (fun _ a => a)⟩
        · rintro i hi ih x g' rfl a1 a2
          repeat (first | refine rs [] rfl rfl rfl rfl ?_ | refine rk rfl rfl ?_ | refine rgoh [] rfl rfl ?_ | refine rgeta (hi := rfl) (kk := ?_) | refine rialda (hi := rfl) (kk := ?_))
          (first | refine rif rfl rfl (fun c2 => ?_) (fun c2 => ?_) | refine ric rfl rfl (fun c2 => ?_) (fun c2 => ?_))
          · rw [i1044] at c2
            exact absurd hi ((nI_lt_iff (by omega) (by omega)).mp c2)
          · repeat (first | refine rs [] rfl rfl rfl rfl ?_ | refine rk rfl rfl ?_ | refine rgoh [] rfl rfl ?_ | refine rgeta (hi := rfl) (kk := ?_) | refine rialda (hi := rfl) (kk := ?_))
            refine rialda (hi := rfl) (hc := am_set_eq) (hik := show nI i + 36 = nI (i + 36) by rw [i36, nI_add]) (kk := ?_)
            refine riasta (hi := rfl) (hc := am_set_eq) (kk := ?_)
            rw [am_set_set]
            repeat (first | refine rs [6] rfl rfl rfl rfl ?_ | refine rk rfl rfl ?_ | refine rgoh [6] rfl rfl ?_ | refine rgeta (hi := rfl) (kk := ?_) | refine rialda (hi := rfl) (kk := ?_))
            refine ih _ _ (nI_succ i).symm (fun k hk => ?_) (fun k hk => ?_)
            · rcases Nat.lt_or_ge k i with w | w
              · rw [pk_un (by omega)]
                exact a1 k w
              · rw [show k = i by omega, pk_us]
                exact a2 _ (by omega)
            · rw [pk_un (by omega)]
              exact a2 k (by omega)
      have st := key 0 gd nI_0.symm (fun k hk => by omega) (fun k _ => rfl)
      rw [am_set_self d2] at st
      exact st
    · exact absurd (by rw [e]; decide) c1
  · rw [if_neg e]
    (first | refine rif rfl rfl (fun c1 => ?_) (fun c1 => ?_) | refine ric rfl rfl (fun c1 => ?_) (fun c1 => ?_))
    · rw [i30, nI_eq (by omega) (by omega)] at c1
      exact absurd c1 e
    · exact w_noteT (by omega) R
theorem w_begin (R : mRep ⟨⟨len, tx⟩, fa, ⟨N, P, G, wa, me⟩, S, dd, ⟨rc, rx, rh⟩, ⟨bc, bw, bs⟩, sd, i0, i1⟩ h) : am_T M_Mo_begin [.ref 130] h (fun r h' => r = none ∧ mRep ⟨⟨len, tx⟩, fa, ⟨N, P, G, wa, me⟩, S, dd, ⟨rc, rx, rh⟩, ⟨bc, bw, bs⟩, sd, i0, i1⟩ h' ∧ asD P S h' ∧ am_fk [141] h h') := by
  obtain ⟨ra, rf, rn, rm, sm, x1, x2, x3, x4, x5, x6, x7, x8, x9, x10, x11⟩ := id R
  obtain ⟨y1, y2, waC, meC, y3, y4, y5, y6⟩ := id x4
  obtain ⟨wh, mi, fe, fl, z1, z2, z3, z4, z5⟩ := id x5
  obtain ⟨ga, d2⟩ := id x7
  (try unfold am_E); unfold am_T
  repeat (first | refine rs [] rfl rfl rfl rfl ?_ | refine rk rfl rfl ?_ | refine rgoh [] rfl rfl ?_ | refine rgeta (hi := rfl) (kk := ?_) | refine rialda (hi := rfl) (kk := ?_))
  refine rcvt rfl rfl rfl rfl rfl x1 rfl (w_laysBy (b := 0) (Or.inr (Or.inl rfl)) nI_0.symm (by omega) (by omega) x1 z1 z2 z3 z4 d2) ?_
  rintro r h1 ⟨rfl, g', rfl, hg⟩
  show am_R M_Mo_begin (5, _, []) _ _
  refine rret rfl rfl ?_
  have f : am_fk [141] h (am_set h 141 (.inl (.int, 36, .inl g'))) := fl_set fl_rf (by decide)
  exact ⟨rfl, ⟨ra, rf, rn, rm, sm, by rw [am_set_ne (by omega)]; exact x1, x2.fl f (by decide), x3.fl f (by decide), x4.fl f (by decide), x5.fl f (by decide), x6.fl f (by decide), ⟨g', am_set_eq⟩, x8.fl f (by decide), x9.fl f (by decide), x10.fl f (by decide), x11.fl f (by decide)⟩, ⟨g', am_set_eq, layP_nt y2 hg z5⟩, f⟩
/-- reading a note gives its scene -/
theorem red_sc {b : Nat} {g : Nat → Int32} (hP : P ≤ 8) (r : redP g b 8 h h') (q : ntA P g b S) : mSc P S h' := by
  obtain ⟨f, wh, mi, fe, fl, h1, h2, h3, h4, h5⟩ := r
  refine ⟨wh, mi, fe, fl, h1, h2, h3, h4, fun p hp => ?_⟩
  obtain ⟨r1, r2, r3, r4⟩ := h5 p (by omega)
  obtain ⟨s1, s2, s3, s4⟩ := q.2.2.2 p hp
  exact ⟨r1.trans s1, r2.trans s2, r3.trans s3, r4.trans s4⟩
theorem w_back (R : mRep ⟨⟨len, tx⟩, fa, ⟨N, P, G, wa, me⟩, S, dd, ⟨rc, rx, rh⟩, ⟨bc, bw, bs⟩, sd, i0, i1⟩ h) (A : asD P S' h) : am_T M_Mo_back [.ref 130] h (fun r h' => r = none ∧ mRep ⟨⟨len, tx⟩, fa, ⟨N, P, G, wa, me⟩, S', dd, ⟨rc, rx, rh⟩, ⟨bc, bw, bs⟩, sd, i0, i1⟩ h' ∧ am_fk [130, 134, 137, 138, 139] h h') := by
  obtain ⟨ra, rf, rn, rm, sm, x1, x2, x3, x4, x5, x6, x7, x8, x9, x10, x11⟩ := id R
  obtain ⟨y1, y2, waC, meC, y3, y4, y5, y6⟩ := id x4
  obtain ⟨wh, mi, fe, fl, z1, z2, z3, z4, z5⟩ := id x5
  obtain ⟨ga, d2, d3⟩ := A
  (try unfold am_E); unfold am_T
  repeat (first | refine rs [] rfl rfl rfl rfl ?_ | refine rk rfl rfl ?_ | refine rgoh [] rfl rfl ?_ | refine rgeta (hi := rfl) (kk := ?_) | refine rialda (hi := rfl) (kk := ?_))
  refine rcvt rfl rfl rfl rfl rfl x1 rfl (w_read (b := 0) (Or.inr (Or.inl rfl)) nI_0.symm (by omega) (by omega) x1 z1 z2 z3 z4 d2) ?_
  rintro r h1 ⟨rfl, hr, hm⟩
  show am_R M_Mo_back (5, _, []) _ _
  refine rret rfl rfl ?_
  have f := hr.1
  refine ⟨rfl, ⟨ra, rf, rn, rm, sm, ?_, x2.fl f (by decide), x3.fl f (by decide), x4.fl f (by decide), red_sc y2 hr d3, x6.fl f (by decide), x7.fl f (by decide), x8.fl f (by decide), x9.fl f (by decide), x10.fl f (by decide), x11.fl f (by decide)⟩, f⟩
  rw [hm, d3.1, d3.2.1, d3.2.2.1]
end MFine
