/-! the model's calls: telling and deeds -/
theorem i01 {w : Int32} : (w < 0 ∨ 1 < w) ↔ ¬ w = 0 ∧ ¬ w = 1 := by
  rw [Int32.lt_iff_toInt_lt, Int32.lt_iff_toInt_lt, ← Int32.toInt_inj, ← Int32.toInt_inj]
  have h0 : (0 : Int32).toInt = 0 := by decide
  have h1 : (1 : Int32).toInt = 1 := by decide
  rw [h0, h1]
  omega
section MCalls
variable {h h' : am_H} {len N P rc bc : Nat} {fa G sd : Int32} {tx wa me rx rh bw bs : Nat → Int32} {S S' : Sc} {dd dd' : List Sc} {i0 i1 : Im}
theorem mRep_sc (R : mRep ⟨⟨len, tx⟩, fa, ⟨N, P, G, wa, me⟩, S, dd, ⟨rc, rx, rh⟩, ⟨bc, bw, bs⟩, sd, i0, i1⟩ h) (f : am_fk [134, 137, 138, 139] h h') (s : mSc P S' h') (e : S'.2.2.2.2 = S.2.2.2.2) : mRep ⟨⟨len, tx⟩, fa, ⟨N, P, G, wa, me⟩, S', dd, ⟨rc, rx, rh⟩, ⟨bc, bw, bs⟩, sd, i0, i1⟩ h' := by
  obtain ⟨ra, rf, rn, rm, sm, x1, x2, x3, x4, x5, x6, x7, x8, x9, x10, x11⟩ := id R
  obtain ⟨y1, y2, waC, meC, y3, y4, y5, y6⟩ := id x4
  obtain ⟨wh, mi, fe, fl, z1, z2, z3, z4, z5⟩ := id x5
  refine ⟨ra, rf, rn, rm, sm, ?_, x2.fl f (by decide), x3.fl f (by decide), x4.fl f (by decide), s, x6.fl f (by decide), x7.fl f (by decide), x8.fl f (by decide), x9.fl f (by decide), x10.fl f (by decide), x11.fl f (by decide)⟩
  rw [f.2 _ (by decide), x1, e]
theorem w_aws (hS : wfS N P S) (R : mRep ⟨⟨len, tx⟩, fa, ⟨N, P, G, wa, me⟩, S, dd, ⟨rc, rx, rh⟩, ⟨bc, bw, bs⟩, sd, i0, i1⟩ h) : am_E M_Mo_awaitedSet [.ref 130] h (some (.int (awA 0 G P S))) h := by
  obtain ⟨ra, rf, rn, rm, sm, x1, x2, x3, x4, x5, x6, x7, x8, x9, x10, x11⟩ := id R
  obtain ⟨y1, y2, waC, meC, y3, y4, y5, y6⟩ := id x4
  obtain ⟨wh, mi, fe, fl, z1, z2, z3, z4, z5⟩ := id x5
  refine am_R.imp (w_awaitedSet y1 y2 x1 z1 z2 z3 z4) ?_
  rintro r h' ⟨rfl, v, rfl, hv⟩
  refine ⟨?_, rfl⟩
  congr 2
  refine bt_ext (fun j hj => ?_)
  rw [hv j hj, awA_bt y1 P hS j hj, awP_congr (wh := S.1) (sh := shA 0 S) (wh' := wh) (sh' := shM mi fe fl) (fun p hp => ?_)]
  · constructor
    · exact fun a => a.2
    · rintro ⟨p, hp, a, b⟩
      refine ⟨?_, p, hp, a, b⟩
      obtain ⟨k, hk, e⟩ := hS p hp
      rw [(z5 p hp).1, e, nI_eq (by omega) (by omega)] at a
      omega
  · obtain ⟨q1, q2, q3, q4⟩ := z5 p hp
    refine ⟨q1.symm, ?_⟩
    rw [shA_0 (by omega)]
    unfold shM
    rw [q2, q3, q4]
theorem w_ars (R : mRep ⟨⟨len, tx⟩, fa, ⟨N, P, G, wa, me⟩, S, dd, ⟨rc, rx, rh⟩, ⟨bc, bw, bs⟩, sd, i0, i1⟩ h) : am_E M_Mo_arrivedSet [.ref 130] h (some (.int (arv S.1 wa P))) h := by
  obtain ⟨ra, rf, rn, rm, sm, x1, x2, x3, x4, x5, x6, x7, x8, x9, x10, x11⟩ := id R
  obtain ⟨y1, y2, waC, meC, y3, y4, y5, y6⟩ := id x4
  obtain ⟨wh, mi, fe, fl, z1, z2, z3, z4, z5⟩ := id x5
  rw [← arv_eqP y5 (fun p hp => (z5 p hp).1)]
  exact w_arrivedSet y2 x1 z1 y3
theorem w_shw {k : Nat} {p : Int32} (hp : p = nI k) (hk : k < P) (R : mRep ⟨⟨len, tx⟩, fa, ⟨N, P, G, wa, me⟩, S, dd, ⟨rc, rx, rh⟩, ⟨bc, bw, bs⟩, sd, i0, i1⟩ h) : am_E M_Mo_shows [.ref 130, .int p] h (some (.int (shA 0 S k))) h := by
  obtain ⟨ra, rf, rn, rm, sm, x1, x2, x3, x4, x5, x6, x7, x8, x9, x10, x11⟩ := id R
  obtain ⟨y1, y2, waC, meC, y3, y4, y5, y6⟩ := id x4
  obtain ⟨wh, mi, fe, fl, z1, z2, z3, z4, z5⟩ := id x5
  obtain ⟨q1, q2, q3, q4⟩ := z5 k hk
  rw [shA_0 (by omega), ← q2, ← q3, ← q4]
  exact w_shows hp (by omega) x1 z2 z3 z4
theorem w_told {w : Int32} (W : wfQ ⟨⟨len, tx⟩, fa, ⟨N, P, G, wa, me⟩, S, dd, ⟨rc, rx, rh⟩, ⟨bc, bw, bs⟩, sd, i0, i1⟩) (R : mRep ⟨⟨len, tx⟩, fa, ⟨N, P, G, wa, me⟩, S, dd, ⟨rc, rx, rh⟩, ⟨bc, bw, bs⟩, sd, i0, i1⟩ h) : am_W M_Mo_told [.ref 130, .int w] (o_told w ⟨⟨len, tx⟩, fa, ⟨N, P, G, wa, me⟩, S, dd, ⟨rc, rx, rh⟩, ⟨bc, bw, bs⟩, sd, i0, i1⟩) h := by
  obtain ⟨ra, rf, rn, rm, sm, x1, x2, x3, x4, x5, x6, x7, x8, x9, x10, x11⟩ := id R
  obtain ⟨y1, y2, waC, meC, y3, y4, y5, y6⟩ := id x4
  obtain ⟨wh, mi, fe, fl, z1, z2, z3, z4, z5⟩ := id x5
  obtain ⟨w1, w2, w3, w4, w5, w6, w7, w8, w9, w10, w11⟩ := id W
  unfold am_W o_told
  (try unfold am_E); unfold am_T
  dsimp only
  repeat (first | refine rs [] rfl rfl rfl rfl ?_ | refine rk rfl rfl ?_ | refine rgoh [] rfl rfl ?_ | refine rgeta (hi := rfl) (kk := ?_) | refine rialda (hi := rfl) (kk := ?_))
  refine rsw rfl rfl ?_
  refine swc (fun c => ?_) (fun c0 => ?_)
  · subst c
    repeat (first | refine rs [] rfl rfl rfl rfl ?_ | refine rk rfl rfl ?_ | refine rgoh [] rfl rfl ?_ | refine rgeta (hi := rfl) (kk := ?_) | refine rialda (hi := rfl) (kk := ?_))
    refine rret rfl rfl ?_
    exact ⟨rfl, R, fr_rf⟩
  rw [if_neg c0]
  refine swc (fun c => ?_) (fun c1 => ?_)
  · subst c
    repeat (first | refine rs [] rfl rfl rfl rfl ?_ | refine rk rfl rfl ?_ | refine rgoh [] rfl rfl ?_ | refine rgeta (hi := rfl) (kk := ?_) | refine rialda (hi := rfl) (kk := ?_))
    refine rret rfl rfl ?_
    exact ⟨rfl, R, fr_rf⟩
  rw [if_neg c1]
  refine swc (fun c => ?_) (fun c2 => ?_)
  · subst c
    repeat (first | refine rs [] rfl rfl rfl rfl ?_ | refine rk rfl rfl ?_ | refine rgoh [] rfl rfl ?_ | refine rgeta (hi := rfl) (kk := ?_) | refine rialda (hi := rfl) (kk := ?_))
    refine rret rfl rfl ?_
    exact ⟨rfl, R, fr_rf⟩
  rw [if_neg c2]
  refine swc (fun c => ?_) (fun c3 => ?_)
  · subst c
    repeat (first | refine rs [] rfl rfl rfl rfl ?_ | refine rk rfl rfl ?_ | refine rgoh [] rfl rfl ?_ | refine rgeta (hi := rfl) (kk := ?_) | refine rialda (hi := rfl) (kk := ?_))
    refine rret rfl rfl ?_
    exact ⟨rfl, R, fr_rf⟩
  rw [if_neg c3]
  refine swc (fun c => ?_) (fun c4 => ?_)
  · subst c
    repeat (first | refine rs [] rfl rfl rfl rfl ?_ | refine rk rfl rfl ?_ | refine rgoh [] rfl rfl ?_ | refine rgeta (hi := rfl) (kk := ?_) | refine rialda (hi := rfl) (kk := ?_))
    refine rret rfl rfl ?_
    exact ⟨rfl, R, fr_rf⟩
  rw [if_neg c4]
  refine swc (fun c => ?_) (fun c5 => ?_)
  · subst c
    repeat (first | refine rs [] rfl rfl rfl rfl ?_ | refine rk rfl rfl ?_ | refine rgoh [] rfl rfl ?_ | refine rgeta (hi := rfl) (kk := ?_) | refine rialda (hi := rfl) (kk := ?_))
    refine rret rfl rfl ?_
    exact ⟨rfl, R, fr_rf⟩
  rw [if_neg c5]
  refine swc (fun c => ?_) (fun c6 => ?_)
  · subst c
    repeat (first | refine rs [] rfl rfl rfl rfl ?_ | refine rk rfl rfl ?_ | refine rgoh [] rfl rfl ?_ | refine rgeta (hi := rfl) (kk := ?_) | refine rialda (hi := rfl) (kk := ?_))
    refine rret rfl rfl ?_
    exact ⟨rfl, R, fr_rf⟩
  rw [if_neg c6]
  refine swc (fun c => ?_) (fun c7 => ?_)
  · subst c
    repeat (first | refine rs [] rfl rfl rfl rfl ?_ | refine rk rfl rfl ?_ | refine rgoh [] rfl rfl ?_ | refine rgeta (hi := rfl) (kk := ?_) | refine rialda (hi := rfl) (kk := ?_))
    (first | refine rcvs rfl rfl rfl rfl rfl (by first | assumption | (simp (disch := omega) only [am_set_ne, am_set_eq]; first | assumption | rfl)) rfl (w_aws w5 R) ?_ | refine rcvn rfl rfl rfl rfl rfl (by first | assumption | (simp (disch := omega) only [am_set_ne, am_set_eq]; first | assumption | rfl)) rfl (w_aws w5 R) ?_)
    refine rret rfl rfl ?_
    exact ⟨rfl, R, fr_rf⟩
  rw [if_neg c7]
  refine swc (fun c => ?_) (fun c8 => ?_)
  · subst c
    repeat (first | refine rs [] rfl rfl rfl rfl ?_ | refine rk rfl rfl ?_ | refine rgoh [] rfl rfl ?_ | refine rgeta (hi := rfl) (kk := ?_) | refine rialda (hi := rfl) (kk := ?_))
    (first | refine rcvs rfl rfl rfl rfl rfl (by first | assumption | (simp (disch := omega) only [am_set_ne, am_set_eq]; first | assumption | rfl)) rfl (w_ars R) ?_ | refine rcvn rfl rfl rfl rfl rfl (by first | assumption | (simp (disch := omega) only [am_set_ne, am_set_eq]; first | assumption | rfl)) rfl (w_ars R) ?_)
    refine rret rfl rfl ?_
    exact ⟨rfl, R, fr_rf⟩
  rw [if_neg c8]
  refine swc (fun c => ?_) (fun c9 => ?_)
  · subst c
    repeat (first | refine rs [] rfl rfl rfl rfl ?_ | refine rk rfl rfl ?_ | refine rgoh [] rfl rfl ?_ | refine rgeta (hi := rfl) (kk := ?_) | refine rialda (hi := rfl) (kk := ?_))
    refine rret rfl rfl ?_
    exact ⟨rfl, R, fr_rf⟩
  rw [if_neg c9]
  refine swc (fun c => ?_) (fun c10 => ?_)
  · subst c
    repeat (first | refine rs [] rfl rfl rfl rfl ?_ | refine rk rfl rfl ?_ | refine rgoh [] rfl rfl ?_ | refine rgeta (hi := rfl) (kk := ?_) | refine rialda (hi := rfl) (kk := ?_))
    refine rret rfl rfl ?_
    exact ⟨rfl, R, fr_rf⟩
  rw [if_neg c10]
  refine swc (fun c => ?_) (fun c11 => ?_)
  · subst c
    repeat (first | refine rs [] rfl rfl rfl rfl ?_ | refine rk rfl rfl ?_ | refine rgoh [] rfl rfl ?_ | refine rgeta (hi := rfl) (kk := ?_) | refine rialda (hi := rfl) (kk := ?_))
    refine rret rfl rfl ?_
    exact ⟨rfl, R, fr_rf⟩
  rw [if_neg c11]
  show am_R M_Mo_told (38, _, _) _ _
  repeat (first | refine rs [] rfl rfl rfl rfl ?_ | refine rk rfl rfl ?_ | refine rgoh [] rfl rfl ?_ | refine rgeta (hi := rfl) (kk := ?_) | refine rialda (hi := rfl) (kk := ?_))
  refine rret rfl rfl ?_
  exact ⟨rfl, R, fr_rf⟩
theorem w_person {p w : Int32} (R : mRep ⟨⟨len, tx⟩, fa, ⟨N, P, G, wa, me⟩, S, dd, ⟨rc, rx, rh⟩, ⟨bc, bw, bs⟩, sd, i0, i1⟩ h) : am_W M_Mo_person [.ref 130, .int p, .int w] (o_person p w ⟨⟨len, tx⟩, fa, ⟨N, P, G, wa, me⟩, S, dd, ⟨rc, rx, rh⟩, ⟨bc, bw, bs⟩, sd, i0, i1⟩) h := by
  obtain ⟨ra, rf, rn, rm, sm, x1, x2, x3, x4, x5, x6, x7, x8, x9, x10, x11⟩ := id R
  obtain ⟨y1, y2, waC, meC, y3, y4, y5, y6⟩ := id x4
  obtain ⟨wh, mi, fe, fl, z1, z2, z3, z4, z5⟩ := id x5
  unfold am_W o_person
  (try unfold am_E); unfold am_T
  dsimp only
  repeat (first | refine rs [] rfl rfl rfl rfl ?_ | refine rk rfl rfl ?_ | refine rgoh [] rfl rfl ?_ | refine rgeta (hi := rfl) (kk := ?_) | refine rialda (hi := rfl) (kk := ?_))
  (first | refine rcvs rfl rfl rfl rfl rfl (by first | assumption | (simp (disch := omega) only [am_set_ne, am_set_eq]; first | assumption | rfl)) rfl (w_isPerson y2 x1) ?_ | refine rcvn rfl rfl rfl rfl rfl (by first | assumption | (simp (disch := omega) only [am_set_ne, am_set_eq]; first | assumption | rfl)) rfl (w_isPerson y2 x1) ?_)
  by_cases c : inR p P
  · rw [if_pos c, if_pos c]
    (first | refine rift rfl rfl ?_ | refine riff rfl rfl ?_ | refine rict rfl rfl ?_ | refine ricf rfl rfl ?_)
    obtain ⟨k, hk, rfl⟩ := inR_of c (by omega)
    obtain ⟨e1, e2, e3, e4⟩ := z5 k hk
    rw [nI_clamp (by omega)]
    repeat (first | refine rs [] rfl rfl rfl rfl ?_ | refine rk rfl rfl ?_ | refine rgoh [] rfl rfl ?_ | refine rgeta (hi := rfl) (kk := ?_) | refine rialda (hi := rfl) (kk := ?_))
    refine rsw rfl rfl ?_
    refine swc (fun c => ?_) (fun c0 => ?_)
    · subst c
      repeat (first | refine rs [] rfl rfl rfl rfl ?_ | refine rk rfl rfl ?_ | refine rgoh [] rfl rfl ?_ | refine rgeta (hi := rfl) (kk := ?_) | refine rialda (hi := rfl) (kk := ?_))
      refine rret rfl rfl ?_
      exact ⟨by rw [if_pos rfl, e1], R, fr_rf⟩
    rw [if_neg c0]
    refine swc (fun c => ?_) (fun c1 => ?_)
    · subst c
      repeat (first | refine rs [] rfl rfl rfl rfl ?_ | refine rk rfl rfl ?_ | refine rgoh [] rfl rfl ?_ | refine rgeta (hi := rfl) (kk := ?_) | refine rialda (hi := rfl) (kk := ?_))
      refine rret rfl rfl ?_
      exact ⟨by rw [if_pos rfl, y5 k hk], R, fr_rf⟩
    rw [if_neg c1]
    refine swc (fun c => ?_) (fun c2 => ?_)
    · subst c
      repeat (first | refine rs [] rfl rfl rfl rfl ?_ | refine rk rfl rfl ?_ | refine rgoh [] rfl rfl ?_ | refine rgeta (hi := rfl) (kk := ?_) | refine rialda (hi := rfl) (kk := ?_))
      refine rret rfl rfl ?_
      exact ⟨by rw [if_pos rfl, y6 k hk], R, fr_rf⟩
    rw [if_neg c2]
    refine swc (fun c => ?_) (fun c3 => ?_)
    · subst c
      repeat (first | refine rs [] rfl rfl rfl rfl ?_ | refine rk rfl rfl ?_ | refine rgoh [] rfl rfl ?_ | refine rgeta (hi := rfl) (kk := ?_) | refine rialda (hi := rfl) (kk := ?_))
      refine rret rfl rfl ?_
      exact ⟨by rw [if_pos rfl, e2], R, fr_rf⟩
    rw [if_neg c3]
    refine swc (fun c => ?_) (fun c4 => ?_)
    · subst c
      repeat (first | refine rs [] rfl rfl rfl rfl ?_ | refine rk rfl rfl ?_ | refine rgoh [] rfl rfl ?_ | refine rgeta (hi := rfl) (kk := ?_) | refine rialda (hi := rfl) (kk := ?_))
      refine rret rfl rfl ?_
      exact ⟨by rw [if_pos rfl, e3], R, fr_rf⟩
    rw [if_neg c4]
    refine swc (fun c => ?_) (fun c5 => ?_)
    · subst c
      repeat (first | refine rs [] rfl rfl rfl rfl ?_ | refine rk rfl rfl ?_ | refine rgoh [] rfl rfl ?_ | refine rgeta (hi := rfl) (kk := ?_) | refine rialda (hi := rfl) (kk := ?_))
      refine rret rfl rfl ?_
      exact ⟨by rw [if_pos rfl, e4], R, fr_rf⟩
    rw [if_neg c5]
    refine swc (fun c => ?_) (fun c6 => ?_)
    · subst c
      repeat (first | refine rs [] rfl rfl rfl rfl ?_ | refine rk rfl rfl ?_ | refine rgoh [] rfl rfl ?_ | refine rgeta (hi := rfl) (kk := ?_) | refine rialda (hi := rfl) (kk := ?_))
      (first | refine rcvs rfl rfl rfl rfl rfl (by first | assumption | (simp (disch := omega) only [am_set_ne, am_set_eq]; first | assumption | rfl)) rfl (w_shw rfl hk R) ?_ | refine rcvn rfl rfl rfl rfl rfl (by first | assumption | (simp (disch := omega) only [am_set_ne, am_set_eq]; first | assumption | rfl)) rfl (w_shw rfl hk R) ?_)
      refine rret rfl rfl ?_
      exact ⟨by rw [if_pos rfl], R, fr_rf⟩
    rw [if_neg c6]
    refine swc (fun c => ?_) (fun c7 => ?_)
    · subst c
      repeat (first | refine rs [] rfl rfl rfl rfl ?_ | refine rk rfl rfl ?_ | refine rgoh [] rfl rfl ?_ | refine rgeta (hi := rfl) (kk := ?_) | refine rialda (hi := rfl) (kk := ?_))
      (first | refine rif rfl rfl (fun c8 => ?_) (fun c8 => ?_) | refine ric rfl rfl (fun c8 => ?_) (fun c8 => ?_))
      · repeat (first | refine rs [] rfl rfl rfl rfl ?_ | refine rk rfl rfl ?_ | refine rgoh [] rfl rfl ?_ | refine rgeta (hi := rfl) (kk := ?_) | refine rialda (hi := rfl) (kk := ?_))
        refine rret rfl rfl ?_
        exact ⟨by rw [if_pos rfl, if_pos (by rw [← e1, ← y5 k hk]; exact c8)], R, fr_rf⟩
      · repeat (first | refine rs [] rfl rfl rfl rfl ?_ | refine rk rfl rfl ?_ | refine rgoh [] rfl rfl ?_ | refine rgeta (hi := rfl) (kk := ?_) | refine rialda (hi := rfl) (kk := ?_))
        refine rret rfl rfl ?_
        exact ⟨by rw [if_pos rfl, if_neg (by rw [← e1, ← y5 k hk]; exact c8)], R, fr_rf⟩
    rw [if_neg c7]
    show am_R M_Mo_person (55, _, _) _ _
    repeat (first | refine rs [] rfl rfl rfl rfl ?_ | refine rk rfl rfl ?_ | refine rgoh [] rfl rfl ?_ | refine rgeta (hi := rfl) (kk := ?_) | refine rialda (hi := rfl) (kk := ?_))
    refine rret rfl rfl ?_
    exact ⟨rfl, R, fr_rf⟩
  · rw [if_neg c, if_neg c]
    (first | refine rift rfl rfl ?_ | refine riff rfl rfl ?_ | refine rict rfl rfl ?_ | refine ricf rfl rfl ?_)
    repeat (first | refine rs [] rfl rfl rfl rfl ?_ | refine rk rfl rfl ?_ | refine rgoh [] rfl rfl ?_ | refine rgeta (hi := rfl) (kk := ?_) | refine rialda (hi := rfl) (kk := ?_))
    refine rret rfl rfl ?_
    exact ⟨rfl, R, fr_rf⟩
theorem w_station {x w : Int32} (R : mRep ⟨⟨len, tx⟩, fa, ⟨N, P, G, wa, me⟩, S, dd, ⟨rc, rx, rh⟩, ⟨bc, bw, bs⟩, sd, i0, i1⟩ h) : am_W M_Mo_station [.ref 130, .int x, .int w] (o_station x w ⟨⟨len, tx⟩, fa, ⟨N, P, G, wa, me⟩, S, dd, ⟨rc, rx, rh⟩, ⟨bc, bw, bs⟩, sd, i0, i1⟩) h := by
  obtain ⟨ra, rf, rn, rm, sm, x1, x2, x3, x4, x5, x6, x7, x8, x9, x10, x11⟩ := id R
  obtain ⟨y1, y2, waC, meC, y3, y4, y5, y6⟩ := id x4
  obtain ⟨wh, mi, fe, fl, z1, z2, z3, z4, z5⟩ := id x5
  unfold am_W o_station
  (try unfold am_E); unfold am_T
  dsimp only
  repeat (first | refine rs [] rfl rfl rfl rfl ?_ | refine rk rfl rfl ?_ | refine rgoh [] rfl rfl ?_ | refine rgeta (hi := rfl) (kk := ?_) | refine rialda (hi := rfl) (kk := ?_))
  (first | refine rcvs rfl rfl rfl rfl rfl (by first | assumption | (simp (disch := omega) only [am_set_ne, am_set_eq]; first | assumption | rfl)) rfl (w_isStation y1 x1) ?_ | refine rcvn rfl rfl rfl rfl rfl (by first | assumption | (simp (disch := omega) only [am_set_ne, am_set_eq]; first | assumption | rfl)) rfl (w_isStation y1 x1) ?_)
  by_cases c : inR x N
  · rw [if_pos c, if_pos c]
    (first | refine rift rfl rfl ?_ | refine riff rfl rfl ?_ | refine rict rfl rfl ?_ | refine ricf rfl rfl ?_)
    repeat (first | refine rs [] rfl rfl rfl rfl ?_ | refine rk rfl rfl ?_ | refine rgoh [] rfl rfl ?_ | refine rgeta (hi := rfl) (kk := ?_) | refine rialda (hi := rfl) (kk := ?_))
    refine rcss rfl rfl rfl rfl rfl (w_in) ?_
    by_cases d : w < 0 ∨ 1 < w
    · rw [if_pos d]
      rw [i01] at d
      rw [if_neg d.1, if_neg d.2]
      (first | refine rift rfl rfl ?_ | refine riff rfl rfl ?_ | refine rict rfl rfl ?_ | refine ricf rfl rfl ?_)
      repeat (first | refine rs [] rfl rfl rfl rfl ?_ | refine rk rfl rfl ?_ | refine rgoh [] rfl rfl ?_ | refine rgeta (hi := rfl) (kk := ?_) | refine rialda (hi := rfl) (kk := ?_))
      refine rret rfl rfl ?_
      exact ⟨rfl, R, fr_rf⟩
    · rw [if_neg d]
      (first | refine rift rfl rfl ?_ | refine riff rfl rfl ?_ | refine rict rfl rfl ?_ | refine ricf rfl rfl ?_)
      repeat (first | refine rs [19] rfl rfl rfl rfl ?_ | refine rk rfl rfl ?_ | refine rgoh [19] rfl rfl ?_ | refine rgeta (hi := rfl) (kk := ?_) | refine rialda (hi := rfl) (kk := ?_))
      refine lup (P := fun i => ∀ y, y = nI i → am_R M_Mo_station (19, [.ref 130, .int x, .int w, .int (sta S.1 x i), .int (moA x i S), .int y], []) h _) P ?_ ?_ 0 nI_0.symm
      · rintro y rfl
        repeat (first | refine rs [] rfl rfl rfl rfl ?_ | refine rk rfl rfl ?_ | refine rgoh [] rfl rfl ?_ | refine rgeta (hi := rfl) (kk := ?_) | refine rialda (hi := rfl) (kk := ?_))
        (first | refine rif rfl rfl (fun c1 => ?_) (fun c1 => ?_) | refine ric rfl rfl (fun c1 => ?_) (fun c1 => ?_))
        · repeat (first | refine rs [] rfl rfl rfl rfl ?_ | refine rk rfl rfl ?_ | refine rgoh [] rfl rfl ?_ | refine rgeta (hi := rfl) (kk := ?_) | refine rialda (hi := rfl) (kk := ?_))
          (first | refine rif rfl rfl (fun c2 => ?_) (fun c2 => ?_) | refine ric rfl rfl (fun c2 => ?_) (fun c2 => ?_))
          · repeat (first | refine rs [] rfl rfl rfl rfl ?_ | refine rk rfl rfl ?_ | refine rgoh [] rfl rfl ?_ | refine rgeta (hi := rfl) (kk := ?_) | refine rialda (hi := rfl) (kk := ?_))
            refine rret rfl rfl ?_
            exact ⟨by rw [if_pos c2], R, fr_rf⟩
          · repeat (first | refine rs [] rfl rfl rfl rfl ?_ | refine rk rfl rfl ?_ | refine rgoh [] rfl rfl ?_ | refine rgeta (hi := rfl) (kk := ?_) | refine rialda (hi := rfl) (kk := ?_))
            refine rret rfl rfl ?_
            refine ⟨?_, R, fr_rf⟩
            rw [if_neg c2, if_pos]
            rw [i01] at d
            exact Classical.byContradiction (fun a => d ⟨c2, a⟩)
        · exact absurd (Int32.le_refl _) c1
      · rintro i hi ih y rfl
        have ih := ih _ (nI_succ i).symm
        have es : sta S.1 x (i + 1) = if S.1 i = x then sta S.1 x i ||| sh1 (nI i) else sta S.1 x i := rfl
        have em : moA x (i + 1) S = if S.1 i = x then mxI (moA x i S) (shA 0 S i) else moA x i S := rfl
        rw [es, em] at ih
        repeat (first | refine rs [] rfl rfl rfl rfl ?_ | refine rk rfl rfl ?_ | refine rgoh [] rfl rfl ?_ | refine rgeta (hi := rfl) (kk := ?_) | refine rialda (hi := rfl) (kk := ?_))
        (first | refine rif rfl rfl (fun c1 => ?_) (fun c1 => ?_) | refine ric rfl rfl (fun c1 => ?_) (fun c1 => ?_))
        · exact absurd hi ((nI_lt_iff (by omega) (by omega)).mp c1)
        · repeat (first | refine rs [] rfl rfl rfl rfl ?_ | refine rk rfl rfl ?_ | refine rgoh [] rfl rfl ?_ | refine rgeta (hi := rfl) (kk := ?_) | refine rialda (hi := rfl) (kk := ?_))
          (first | refine rif rfl rfl (fun c2 => ?_) (fun c2 => ?_) | refine ric rfl rfl (fun c2 => ?_) (fun c2 => ?_))
          · rw [(z5 i hi).1] at c2
            rw [if_pos c2, if_pos c2] at ih
            repeat (first | refine rs [] rfl rfl rfl rfl ?_ | refine rk rfl rfl ?_ | refine rgoh [] rfl rfl ?_ | refine rgeta (hi := rfl) (kk := ?_) | refine rialda (hi := rfl) (kk := ?_))
            (first | refine rcvs rfl rfl rfl rfl rfl (by first | assumption | (simp (disch := omega) only [am_set_ne, am_set_eq]; first | assumption | rfl)) rfl (w_shw rfl hi R) ?_ | refine rcvn rfl rfl rfl rfl rfl (by first | assumption | (simp (disch := omega) only [am_set_ne, am_set_eq]; first | assumption | rfl)) rfl (w_shw rfl hi R) ?_)
            repeat (first | refine rs [] rfl rfl rfl rfl ?_ | refine rk rfl rfl ?_ | refine rgoh [] rfl rfl ?_ | refine rgeta (hi := rfl) (kk := ?_) | refine rialda (hi := rfl) (kk := ?_))
            (first | refine rif rfl rfl (fun c3 => ?_) (fun c3 => ?_) | refine ric rfl rfl (fun c3 => ?_) (fun c3 => ?_))
            · repeat (first | refine rs [19] rfl rfl rfl rfl ?_ | refine rk rfl rfl ?_ | refine rgoh [19] rfl rfl ?_ | refine rgeta (hi := rfl) (kk := ?_) | refine rialda (hi := rfl) (kk := ?_))
              unfold mxI at ih
              rw [if_neg (Int32.not_lt.mpr c3)] at ih
              exact ih
            · repeat (first | refine rs [] rfl rfl rfl rfl ?_ | refine rk rfl rfl ?_ | refine rgoh [] rfl rfl ?_ | refine rgeta (hi := rfl) (kk := ?_) | refine rialda (hi := rfl) (kk := ?_))
              (first | refine rcvs rfl rfl rfl rfl rfl (by first | assumption | (simp (disch := omega) only [am_set_ne, am_set_eq]; first | assumption | rfl)) rfl (w_shw rfl hi R) ?_ | refine rcvn rfl rfl rfl rfl rfl (by first | assumption | (simp (disch := omega) only [am_set_ne, am_set_eq]; first | assumption | rfl)) rfl (w_shw rfl hi R) ?_)
              repeat (first | refine rs [19] rfl rfl rfl rfl ?_ | refine rk rfl rfl ?_ | refine rgoh [19] rfl rfl ?_ | refine rgeta (hi := rfl) (kk := ?_) | refine rialda (hi := rfl) (kk := ?_))
              unfold mxI at ih
              rw [if_pos (Int32.not_le.mp c3)] at ih
              exact ih
          · rw [(z5 i hi).1] at c2
            rw [if_neg c2, if_neg c2] at ih
            repeat (first | refine rs [19] rfl rfl rfl rfl ?_ | refine rk rfl rfl ?_ | refine rgoh [19] rfl rfl ?_ | refine rgeta (hi := rfl) (kk := ?_) | refine rialda (hi := rfl) (kk := ?_))
            exact ih
  · rw [if_neg c, if_neg c]
    (first | refine rift rfl rfl ?_ | refine riff rfl rfl ?_ | refine rict rfl rfl ?_ | refine ricf rfl rfl ?_)
    repeat (first | refine rs [] rfl rfl rfl rfl ?_ | refine rk rfl rfl ?_ | refine rgoh [] rfl rfl ?_ | refine rgeta (hi := rfl) (kk := ?_) | refine rialda (hi := rfl) (kk := ?_))
    refine rret rfl rfl ?_
    exact ⟨rfl, R, fr_rf⟩
theorem w_mien {p v : Int32} (R : mRep ⟨⟨len, tx⟩, fa, ⟨N, P, G, wa, me⟩, S, dd, ⟨rc, rx, rh⟩, ⟨bc, bw, bs⟩, sd, i0, i1⟩ h) : am_W M_Mo_mien [.ref 130, .int p, .int v] (o_mien p v ⟨⟨len, tx⟩, fa, ⟨N, P, G, wa, me⟩, S, dd, ⟨rc, rx, rh⟩, ⟨bc, bw, bs⟩, sd, i0, i1⟩) h := by
  obtain ⟨ra, rf, rn, rm, sm, x1, x2, x3, x4, x5, x6, x7, x8, x9, x10, x11⟩ := id R
  obtain ⟨y1, y2, waC, meC, y3, y4, y5, y6⟩ := id x4
  obtain ⟨wh, mi, fe, fl, z1, z2, z3, z4, z5⟩ := id x5
  unfold am_W o_mien
  (try unfold am_E); unfold am_T
  dsimp only
  repeat (first | refine rs [] rfl rfl rfl rfl ?_ | refine rk rfl rfl ?_ | refine rgoh [] rfl rfl ?_ | refine rgeta (hi := rfl) (kk := ?_) | refine rialda (hi := rfl) (kk := ?_))
  (first | refine rcvs rfl rfl rfl rfl rfl (by first | assumption | (simp (disch := omega) only [am_set_ne, am_set_eq]; first | assumption | rfl)) rfl (w_isPerson y2 x1) ?_ | refine rcvn rfl rfl rfl rfl rfl (by first | assumption | (simp (disch := omega) only [am_set_ne, am_set_eq]; first | assumption | rfl)) rfl (w_isPerson y2 x1) ?_)
  by_cases c : inR p P
  · rw [if_pos c, if_pos c]
    (first | refine rift rfl rfl ?_ | refine riff rfl rfl ?_ | refine rict rfl rfl ?_ | refine ricf rfl rfl ?_)
    obtain ⟨k, hk, rfl⟩ := inR_of c (by omega)
    repeat (first | refine rs [] rfl rfl rfl rfl ?_ | refine rk rfl rfl ?_ | refine rgoh [] rfl rfl ?_ | refine rgeta (hi := rfl) (kk := ?_) | refine rialda (hi := rfl) (kk := ?_))
    refine rcss rfl rfl rfl rfl rfl (w_in) ?_
    by_cases d : v < 0 ∨ 9 < v
    · rw [if_pos d, if_pos d]
      (first | refine rift rfl rfl ?_ | refine riff rfl rfl ?_ | refine rict rfl rfl ?_ | refine ricf rfl rfl ?_)
      repeat (first | refine rs [] rfl rfl rfl rfl ?_ | refine rk rfl rfl ?_ | refine rgoh [] rfl rfl ?_ | refine rgeta (hi := rfl) (kk := ?_) | refine rialda (hi := rfl) (kk := ?_))
      refine rret rfl rfl ?_
      exact ⟨rfl, R, fr_rf⟩
    · rw [if_neg d, if_neg d]
      (first | refine rift rfl rfl ?_ | refine riff rfl rfl ?_ | refine rict rfl rfl ?_ | refine ricf rfl rfl ?_)
      repeat (first | refine rs [] rfl rfl rfl rfl ?_ | refine rk rfl rfl ?_ | refine rgoh [] rfl rfl ?_ | refine rgeta (hi := rfl) (kk := ?_) | refine rialda (hi := rfl) (kk := ?_))
      refine rcvt rfl rfl rfl rfl rfl x1 rfl (w_notes R) ?_
      rintro r h1 ⟨rfl, R1, f1⟩
      show am_R M_Mo_mien (15, [.ref 130, .int (nI k), .int v, _], []) _ _
      obtain ⟨ra, rf, rn, rm, sm, x1, x2, x3, x4, x5, x6, x7, x8, x9, x10, x11⟩ := id R1
      obtain ⟨y1, y2, waC, meC, y3, y4, y5, y6⟩ := id x4
      obtain ⟨wh, mi, fe, fl, z1, z2, z3, z4, z5⟩ := id x5
      repeat (first | refine rs [] rfl rfl rfl rfl ?_ | refine rk rfl rfl ?_ | refine rgoh [] rfl rfl ?_ | refine rgeta (hi := rfl) (kk := ?_) | refine rialda (hi := rfl) (kk := ?_))
      refine riasta (hi := rfl) (kk := ?_)
      repeat (first | refine rs [] rfl rfl rfl rfl ?_ | refine rk rfl rfl ?_ | refine rgoh [] rfl rfl ?_ | refine rgeta (hi := rfl) (kk := ?_) | refine rialda (hi := rfl) (kk := ?_))
      refine rret rfl rfl ?_
      rw [nI_clamp (by omega)]
      have f2 : am_fk [134, 137, 138, 139] h1 (am_set h1 137 (iar (upd mi k v))) := fl_set fl_rf (by decide)
      refine ⟨by rw [(z5 k hk).2.1], mRep_sc R1 f2 ⟨wh, upd mi k v, fe, fl, ?_, am_set_eq, ?_, ?_, fun p hp => ?_⟩ rfl, fr_tr (fl_fr f1 (by decide)) (fl_fr f2 (by decide)) (Nat.le_refl _) (Nat.le_refl _)⟩
      · rw [am_set_ne (by omega)]; exact z1
      · rw [am_set_ne (by omega)]; exact z3
      · rw [am_set_ne (by omega)]; exact z4
      · obtain ⟨q1, q2, q3, q4⟩ := z5 p hp
        exact ⟨q1, eqP_upd (fun p hp => (z5 p hp).2.1) p hp, q3, q4⟩
  · rw [if_neg c, if_neg c]
    (first | refine rift rfl rfl ?_ | refine riff rfl rfl ?_ | refine rict rfl rfl ?_ | refine ricf rfl rfl ?_)
    repeat (first | refine rs [] rfl rfl rfl rfl ?_ | refine rk rfl rfl ?_ | refine rgoh [] rfl rfl ?_ | refine rgeta (hi := rfl) (kk := ?_) | refine rialda (hi := rfl) (kk := ?_))
    refine rret rfl rfl ?_
    exact ⟨rfl, R, fr_rf⟩
theorem w_feet {p z : Int32} (R : mRep ⟨⟨len, tx⟩, fa, ⟨N, P, G, wa, me⟩, S, dd, ⟨rc, rx, rh⟩, ⟨bc, bw, bs⟩, sd, i0, i1⟩ h) : am_W M_Mo_feet [.ref 130, .int p, .int z] (o_feet p z ⟨⟨len, tx⟩, fa, ⟨N, P, G, wa, me⟩, S, dd, ⟨rc, rx, rh⟩, ⟨bc, bw, bs⟩, sd, i0, i1⟩) h := by
  obtain ⟨ra, rf, rn, rm, sm, x1, x2, x3, x4, x5, x6, x7, x8, x9, x10, x11⟩ := id R
  obtain ⟨y1, y2, waC, meC, y3, y4, y5, y6⟩ := id x4
  obtain ⟨wh, mi, fe, fl, z1, z2, z3, z4, z5⟩ := id x5
  unfold am_W o_feet
  (try unfold am_E); unfold am_T
  dsimp only
  repeat (first | refine rs [] rfl rfl rfl rfl ?_ | refine rk rfl rfl ?_ | refine rgoh [] rfl rfl ?_ | refine rgeta (hi := rfl) (kk := ?_) | refine rialda (hi := rfl) (kk := ?_))
  (first | refine rcvs rfl rfl rfl rfl rfl (by first | assumption | (simp (disch := omega) only [am_set_ne, am_set_eq]; first | assumption | rfl)) rfl (w_isPerson y2 x1) ?_ | refine rcvn rfl rfl rfl rfl rfl (by first | assumption | (simp (disch := omega) only [am_set_ne, am_set_eq]; first | assumption | rfl)) rfl (w_isPerson y2 x1) ?_)
  by_cases c : inR p P
  · rw [if_pos c, if_pos c]
    (first | refine rift rfl rfl ?_ | refine riff rfl rfl ?_ | refine rict rfl rfl ?_ | refine ricf rfl rfl ?_)
    obtain ⟨k, hk, rfl⟩ := inR_of c (by omega)
    repeat (first | refine rs [] rfl rfl rfl rfl ?_ | refine rk rfl rfl ?_ | refine rgoh [] rfl rfl ?_ | refine rgeta (hi := rfl) (kk := ?_) | refine rialda (hi := rfl) (kk := ?_))
    refine rcvt rfl rfl rfl rfl rfl x1 rfl (w_notes R) ?_
    rintro r h1 ⟨rfl, R1, f1⟩
    show am_R M_Mo_feet (8, [.ref 130, .int (nI k), .int z, _], []) _ _
    obtain ⟨ra, rf, rn, rm, sm, x1, x2, x3, x4, x5, x6, x7, x8, x9, x10, x11⟩ := id R1
    obtain ⟨y1, y2, waC, meC, y3, y4, y5, y6⟩ := id x4
    obtain ⟨wh, mi, fe, fl, z1, z2, z3, z4, z5⟩ := id x5
    repeat (first | refine rs [] rfl rfl rfl rfl ?_ | refine rk rfl rfl ?_ | refine rgoh [] rfl rfl ?_ | refine rgeta (hi := rfl) (kk := ?_) | refine rialda (hi := rfl) (kk := ?_))
    (first | refine rif rfl rfl (fun c1 => ?_) (fun c1 => ?_) | refine ric rfl rfl (fun c1 => ?_) (fun c1 => ?_))
    · rw [if_pos c1]
      · repeat (first | refine rs [] rfl rfl rfl rfl ?_ | refine rk rfl rfl ?_ | refine rgoh [] rfl rfl ?_ | refine rgeta (hi := rfl) (kk := ?_) | refine rialda (hi := rfl) (kk := ?_))
        refine riasta (hi := rfl) (kk := ?_)
        repeat (first | refine rs [] rfl rfl rfl rfl ?_ | refine rk rfl rfl ?_ | refine rgoh [] rfl rfl ?_ | refine rgeta (hi := rfl) (kk := ?_) | refine rialda (hi := rfl) (kk := ?_))
        refine rret rfl rfl ?_
        rw [nI_clamp (by omega)]
        have f2 : am_fk [134, 137, 138, 139] h1 (am_set h1 138 (iar (upd fe k 0))) := fl_set fl_rf (by decide)
        refine ⟨by rw [(z5 k hk).2.2.1], mRep_sc R1 f2 ⟨wh, mi, upd fe k 0, fl, ?_, ?_, am_set_eq, ?_, fun p hp => ?_⟩ rfl, fr_tr (fl_fr f1 (by decide)) (fl_fr f2 (by decide)) (Nat.le_refl _) (Nat.le_refl _)⟩
        · rw [am_set_ne (by omega)]; exact z1
        · rw [am_set_ne (by omega)]; exact z2
        · rw [am_set_ne (by omega)]; exact z4
        · obtain ⟨q1, q2, q3, q4⟩ := z5 p hp
          exact ⟨q1, q2, eqP_upd (fun p hp => (z5 p hp).2.2.1) p hp, q4⟩
    · rw [if_neg c1]
      · repeat (first | refine rs [] rfl rfl rfl rfl ?_ | refine rk rfl rfl ?_ | refine rgoh [] rfl rfl ?_ | refine rgeta (hi := rfl) (kk := ?_) | refine rialda (hi := rfl) (kk := ?_))
        refine riasta (hi := rfl) (kk := ?_)
        repeat (first | refine rs [] rfl rfl rfl rfl ?_ | refine rk rfl rfl ?_ | refine rgoh [] rfl rfl ?_ | refine rgeta (hi := rfl) (kk := ?_) | refine rialda (hi := rfl) (kk := ?_))
        refine rret rfl rfl ?_
        rw [nI_clamp (by omega)]
        have f2 : am_fk [134, 137, 138, 139] h1 (am_set h1 138 (iar (upd fe k 1))) := fl_set fl_rf (by decide)
        refine ⟨by rw [(z5 k hk).2.2.1], mRep_sc R1 f2 ⟨wh, mi, upd fe k 1, fl, ?_, ?_, am_set_eq, ?_, fun p hp => ?_⟩ rfl, fr_tr (fl_fr f1 (by decide)) (fl_fr f2 (by decide)) (Nat.le_refl _) (Nat.le_refl _)⟩
        · rw [am_set_ne (by omega)]; exact z1
        · rw [am_set_ne (by omega)]; exact z2
        · rw [am_set_ne (by omega)]; exact z4
        · obtain ⟨q1, q2, q3, q4⟩ := z5 p hp
          exact ⟨q1, q2, eqP_upd (fun p hp => (z5 p hp).2.2.1) p hp, q4⟩
  · rw [if_neg c, if_neg c]
    (first | refine rift rfl rfl ?_ | refine riff rfl rfl ?_ | refine rict rfl rfl ?_ | refine ricf rfl rfl ?_)
    repeat (first | refine rs [] rfl rfl rfl rfl ?_ | refine rk rfl rfl ?_ | refine rgoh [] rfl rfl ?_ | refine rgeta (hi := rfl) (kk := ?_) | refine rialda (hi := rfl) (kk := ?_))
    refine rret rfl rfl ?_
    exact ⟨rfl, R, fr_rf⟩
theorem w_flowers {p z : Int32} (R : mRep ⟨⟨len, tx⟩, fa, ⟨N, P, G, wa, me⟩, S, dd, ⟨rc, rx, rh⟩, ⟨bc, bw, bs⟩, sd, i0, i1⟩ h) : am_W M_Mo_flowers [.ref 130, .int p, .int z] (o_flowers p z ⟨⟨len, tx⟩, fa, ⟨N, P, G, wa, me⟩, S, dd, ⟨rc, rx, rh⟩, ⟨bc, bw, bs⟩, sd, i0, i1⟩) h := by
  obtain ⟨ra, rf, rn, rm, sm, x1, x2, x3, x4, x5, x6, x7, x8, x9, x10, x11⟩ := id R
  obtain ⟨y1, y2, waC, meC, y3, y4, y5, y6⟩ := id x4
  obtain ⟨wh, mi, fe, fl, z1, z2, z3, z4, z5⟩ := id x5
  unfold am_W o_flowers
  (try unfold am_E); unfold am_T
  dsimp only
  repeat (first | refine rs [] rfl rfl rfl rfl ?_ | refine rk rfl rfl ?_ | refine rgoh [] rfl rfl ?_ | refine rgeta (hi := rfl) (kk := ?_) | refine rialda (hi := rfl) (kk := ?_))
  (first | refine rcvs rfl rfl rfl rfl rfl (by first | assumption | (simp (disch := omega) only [am_set_ne, am_set_eq]; first | assumption | rfl)) rfl (w_isPerson y2 x1) ?_ | refine rcvn rfl rfl rfl rfl rfl (by first | assumption | (simp (disch := omega) only [am_set_ne, am_set_eq]; first | assumption | rfl)) rfl (w_isPerson y2 x1) ?_)
  by_cases c : inR p P
  · rw [if_pos c, if_pos c]
    (first | refine rift rfl rfl ?_ | refine riff rfl rfl ?_ | refine rict rfl rfl ?_ | refine ricf rfl rfl ?_)
    obtain ⟨k, hk, rfl⟩ := inR_of c (by omega)
    repeat (first | refine rs [] rfl rfl rfl rfl ?_ | refine rk rfl rfl ?_ | refine rgoh [] rfl rfl ?_ | refine rgeta (hi := rfl) (kk := ?_) | refine rialda (hi := rfl) (kk := ?_))
    refine rcvt rfl rfl rfl rfl rfl x1 rfl (w_notes R) ?_
    rintro r h1 ⟨rfl, R1, f1⟩
    show am_R M_Mo_flowers (8, [.ref 130, .int (nI k), .int z, _], []) _ _
    obtain ⟨ra, rf, rn, rm, sm, x1, x2, x3, x4, x5, x6, x7, x8, x9, x10, x11⟩ := id R1
    obtain ⟨y1, y2, waC, meC, y3, y4, y5, y6⟩ := id x4
    obtain ⟨wh, mi, fe, fl, z1, z2, z3, z4, z5⟩ := id x5
    repeat (first | refine rs [] rfl rfl rfl rfl ?_ | refine rk rfl rfl ?_ | refine rgoh [] rfl rfl ?_ | refine rgeta (hi := rfl) (kk := ?_) | refine rialda (hi := rfl) (kk := ?_))
    (first | refine rif rfl rfl (fun c1 => ?_) (fun c1 => ?_) | refine ric rfl rfl (fun c1 => ?_) (fun c1 => ?_))
    · rw [if_pos c1]
      · repeat (first | refine rs [] rfl rfl rfl rfl ?_ | refine rk rfl rfl ?_ | refine rgoh [] rfl rfl ?_ | refine rgeta (hi := rfl) (kk := ?_) | refine rialda (hi := rfl) (kk := ?_))
        refine riasta (hi := rfl) (kk := ?_)
        repeat (first | refine rs [] rfl rfl rfl rfl ?_ | refine rk rfl rfl ?_ | refine rgoh [] rfl rfl ?_ | refine rgeta (hi := rfl) (kk := ?_) | refine rialda (hi := rfl) (kk := ?_))
        refine rret rfl rfl ?_
        rw [nI_clamp (by omega)]
        have f2 : am_fk [134, 137, 138, 139] h1 (am_set h1 139 (iar (upd fl k 0))) := fl_set fl_rf (by decide)
        refine ⟨by rw [(z5 k hk).2.2.2], mRep_sc R1 f2 ⟨wh, mi, fe, upd fl k 0, ?_, ?_, ?_, am_set_eq, fun p hp => ?_⟩ rfl, fr_tr (fl_fr f1 (by decide)) (fl_fr f2 (by decide)) (Nat.le_refl _) (Nat.le_refl _)⟩
        · rw [am_set_ne (by omega)]; exact z1
        · rw [am_set_ne (by omega)]; exact z2
        · rw [am_set_ne (by omega)]; exact z3
        · obtain ⟨q1, q2, q3, q4⟩ := z5 p hp
          exact ⟨q1, q2, q3, eqP_upd (fun p hp => (z5 p hp).2.2.2) p hp⟩
    · rw [if_neg c1]
      · repeat (first | refine rs [] rfl rfl rfl rfl ?_ | refine rk rfl rfl ?_ | refine rgoh [] rfl rfl ?_ | refine rgeta (hi := rfl) (kk := ?_) | refine rialda (hi := rfl) (kk := ?_))
        refine riasta (hi := rfl) (kk := ?_)
        repeat (first | refine rs [] rfl rfl rfl rfl ?_ | refine rk rfl rfl ?_ | refine rgoh [] rfl rfl ?_ | refine rgeta (hi := rfl) (kk := ?_) | refine rialda (hi := rfl) (kk := ?_))
        refine rret rfl rfl ?_
        rw [nI_clamp (by omega)]
        have f2 : am_fk [134, 137, 138, 139] h1 (am_set h1 139 (iar (upd fl k 1))) := fl_set fl_rf (by decide)
        refine ⟨by rw [(z5 k hk).2.2.2], mRep_sc R1 f2 ⟨wh, mi, fe, upd fl k 1, ?_, ?_, ?_, am_set_eq, fun p hp => ?_⟩ rfl, fr_tr (fl_fr f1 (by decide)) (fl_fr f2 (by decide)) (Nat.le_refl _) (Nat.le_refl _)⟩
        · rw [am_set_ne (by omega)]; exact z1
        · rw [am_set_ne (by omega)]; exact z2
        · rw [am_set_ne (by omega)]; exact z3
        · obtain ⟨q1, q2, q3, q4⟩ := z5 p hp
          exact ⟨q1, q2, q3, eqP_upd (fun p hp => (z5 p hp).2.2.2) p hp⟩
  · rw [if_neg c, if_neg c]
    (first | refine rift rfl rfl ?_ | refine riff rfl rfl ?_ | refine rict rfl rfl ?_ | refine ricf rfl rfl ?_)
    repeat (first | refine rs [] rfl rfl rfl rfl ?_ | refine rk rfl rfl ?_ | refine rgoh [] rfl rfl ?_ | refine rgeta (hi := rfl) (kk := ?_) | refine rialda (hi := rfl) (kk := ?_))
    refine rret rfl rfl ?_
    exact ⟨rfl, R, fr_rf⟩
theorem w_walk {p x : Int32} (R : mRep ⟨⟨len, tx⟩, fa, ⟨N, P, G, wa, me⟩, S, dd, ⟨rc, rx, rh⟩, ⟨bc, bw, bs⟩, sd, i0, i1⟩ h) : am_W M_Mo_walk [.ref 130, .int p, .int x] (o_walk p x ⟨⟨len, tx⟩, fa, ⟨N, P, G, wa, me⟩, S, dd, ⟨rc, rx, rh⟩, ⟨bc, bw, bs⟩, sd, i0, i1⟩) h := by
  obtain ⟨ra, rf, rn, rm, sm, x1, x2, x3, x4, x5, x6, x7, x8, x9, x10, x11⟩ := id R
  obtain ⟨y1, y2, waC, meC, y3, y4, y5, y6⟩ := id x4
  obtain ⟨wh, mi, fe, fl, z1, z2, z3, z4, z5⟩ := id x5
  unfold am_W o_walk
  (try unfold am_E); unfold am_T
  dsimp only
  repeat (first | refine rs [] rfl rfl rfl rfl ?_ | refine rk rfl rfl ?_ | refine rgoh [] rfl rfl ?_ | refine rgeta (hi := rfl) (kk := ?_) | refine rialda (hi := rfl) (kk := ?_))
  (first | refine rcvs rfl rfl rfl rfl rfl (by first | assumption | (simp (disch := omega) only [am_set_ne, am_set_eq]; first | assumption | rfl)) rfl (w_isPerson y2 x1) ?_ | refine rcvn rfl rfl rfl rfl rfl (by first | assumption | (simp (disch := omega) only [am_set_ne, am_set_eq]; first | assumption | rfl)) rfl (w_isPerson y2 x1) ?_)
  by_cases c : inR p P
  · rw [if_pos c]
    (first | refine rift rfl rfl ?_ | refine riff rfl rfl ?_ | refine rict rfl rfl ?_ | refine ricf rfl rfl ?_)
    repeat (first | refine rs [] rfl rfl rfl rfl ?_ | refine rk rfl rfl ?_ | refine rgoh [] rfl rfl ?_ | refine rgeta (hi := rfl) (kk := ?_) | refine rialda (hi := rfl) (kk := ?_))
    (first | refine rcvs rfl rfl rfl rfl rfl (by first | assumption | (simp (disch := omega) only [am_set_ne, am_set_eq]; first | assumption | rfl)) rfl (w_isStation y1 x1) ?_ | refine rcvn rfl rfl rfl rfl rfl (by first | assumption | (simp (disch := omega) only [am_set_ne, am_set_eq]; first | assumption | rfl)) rfl (w_isStation y1 x1) ?_)
    by_cases e : inR x N
    · rw [if_pos e, if_pos ⟨c, e⟩]
      (first | refine rift rfl rfl ?_ | refine riff rfl rfl ?_ | refine rict rfl rfl ?_ | refine ricf rfl rfl ?_)
      obtain ⟨k, hk, rfl⟩ := inR_of c (by omega)
      repeat (first | refine rs [] rfl rfl rfl rfl ?_ | refine rk rfl rfl ?_ | refine rgoh [] rfl rfl ?_ | refine rgeta (hi := rfl) (kk := ?_) | refine rialda (hi := rfl) (kk := ?_))
      refine rcvt rfl rfl rfl rfl rfl x1 rfl (w_notes R) ?_
      rintro r h1 ⟨rfl, R1, f1⟩
      show am_R M_Mo_walk (12, [.ref 130, .int (nI k), .int x, _], []) _ _
      obtain ⟨ra, rf, rn, rm, sm, x1, x2, x3, x4, x5, x6, x7, x8, x9, x10, x11⟩ := id R1
      obtain ⟨y1, y2, waC, meC, y3, y4, y5, y6⟩ := id x4
      obtain ⟨wh, mi, fe, fl, z1, z2, z3, z4, z5⟩ := id x5
      repeat (first | refine rs [] rfl rfl rfl rfl ?_ | refine rk rfl rfl ?_ | refine rgoh [] rfl rfl ?_ | refine rgeta (hi := rfl) (kk := ?_) | refine rialda (hi := rfl) (kk := ?_))
      refine riasta (hi := rfl) (kk := ?_)
      have f2 : am_fk [134, 137, 138, 139] h1 (am_set h1 134 (iar (upd wh k x))) := fl_set fl_rf (by decide)
      have R2 := mRep_sc (S' := (upd S.1 k x, S.2)) R1 f2 ⟨upd wh k x, mi, fe, fl, am_set_eq, by rw [am_set_ne (by omega)]; exact z2, by rw [am_set_ne (by omega)]; exact z3, by rw [am_set_ne (by omega)]; exact z4, fun p hp => ⟨eqP_upd (fun p hp => (z5 p hp).1) p hp, (z5 p hp).2⟩⟩ rfl
      rw [nI_clamp (by omega), ← (z5 k hk).1]
      repeat (first | refine rs [] rfl rfl rfl rfl ?_ | refine rk rfl rfl ?_ | refine rgoh [] rfl rfl ?_ | refine rgeta (hi := rfl) (kk := ?_) | refine rialda (hi := rfl) (kk := ?_))
      (first | refine rif rfl rfl (fun c1 => ?_) (fun c1 => ?_) | refine ric rfl rfl (fun c1 => ?_) (fun c1 => ?_))
      · repeat (first | refine rs [] rfl rfl rfl rfl ?_ | refine rk rfl rfl ?_ | refine rgoh [] rfl rfl ?_ | refine rgeta (hi := rfl) (kk := ?_) | refine rialda (hi := rfl) (kk := ?_))
        refine rret rfl rfl ?_
        rw [if_pos c1]
        exact ⟨rfl, R2, fr_tr (fl_fr f1 (by decide)) (fl_fr f2 (by decide)) (Nat.le_refl _) (Nat.le_refl _)⟩
      · repeat (first | refine rs [] rfl rfl rfl rfl ?_ | refine rk rfl rfl ?_ | refine rgoh [] rfl rfl ?_ | refine rgeta (hi := rfl) (kk := ?_) | refine rialda (hi := rfl) (kk := ?_))
        refine rret rfl rfl ?_
        rw [if_neg c1]
        exact ⟨by rw [Int32.zero_sub], R2, fr_tr (fl_fr f1 (by decide)) (fl_fr f2 (by decide)) (Nat.le_refl _) (Nat.le_refl _)⟩
    · rw [if_neg e, if_neg (fun a => e a.2)]
      (first | refine rift rfl rfl ?_ | refine riff rfl rfl ?_ | refine rict rfl rfl ?_ | refine ricf rfl rfl ?_)
      repeat (first | refine rs [] rfl rfl rfl rfl ?_ | refine rk rfl rfl ?_ | refine rgoh [] rfl rfl ?_ | refine rgeta (hi := rfl) (kk := ?_) | refine rialda (hi := rfl) (kk := ?_))
      refine rret rfl rfl ?_
      exact ⟨rfl, R, fr_rf⟩
  · rw [if_neg c, if_neg (fun a => c a.1)]
    (first | refine rift rfl rfl ?_ | refine riff rfl rfl ?_ | refine rict rfl rfl ?_ | refine ricf rfl rfl ?_)
    repeat (first | refine rs [] rfl rfl rfl rfl ?_ | refine rk rfl rfl ?_ | refine rgoh [] rfl rfl ?_ | refine rgeta (hi := rfl) (kk := ?_) | refine rialda (hi := rfl) (kk := ?_))
    refine rret rfl rfl ?_
    exact ⟨rfl, R, fr_rf⟩
theorem w_fog {v : Int32} (R : mRep ⟨⟨len, tx⟩, fa, ⟨N, P, G, wa, me⟩, S, dd, ⟨rc, rx, rh⟩, ⟨bc, bw, bs⟩, sd, i0, i1⟩ h) : am_W M_Mo_fog [.ref 130, .int v] (o_fog v ⟨⟨len, tx⟩, fa, ⟨N, P, G, wa, me⟩, S, dd, ⟨rc, rx, rh⟩, ⟨bc, bw, bs⟩, sd, i0, i1⟩) h := by
  obtain ⟨ra, rf, rn, rm, sm, x1, x2, x3, x4, x5, x6, x7, x8, x9, x10, x11⟩ := id R
  obtain ⟨y1, y2, waC, meC, y3, y4, y5, y6⟩ := id x4
  obtain ⟨wh, mi, fe, fl, z1, z2, z3, z4, z5⟩ := id x5
  unfold am_W o_fog
  (try unfold am_E); unfold am_T
  dsimp only
  repeat (first | refine rs [] rfl rfl rfl rfl ?_ | refine rk rfl rfl ?_ | refine rgoh [] rfl rfl ?_ | refine rgeta (hi := rfl) (kk := ?_) | refine rialda (hi := rfl) (kk := ?_))
  refine rcss rfl rfl rfl rfl rfl (w_in) ?_
  by_cases d : v < 0 ∨ 9 < v
  · rw [if_pos d, if_pos d]
    (first | refine rift rfl rfl ?_ | refine riff rfl rfl ?_ | refine rict rfl rfl ?_ | refine ricf rfl rfl ?_)
    repeat (first | refine rs [] rfl rfl rfl rfl ?_ | refine rk rfl rfl ?_ | refine rgoh [] rfl rfl ?_ | refine rgeta (hi := rfl) (kk := ?_) | refine rialda (hi := rfl) (kk := ?_))
    refine rret rfl rfl ?_
    exact ⟨rfl, R, fr_rf⟩
  · rw [if_neg d, if_neg d]
    (first | refine rift rfl rfl ?_ | refine riff rfl rfl ?_ | refine rict rfl rfl ?_ | refine ricf rfl rfl ?_)
    repeat (first | refine rs [] rfl rfl rfl rfl ?_ | refine rk rfl rfl ?_ | refine rgoh [] rfl rfl ?_ | refine rgeta (hi := rfl) (kk := ?_) | refine rialda (hi := rfl) (kk := ?_))
    by_cases e : N = 0
    · rw [if_pos e]
      (first | refine rif rfl rfl (fun c1 => ?_) (fun c1 => ?_) | refine ric rfl rfl (fun c1 => ?_) (fun c1 => ?_))
      · repeat (first | refine rs [] rfl rfl rfl rfl ?_ | refine rk rfl rfl ?_ | refine rgoh [] rfl rfl ?_ | refine rgeta (hi := rfl) (kk := ?_) | refine rialda (hi := rfl) (kk := ?_))
        refine rret rfl rfl ?_
        exact ⟨rfl, R, fr_rf⟩
      · exact absurd (by rw [e]; rfl) c1
    · rw [if_neg e]
      (first | refine rif rfl rfl (fun c1 => ?_) (fun c1 => ?_) | refine ric rfl rfl (fun c1 => ?_) (fun c1 => ?_))
      · exact absurd c1 (nI_ne0 (by omega) (by omega))
      · repeat (first | refine rs [] rfl rfl rfl rfl ?_ | refine rk rfl rfl ?_ | refine rgoh [] rfl rfl ?_ | refine rgeta (hi := rfl) (kk := ?_) | refine rialda (hi := rfl) (kk := ?_))
        refine rcvt rfl rfl rfl rfl rfl x1 rfl (w_notes R) ?_
        rintro r h1 ⟨rfl, R1, f1⟩
        show am_R M_Mo_fog (14, [.ref 130, .int v, _], []) _ _
        obtain ⟨ra, rf, rn, rm, sm, x1, x2, x3, x4, x5, x6, x7, x8, x9, x10, x11⟩ := id R1
        obtain ⟨y1, y2, waC, meC, y3, y4, y5, y6⟩ := id x4
        obtain ⟨wh, mi, fe, fl, z1, z2, z3, z4, z5⟩ := id x5
        repeat (first | refine rs [] rfl rfl rfl rfl ?_ | refine rk rfl rfl ?_ | refine rgoh [] rfl rfl ?_ | refine rgeta (hi := rfl) (kk := ?_) | refine rialda (hi := rfl) (kk := ?_))
        refine rputa (hi := rfl) (kk := ?_)
        repeat (first | refine rs [] rfl rfl rfl rfl ?_ | refine rk rfl rfl ?_ | refine rgoh [] rfl rfl ?_ | refine rgeta (hi := rfl) (kk := ?_) | refine rialda (hi := rfl) (kk := ?_))
        refine rret rfl rfl ?_
        have f : am_fk [130] h1 (am_set h1 130 (mO (nI len) fa ra rf rn rm (nI N) G v (nI P) S.2.2.2.2.2.1 S.2.2.2.2.2.2 (nI (dnote dd S).length) sd.toInt64 (nI rc) sm (nI bc))) := fl_set fl_rf (by decide)
        exact ⟨rfl, ⟨ra, rf, rn, rm, sm, am_set_eq, x2.fl f (by decide), x3.fl f (by decide), x4.fl f (by decide), x5.fl f (by decide), x6.fl f (by decide), x7.fl f (by decide), x8.fl f (by decide), x9.fl f (by decide), x10.fl f (by decide), x11.fl f (by decide)⟩, fr_tr (fl_fr f1 (by decide)) (fl_fr f (by decide)) (Nat.le_refl _) (Nat.le_refl _)⟩
end MCalls
