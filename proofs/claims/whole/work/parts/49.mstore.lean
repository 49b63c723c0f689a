/-! the model's calls: seed, tear, ran, write, judge, train, undo, keep, goBack -/
section MStore
variable {h h' : am_H} {len N P rc bc : Nat} {fa G sd : Int32} {tx wa me rx rh bw bs : Nat → Int32} {S S' : Sc} {dd dd' : List Sc} {i0 i1 : Im}
theorem w_seed {v : Int32} (R : mRep ⟨⟨len, tx⟩, fa, ⟨N, P, G, wa, me⟩, S, dd, ⟨rc, rx, rh⟩, ⟨bc, bw, bs⟩, sd, i0, i1⟩ h) : am_W M_Mo_seed [.ref 130, .int v] (o_seed v ⟨⟨len, tx⟩, fa, ⟨N, P, G, wa, me⟩, S, dd, ⟨rc, rx, rh⟩, ⟨bc, bw, bs⟩, sd, i0, i1⟩) h := by
  obtain ⟨ra, rf, rn, rm, sm, x1, x2, x3, x4, x5, x6, x7, x8, x9, x10, x11⟩ := id R
  obtain ⟨y1, y2, waC, meC, y3, y4, y5, y6⟩ := id x4
  obtain ⟨wh, mi, fe, fl, z1, z2, z3, z4, z5⟩ := id x5
  unfold am_W o_seed
  (try unfold am_E); unfold am_T
  dsimp only
  repeat (first | refine rs [] rfl rfl rfl rfl ?_ | refine rk rfl rfl ?_ | refine rgoh [] rfl rfl ?_ | refine rgeta (hi := rfl) (kk := ?_) | refine rialda (hi := rfl) (kk := ?_))
  (first | refine rif rfl rfl (fun c1 => ?_) (fun c1 => ?_) | refine ric rfl rfl (fun c1 => ?_) (fun c1 => ?_))
  · rw [if_neg (Int32.not_lt.mpr c1)]
    repeat (first | refine rs [] rfl rfl rfl rfl ?_ | refine rk rfl rfl ?_ | refine rgoh [] rfl rfl ?_ | refine rgeta (hi := rfl) (kk := ?_) | refine rialda (hi := rfl) (kk := ?_))
    refine rputa (hi := rfl) (kk := ?_)
    repeat (first | refine rs [] rfl rfl rfl rfl ?_ | refine rk rfl rfl ?_ | refine rgoh [] rfl rfl ?_ | refine rgeta (hi := rfl) (kk := ?_) | refine rialda (hi := rfl) (kk := ?_))
    refine rret rfl rfl ?_
    have f : am_fk [130] h (am_set h 130 (mO (nI len) fa ra rf rn rm (nI N) G S.2.2.2.2.1 (nI P) S.2.2.2.2.2.1 S.2.2.2.2.2.2 (nI dd.length) v.toInt64 (nI rc) sm (nI bc))) := fl_set fl_rf (by decide)
    exact ⟨by rw [Int32.toInt32_toInt64], ⟨ra, rf, rn, rm, sm, am_set_eq, x2.fl f (by decide), x3.fl f (by decide), x4.fl f (by decide), x5.fl f (by decide), x6.fl f (by decide), x7.fl f (by decide), x8.fl f (by decide), x9.fl f (by decide), x10.fl f (by decide), x11.fl f (by decide)⟩, fl_fr f (by decide)⟩
  · rw [if_pos (Int32.not_le.mp c1)]
    repeat (first | refine rs [] rfl rfl rfl rfl ?_ | refine rk rfl rfl ?_ | refine rgoh [] rfl rfl ?_ | refine rgeta (hi := rfl) (kk := ?_) | refine rialda (hi := rfl) (kk := ?_))
    refine rret rfl rfl ?_
    exact ⟨rfl, R, fr_rf⟩
theorem w_tear (R : mRep ⟨⟨len, tx⟩, fa, ⟨N, P, G, wa, me⟩, S, dd, ⟨rc, rx, rh⟩, ⟨bc, bw, bs⟩, sd, i0, i1⟩ h) : am_W M_Mo_tear [.ref 130] (o_tear ⟨⟨len, tx⟩, fa, ⟨N, P, G, wa, me⟩, S, dd, ⟨rc, rx, rh⟩, ⟨bc, bw, bs⟩, sd, i0, i1⟩) h := by
  obtain ⟨ra, rf, rn, rm, sm, x1, x2, x3, x4, x5, x6, x7, x8, x9, x10, x11⟩ := id R
  obtain ⟨y1, y2, waC, meC, y3, y4, y5, y6⟩ := id x4
  obtain ⟨wh, mi, fe, fl, z1, z2, z3, z4, z5⟩ := id x5
  unfold am_W o_tear
  (try unfold am_E); unfold am_T
  dsimp only
  repeat (first | refine rs [] rfl rfl rfl rfl ?_ | refine rk rfl rfl ?_ | refine rgoh [] rfl rfl ?_ | refine rgeta (hi := rfl) (kk := ?_) | refine rialda (hi := rfl) (kk := ?_))
  refine rputa (hi := rfl) (kk := ?_)
  repeat (first | refine rs [] rfl rfl rfl rfl ?_ | refine rk rfl rfl ?_ | refine rgoh [] rfl rfl ?_ | refine rgeta (hi := rfl) (kk := ?_) | refine rialda (hi := rfl) (kk := ?_))
  refine rret rfl rfl ?_
  rw [am_set_set]
  have f : am_fk [130] h (am_set h 130 (mO (nI len) fa ra rf rn rm (nI N) G S.2.2.2.2.1 (nI P) S.2.2.2.2.2.1 S.2.2.2.2.2.2 (nI dd.length) sd.toInt64 (nI 0) sm (nI 0))) := fl_set fl_rf (by decide)
  obtain ⟨-, u1, u2⟩ := x8.fl f (by decide)
  obtain ⟨-, gb, u3, -⟩ := x10.fl f (by decide)
  exact ⟨rfl, ⟨ra, rf, rn, rm, sm, am_set_eq, x2.fl f (by decide), x3.fl f (by decide), x4.fl f (by decide), x5.fl f (by decide), x6.fl f (by decide), x7.fl f (by decide), ⟨by omega, u1, u2⟩, x9.fl f (by decide), ⟨by omega, gb, u3, fun i hi => by omega⟩, x11.fl f (by decide)⟩, fl_fr f (by decide)⟩
theorem w_ran {x z : Int32} (hz : z = 0 ∨ z = 1) (R : mRep ⟨⟨len, tx⟩, fa, ⟨N, P, G, wa, me⟩, S, dd, ⟨rc, rx, rh⟩, ⟨bc, bw, bs⟩, sd, i0, i1⟩ h) : am_W M_Mo_ran [.ref 130, .int x, .int z] (o_ran x z ⟨⟨len, tx⟩, fa, ⟨N, P, G, wa, me⟩, S, dd, ⟨rc, rx, rh⟩, ⟨bc, bw, bs⟩, sd, i0, i1⟩) h := by
  obtain ⟨ra, rf, rn, rm, sm, x1, x2, x3, x4, x5, x6, x7, x8, x9, x10, x11⟩ := id R
  obtain ⟨y1, y2, waC, meC, y3, y4, y5, y6⟩ := id x4
  obtain ⟨wh, mi, fe, fl, z1, z2, z3, z4, z5⟩ := id x5
  obtain ⟨u0, u1, u2⟩ := id x8
  unfold am_W o_ran
  (try unfold am_E); unfold am_T
  dsimp only
  repeat (first | refine rs [] rfl rfl rfl rfl ?_ | refine rk rfl rfl ?_ | refine rgoh [] rfl rfl ?_ | refine rgeta (hi := rfl) (kk := ?_) | refine rialda (hi := rfl) (kk := ?_))
  (first | refine rcvs rfl rfl rfl rfl rfl (by first | assumption | (simp (disch := omega) only [am_set_ne, am_set_eq]; first | assumption | rfl)) rfl (w_isStation y1 x1) ?_ | refine rcvn rfl rfl rfl rfl rfl (by first | assumption | (simp (disch := omega) only [am_set_ne, am_set_eq]; first | assumption | rfl)) rfl (w_isStation y1 x1) ?_)
  by_cases c : inR x N
  · rw [if_pos c, if_pos c]
    (first | refine rift rfl rfl ?_ | refine riff rfl rfl ?_ | refine rict rfl rfl ?_ | refine ricf rfl rfl ?_)
    repeat (first | refine rs [] rfl rfl rfl rfl ?_ | refine rk rfl rfl ?_ | refine rgoh [] rfl rfl ?_ | refine rgeta (hi := rfl) (kk := ?_) | refine rialda (hi := rfl) (kk := ?_))
    by_cases e : rc = 8
    · rw [if_pos e]
      (first | refine rif rfl rfl (fun c1 => ?_) (fun c1 => ?_) | refine ric rfl rfl (fun c1 => ?_) (fun c1 => ?_))
      · repeat (first | refine rs [] rfl rfl rfl rfl ?_ | refine rk rfl rfl ?_ | refine rgoh [] rfl rfl ?_ | refine rgeta (hi := rfl) (kk := ?_) | refine rialda (hi := rfl) (kk := ?_))
        refine rret rfl rfl ?_
        exact ⟨rfl, R, fr_rf⟩
      · exact absurd (by rw [e]; decide) c1
    · rw [if_neg e]
      (first | refine rif rfl rfl (fun c1 => ?_) (fun c1 => ?_) | refine ric rfl rfl (fun c1 => ?_) (fun c1 => ?_))
      · rw [i8, nI_eq (by omega) (by omega)] at c1
        exact absurd c1 e
      · repeat (first | refine rs [] rfl rfl rfl rfl ?_ | refine rk rfl rfl ?_ | refine rgoh [] rfl rfl ?_ | refine rgeta (hi := rfl) (kk := ?_) | refine rialda (hi := rfl) (kk := ?_))
        refine riasta (hi := rfl) (kk := ?_)
        repeat (first | refine rs [] rfl rfl rfl rfl ?_ | refine rk rfl rfl ?_ | refine rgoh [] rfl rfl ?_ | refine rgeta (hi := rfl) (kk := ?_) | refine rialda (hi := rfl) (kk := ?_))
        have fin : ∀ v : Int32, v = z &&& 1 → am_R M_Mo_ran (27, [.ref 130, .int x, .int z], [.int v, .int (nI rc), .ref 143]) (am_set h 142 (iar (upd rx rc x))) (fun r h' => r = some (.int (nI (rc + 1))) ∧ mRep ⟨⟨len, tx⟩, fa, ⟨N, P, G, wa, me⟩, S, dd, ⟨rc + 1, upd rx rc x, upd rh rc (z &&& 1)⟩, ⟨bc, bw, bs⟩, sd, i0, i1⟩ h' ∧ am_fr 130 149 h h') := by
          rintro v rfl
          refine riasta (hi := rfl) (kk := ?_)
          repeat (first | refine rs [] rfl rfl rfl rfl ?_ | refine rk rfl rfl ?_ | refine rgoh [] rfl rfl ?_ | refine rgeta (hi := rfl) (kk := ?_) | refine rialda (hi := rfl) (kk := ?_))
          refine rputa (hi := rfl) (kk := ?_)
          repeat (first | refine rs [] rfl rfl rfl rfl ?_ | refine rk rfl rfl ?_ | refine rgoh [] rfl rfl ?_ | refine rgeta (hi := rfl) (kk := ?_) | refine rialda (hi := rfl) (kk := ?_))
          refine rret rfl rfl ?_
          have f : am_fk [130, 142, 143] h (am_set (am_set (am_set h 142 (iar (upd rx rc x))) 143 (iar (upd rh rc (z &&& 1)))) 130 (mO (nI len) fa ra rf rn rm (nI N) G S.2.2.2.2.1 (nI P) S.2.2.2.2.2.1 S.2.2.2.2.2.2 (nI dd.length) sd.toInt64 (nI rc + 1) sm (nI bc))) := fl_set (fl_set (fl_set fl_rf (by decide)) (by decide)) (by decide)
          refine ⟨by rw [nI_succ], ⟨ra, rf, rn, rm, sm, by rw [nI_succ]; exact am_set_eq, x2.fl f (by decide), x3.fl f (by decide), x4.fl f (by decide), x5.fl f (by decide), x6.fl f (by decide), x7.fl f (by decide), ⟨by omega, ?_, ?_⟩, x9.fl f (by decide), x10.fl f (by decide), x11.fl f (by decide)⟩, fl_fr f (by decide)⟩
          · rw [am_set_ne (by omega), am_set_ne (by omega)]; exact am_set_eq
          · rw [am_set_ne (by omega)]; exact am_set_eq
        (first | refine rif rfl rfl (fun c2 => ?_) (fun c2 => ?_) | refine ric rfl rfl (fun c2 => ?_) (fun c2 => ?_))
        · repeat (first | refine rs [27] rfl rfl rfl rfl ?_ | refine rk rfl rfl ?_ | refine rgoh [27] rfl rfl ?_ | refine rgeta (hi := rfl) (kk := ?_) | refine rialda (hi := rfl) (kk := ?_))
          refine fin 0 ?_
          rw [c2]
          decide
        · repeat (first | refine rs [27] rfl rfl rfl rfl ?_ | refine rk rfl rfl ?_ | refine rgoh [27] rfl rfl ?_ | refine rgeta (hi := rfl) (kk := ?_) | refine rialda (hi := rfl) (kk := ?_))
          refine fin 1 ?_
          rcases hz with a | a
          · exact absurd a c2
          · rw [a]
            decide
  · rw [if_neg c, if_neg c]
    (first | refine rift rfl rfl ?_ | refine riff rfl rfl ?_ | refine rict rfl rfl ?_ | refine ricf rfl rfl ?_)
    repeat (first | refine rs [] rfl rfl rfl rfl ?_ | refine rk rfl rfl ?_ | refine rgoh [] rfl rfl ?_ | refine rgeta (hi := rfl) (kk := ?_) | refine rialda (hi := rfl) (kk := ?_))
    refine rret rfl rfl ?_
    exact ⟨rfl, R, fr_rf⟩
theorem w_write {p x : Int32} (R : mRep ⟨⟨len, tx⟩, fa, ⟨N, P, G, wa, me⟩, S, dd, ⟨rc, rx, rh⟩, ⟨bc, bw, bs⟩, sd, i0, i1⟩ h) : am_W M_Mo_write [.ref 130, .int p, .int x] (o_write p x ⟨⟨len, tx⟩, fa, ⟨N, P, G, wa, me⟩, S, dd, ⟨rc, rx, rh⟩, ⟨bc, bw, bs⟩, sd, i0, i1⟩) h := by
  obtain ⟨ra, rf, rn, rm, sm, x1, x2, x3, x4, x5, x6, x7, x8, x9, x10, x11⟩ := id R
  obtain ⟨y1, y2, waC, meC, y3, y4, y5, y6⟩ := id x4
  obtain ⟨wh, mi, fe, fl, z1, z2, z3, z4, z5⟩ := id x5
  obtain ⟨u0, gb, u1, u2⟩ := id x10
  unfold am_W o_write
  (try unfold am_E); unfold am_T
  dsimp only
  repeat (first | refine rs [] rfl rfl rfl rfl ?_ | refine rk rfl rfl ?_ | refine rgoh [] rfl rfl ?_ | refine rgeta (hi := rfl) (kk := ?_) | refine rialda (hi := rfl) (kk := ?_))
  (first | refine rcvs rfl rfl rfl rfl rfl (by first | assumption | (simp (disch := omega) only [am_set_ne, am_set_eq]; first | assumption | rfl)) rfl (w_isPerson y2 x1) ?_ | refine rcvn rfl rfl rfl rfl rfl (by first | assumption | (simp (disch := omega) only [am_set_ne, am_set_eq]; first | assumption | rfl)) rfl (w_isPerson y2 x1) ?_)
  by_cases c : inR p P
  · rw [if_pos c]
    (first | refine rift rfl rfl ?_ | refine riff rfl rfl ?_ | refine rict rfl rfl ?_ | refine ricf rfl rfl ?_)
    repeat (first | refine rs [] rfl rfl rfl rfl ?_ | refine rk rfl rfl ?_ | refine rgoh [] rfl rfl ?_ | refine rgeta (hi := rfl) (kk := ?_) | refine rialda (hi := rfl) (kk := ?_))
    (first | refine rcvs rfl rfl rfl rfl rfl (by first | assumption | (simp (disch := omega) only [am_set_ne, am_set_eq]; first | assumption | rfl)) rfl (w_isStation y1 x1) ?_ | refine rcvn rfl rfl rfl rfl rfl (by first | assumption | (simp (disch := omega) only [am_set_ne, am_set_eq]; first | assumption | rfl)) rfl (w_isStation y1 x1) ?_)
    by_cases d : inR x N
    · rw [if_pos d, if_pos ⟨c, d⟩]
      (first | refine rift rfl rfl ?_ | refine riff rfl rfl ?_ | refine rict rfl rfl ?_ | refine ricf rfl rfl ?_)
      repeat (first | refine rs [] rfl rfl rfl rfl ?_ | refine rk rfl rfl ?_ | refine rgoh [] rfl rfl ?_ | refine rgeta (hi := rfl) (kk := ?_) | refine rialda (hi := rfl) (kk := ?_))
      by_cases e : bc = 20
      · rw [if_pos e]
        (first | refine rif rfl rfl (fun c1 => ?_) (fun c1 => ?_) | refine ric rfl rfl (fun c1 => ?_) (fun c1 => ?_))
        · repeat (first | refine rs [] rfl rfl rfl rfl ?_ | refine rk rfl rfl ?_ | refine rgoh [] rfl rfl ?_ | refine rgeta (hi := rfl) (kk := ?_) | refine rialda (hi := rfl) (kk := ?_))
          refine rret rfl rfl ?_
          exact ⟨rfl, R, fr_rf⟩
        · exact absurd (by rw [e]; decide) c1
      · rw [if_neg e]
        (first | refine rif rfl rfl (fun c1 => ?_) (fun c1 => ?_) | refine ric rfl rfl (fun c1 => ?_) (fun c1 => ?_))
        · rw [i20, nI_eq (by omega) (by omega)] at c1
          exact absurd c1 e
        · repeat (first | refine rs [] rfl rfl rfl rfl ?_ | refine rk rfl rfl ?_ | refine rgoh [] rfl rfl ?_ | refine rgeta (hi := rfl) (kk := ?_) | refine rialda (hi := rfl) (kk := ?_))
          refine riasta (hi := rfl) (hik := show 2 * nI bc = nI (2 * bc) by rw [i2, nI_mul]) (kk := ?_)
          repeat (first | refine rs [] rfl rfl rfl rfl ?_ | refine rk rfl rfl ?_ | refine rgoh [] rfl rfl ?_ | refine rgeta (hi := rfl) (kk := ?_) | refine rialda (hi := rfl) (kk := ?_))
          refine riasta (hi := rfl) (hc := am_set_eq) (hik := show 2 * nI bc + 1 = nI (2 * bc + 1) by rw [i2, nI_mul, nI_1]) (kk := ?_)
          rw [am_set_set]
          repeat (first | refine rs [] rfl rfl rfl rfl ?_ | refine rk rfl rfl ?_ | refine rgoh [] rfl rfl ?_ | refine rgeta (hi := rfl) (kk := ?_) | refine rialda (hi := rfl) (kk := ?_))
          refine rputa (hi := rfl) (kk := ?_)
          repeat (first | refine rs [] rfl rfl rfl rfl ?_ | refine rk rfl rfl ?_ | refine rgoh [] rfl rfl ?_ | refine rgeta (hi := rfl) (kk := ?_) | refine rialda (hi := rfl) (kk := ?_))
          refine rret rfl rfl ?_
          have f : am_fk [130, 145] h (am_set (am_set h 145 (.inl (.int, 40, .inl (upd (upd gb (2 * bc) p) (2 * bc + 1) x)))) 130 (mO (nI len) fa ra rf rn rm (nI N) G S.2.2.2.2.1 (nI P) S.2.2.2.2.2.1 S.2.2.2.2.2.2 (nI dd.length) sd.toInt64 (nI rc) sm (nI bc + 1))) := fl_set (fl_set fl_rf (by decide)) (by decide)
          refine ⟨by rw [nI_succ], ⟨ra, rf, rn, rm, sm, by rw [nI_succ]; exact am_set_eq, x2.fl f (by decide), x3.fl f (by decide), x4.fl f (by decide), x5.fl f (by decide), x6.fl f (by decide), x7.fl f (by decide), x8.fl f (by decide), x9.fl f (by decide), ⟨by omega, upd (upd gb (2 * bc) p) (2 * bc + 1) x, ?_, fun i hi => ?_⟩, x11.fl f (by decide)⟩, fl_fr f (by decide)⟩
          · rw [am_set_ne (by omega)]; exact am_set_eq
          · rcases Nat.lt_or_ge i bc with w | w
            · rw [pk_un (by omega), pk_un (by omega), pk_un (by omega), pk_un (by omega), pk_un (by omega), pk_un (by omega)]
              exact u2 i w
            · rw [show i = bc by omega, pk_un (by omega), pk_us, pk_us, pk_us, pk_us]
              exact ⟨rfl, rfl⟩
    · rw [if_neg d, if_neg (fun a => d a.2)]
      (first | refine rift rfl rfl ?_ | refine riff rfl rfl ?_ | refine rict rfl rfl ?_ | refine ricf rfl rfl ?_)
      repeat (first | refine rs [] rfl rfl rfl rfl ?_ | refine rk rfl rfl ?_ | refine rgoh [] rfl rfl ?_ | refine rgeta (hi := rfl) (kk := ?_) | refine rialda (hi := rfl) (kk := ?_))
      refine rret rfl rfl ?_
      exact ⟨rfl, R, fr_rf⟩
  · rw [if_neg c, if_neg (fun a => c a.1)]
    (first | refine rift rfl rfl ?_ | refine riff rfl rfl ?_ | refine rict rfl rfl ?_ | refine ricf rfl rfl ?_)
    repeat (first | refine rs [] rfl rfl rfl rfl ?_ | refine rk rfl rfl ?_ | refine rgoh [] rfl rfl ?_ | refine rgeta (hi := rfl) (kk := ?_) | refine rialda (hi := rfl) (kk := ?_))
    refine rret rfl rfl ?_
    exact ⟨rfl, R, fr_rf⟩
theorem w_judge (W : wfQ ⟨⟨len, tx⟩, fa, ⟨N, P, G, wa, me⟩, S, dd, ⟨rc, rx, rh⟩, ⟨bc, bw, bs⟩, sd, i0, i1⟩) (R : mRep ⟨⟨len, tx⟩, fa, ⟨N, P, G, wa, me⟩, S, dd, ⟨rc, rx, rh⟩, ⟨bc, bw, bs⟩, sd, i0, i1⟩ h) : am_W M_Mo_judge [.ref 130] (o_judge ⟨⟨len, tx⟩, fa, ⟨N, P, G, wa, me⟩, S, dd, ⟨rc, rx, rh⟩, ⟨bc, bw, bs⟩, sd, i0, i1⟩) h := by
  obtain ⟨ra, rf, rn, rm, sm, x1, x2, x3, x4, x5, x6, x7, x8, x9, x10, x11⟩ := id R
  obtain ⟨y1, y2, waC, meC, y3, y4, y5, y6⟩ := id x4
  obtain ⟨wh, mi, fe, fl, z1, z2, z3, z4, z5⟩ := id x5
  obtain ⟨w1, w2, w3, w4, w5, w6, w7, w8, w9, w10, w11⟩ := id W
  obtain ⟨u0, gb, u1, u2⟩ := id x10
  unfold am_W o_judge
  (try unfold am_E); unfold am_T
  dsimp only
  repeat (first | refine rs [2] rfl rfl rfl rfl ?_ | refine rk rfl rfl ?_ | refine rgoh [2] rfl rfl ?_ | refine rgeta (hi := rfl) (kk := ?_) | refine rialda (hi := rfl) (kk := ?_))
  refine lup (P := fun i => ∀ x, x = nI i → (∀ k, k < i → ¬ S.1 (bw k).toNatClampNeg ≠ bs k) → am_R M_Mo_judge (2, [.ref 130, .int x], []) h _) bc ?_ ?_ 0 nI_0.symm (fun k hk => absurd hk (by omega))
  · rintro x rfl hq
    repeat (first | refine rs [] rfl rfl rfl rfl ?_ | refine rk rfl rfl ?_ | refine rgoh [] rfl rfl ?_ | refine rgeta (hi := rfl) (kk := ?_) | refine rialda (hi := rfl) (kk := ?_))
    (first | refine rif rfl rfl (fun c1 => ?_) (fun c1 => ?_) | refine ric rfl rfl (fun c1 => ?_) (fun c1 => ?_))
    · repeat (first | refine rs [] rfl rfl rfl rfl ?_ | refine rk rfl rfl ?_ | refine rgoh [] rfl rfl ?_ | refine rgeta (hi := rfl) (kk := ?_) | refine rialda (hi := rfl) (kk := ?_))
      refine rret rfl rfl ?_
      exact ⟨by rw [isFst_eps (Or.inr ⟨rfl, hq⟩)], R, fr_rf⟩
    · exact absurd (Int32.le_refl _) c1
  · rintro i hi ih x rfl hq
    obtain ⟨k, hk, hbk⟩ := w8 i hi
    have hcl : (bw i).toNatClampNeg = k := by rw [hbk, nI_clamp (by omega)]
    have e1 : gb (2 * i) = nI k := by rw [(u2 i hi).1, hbk]
    repeat (first | refine rs [] rfl rfl rfl rfl ?_ | refine rk rfl rfl ?_ | refine rgoh [] rfl rfl ?_ | refine rgeta (hi := rfl) (kk := ?_) | refine rialda (hi := rfl) (kk := ?_))
    (first | refine rif rfl rfl (fun c1 => ?_) (fun c1 => ?_) | refine ric rfl rfl (fun c1 => ?_) (fun c1 => ?_))
    · exact absurd hi ((nI_lt_iff (by omega) (by omega)).mp c1)
    · repeat (first | refine rs [] rfl rfl rfl rfl ?_ | refine rk rfl rfl ?_ | refine rgoh [] rfl rfl ?_ | refine rgeta (hi := rfl) (kk := ?_) | refine rialda (hi := rfl) (kk := ?_))
      refine rialda (hi := rfl) (hik := show 2 * nI i = nI (2 * i) by rw [i2, nI_mul]) (kk := ?_)
      repeat (first | refine rs [] rfl rfl rfl rfl ?_ | refine rk rfl rfl ?_ | refine rgoh [] rfl rfl ?_ | refine rgeta (hi := rfl) (kk := ?_) | refine rialda (hi := rfl) (kk := ?_))
      refine rialda (hi := rfl) (hik := show 2 * nI i + 1 = nI (2 * i + 1) by rw [i2, nI_mul, nI_1]) (kk := ?_)
      (first | refine rif rfl rfl (fun c2 => ?_) (fun c2 => ?_) | refine ric rfl rfl (fun c2 => ?_) (fun c2 => ?_))
      · repeat (first | refine rs [2] rfl rfl rfl rfl ?_ | refine rk rfl rfl ?_ | refine rgoh [2] rfl rfl ?_ | refine rgeta (hi := rfl) (kk := ?_) | refine rialda (hi := rfl) (kk := ?_))
        refine ih _ (nI_succ i).symm (fun k' hk' => ?_)
        rcases Nat.lt_or_ge k' i with g | g
        · exact hq k' g
        · rw [show k' = i by omega, hcl, ← (z5 k hk).1, ← (u2 i hi).2]
          exact fun z => z c2
      · repeat (first | refine rs [] rfl rfl rfl rfl ?_ | refine rk rfl rfl ?_ | refine rgoh [] rfl rfl ?_ | refine rgeta (hi := rfl) (kk := ?_) | refine rialda (hi := rfl) (kk := ?_))
        refine rret rfl rfl ?_
        refine ⟨?_, R, fr_rf⟩
        rw [isFst_eps (Or.inl ⟨i, hi, rfl, ?_, hq⟩)]
        rw [hcl, ← (z5 k hk).1, ← (u2 i hi).2]
        exact c2
theorem stF_in {halts : Int32} {i : Nat} {f : Nat → Int32} (hi : i < N) (q : ∀ p, p < P → f p = -1 ∨ ∃ k, k < N ∧ f p = nI k) : ∀ p, p < P → stF P wa me halts i f p = -1 ∨ ∃ k, k < N ∧ stF P wa me halts i f p = nI k := by
  intro p hp
  unfold stF
  split
  · have e : fo (loF P wa me (nI i)) P f p = -1 ∨ ∃ k, k < N ∧ fo (loF P wa me (nI i)) P f p = nI k := by
      rcases loF_pt (P := P) (wa := wa) (me := me) (f := f) (x := nI i) (p := p) P with a | a
      · rw [a]
        exact q p hp
      · exact Or.inr ⟨i, hi, a.1⟩
    rw [tiF_pt, if_pos hp]
    split
    · exact Or.inl rfl
    · exact e
  · exact q p hp
theorem wfS_rn {shut : Int32} (hN0 : 1 ≤ N) (hS : wfS N P S) : wfS N P (rnA N P G wa me shut S) := by
  have key : ∀ (halts : Int32) n, n ≤ N → ∀ p, p < P → fo (stF P wa me halts) n S.1 p = -1 ∨ ∃ k, k < N ∧ fo (stF P wa me halts) n S.1 p = nI k := by
    intro halts n
    induction n with
    | zero =>
      intro _ p hp
      exact Or.inr (hS p hp)
    | succ n ih =>
      intro hn
      rw [fo_succ]
      exact stF_in (by omega) (ih (by omega))
  intro p hp
  show ∃ k, k < N ∧ rtF N P wa me (stA 0 G N P S &&& (shut ^^^ (-1))) S.1 p = nI k
  unfold rtF
  rw [emF_pt, if_pos hp]
  rcases key (stA 0 G N P S &&& (shut ^^^ (-1))) N (Nat.le_refl _) p hp with a | ⟨k, hk, a⟩
  · rw [if_pos a]
    refine ⟨N - 1, by omega, ?_⟩
    obtain ⟨M, rfl⟩ : ∃ M, N = M + 1 := ⟨N - 1, by omega⟩
    rw [nI_pred]
    rfl
  · split
    · rename_i b
      refine ⟨N - 1, by omega, ?_⟩
      obtain ⟨M, rfl⟩ : ∃ M, N = M + 1 := ⟨N - 1, by omega⟩
      rw [nI_pred]
      rfl
    · exact ⟨k, hk, a⟩
theorem wfS_tr (hN0 : 1 ≤ N) (hS : wfS N P S) (i : Nat) : wfS N P (trA N P G wa me i (S, dd)).1 := by
  induction i with
  | zero => exact hS
  | succ i ih => exact wfS_rn hN0 ih
theorem w_train {n : Int32} (W : wfQ ⟨⟨len, tx⟩, fa, ⟨N, P, G, wa, me⟩, S, dd, ⟨rc, rx, rh⟩, ⟨bc, bw, bs⟩, sd, i0, i1⟩) (R : mRep ⟨⟨len, tx⟩, fa, ⟨N, P, G, wa, me⟩, S, dd, ⟨rc, rx, rh⟩, ⟨bc, bw, bs⟩, sd, i0, i1⟩ h) : am_W M_Mo_train [.ref 130, .int n] (o_train n ⟨⟨len, tx⟩, fa, ⟨N, P, G, wa, me⟩, S, dd, ⟨rc, rx, rh⟩, ⟨bc, bw, bs⟩, sd, i0, i1⟩) h := by
  obtain ⟨ra, rf, rn, rm, sm, x1, x2, x3, x4, x5, x6, x7, x8, x9, x10, x11⟩ := id R
  obtain ⟨y1, y2, waC, meC, y3, y4, y5, y6⟩ := id x4
  obtain ⟨wh, mi, fe, fl, z1, z2, z3, z4, z5⟩ := id x5
  obtain ⟨w1, w2, w3, w4, w5, w6, w7, w8, w9, w10, w11⟩ := id W
  unfold am_W o_train
  (try unfold am_E); unfold am_T
  dsimp only
  repeat (first | refine rs [] rfl rfl rfl rfl ?_ | refine rk rfl rfl ?_ | refine rgoh [] rfl rfl ?_ | refine rgeta (hi := rfl) (kk := ?_) | refine rialda (hi := rfl) (kk := ?_))
  refine rcss rfl rfl rfl rfl rfl (w_in) ?_
  by_cases d : n < 1 ∨ 20 < n
  · have er : rfA n N S = -1000000002 := if_pos d
    rw [er, if_pos d, if_neg (by decide)]
    (first | refine rift rfl rfl ?_ | refine riff rfl rfl ?_ | refine rict rfl rfl ?_ | refine ricf rfl rfl ?_)
    repeat (first | refine rs [] rfl rfl rfl rfl ?_ | refine rk rfl rfl ?_ | refine rgoh [] rfl rfl ?_ | refine rgeta (hi := rfl) (kk := ?_) | refine rialda (hi := rfl) (kk := ?_))
    refine rret rfl rfl ?_
    exact ⟨rfl, R, fr_rf⟩
  · rw [if_neg d]
    (first | refine rift rfl rfl ?_ | refine riff rfl rfl ?_ | refine rict rfl rfl ?_ | refine ricf rfl rfl ?_)
    repeat (first | refine rs [] rfl rfl rfl rfl ?_ | refine rk rfl rfl ?_ | refine rgoh [] rfl rfl ?_ | refine rgeta (hi := rfl) (kk := ?_) | refine rialda (hi := rfl) (kk := ?_))
    (first | refine rif rfl rfl (fun c1 => ?_) (fun c1 => ?_) | refine ric rfl rfl (fun c1 => ?_) (fun c1 => ?_))
    · have er : rfA n N S = -1000000003 := by
        unfold rfA
        rw [if_neg d, if_pos]
        exact Classical.byContradiction (fun a => nI_ne0 (n := N) (by omega) (by omega) c1)
      rw [er, if_neg (by decide)]
      repeat (first | refine rs [] rfl rfl rfl rfl ?_ | refine rk rfl rfl ?_ | refine rgoh [] rfl rfl ?_ | refine rgeta (hi := rfl) (kk := ?_) | refine rialda (hi := rfl) (kk := ?_))
      refine rret rfl rfl ?_
      exact ⟨rfl, R, fr_rf⟩
    · have hN0 : ¬ N = 0 := fun a => c1 (by rw [a]; rfl)
      repeat (first | refine rs [20] rfl rfl rfl rfl ?_ | refine rk rfl rfl ?_ | refine rgoh [20] rfl rfl ?_ | refine rgeta (hi := rfl) (kk := ?_) | refine rialda (hi := rfl) (kk := ?_))
      (first | refine rif rfl rfl (fun c2 => ?_) (fun c2 => ?_) | refine ric rfl rfl (fun c2 => ?_) (fun c2 => ?_))
      · have er : rfA n N S = 0 := by
          unfold rfA
          rw [if_neg d, if_neg hN0, if_neg (Int32.not_lt.mpr c2)]
        rw [er, if_pos rfl]
        obtain ⟨m, rfl, m1, m2, -⟩ := rfA_0 er
        rw [nI_clamp (by omega)]
        repeat (first | refine rs [20] rfl rfl rfl rfl ?_ | refine rk rfl rfl ?_ | refine rgoh [20] rfl rfl ?_ | refine rgeta (hi := rfl) (kk := ?_) | refine rialda (hi := rfl) (kk := ?_))
        refine lup (P := fun i => ∀ x h1, x = nI i → mRep ⟨⟨len, tx⟩, fa, ⟨N, P, G, wa, me⟩, (trA N P G wa me i (S, dd)).1, (trA N P G wa me i (S, dd)).2, ⟨rc, rx, rh⟩, ⟨bc, bw, bs⟩, sd, i0, i1⟩ h1 → am_fr 130 149 h h1 → am_R M_Mo_train (20, [.ref 130, .int (nI m), .int x], []) h1 _) m ?_ ?_ 0 h nI_0.symm R fr_rf
        · rintro x h1 rfl R1 f1
          obtain ⟨ra, rf, rn, rm, sm, x1, x2, x3, x4, x5, x6, x7, x8, x9, x10, x11⟩ := id R1
          obtain ⟨y1, y2, waC, meC, y3, y4, y5, y6⟩ := id x4
          obtain ⟨wh, mi, fe, fl, z1, z2, z3, z4, z5⟩ := id x5
          repeat (first | refine rs [] rfl rfl rfl rfl ?_ | refine rk rfl rfl ?_ | refine rgoh [] rfl rfl ?_ | refine rgeta (hi := rfl) (kk := ?_) | refine rialda (hi := rfl) (kk := ?_))
          (first | refine rif rfl rfl (fun c1 => ?_) (fun c1 => ?_) | refine ric rfl rfl (fun c1 => ?_) (fun c1 => ?_))
          · repeat (first | refine rs [] rfl rfl rfl rfl ?_ | refine rk rfl rfl ?_ | refine rgoh [] rfl rfl ?_ | refine rgeta (hi := rfl) (kk := ?_) | refine rialda (hi := rfl) (kk := ?_))
            (first | refine rcvs rfl rfl rfl rfl rfl (by first | assumption | (simp (disch := omega) only [am_set_ne, am_set_eq]; first | assumption | rfl)) rfl (w_ars R1) ?_ | refine rcvn rfl rfl rfl rfl rfl (by first | assumption | (simp (disch := omega) only [am_set_ne, am_set_eq]; first | assumption | rfl)) rfl (w_ars R1) ?_)
            refine rret rfl rfl ?_
            exact ⟨rfl, R1, f1⟩
          · exact absurd (Int32.le_refl _) c1
        · rintro i hi ih x h1 rfl R1 f1
          obtain ⟨ra, rf, rn, rm, sm, x1, x2, x3, x4, x5, x6, x7, x8, x9, x10, x11⟩ := id R1
          obtain ⟨y1, y2, waC, meC, y3, y4, y5, y6⟩ := id x4
          obtain ⟨wh, mi, fe, fl, z1, z2, z3, z4, z5⟩ := id x5
          repeat (first | refine rs [] rfl rfl rfl rfl ?_ | refine rk rfl rfl ?_ | refine rgoh [] rfl rfl ?_ | refine rgeta (hi := rfl) (kk := ?_) | refine rialda (hi := rfl) (kk := ?_))
          (first | refine rif rfl rfl (fun c1 => ?_) (fun c1 => ?_) | refine ric rfl rfl (fun c1 => ?_) (fun c1 => ?_))
          · exact absurd hi ((nI_lt_iff (by omega) (by omega)).mp c1)
          · repeat (first | refine rs [] rfl rfl rfl rfl ?_ | refine rk rfl rfl ?_ | refine rgoh [] rfl rfl ?_ | refine rgeta (hi := rfl) (kk := ?_) | refine rialda (hi := rfl) (kk := ?_))
            refine rcvt rfl rfl rfl rfl rfl x1 rfl (w_notes R1) ?_
            rintro r h2 ⟨rfl, R2, f2⟩
            show am_R M_Mo_train (25, [.ref 130, .int (nI m), .int (nI i)], []) _ _
            obtain ⟨ra, rf, rn, rm, sm, x1, x2, x3, x4, x5, x6, x7, x8, x9, x10, x11⟩ := id R2
            obtain ⟨y1, y2, waC, meC, y3, y4, y5, y6⟩ := id x4
            obtain ⟨wh, mi, fe, fl, z1, z2, z3, z4, z5⟩ := id x5
            repeat (first | refine rs [] rfl rfl rfl rfl ?_ | refine rk rfl rfl ?_ | refine rgoh [] rfl rfl ?_ | refine rgeta (hi := rfl) (kk := ?_) | refine rialda (hi := rfl) (kk := ?_))
            refine rcvt rfl rfl rfl rfl rfl x1 rfl (w_run (by omega) w4 (wfS_tr (by omega) w5 i) R2) ?_
            rintro r h3 ⟨rfl, R3, f3⟩
            show am_R M_Mo_train (28, [.ref 130, .int (nI m), .int (nI i)], []) _ _
            repeat (first | refine rs [20] rfl rfl rfl rfl ?_ | refine rk rfl rfl ?_ | refine rgoh [20] rfl rfl ?_ | refine rgeta (hi := rfl) (kk := ?_) | refine rialda (hi := rfl) (kk := ?_))
            exact ih _ h3 (nI_succ i).symm R3 (fr_tr f1 (fr_tr (lo := 130) (hi := 149) (fl_fr f2 (by decide)) (fl_fr (lo := 130) (hi := 149) f3 (by decide)) (by omega) (by omega)) (by omega) (by omega))
      · have er : rfA n N S = -1000000004 := by
          unfold rfA
          rw [if_neg d, if_neg hN0, if_pos (Int32.not_le.mp c2)]
        rw [er, if_neg (by decide)]
        repeat (first | refine rs [] rfl rfl rfl rfl ?_ | refine rk rfl rfl ?_ | refine rgoh [] rfl rfl ?_ | refine rgeta (hi := rfl) (kk := ?_) | refine rialda (hi := rfl) (kk := ?_))
        refine rret rfl rfl ?_
        exact ⟨rfl, R, fr_rf⟩
end MStore
