/-! the model's calls: stops, calm, journey, never, chance -/
theorem and_all {x : Int32} : x &&& (0 ^^^ (-1)) = x := by
  refine b_ext (fun i hi => ?_)
  rw [b_and, b_xor, b_0, b_m1 i hi]
  simp
theorem stA_0 {hope G : Int32} {P : Nat} {S : Sc} : stA hope G 0 P S = 0 := by
  unfold stA
  rw [show sh1 (nI 0) - 1 = 0 by decide]
  exact Int32.zero_and
theorem sub1 (a b : Int32) : a - (b - 1) = a - b + 1 := by
  rw [Int32.sub_eq_add_neg a (b - 1), Int32.neg_sub, Int32.sub_eq_add_neg 1 b, Int32.add_comm 1, ← Int32.add_assoc, ← Int32.sub_eq_add_neg]
theorem all_tn : ∀ n, n ≤ 8 → (sh1 (nI n) - 1).toBitVec.toNat = 2 ^ n - 1 := by decide +kernel
theorem sh1_nI : ∀ n, n ≤ 8 → sh1 (nI n) = nI (2 ^ n) := by decide +kernel
theorem pw8 {n : Nat} (hn : n ≤ 8) : 2 ^ n ≤ 256 := Nat.pow_le_pow_right (by decide) hn
theorem set_in {x : Int32} {n : Nat} (hn : n ≤ 8) : x &&& ((sh1 (nI n) - 1) ^^^ (-1)) = 0 ↔ ¬ x < 0 ∧ ¬ sh1 (nI n) ≤ x := by
  have e1 : x &&& ((sh1 (nI n) - 1) ^^^ (-1)) = 0 ↔ x &&& (sh1 (nI n) - 1) = x := by
    constructor
    · intro a
      refine b_ext (fun i hi => ?_)
      have b := congrArg (fun y => bt y i) a
      rw [b_and, b_xor, b_m1 i hi, b_0] at b
      rw [b_and]
      revert b
      generalize bt x i = u
      generalize bt (sh1 (nI n) - 1) i = v
      revert u v
      decide
    · intro a
      refine b_ext (fun i hi => ?_)
      have b := congrArg (fun y => bt y i) a
      rw [b_and] at b
      rw [b_and, b_xor, b_m1 i hi, b_0]
      revert b
      generalize bt x i = u
      generalize bt (sh1 (nI n) - 1) i = v
      revert u v
      decide
  have hp := pw8 hn
  have h0 : 0 < 2 ^ n := Nat.pow_pos (by decide)
  rw [e1, pk_and x n (all_tn n hn), sh1_nI n hn]
  constructor
  · intro a
    rw [← a]
    have : x.toBitVec.toNat % 2 ^ n < 2 ^ n := Nat.mod_lt _ h0
    exact ⟨nI_pos (by omega), nI_ge this (by omega)⟩
  · rintro ⟨a, b⟩
    obtain ⟨k, hk, rfl⟩ := nI_of a
    rw [nI_leI (by omega) hk] at b
    rw [pk_tn (by omega), Nat.mod_eq_of_lt (by omega)]
section MTried
variable {h h' : am_H} {len N P rc bc : Nat} {fa G sd : Int32} {tx wa me rx rh bw bs : Nat → Int32} {S S' : Sc} {dd dd' : List Sc} {i0 i1 : Im}
theorem mRep.top (R : mRep ⟨⟨len, tx⟩, fa, ⟨N, P, G, wa, me⟩, S, dd, ⟨rc, rx, rh⟩, ⟨bc, bw, bs⟩, sd, i0, i1⟩ h) : ∃ ra rf rn rm sm : Int32, h.1 130 = mO (nI len) fa ra rf rn rm (nI N) G S.2.2.2.2.1 (nI P) S.2.2.2.2.2.1 S.2.2.2.2.2.2 (nI dd.length) sd.toInt64 (nI rc) sm (nI bc) := by
  obtain ⟨ra, rf, rn, rm, sm, x1, -⟩ := R
  exact ⟨ra, rf, rn, rm, sm, x1⟩
theorem w_nextStops (W : wfQ ⟨⟨len, tx⟩, fa, ⟨N, P, G, wa, me⟩, S, dd, ⟨rc, rx, rh⟩, ⟨bc, bw, bs⟩, sd, i0, i1⟩) (R : mRep ⟨⟨len, tx⟩, fa, ⟨N, P, G, wa, me⟩, S, dd, ⟨rc, rx, rh⟩, ⟨bc, bw, bs⟩, sd, i0, i1⟩ h) : am_T M_Mo_nextStops [.ref 130] h (fun r h' => r = some (.int (stA 0 G N P S)) ∧ mRep ⟨⟨len, tx⟩, fa, ⟨N, P, G, wa, me⟩, S, dd, ⟨rc, rx, rh⟩, ⟨bc, bw, bs⟩, sd, i0, i1⟩ h' ∧ am_fr 130 149 h h') := by
  obtain ⟨w1, w2, w3, w4, w5, w6, w7, w8, w9, w10, w11⟩ := id W
  obtain ⟨ra, rf, rn, rm, sm, x1⟩ := R.top
  (try unfold am_E); unfold am_T
  repeat (first | refine rs [] rfl rfl rfl rfl ?_ | refine rk rfl rfl ?_ | refine rgoh [] rfl rfl ?_ | refine rgeta (hi := rfl) (kk := ?_) | refine rialda (hi := rfl) (kk := ?_))
  refine rcvt rfl rfl rfl rfl rfl x1 rfl (w_begin R) ?_
  rintro r h1 ⟨rfl, R1, A1, f1⟩
  show am_R M_Mo_nextStops (2, [.ref 130, _], []) _ _
  obtain ⟨ra, rf, rn, rm, sm, x1⟩ := R1.top
  have tl : ∀ (S1 : Sc) h2, mRep ⟨⟨len, tx⟩, fa, ⟨N, P, G, wa, me⟩, S1, dd, ⟨rc, rx, rh⟩, ⟨bc, bw, bs⟩, sd, i0, i1⟩ h2 → asD P S h2 → am_fr 130 149 h h2 → am_R M_Mo_nextStops (16, [.ref 130, .int (stA 0 G N P S)], []) h2 (fun r h' => r = some (.int (stA 0 G N P S)) ∧ mRep ⟨⟨len, tx⟩, fa, ⟨N, P, G, wa, me⟩, S, dd, ⟨rc, rx, rh⟩, ⟨bc, bw, bs⟩, sd, i0, i1⟩ h' ∧ am_fr 130 149 h h') := by
    intro S1 h2 R2 A2 f2
    obtain ⟨ra, rf, rn, rm, sm, x1⟩ := R2.top
    repeat (first | refine rs [] rfl rfl rfl rfl ?_ | refine rk rfl rfl ?_ | refine rgoh [] rfl rfl ?_ | refine rgeta (hi := rfl) (kk := ?_) | refine rialda (hi := rfl) (kk := ?_))
    refine rcvt rfl rfl rfl rfl rfl x1 rfl (w_back R2 A2) ?_
    rintro r h3 ⟨rfl, R3, f3⟩
    show am_R M_Mo_nextStops (18, [.ref 130, _], []) _ _
    repeat (first | refine rs [] rfl rfl rfl rfl ?_ | refine rk rfl rfl ?_ | refine rgoh [] rfl rfl ?_ | refine rgeta (hi := rfl) (kk := ?_) | refine rialda (hi := rfl) (kk := ?_))
    refine rret rfl rfl ?_
    exact ⟨rfl, R3, fr_tr f2 (fl_fr (lo := 130) (hi := 149) f3 (by decide)) (by omega) (by omega)⟩
  by_cases c : N = 0
  · subst c
    repeat (first | refine rs [] rfl rfl rfl rfl ?_ | refine rk rfl rfl ?_ | refine rgoh [] rfl rfl ?_ | refine rgeta (hi := rfl) (kk := ?_) | refine rialda (hi := rfl) (kk := ?_))
    (first | refine rift rfl rfl ?_ | refine riff rfl rfl ?_ | refine rict rfl rfl ?_ | refine ricf rfl rfl ?_)
    repeat (first | refine rs [] rfl rfl rfl rfl ?_ | refine rk rfl rfl ?_ | refine rgoh [] rfl rfl ?_ | refine rgeta (hi := rfl) (kk := ?_) | refine rialda (hi := rfl) (kk := ?_))
    (first | refine rift rfl rfl ?_ | refine riff rfl rfl ?_ | refine rict rfl rfl ?_ | refine ricf rfl rfl ?_)
    repeat (first | refine rs [16] rfl rfl rfl rfl ?_ | refine rk rfl rfl ?_ | refine rgoh [16] rfl rfl ?_ | refine rgeta (hi := rfl) (kk := ?_) | refine rialda (hi := rfl) (kk := ?_))
    have e : stA 0 G 0 P S = 0 := stA_0
    rw [e] at tl
    rw [e]
    exact tl S h1 R1 A1 (fl_fr f1 (by decide))
  · repeat (first | refine rs [] rfl rfl rfl rfl ?_ | refine rk rfl rfl ?_ | refine rgoh [] rfl rfl ?_ | refine rgeta (hi := rfl) (kk := ?_) | refine rialda (hi := rfl) (kk := ?_))
    (first | refine rif rfl rfl (fun c1 => ?_) (fun c1 => ?_) | refine ric rfl rfl (fun c1 => ?_) (fun c1 => ?_))
    · exact absurd c1 (nI_nle (by omega) (by omega))
    · repeat (first | refine rs [] rfl rfl rfl rfl ?_ | refine rk rfl rfl ?_ | refine rgoh [] rfl rfl ?_ | refine rgeta (hi := rfl) (kk := ?_) | refine rialda (hi := rfl) (kk := ?_))
      refine rcvt rfl rfl rfl rfl rfl x1 rfl (w_run (by omega) w4 w5 R1) ?_
      rintro r h2 ⟨rfl, R2, f2⟩
      show am_R M_Mo_nextStops (8, [.ref 130, _], []) _ _
      obtain ⟨ra, rf, rn, rm, sm, x1⟩ := R2.top
      repeat (first | refine rs [] rfl rfl rfl rfl ?_ | refine rk rfl rfl ?_ | refine rgoh [] rfl rfl ?_ | refine rgeta (hi := rfl) (kk := ?_) | refine rialda (hi := rfl) (kk := ?_))
      (first | refine rif rfl rfl (fun c2 => ?_) (fun c2 => ?_) | refine ric rfl rfl (fun c2 => ?_) (fun c2 => ?_))
      · exact absurd c2 (nI_nle (by omega) (by omega))
      · repeat (first | refine rs [16] rfl rfl rfl rfl ?_ | refine rk rfl rfl ?_ | refine rgoh [16] rfl rfl ?_ | refine rgeta (hi := rfl) (kk := ?_) | refine rialda (hi := rfl) (kk := ?_))
        have e : (rnA N P G wa me 0 S).2.2.2.2.2.2 = stA 0 G N P S := and_all
        rw [e]
        exact tl _ h2 R2 (A1.fl f2 (by decide)) (fr_tr (fl_fr (lo := 130) (hi := 149) f1 (by decide)) (fl_fr (lo := 130) (hi := 149) f2 (by decide)) (by omega) (by omega))
theorem w_stops (W : wfQ ⟨⟨len, tx⟩, fa, ⟨N, P, G, wa, me⟩, S, dd, ⟨rc, rx, rh⟩, ⟨bc, bw, bs⟩, sd, i0, i1⟩) (R : mRep ⟨⟨len, tx⟩, fa, ⟨N, P, G, wa, me⟩, S, dd, ⟨rc, rx, rh⟩, ⟨bc, bw, bs⟩, sd, i0, i1⟩ h) : am_W M_Mo_stops [.ref 130] (o_stops ⟨⟨len, tx⟩, fa, ⟨N, P, G, wa, me⟩, S, dd, ⟨rc, rx, rh⟩, ⟨bc, bw, bs⟩, sd, i0, i1⟩) h := by
  obtain ⟨ra, rf, rn, rm, sm, x1⟩ := R.top
  unfold am_W o_stops
  (try unfold am_E); unfold am_T
  dsimp only
  repeat (first | refine rs [] rfl rfl rfl rfl ?_ | refine rk rfl rfl ?_ | refine rgoh [] rfl rfl ?_ | refine rgeta (hi := rfl) (kk := ?_) | refine rialda (hi := rfl) (kk := ?_))
  refine rcvt rfl rfl rfl rfl rfl x1 rfl (w_nextStops W R) ?_
  rintro r h1 ⟨rfl, R1, f1⟩
  show am_R M_Mo_stops (2, [.ref 130], [.int (stA 0 G N P S)]) _ _
  refine rret rfl rfl ?_
  exact ⟨rfl, R1, f1⟩
theorem w_calm {set : Int32} (R : mRep ⟨⟨len, tx⟩, fa, ⟨N, P, G, wa, me⟩, S, dd, ⟨rc, rx, rh⟩, ⟨bc, bw, bs⟩, sd, i0, i1⟩ h) : am_W M_Mo_calm [.ref 130, .int set] (o_calm set ⟨⟨len, tx⟩, fa, ⟨N, P, G, wa, me⟩, S, dd, ⟨rc, rx, rh⟩, ⟨bc, bw, bs⟩, sd, i0, i1⟩) h := by
  obtain ⟨ra, rf, rn, rm, sm, x1, x2, x3, x4, x5, x6, x7, x8, x9, x10, x11⟩ := id R
  obtain ⟨y1, y2, waC, meC, y3, y4, y5, y6⟩ := id x4
  obtain ⟨wh, mi, fe, fl, z1, z2, z3, z4, z5⟩ := id x5
  unfold am_W o_calm
  (try unfold am_E); unfold am_T
  dsimp only
  repeat (first | refine rs [] rfl rfl rfl rfl ?_ | refine rk rfl rfl ?_ | refine rgoh [] rfl rfl ?_ | refine rgeta (hi := rfl) (kk := ?_) | refine rialda (hi := rfl) (kk := ?_))
  (first | refine rif rfl rfl (fun c1 => ?_) (fun c1 => ?_) | refine ric rfl rfl (fun c1 => ?_) (fun c1 => ?_))
  · rw [if_neg (fun a => ((set_in y1).mp a).1 c1)]
    repeat (first | refine rs [] rfl rfl rfl rfl ?_ | refine rk rfl rfl ?_ | refine rgoh [] rfl rfl ?_ | refine rgeta (hi := rfl) (kk := ?_) | refine rialda (hi := rfl) (kk := ?_))
    refine rret rfl rfl ?_
    exact ⟨rfl, R, fr_rf⟩
  · repeat (first | refine rs [] rfl rfl rfl rfl ?_ | refine rk rfl rfl ?_ | refine rgoh [] rfl rfl ?_ | refine rgeta (hi := rfl) (kk := ?_) | refine rialda (hi := rfl) (kk := ?_))
    (first | refine rif rfl rfl (fun c2 => ?_) (fun c2 => ?_) | refine ric rfl rfl (fun c2 => ?_) (fun c2 => ?_))
    · rw [if_pos ((set_in y1).mpr ⟨c1, Int32.not_le.mpr c2⟩)]
      repeat (first | refine rs [14] rfl rfl rfl rfl ?_ | refine rk rfl rfl ?_ | refine rgoh [14] rfl rfl ?_ | refine rgeta (hi := rfl) (kk := ?_) | refine rialda (hi := rfl) (kk := ?_))
      refine lup (P := fun i => ∀ x y v4, x = nI i → y = cmA set G i S → am_R M_Mo_calm (14, [.ref 130, .int set, .int y, .int x, v4], []) h _) P ?_ ?_ 0 _ _ nI_0.symm rfl
      · rintro x y v4 rfl rfl
        repeat (first | refine rs [] rfl rfl rfl rfl ?_ | refine rk rfl rfl ?_ | refine rgoh [] rfl rfl ?_ | refine rgeta (hi := rfl) (kk := ?_) | refine rialda (hi := rfl) (kk := ?_))
        (first | refine rif rfl rfl (fun c3 => ?_) (fun c3 => ?_) | refine ric rfl rfl (fun c3 => ?_) (fun c3 => ?_))
        · repeat (first | refine rs [] rfl rfl rfl rfl ?_ | refine rk rfl rfl ?_ | refine rgoh [] rfl rfl ?_ | refine rgeta (hi := rfl) (kk := ?_) | refine rialda (hi := rfl) (kk := ?_))
          refine rret rfl rfl ?_
          exact ⟨rfl, R, fr_rf⟩
        · exact absurd (Int32.le_refl _) c3
      · rintro i hi ih x y v4 rfl rfl
        have es : cmA set G (i + 1) S = if bitv set (S.1 i) = 1 then cmA set G i S + mxI 0 (shA 0 S i - (G + S.2.2.2.2.1) + 1) else cmA set G i S := rfl
        generalize cmA set G (i + 1) S = cn at *
        generalize cmA set G i S = cm at *
        repeat (first | refine rs [] rfl rfl rfl rfl ?_ | refine rk rfl rfl ?_ | refine rgoh [] rfl rfl ?_ | refine rgeta (hi := rfl) (kk := ?_) | refine rialda (hi := rfl) (kk := ?_))
        (first | refine rif rfl rfl (fun c3 => ?_) (fun c3 => ?_) | refine ric rfl rfl (fun c3 => ?_) (fun c3 => ?_))
        · exact absurd hi ((nI_lt_iff (by omega) (by omega)).mp c3)
        · repeat (first | refine rs [] rfl rfl rfl rfl ?_ | refine rk rfl rfl ?_ | refine rgoh [] rfl rfl ?_ | refine rgeta (hi := rfl) (kk := ?_) | refine rialda (hi := rfl) (kk := ?_))
          (first | refine rcvs rfl rfl rfl rfl rfl (by first | assumption | (simp (disch := omega) only [am_set_ne, am_set_eq]; first | assumption | rfl)) rfl (w_shw rfl hi R) ?_ | refine rcvn rfl rfl rfl rfl rfl (by first | assumption | (simp (disch := omega) only [am_set_ne, am_set_eq]; first | assumption | rfl)) rfl (w_shw rfl hi R) ?_)
          repeat (first | refine rs [] rfl rfl rfl rfl ?_ | refine rk rfl rfl ?_ | refine rgoh [] rfl rfl ?_ | refine rgeta (hi := rfl) (kk := ?_) | refine rialda (hi := rfl) (kk := ?_))
          refine rcss rfl rfl rfl rfl rfl (w_has) ?_
          rw [(z5 i hi).1]
          rw [← sub1] at es
          unfold mxI at es
          by_cases d : bitv set (S.1 i) = 1
          · rw [if_pos d] at es ⊢
            (first | refine rift rfl rfl ?_ | refine riff rfl rfl ?_ | refine rict rfl rfl ?_ | refine ricf rfl rfl ?_)
            repeat (first | refine rs [] rfl rfl rfl rfl ?_ | refine rk rfl rfl ?_ | refine rgoh [] rfl rfl ?_ | refine rgeta (hi := rfl) (kk := ?_) | refine rialda (hi := rfl) (kk := ?_))
            (first | refine rif rfl rfl (fun c4 => ?_) (fun c4 => ?_) | refine ric rfl rfl (fun c4 => ?_) (fun c4 => ?_))
            · repeat (first | refine rs [14] rfl rfl rfl rfl ?_ | refine rk rfl rfl ?_ | refine rgoh [14] rfl rfl ?_ | refine rgeta (hi := rfl) (kk := ?_) | refine rialda (hi := rfl) (kk := ?_))
              refine ih _ _ _ (nI_succ i).symm ?_
              rw [es, if_neg (Int32.not_lt.mpr c4)]
            · repeat (first | refine rs [14] rfl rfl rfl rfl ?_ | refine rk rfl rfl ?_ | refine rgoh [14] rfl rfl ?_ | refine rgeta (hi := rfl) (kk := ?_) | refine rialda (hi := rfl) (kk := ?_))
              refine ih _ _ _ (nI_succ i).symm ?_
              rw [es, if_pos (Int32.not_le.mp c4)]
          · rw [if_neg d] at es ⊢
            (first | refine rift rfl rfl ?_ | refine riff rfl rfl ?_ | refine rict rfl rfl ?_ | refine ricf rfl rfl ?_)
            repeat (first | refine rs [14] rfl rfl rfl rfl ?_ | refine rk rfl rfl ?_ | refine rgoh [14] rfl rfl ?_ | refine rgeta (hi := rfl) (kk := ?_) | refine rialda (hi := rfl) (kk := ?_))
            refine ih _ _ _ (nI_succ i).symm ?_
            rw [es]
            exact Int32.add_zero _
    · rw [if_neg (fun a => ((set_in y1).mp a).2 (Int32.not_lt.mp c2))]
      repeat (first | refine rs [] rfl rfl rfl rfl ?_ | refine rk rfl rfl ?_ | refine rgoh [] rfl rfl ?_ | refine rgeta (hi := rfl) (kk := ?_) | refine rialda (hi := rfl) (kk := ?_))
      refine rret rfl rfl ?_
      exact ⟨rfl, R, fr_rf⟩
theorem wfS_jr (hN0 : 1 ≤ N) (hS : wfS N P S) (i : Nat) : wfS N P (jrS N P G wa me S i) := by
  induction i with
  | zero => exact hS
  | succ i ih => exact wfS_rn hN0 ih
theorem w_journey {p : Int32} (W : wfQ ⟨⟨len, tx⟩, fa, ⟨N, P, G, wa, me⟩, S, dd, ⟨rc, rx, rh⟩, ⟨bc, bw, bs⟩, sd, i0, i1⟩) (R : mRep ⟨⟨len, tx⟩, fa, ⟨N, P, G, wa, me⟩, S, dd, ⟨rc, rx, rh⟩, ⟨bc, bw, bs⟩, sd, i0, i1⟩ h) : am_W M_Mo_journey [.ref 130, .int p] (o_journey p ⟨⟨len, tx⟩, fa, ⟨N, P, G, wa, me⟩, S, dd, ⟨rc, rx, rh⟩, ⟨bc, bw, bs⟩, sd, i0, i1⟩) h := by
  obtain ⟨w1, w2, w3, w4, w5, w6, w7, w8, w9, w10, w11⟩ := id W
  obtain ⟨ra, rf, rn, rm, sm, x1, x2, x3, x4, x5, x6, x7, x8, x9, x10, x11⟩ := id R
  obtain ⟨y1, y2, waC, meC, y3, y4, y5, y6⟩ := id x4
  obtain ⟨wh, mi, fe, fl, z1, z2, z3, z4, z5⟩ := id x5
  unfold am_W o_journey
  (try unfold am_E); unfold am_T
  dsimp only
  repeat (first | refine rs [] rfl rfl rfl rfl ?_ | refine rk rfl rfl ?_ | refine rgoh [] rfl rfl ?_ | refine rgeta (hi := rfl) (kk := ?_) | refine rialda (hi := rfl) (kk := ?_))
  (first | refine rcvs rfl rfl rfl rfl rfl (by first | assumption | (simp (disch := omega) only [am_set_ne, am_set_eq]; first | assumption | rfl)) rfl (w_isPerson y2 x1) ?_ | refine rcvn rfl rfl rfl rfl rfl (by first | assumption | (simp (disch := omega) only [am_set_ne, am_set_eq]; first | assumption | rfl)) rfl (w_isPerson y2 x1) ?_)
  by_cases c : inR p P
  · rw [if_pos c, if_pos c]
    (first | refine rift rfl rfl ?_ | refine riff rfl rfl ?_ | refine rict rfl rfl ?_ | refine ricf rfl rfl ?_)
    obtain ⟨k, hk, rfl⟩ := inR_of c (by omega)
    have hN0 : 1 ≤ N := by
      rcases Nat.lt_or_ge N 1 with a | a
      · have := w1 (by omega)
        omega
      · exact a
    rw [nI_clamp (by omega)]
    repeat (first | refine rs [] rfl rfl rfl rfl ?_ | refine rk rfl rfl ?_ | refine rgoh [] rfl rfl ?_ | refine rgeta (hi := rfl) (kk := ?_) | refine rialda (hi := rfl) (kk := ?_))
    refine rcvt rfl rfl rfl rfl rfl x1 rfl (w_begin R) ?_
    rintro r h1 ⟨rfl, R1, A1, f1⟩
    show am_R M_Mo_journey (8, [.ref 130, .int (nI k), _], []) _ _
    repeat (first | refine rs [10] rfl rfl rfl rfl ?_ | refine rk rfl rfl ?_ | refine rgoh [10] rfl rfl ?_ | refine rgeta (hi := rfl) (kk := ?_) | refine rialda (hi := rfl) (kk := ?_))
    have tl : ∀ (S1 : Sc) h2 (x v : Int32), v = (if x ≤ 20 then x else -1) → Classical.epsilon (isFst (fun i => (jrS N P G wa me S i).1 k = wa k) 21) = v → mRep ⟨⟨len, tx⟩, fa, ⟨N, P, G, wa, me⟩, S1, dd, ⟨rc, rx, rh⟩, ⟨bc, bw, bs⟩, sd, i0, i1⟩ h2 → asD P S h2 → am_fr 130 149 h h2 → am_R M_Mo_journey (27, [.ref 130, .int (nI k), .int x], []) h2 (fun r h' => r = some (.int (Classical.epsilon (isFst (fun i => (jrS N P G wa me S i).1 k = wa k) 21))) ∧ mRep ⟨⟨len, tx⟩, fa, ⟨N, P, G, wa, me⟩, S, dd, ⟨rc, rx, rh⟩, ⟨bc, bw, bs⟩, sd, i0, i1⟩ h' ∧ am_fr 130 149 h h') := by
      intro S1 h2 x v hv he R2 A2 f2
      obtain ⟨ra, rf, rn, rm, sm, x1⟩ := R2.top
      repeat (first | refine rs [] rfl rfl rfl rfl ?_ | refine rk rfl rfl ?_ | refine rgoh [] rfl rfl ?_ | refine rgeta (hi := rfl) (kk := ?_) | refine rialda (hi := rfl) (kk := ?_))
      refine rcvt rfl rfl rfl rfl rfl x1 rfl (w_back R2 A2) ?_
      rintro r h3 ⟨rfl, R3, f3⟩
      show am_R M_Mo_journey (29, [.ref 130, .int (nI k), .int x], []) _ _
      have f4 : am_fr 130 149 h h3 := fr_tr f2 (fl_fr (lo := 130) (hi := 149) f3 (by decide)) (by omega) (by omega)
      repeat (first | refine rs [] rfl rfl rfl rfl ?_ | refine rk rfl rfl ?_ | refine rgoh [] rfl rfl ?_ | refine rgeta (hi := rfl) (kk := ?_) | refine rialda (hi := rfl) (kk := ?_))
      (first | refine rif rfl rfl (fun c1 => ?_) (fun c1 => ?_) | refine ric rfl rfl (fun c1 => ?_) (fun c1 => ?_))
      · rw [if_pos c1] at hv
        repeat (first | refine rs [] rfl rfl rfl rfl ?_ | refine rk rfl rfl ?_ | refine rgoh [] rfl rfl ?_ | refine rgeta (hi := rfl) (kk := ?_) | refine rialda (hi := rfl) (kk := ?_))
        refine rret rfl rfl ?_
        exact ⟨by rw [he, hv], R3, f4⟩
      · rw [if_neg c1] at hv
        repeat (first | refine rs [] rfl rfl rfl rfl ?_ | refine rk rfl rfl ?_ | refine rgoh [] rfl rfl ?_ | refine rgeta (hi := rfl) (kk := ?_) | refine rialda (hi := rfl) (kk := ?_))
        refine rret rfl rfl ?_
        exact ⟨by rw [he, hv], R3, f4⟩
    refine lup (P := fun i => ∀ x h1, x = nI i → (∀ j, j < i → ¬ (jrS N P G wa me S j).1 k = wa k) → mRep ⟨⟨len, tx⟩, fa, ⟨N, P, G, wa, me⟩, jrS N P G wa me S i, dd, ⟨rc, rx, rh⟩, ⟨bc, bw, bs⟩, sd, i0, i1⟩ h1 → asD P S h1 → am_fr 130 149 h h1 → am_R M_Mo_journey (10, [.ref 130, .int (nI k), .int x], []) h1 _) 21 ?_ ?_ 0 h1 nI_0.symm (fun j hj => by omega) R1 A1 (fl_fr f1 (by decide))
    · rintro x h1 rfl hj R1 A1 f1
      repeat (first | refine rs [] rfl rfl rfl rfl ?_ | refine rk rfl rfl ?_ | refine rgoh [] rfl rfl ?_ | refine rgeta (hi := rfl) (kk := ?_) | refine rialda (hi := rfl) (kk := ?_))
      (first | refine rift rfl rfl ?_ | refine riff rfl rfl ?_ | refine rict rfl rfl ?_ | refine ricf rfl rfl ?_)
      exact tl _ _ _ (-1) (by decide) (isFst_eps (Or.inr ⟨rfl, hj⟩)) R1 A1 f1
    · rintro i hi ih x h1 rfl hj R1 A1 f1
      obtain ⟨ra, rf, rn, rm, sm, x1, x2, x3, x4, x5, x6, x7, x8, x9, x10, x11⟩ := id R1
      obtain ⟨y1, y2, waC, meC, y3, y4, y5, y6⟩ := id x4
      obtain ⟨wh, mi, fe, fl, z1, z2, z3, z4, z5⟩ := id x5
      repeat (first | refine rs [] rfl rfl rfl rfl ?_ | refine rk rfl rfl ?_ | refine rgoh [] rfl rfl ?_ | refine rgeta (hi := rfl) (kk := ?_) | refine rialda (hi := rfl) (kk := ?_))
      (first | refine rif rfl rfl (fun c1 => ?_) (fun c1 => ?_) | refine ric rfl rfl (fun c1 => ?_) (fun c1 => ?_))
      · rw [i20, nI_ltI (by omega) (by omega)] at c1
        omega
      · repeat (first | refine rs [] rfl rfl rfl rfl ?_ | refine rk rfl rfl ?_ | refine rgoh [] rfl rfl ?_ | refine rgeta (hi := rfl) (kk := ?_) | refine rialda (hi := rfl) (kk := ?_))
        rw [(z5 k hk).1, y5 k hk]
        (first | refine rif rfl rfl (fun c2 => ?_) (fun c2 => ?_) | refine ric rfl rfl (fun c2 => ?_) (fun c2 => ?_))
        · refine tl _ _ _ (nI i) ?_ (isFst_eps (Or.inl ⟨i, hi, rfl, c2, hj⟩)) R1 A1 f1
          rw [if_pos (by rw [i20]; exact nI_le (by omega) (by omega))]
        · repeat (first | refine rs [] rfl rfl rfl rfl ?_ | refine rk rfl rfl ?_ | refine rgoh [] rfl rfl ?_ | refine rgeta (hi := rfl) (kk := ?_) | refine rialda (hi := rfl) (kk := ?_))
          refine rcvt rfl rfl rfl rfl rfl x1 rfl (w_run hN0 w4 (wfS_jr hN0 w5 i) R1) ?_
          rintro r h2 ⟨rfl, R2, f2⟩
          show am_R M_Mo_journey (25, [.ref 130, .int (nI k), .int (nI i)], []) _ _
          repeat (first | refine rs [10] rfl rfl rfl rfl ?_ | refine rk rfl rfl ?_ | refine rgoh [10] rfl rfl ?_ | refine rgeta (hi := rfl) (kk := ?_) | refine rialda (hi := rfl) (kk := ?_))
          refine ih _ h2 (nI_succ i).symm (fun j hj' => ?_) R2 (A1.fl f2 (by decide)) (fr_tr f1 (fl_fr (lo := 130) (hi := 149) f2 (by decide)) (by omega) (by omega))
          rcases Nat.lt_or_ge j i with w | w
          · exact hj j w
          · rw [show j = i by omega]
            exact c2
  · rw [if_neg c, if_neg c]
    (first | refine rift rfl rfl ?_ | refine riff rfl rfl ?_ | refine rict rfl rfl ?_ | refine ricf rfl rfl ?_)
    repeat (first | refine rs [] rfl rfl rfl rfl ?_ | refine rk rfl rfl ?_ | refine rgoh [] rfl rfl ?_ | refine rgeta (hi := rfl) (kk := ?_) | refine rialda (hi := rfl) (kk := ?_))
    refine rret rfl rfl ?_
    exact ⟨rfl, R, fr_rf⟩
theorem nvA_0 (n : Nat) : (nvA 0 P G wa me n S).2 = 0 := by
  induction n with
  | zero => exact (by decide : sh1 (nI 0) - 1 = 0)
  | succ n ih =>
    show (nvA 0 P G wa me n S).2 &&& _ = 0
    rw [ih]
    exact Int32.zero_and
theorem wfS_nv (hN0 : 1 ≤ N) (hS : wfS N P S) (i : Nat) : wfS N P (nvA N P G wa me i S).1 := by
  induction i with
  | zero => exact hS
  | succ i ih => exact wfS_rn hN0 ih
theorem w_never {n : Int32} (W : wfQ ⟨⟨len, tx⟩, fa, ⟨N, P, G, wa, me⟩, S, dd, ⟨rc, rx, rh⟩, ⟨bc, bw, bs⟩, sd, i0, i1⟩) (R : mRep ⟨⟨len, tx⟩, fa, ⟨N, P, G, wa, me⟩, S, dd, ⟨rc, rx, rh⟩, ⟨bc, bw, bs⟩, sd, i0, i1⟩ h) : am_W M_Mo_never [.ref 130, .int n] (o_never n ⟨⟨len, tx⟩, fa, ⟨N, P, G, wa, me⟩, S, dd, ⟨rc, rx, rh⟩, ⟨bc, bw, bs⟩, sd, i0, i1⟩) h := by
  obtain ⟨w1, w2, w3, w4, w5, w6, w7, w8, w9, w10, w11⟩ := id W
  obtain ⟨ra, rf, rn, rm, sm, x1, x2, x3, x4, x5, x6, x7, x8, x9, x10, x11⟩ := id R
  obtain ⟨y1, y2, waC, meC, y3, y4, y5, y6⟩ := id x4
  obtain ⟨wh, mi, fe, fl, z1, z2, z3, z4, z5⟩ := id x5
  unfold am_W o_never
  (try unfold am_E); unfold am_T
  dsimp only
  repeat (first | refine rs [] rfl rfl rfl rfl ?_ | refine rk rfl rfl ?_ | refine rgoh [] rfl rfl ?_ | refine rgeta (hi := rfl) (kk := ?_) | refine rialda (hi := rfl) (kk := ?_))
  refine rcss rfl rfl rfl rfl rfl (w_in) ?_
  by_cases d : n < 0 ∨ 20 < n
  · rw [if_pos d, if_pos d]
    (first | refine rift rfl rfl ?_ | refine riff rfl rfl ?_ | refine rict rfl rfl ?_ | refine ricf rfl rfl ?_)
    repeat (first | refine rs [] rfl rfl rfl rfl ?_ | refine rk rfl rfl ?_ | refine rgoh [] rfl rfl ?_ | refine rgeta (hi := rfl) (kk := ?_) | refine rialda (hi := rfl) (kk := ?_))
    refine rret rfl rfl ?_
    exact ⟨rfl, R, fr_rf⟩
  · rw [if_neg d, if_neg d]
    (first | refine rift rfl rfl ?_ | refine riff rfl rfl ?_ | refine rict rfl rfl ?_ | refine ricf rfl rfl ?_)
    obtain ⟨m, hm31, rfl⟩ := nI_of (x := n) (fun a => d (Or.inl a))
    rw [nI_clamp (by omega)]
    repeat (first | refine rs [] rfl rfl rfl rfl ?_ | refine rk rfl rfl ?_ | refine rgoh [] rfl rfl ?_ | refine rgeta (hi := rfl) (kk := ?_) | refine rialda (hi := rfl) (kk := ?_))
    refine rcvt rfl rfl rfl rfl rfl x1 rfl (w_begin R) ?_
    rintro r h1 ⟨rfl, R1, A1, f1⟩
    show am_R M_Mo_never (16, [.ref 130, .int (nI m), .int (sh1 (nI N) - 1), _], []) _ _
    repeat (first | refine rs [18] rfl rfl rfl rfl ?_ | refine rk rfl rfl ?_ | refine rgoh [18] rfl rfl ?_ | refine rgeta (hi := rfl) (kk := ?_) | refine rialda (hi := rfl) (kk := ?_))
    have tl : ∀ (S1 : Sc) h2 (x v : Int32), (nvA N P G wa me m S).2 = v → mRep ⟨⟨len, tx⟩, fa, ⟨N, P, G, wa, me⟩, S1, dd, ⟨rc, rx, rh⟩, ⟨bc, bw, bs⟩, sd, i0, i1⟩ h2 → asD P S h2 → am_fr 130 149 h h2 → am_R M_Mo_never (36, [.ref 130, .int (nI m), .int v, .int x], []) h2 (fun r h' => r = some (.int (nvA N P G wa me m S).2) ∧ mRep ⟨⟨len, tx⟩, fa, ⟨N, P, G, wa, me⟩, S, dd, ⟨rc, rx, rh⟩, ⟨bc, bw, bs⟩, sd, i0, i1⟩ h' ∧ am_fr 130 149 h h') := by
      intro S1 h2 x v he R2 A2 f2
      obtain ⟨ra, rf, rn, rm, sm, x1⟩ := R2.top
      repeat (first | refine rs [] rfl rfl rfl rfl ?_ | refine rk rfl rfl ?_ | refine rgoh [] rfl rfl ?_ | refine rgeta (hi := rfl) (kk := ?_) | refine rialda (hi := rfl) (kk := ?_))
      refine rcvt rfl rfl rfl rfl rfl x1 rfl (w_back R2 A2) ?_
      rintro r h3 ⟨rfl, R3, f3⟩
      show am_R M_Mo_never (38, [.ref 130, .int (nI m), .int v, .int x], []) _ _
      repeat (first | refine rs [] rfl rfl rfl rfl ?_ | refine rk rfl rfl ?_ | refine rgoh [] rfl rfl ?_ | refine rgeta (hi := rfl) (kk := ?_) | refine rialda (hi := rfl) (kk := ?_))
      refine rret rfl rfl ?_
      exact ⟨by rw [he], R3, fr_tr f2 (fl_fr (lo := 130) (hi := 149) f3 (by decide)) (by omega) (by omega)⟩
    refine lup (P := fun i => ∀ x v h1, x = nI i → v = (nvA N P G wa me i S).2 → mRep ⟨⟨len, tx⟩, fa, ⟨N, P, G, wa, me⟩, (nvA N P G wa me i S).1, dd, ⟨rc, rx, rh⟩, ⟨bc, bw, bs⟩, sd, i0, i1⟩ h1 → asD P S h1 → am_fr 130 149 h h1 → am_R M_Mo_never (18, [.ref 130, .int (nI m), .int v, .int x], []) h1 _) m ?_ ?_ 0 _ h1 nI_0.symm rfl R1 A1 (fl_fr f1 (by decide))
    · rintro x v h1 rfl hv R1 A1 f1
      repeat (first | refine rs [] rfl rfl rfl rfl ?_ | refine rk rfl rfl ?_ | refine rgoh [] rfl rfl ?_ | refine rgeta (hi := rfl) (kk := ?_) | refine rialda (hi := rfl) (kk := ?_))
      (first | refine rif rfl rfl (fun c1 => ?_) (fun c1 => ?_) | refine ric rfl rfl (fun c1 => ?_) (fun c1 => ?_))
      · exact tl _ _ _ _ hv.symm R1 A1 f1
      · exact absurd (Int32.le_refl _) c1
    · rintro i hi ih x v h1 rfl hv R1 A1 f1
      obtain ⟨ra, rf, rn, rm, sm, x1⟩ := R1.top
      repeat (first | refine rs [] rfl rfl rfl rfl ?_ | refine rk rfl rfl ?_ | refine rgoh [] rfl rfl ?_ | refine rgeta (hi := rfl) (kk := ?_) | refine rialda (hi := rfl) (kk := ?_))
      (first | refine rif rfl rfl (fun c1 => ?_) (fun c1 => ?_) | refine ric rfl rfl (fun c1 => ?_) (fun c1 => ?_))
      · exact absurd hi ((nI_lt_iff (by omega) (by omega)).mp c1)
      · repeat (first | refine rs [] rfl rfl rfl rfl ?_ | refine rk rfl rfl ?_ | refine rgoh [] rfl rfl ?_ | refine rgeta (hi := rfl) (kk := ?_) | refine rialda (hi := rfl) (kk := ?_))
        (first | refine rif rfl rfl (fun c2 => ?_) (fun c2 => ?_) | refine ric rfl rfl (fun c2 => ?_) (fun c2 => ?_))
        · refine tl _ _ _ _ ?_ R1 A1 f1
          have e : N = 0 := by
            rcases Nat.eq_zero_or_pos N with a | a
            · exact a
            · exact absurd c2 (nI_nle a (by omega))
          subst e
          rw [hv, nvA_0, nvA_0]
        · have hN0 : 1 ≤ N := by
            rcases Nat.eq_zero_or_pos N with a | a
            · exact absurd (by rw [a]; decide) c2
            · exact a
          repeat (first | refine rs [] rfl rfl rfl rfl ?_ | refine rk rfl rfl ?_ | refine rgoh [] rfl rfl ?_ | refine rgeta (hi := rfl) (kk := ?_) | refine rialda (hi := rfl) (kk := ?_))
          refine rcvt rfl rfl rfl rfl rfl x1 rfl (w_run hN0 w4 (wfS_nv hN0 w5 i) R1) ?_
          rintro r h2 ⟨rfl, R2, f2⟩
          show am_R M_Mo_never (27, [.ref 130, .int (nI m), .int v, .int (nI i)], []) _ _
          obtain ⟨ra, rf, rn, rm, sm, x1⟩ := R2.top
          repeat (first | refine rs [18] rfl rfl rfl rfl ?_ | refine rk rfl rfl ?_ | refine rgoh [18] rfl rfl ?_ | refine rgeta (hi := rfl) (kk := ?_) | refine rialda (hi := rfl) (kk := ?_))
          exact ih _ _ h2 (nI_succ i).symm (by rw [hv]; rfl) R2 (A1.fl f2 (by decide)) (fr_tr f1 (fl_fr (lo := 130) (hi := 149) f2 (by decide)) (by omega) (by omega))
theorem w_chance {x q : Int32} (R : mRep ⟨⟨len, tx⟩, fa, ⟨N, P, G, wa, me⟩, S, dd, ⟨rc, rx, rh⟩, ⟨bc, bw, bs⟩, sd, i0, i1⟩ h) : am_W M_Mo_chance [.ref 130, .int x, .int q] (o_chance x q ⟨⟨len, tx⟩, fa, ⟨N, P, G, wa, me⟩, S, dd, ⟨rc, rx, rh⟩, ⟨bc, bw, bs⟩, sd, i0, i1⟩) h := by
  obtain ⟨ra, rf, rn, rm, sm, x1, x2, x3, x4, x5, x6, x7, x8, x9, x10, x11⟩ := id R
  obtain ⟨y1, y2, waC, meC, y3, y4, y5, y6⟩ := id x4
  obtain ⟨wh, mi, fe, fl, z1, z2, z3, z4, z5⟩ := id x5
  unfold am_W o_chance
  (try unfold am_E); unfold am_T
  dsimp only
  repeat (first | refine rs [] rfl rfl rfl rfl ?_ | refine rk rfl rfl ?_ | refine rgoh [] rfl rfl ?_ | refine rgeta (hi := rfl) (kk := ?_) | refine rialda (hi := rfl) (kk := ?_))
  (first | refine rcvs rfl rfl rfl rfl rfl (by first | assumption | (simp (disch := omega) only [am_set_ne, am_set_eq]; first | assumption | rfl)) rfl (w_isStation y1 x1) ?_ | refine rcvn rfl rfl rfl rfl rfl (by first | assumption | (simp (disch := omega) only [am_set_ne, am_set_eq]; first | assumption | rfl)) rfl (w_isStation y1 x1) ?_)
  by_cases d : inR x N
  · rw [if_pos d, if_pos d]
    (first | refine rift rfl rfl ?_ | refine riff rfl rfl ?_ | refine rict rfl rfl ?_ | refine ricf rfl rfl ?_)
    repeat (first | refine rs [] rfl rfl rfl rfl ?_ | refine rk rfl rfl ?_ | refine rgoh [] rfl rfl ?_ | refine rgeta (hi := rfl) (kk := ?_) | refine rialda (hi := rfl) (kk := ?_))
    refine rcss rfl rfl rfl rfl rfl (w_in) ?_
    by_cases e : q < 0 ∨ 100 < q
    · rw [if_pos e, if_pos e]
      (first | refine rift rfl rfl ?_ | refine riff rfl rfl ?_ | refine rict rfl rfl ?_ | refine ricf rfl rfl ?_)
      repeat (first | refine rs [] rfl rfl rfl rfl ?_ | refine rk rfl rfl ?_ | refine rgoh [] rfl rfl ?_ | refine rgeta (hi := rfl) (kk := ?_) | refine rialda (hi := rfl) (kk := ?_))
      refine rret rfl rfl ?_
      exact ⟨rfl, R, fr_rf⟩
    · rw [if_neg e, if_neg e]
      (first | refine rift rfl rfl ?_ | refine riff rfl rfl ?_ | refine rict rfl rfl ?_ | refine ricf rfl rfl ?_)
      repeat (first | refine rs [17] rfl rfl rfl rfl ?_ | refine rk rfl rfl ?_ | refine rgoh [17] rfl rfl ?_ | refine rgeta (hi := rfl) (kk := ?_) | refine rialda (hi := rfl) (kk := ?_))
      refine lup (P := fun i => ∀ y z v6, y = nI i → z = chA S x q i → am_R M_Mo_chance (17, [.ref 130, .int x, .int q, .long z, .null, .int y, v6], []) h _) P ?_ ?_ 0 _ _ nI_0.symm rfl
      · rintro y z v6 rfl rfl
        generalize chA S x q P = ch
        repeat (first | refine rs [] rfl rfl rfl rfl ?_ | refine rk rfl rfl ?_ | refine rgoh [] rfl rfl ?_ | refine rgeta (hi := rfl) (kk := ?_) | refine rialda (hi := rfl) (kk := ?_))
        (first | refine rif rfl rfl (fun c3 => ?_) (fun c3 => ?_) | refine ric rfl rfl (fun c3 => ?_) (fun c3 => ?_))
        · repeat (first | refine rs [] rfl rfl rfl rfl ?_ | refine rk rfl rfl ?_ | refine rgoh [] rfl rfl ?_ | refine rgeta (hi := rfl) (kk := ?_) | refine rialda (hi := rfl) (kk := ?_))
          refine rret rfl rfl ?_
          exact ⟨rfl, R, fr_rf⟩
        · exact absurd (Int32.le_refl _) c3
      · rintro i hi ih y z v6 rfl rfl
        have es : chA S x q (i + 1) = if S.1 i = x then chA S x q i * (100 - tkA q (shA 0 S i)).toInt64 / 100 else chA S x q i := rfl
        generalize chA S x q (i + 1) = cn at es ih
        generalize chA S x q i = ch at es ⊢
        repeat (first | refine rs [] rfl rfl rfl rfl ?_ | refine rk rfl rfl ?_ | refine rgoh [] rfl rfl ?_ | refine rgeta (hi := rfl) (kk := ?_) | refine rialda (hi := rfl) (kk := ?_))
        (first | refine rif rfl rfl (fun c3 => ?_) (fun c3 => ?_) | refine ric rfl rfl (fun c3 => ?_) (fun c3 => ?_))
        · exact absurd hi ((nI_lt_iff (by omega) (by omega)).mp c3)
        · repeat (first | refine rs [] rfl rfl rfl rfl ?_ | refine rk rfl rfl ?_ | refine rgoh [] rfl rfl ?_ | refine rgeta (hi := rfl) (kk := ?_) | refine rialda (hi := rfl) (kk := ?_))
          have sh := w_shw (p := nI i) rfl hi R
          have tl : ∀ v6 tk, tk = tkA q (shA 0 S i) → am_R M_Mo_chance (35, [.ref 130, .int x, .int q, .long ch, .null, .int (nI i), v6], [.int tk]) h (fun r h' => r = some (.int (chA S x q P).toInt32) ∧ mRep ⟨⟨len, tx⟩, fa, ⟨N, P, G, wa, me⟩, S, dd, ⟨rc, rx, rh⟩, ⟨bc, bw, bs⟩, sd, i0, i1⟩ h' ∧ am_fr 130 149 h h') := by
            intro v6 tk etk
            rw [← etk] at es
            repeat (first | refine rs [] rfl rfl rfl rfl ?_ | refine rk rfl rfl ?_ | refine rgoh [] rfl rfl ?_ | refine rgeta (hi := rfl) (kk := ?_) | refine rialda (hi := rfl) (kk := ?_))
            rw [(z5 i hi).1]
            (first | refine rif rfl rfl (fun c4 => ?_) (fun c4 => ?_) | refine ric rfl rfl (fun c4 => ?_) (fun c4 => ?_))
            · rw [if_pos c4] at es
              repeat (first | refine rs [17] rfl rfl rfl rfl ?_ | refine rk rfl rfl ?_ | refine rgoh [17] rfl rfl ?_ | refine rgeta (hi := rfl) (kk := ?_) | refine rialda (hi := rfl) (kk := ?_))
              refine ih _ _ _ (nI_succ i).symm ?_
              rw [es]
            · rw [if_neg c4] at es
              repeat (first | refine rs [17] rfl rfl rfl rfl ?_ | refine rk rfl rfl ?_ | refine rgoh [17] rfl rfl ?_ | refine rgeta (hi := rfl) (kk := ?_) | refine rialda (hi := rfl) (kk := ?_))
              exact ih _ _ _ (nI_succ i).symm es.symm
          unfold tkA at tl
          generalize shA 0 S i = sw at sh tl
          (first | refine rcvs rfl rfl rfl rfl rfl (by first | assumption | (simp (disch := omega) only [am_set_ne, am_set_eq]; first | assumption | rfl)) rfl (sh) ?_ | refine rcvn rfl rfl rfl rfl rfl (by first | assumption | (simp (disch := omega) only [am_set_ne, am_set_eq]; first | assumption | rfl)) rfl (sh) ?_)
          repeat (first | refine rs [] rfl rfl rfl rfl ?_ | refine rk rfl rfl ?_ | refine rgoh [] rfl rfl ?_ | refine rgeta (hi := rfl) (kk := ?_) | refine rialda (hi := rfl) (kk := ?_))
          (first | refine rif rfl rfl (fun c4 => ?_) (fun c4 => ?_) | refine ric rfl rfl (fun c4 => ?_) (fun c4 => ?_))
          · repeat (first | refine rs [] rfl rfl rfl rfl ?_ | refine rk rfl rfl ?_ | refine rgoh [] rfl rfl ?_ | refine rgeta (hi := rfl) (kk := ?_) | refine rialda (hi := rfl) (kk := ?_))
            (first | refine rcvs rfl rfl rfl rfl rfl (by first | assumption | (simp (disch := omega) only [am_set_ne, am_set_eq]; first | assumption | rfl)) rfl (sh) ?_ | refine rcvn rfl rfl rfl rfl rfl (by first | assumption | (simp (disch := omega) only [am_set_ne, am_set_eq]; first | assumption | rfl)) rfl (sh) ?_)
            repeat (first | refine rs [35] rfl rfl rfl rfl ?_ | refine rk rfl rfl ?_ | refine rgoh [35] rfl rfl ?_ | refine rgeta (hi := rfl) (kk := ?_) | refine rialda (hi := rfl) (kk := ?_))
            refine tl _ _ ?_
            by_cases g : q * sw < 100
            · rw [if_pos g]
            · rw [if_neg g]
              exact Int32.le_antisymm c4 (Int32.not_lt.mp g)
          · repeat (first | refine rs [35] rfl rfl rfl rfl ?_ | refine rk rfl rfl ?_ | refine rgoh [35] rfl rfl ?_ | refine rgeta (hi := rfl) (kk := ?_) | refine rialda (hi := rfl) (kk := ?_))
            refine tl _ _ ?_
            rw [if_neg (fun a => c4 (Int32.le_of_lt a))]
  · rw [if_neg d, if_neg d]
    (first | refine rift rfl rfl ?_ | refine riff rfl rfl ?_ | refine rict rfl rfl ?_ | refine ricf rfl rfl ?_)
    repeat (first | refine rs [] rfl rfl rfl rfl ?_ | refine rk rfl rfl ?_ | refine rgoh [] rfl rfl ?_ | refine rgeta (hi := rfl) (kk := ?_) | refine rialda (hi := rfl) (kk := ?_))
    refine rret rfl rfl ?_
    exact ⟨rfl, R, fr_rf⟩
end MTried
