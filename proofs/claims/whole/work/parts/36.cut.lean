/-! the class's calls: journey, cut, calm, aunts, chance -/
section CCut
variable {h h' : am_H} {len N P rc bc : Nat} {fa G sd : Int32} {tx wa me rx rh bw bs : Nat → Int32} {S S' : Sc} {dd dd' : List Sc} {i0 i1 : Im}
def jrS (N P : Nat) (G : Int32) (wa me : Nat → Int32) (S : Sc) : Nat → Sc
  | 0 => S
  | n + 1 => rnA N P G wa me 0 (jrS N P G wa me S n)
noncomputable def o_journey (p : Int32) : Q → Int32 × Q
  | ⟨⟨len, tx⟩, fa, ⟨N, P, G, wa, me⟩, S, dd, ⟨rc, rx, rh⟩, ⟨bc, bw, bs⟩, sd, i0, i1⟩ => (if inR p P then Classical.epsilon (isFst (fun i => (jrS N P G wa me S i).1 p.toNatClampNeg = wa p.toNatClampNeg) 21) else -1000000001, ⟨⟨len, tx⟩, fa, ⟨N, P, G, wa, me⟩, S, dd, ⟨rc, rx, rh⟩, ⟨bc, bw, bs⟩, sd, i0, i1⟩)
set_option maxHeartbeats 1000000 in
theorem v_journey {p : Int32} (R : cRep ⟨⟨len, tx⟩, fa, ⟨N, P, G, wa, me⟩, S, dd, ⟨rc, rx, rh⟩, ⟨bc, bw, bs⟩, sd, i0, i1⟩ h) : am_O M_Sp_journey [.ref 1, .int p] (o_journey p ⟨⟨len, tx⟩, fa, ⟨N, P, G, wa, me⟩, S, dd, ⟨rc, rx, rh⟩, ⟨bc, bw, bs⟩, sd, i0, i1⟩) h := by
  obtain ⟨x1, ⟨x2, x3, x4⟩, x5, ⟨x6, x7, waC, meC, x8, x9, x10, x11, x12⟩, ⟨wh, mi, fe, fl, x13, x14, x15, x16⟩, x17, ⟨tm, x18⟩, ⟨fi, ff, x19, x20, x21, x22, x23, x24, x25⟩, ⟨x26, ss, fd, x27, x28, x29, x30⟩, ⟨x31, x32, x33, x34⟩, x35, ⟨fi2, x36, x37, x38, x39, x40⟩⟩ := id R
  have y13 : h.1 14 = .inr (6, [.ref 15, .ref 16, .int fe, .int fl, .int _, .int _, .int _]) := x13
  have y14 : h.1 15 = iar wh := x14
  have y15 : h.1 16 = iar mi := x15
  unfold pTop at x1
  obtain ⟨v1, v2, v3, v4, v5, v6, v7, v8, -⟩ := id x17
  unfold am_O o_journey
  (try unfold am_E); unfold am_T
  dsimp only
  repeat (first | refine rs [] rfl rfl rfl rfl ?_ | refine rk rfl rfl ?_ | refine rgoh [] rfl rfl ?_ | refine rgeta (hi := rfl) (kk := ?_) | refine rialda (hi := rfl) (kk := ?_))
  (first | refine rcvs rfl rfl rfl rfl rfl (by first | assumption | (simp (disch := omega) only [am_set_ne, am_set_eq]; first | assumption | rfl)) rfl (c_hasPerson x7 x8) ?_ | refine rcvn rfl rfl rfl rfl rfl (by first | assumption | (simp (disch := omega) only [am_set_ne, am_set_eq]; first | assumption | rfl)) rfl (c_hasPerson x7 x8) ?_)
  by_cases c : inR p P
  · rw [if_pos c, if_pos c]
    (first | refine rift rfl rfl ?_ | refine riff rfl rfl ?_ | refine rict rfl rfl ?_ | refine ricf rfl rfl ?_)
    obtain ⟨k, hk, rfl⟩ := inR_of c (by omega)
    rw [nI_clamp (by omega)]
    repeat (first | refine rs [] rfl rfl rfl rfl ?_ | refine rk rfl rfl ?_ | refine rgoh [] rfl rfl ?_ | refine rgeta (hi := rfl) (kk := ?_) | refine rialda (hi := rfl) (kk := ?_))
    refine rcvt rfl rfl rfl rfl rfl v8 rfl (v_trial R) ?_
    rintro r h1 ⟨rfl, R1, T1, f1⟩
    show am_R M_Sp_journey (12, [.ref 1, .int (nI k), _], []) _ _
    repeat (first | refine rs [14] rfl rfl rfl rfl ?_ | refine rk rfl rfl ?_ | refine rgoh [14] rfl rfl ?_ | refine rgeta (hi := rfl) (kk := ?_) | refine rialda (hi := rfl) (kk := ?_))
    refine lup (P := fun i => ∀ x h2, x = nI i → (∀ j, j < i → ¬ (jrS N P G wa me S j).1 k = wa k) → cRep ⟨⟨len, tx⟩, fa, ⟨N, P, G, wa, me⟩, S, dd, ⟨rc, rx, rh⟩, ⟨bc, bw, bs⟩, sd, i0, i1⟩ h2 → cSc P 17 (jrS N P G wa me S i) h2 → am_fr 17 20 h h2 → am_R M_Sp_journey (14, [.ref 1, .int (nI k), .int x], []) h2 _) 21 ?_ ?_ 0 h1 nI_0.symm (fun j hj => absurd hj (by omega)) R1 T1 f1
    · rintro x h2 rfl hj R2 T2 f2
      repeat (first | refine rs [] rfl rfl rfl rfl ?_ | refine rk rfl rfl ?_ | refine rgoh [] rfl rfl ?_ | refine rgeta (hi := rfl) (kk := ?_) | refine rialda (hi := rfl) (kk := ?_))
      (first | refine rift rfl rfl ?_ | refine riff rfl rfl ?_ | refine rict rfl rfl ?_ | refine ricf rfl rfl ?_)
      repeat (first | refine rs [] rfl rfl rfl rfl ?_ | refine rk rfl rfl ?_ | refine rgoh [] rfl rfl ?_ | refine rgeta (hi := rfl) (kk := ?_) | refine rialda (hi := rfl) (kk := ?_))
      refine rret rfl rfl ?_
      exact ⟨by rw [isFst_eps (Or.inr ⟨rfl, hj⟩)], R2, fr_wd f2 (by omega) (by omega)⟩
    · rintro i hi ih x h2 rfl hj R2 T2 f2
      obtain ⟨x1, ⟨x2, x3, x4⟩, x5, ⟨x6, x7, waC, meC, x8, x9, x10, x11, x12⟩, ⟨wh, mi, fe, fl, x13, x14, x15, x16⟩, x17, ⟨tm, x18⟩, ⟨fi, ff, x19, x20, x21, x22, x23, x24, x25⟩, ⟨x26, ss, fd, x27, x28, x29, x30⟩, ⟨x31, x32, x33, x34⟩, x35, ⟨fi2, x36, x37, x38, x39, x40⟩⟩ := id R2
      have y13 : h2.1 14 = .inr (6, [.ref 15, .ref 16, .int fe, .int fl, .int _, .int _, .int _]) := x13
      have y14 : h2.1 15 = iar wh := x14
      have y15 : h2.1 16 = iar mi := x15
      unfold pTop at x1
      obtain ⟨u1, u2, u3, u4, u5, -⟩ := id T2
      repeat (first | refine rs [] rfl rfl rfl rfl ?_ | refine rk rfl rfl ?_ | refine rgoh [] rfl rfl ?_ | refine rgeta (hi := rfl) (kk := ?_) | refine rialda (hi := rfl) (kk := ?_))
      (first | refine rif rfl rfl (fun c3 => ?_) (fun c3 => ?_) | refine ric rfl rfl (fun c3 => ?_) (fun c3 => ?_))
      · exfalso
        rw [show (20 : Int32) = nI 20 by decide, nI_ltI (by omega) (by omega)] at c3
        omega
      · repeat (first | refine rs [] rfl rfl rfl rfl ?_ | refine rk rfl rfl ?_ | refine rgoh [] rfl rfl ?_ | refine rgeta (hi := rfl) (kk := ?_) | refine rialda (hi := rfl) (kk := ?_))
        (first | refine rcvs rfl rfl rfl rfl rfl (by first | assumption | (simp (disch := omega) only [am_set_ne, am_set_eq]; first | assumption | rfl)) rfl (a_hasArrived rfl hk R2.2.2.2.1 T2 (by omega)) ?_ | refine rcvn rfl rfl rfl rfl rfl (by first | assumption | (simp (disch := omega) only [am_set_ne, am_set_eq]; first | assumption | rfl)) rfl (a_hasArrived rfl hk R2.2.2.2.1 T2 (by omega)) ?_)
        by_cases d : (jrS N P G wa me S i).1 k = wa k
        · rw [if_pos d]
          (first | refine rift rfl rfl ?_ | refine riff rfl rfl ?_ | refine rict rfl rfl ?_ | refine ricf rfl rfl ?_)
          repeat (first | refine rs [] rfl rfl rfl rfl ?_ | refine rk rfl rfl ?_ | refine rgoh [] rfl rfl ?_ | refine rgeta (hi := rfl) (kk := ?_) | refine rialda (hi := rfl) (kk := ?_))
          refine rret rfl rfl ?_
          exact ⟨by rw [isFst_eps (Or.inl ⟨i, hi, rfl, d, hj⟩)], R2, fr_wd f2 (by omega) (by omega)⟩
        · rw [if_neg d]
          (first | refine rift rfl rfl ?_ | refine riff rfl rfl ?_ | refine rict rfl rfl ?_ | refine ricf rfl rfl ?_)
          repeat (first | refine rs [] rfl rfl rfl rfl ?_ | refine rk rfl rfl ?_ | refine rgoh [] rfl rfl ?_ | refine rgeta (hi := rfl) (kk := ?_) | refine rialda (hi := rfl) (kk := ?_))
          refine rcvt rfl rfl rfl rfl rfl u5 rfl (v_trun R2 T2 x10 (by omega) x12) ?_
          rintro r h3 ⟨rfl, R3, T3, f3⟩
          show am_R M_Sp_journey (35, [.ref 1, .int (nI k), .int (nI i)], []) _ _
          repeat (first | refine rs [14] rfl rfl rfl rfl ?_ | refine rk rfl rfl ?_ | refine rgoh [14] rfl rfl ?_ | refine rgeta (hi := rfl) (kk := ?_) | refine rialda (hi := rfl) (kk := ?_))
          refine ih _ h3 (nI_succ i).symm (fun j hj' => ?_) R3 T3 (fr_tr f2 f3 (by omega) (by omega))
          rcases Nat.lt_or_ge j i with w | w
          · exact hj j w
          · rw [show j = i by omega]
            exact d
  · rw [if_neg c, if_neg c]
    (first | refine rift rfl rfl ?_ | refine riff rfl rfl ?_ | refine rict rfl rfl ?_ | refine ricf rfl rfl ?_)
    repeat (first | refine rs [] rfl rfl rfl rfl ?_ | refine rk rfl rfl ?_ | refine rgoh [] rfl rfl ?_ | refine rgeta (hi := rfl) (kk := ?_) | refine rialda (hi := rfl) (kk := ?_))
    refine rret rfl rfl ?_
    exact ⟨rfl, R, fr_rf⟩
/-- the least station whose shutting keeps him from arriving -/
noncomputable def o_cut (p : Int32) : Q → Int32 × Q
  | ⟨⟨len, tx⟩, fa, ⟨N, P, G, wa, me⟩, S, dd, ⟨rc, rx, rh⟩, ⟨bc, bw, bs⟩, sd, i0, i1⟩ => (if inR p P then (if S.1 p.toNatClampNeg = wa p.toNatClampNeg then -1 else if ¬ (rnA N P G wa me 0 S).1 p.toNatClampNeg = wa p.toNatClampNeg then 0 else (if Classical.epsilon (isFst (fun x => ¬ (rnA N P G wa me (sh1 (nI x)) S).1 p.toNatClampNeg = wa p.toNatClampNeg) N) = -1 then -1 else sh1 (Classical.epsilon (isFst (fun x => ¬ (rnA N P G wa me (sh1 (nI x)) S).1 p.toNatClampNeg = wa p.toNatClampNeg) N)))) else -1000000001, ⟨⟨len, tx⟩, fa, ⟨N, P, G, wa, me⟩, S, dd, ⟨rc, rx, rh⟩, ⟨bc, bw, bs⟩, sd, i0, i1⟩)
set_option maxHeartbeats 1000000 in
theorem v_cut {p : Int32} (R : cRep ⟨⟨len, tx⟩, fa, ⟨N, P, G, wa, me⟩, S, dd, ⟨rc, rx, rh⟩, ⟨bc, bw, bs⟩, sd, i0, i1⟩ h) : am_O M_Sp_cut [.ref 1, .int p] (o_cut p ⟨⟨len, tx⟩, fa, ⟨N, P, G, wa, me⟩, S, dd, ⟨rc, rx, rh⟩, ⟨bc, bw, bs⟩, sd, i0, i1⟩) h := by
  have hS : cSc P 14 S h := R.2.2.2.2.1
  have hL : cLn N P G wa me h := R.2.2.2.1
  obtain ⟨x1, ⟨x2, x3, x4⟩, x5, ⟨x6, x7, waC, meC, x8, x9, x10, x11, x12⟩, ⟨wh, mi, fe, fl, x13, x14, x15, x16⟩, x17, ⟨tm, x18⟩, ⟨fi, ff, x19, x20, x21, x22, x23, x24, x25⟩, ⟨x26, ss, fd, x27, x28, x29, x30⟩, ⟨x31, x32, x33, x34⟩, x35, ⟨fi2, x36, x37, x38, x39, x40⟩⟩ := id R
  have y13 : h.1 14 = .inr (6, [.ref 15, .ref 16, .int fe, .int fl, .int _, .int _, .int _]) := x13
  have y14 : h.1 15 = iar wh := x14
  have y15 : h.1 16 = iar mi := x15
  unfold pTop at x1
  unfold am_O o_cut
  (try unfold am_E); unfold am_T
  dsimp only
  repeat (first | refine rs [] rfl rfl rfl rfl ?_ | refine rk rfl rfl ?_ | refine rgoh [] rfl rfl ?_ | refine rgeta (hi := rfl) (kk := ?_) | refine rialda (hi := rfl) (kk := ?_))
  (first | refine rcvs rfl rfl rfl rfl rfl (by first | assumption | (simp (disch := omega) only [am_set_ne, am_set_eq]; first | assumption | rfl)) rfl (c_hasPerson x7 x8) ?_ | refine rcvn rfl rfl rfl rfl rfl (by first | assumption | (simp (disch := omega) only [am_set_ne, am_set_eq]; first | assumption | rfl)) rfl (c_hasPerson x7 x8) ?_)
  by_cases c : inR p P
  · rw [if_pos c, if_pos c]
    (first | refine rift rfl rfl ?_ | refine riff rfl rfl ?_ | refine rict rfl rfl ?_ | refine ricf rfl rfl ?_)
    obtain ⟨k, hk, rfl⟩ := inR_of c (by omega)
    rw [nI_clamp (by omega)]
    repeat (first | refine rs [] rfl rfl rfl rfl ?_ | refine rk rfl rfl ?_ | refine rgoh [] rfl rfl ?_ | refine rgeta (hi := rfl) (kk := ?_) | refine rialda (hi := rfl) (kk := ?_))
    (first | refine rcvs rfl rfl rfl rfl rfl (by first | assumption | (simp (disch := omega) only [am_set_ne, am_set_eq]; first | assumption | rfl)) rfl (a_hasArrived rfl hk hL hS (by omega)) ?_ | refine rcvn rfl rfl rfl rfl rfl (by first | assumption | (simp (disch := omega) only [am_set_ne, am_set_eq]; first | assumption | rfl)) rfl (a_hasArrived rfl hk hL hS (by omega)) ?_)
    by_cases d : S.1 k = wa k
    · rw [if_pos d, if_pos d]
      (first | refine rift rfl rfl ?_ | refine riff rfl rfl ?_ | refine rict rfl rfl ?_ | refine ricf rfl rfl ?_)
      repeat (first | refine rs [] rfl rfl rfl rfl ?_ | refine rk rfl rfl ?_ | refine rgoh [] rfl rfl ?_ | refine rgeta (hi := rfl) (kk := ?_) | refine rialda (hi := rfl) (kk := ?_))
      refine rret rfl rfl ?_
      exact ⟨rfl, R, fr_rf⟩
    · rw [if_neg d, if_neg d]
      (first | refine rift rfl rfl ?_ | refine riff rfl rfl ?_ | refine rict rfl rfl ?_ | refine ricf rfl rfl ?_)
      repeat (first | refine rs [] rfl rfl rfl rfl ?_ | refine rk rfl rfl ?_ | refine rgoh [] rfl rfl ?_ | refine rgeta (hi := rfl) (kk := ?_) | refine rialda (hi := rfl) (kk := ?_))
      refine rcvt rfl rfl rfl rfl rfl x1 rfl (v_though (shut := 0) rfl hk R) ?_
      rintro r h1 ⟨rfl, R1, f1⟩
      show am_R M_Sp_cut (20, [.ref 1, .int (nI k), _], [.int _]) _ _
      by_cases e : (rnA N P G wa me 0 S).1 k = wa k
      · rw [if_pos e, if_neg (fun a => a e)]
        (first | refine rift rfl rfl ?_ | refine riff rfl rfl ?_ | refine rict rfl rfl ?_ | refine ricf rfl rfl ?_)
        repeat (first | refine rs [25] rfl rfl rfl rfl ?_ | refine rk rfl rfl ?_ | refine rgoh [25] rfl rfl ?_ | refine rgeta (hi := rfl) (kk := ?_) | refine rialda (hi := rfl) (kk := ?_))
        refine lup (P := fun i => ∀ x h2, x = nI i → (∀ j, j < i → ¬ ¬ (rnA N P G wa me (sh1 (nI j)) S).1 k = wa k) → cRep ⟨⟨len, tx⟩, fa, ⟨N, P, G, wa, me⟩, S, dd, ⟨rc, rx, rh⟩, ⟨bc, bw, bs⟩, sd, i0, i1⟩ h2 → am_fr 17 20 h h2 → am_R M_Sp_cut (25, [.ref 1, .int (nI k), .int x], []) h2 _) N ?_ ?_ 0 h1 nI_0.symm (fun j hj => absurd hj (by omega)) R1 f1
        · rintro x h2 rfl hj R2 f2
          obtain ⟨x1, ⟨x2, x3, x4⟩, x5, ⟨x6, x7, waC, meC, x8, x9, x10, x11, x12⟩, ⟨wh, mi, fe, fl, x13, x14, x15, x16⟩, x17, ⟨tm, x18⟩, ⟨fi, ff, x19, x20, x21, x22, x23, x24, x25⟩, ⟨x26, ss, fd, x27, x28, x29, x30⟩, ⟨x31, x32, x33, x34⟩, x35, ⟨fi2, x36, x37, x38, x39, x40⟩⟩ := id R2
          have y13 : h2.1 14 = .inr (6, [.ref 15, .ref 16, .int fe, .int fl, .int _, .int _, .int _]) := x13
          have y14 : h2.1 15 = iar wh := x14
          have y15 : h2.1 16 = iar mi := x15
          unfold pTop at x1
          repeat (first | refine rs [] rfl rfl rfl rfl ?_ | refine rk rfl rfl ?_ | refine rgoh [] rfl rfl ?_ | refine rgeta (hi := rfl) (kk := ?_) | refine rialda (hi := rfl) (kk := ?_))
          (first | refine rif rfl rfl (fun c3 => ?_) (fun c3 => ?_) | refine ric rfl rfl (fun c3 => ?_) (fun c3 => ?_))
          · repeat (first | refine rs [] rfl rfl rfl rfl ?_ | refine rk rfl rfl ?_ | refine rgoh [] rfl rfl ?_ | refine rgeta (hi := rfl) (kk := ?_) | refine rialda (hi := rfl) (kk := ?_))
            refine rret rfl rfl ?_
            exact ⟨by rw [isFst_eps (Or.inr ⟨rfl, hj⟩), if_pos rfl], R2, fr_wd f2 (by omega) (by omega)⟩
          · exact absurd (Int32.le_refl _) c3
        · rintro i hi ih x h2 rfl hj R2 f2
          obtain ⟨x1, ⟨x2, x3, x4⟩, x5, ⟨x6, x7, waC, meC, x8, x9, x10, x11, x12⟩, ⟨wh, mi, fe, fl, x13, x14, x15, x16⟩, x17, ⟨tm, x18⟩, ⟨fi, ff, x19, x20, x21, x22, x23, x24, x25⟩, ⟨x26, ss, fd, x27, x28, x29, x30⟩, ⟨x31, x32, x33, x34⟩, x35, ⟨fi2, x36, x37, x38, x39, x40⟩⟩ := id R2
          have y13 : h2.1 14 = .inr (6, [.ref 15, .ref 16, .int fe, .int fl, .int _, .int _, .int _]) := x13
          have y14 : h2.1 15 = iar wh := x14
          have y15 : h2.1 16 = iar mi := x15
          unfold pTop at x1
          repeat (first | refine rs [] rfl rfl rfl rfl ?_ | refine rk rfl rfl ?_ | refine rgoh [] rfl rfl ?_ | refine rgeta (hi := rfl) (kk := ?_) | refine rialda (hi := rfl) (kk := ?_))
          (first | refine rif rfl rfl (fun c3 => ?_) (fun c3 => ?_) | refine ric rfl rfl (fun c3 => ?_) (fun c3 => ?_))
          · exact absurd hi ((nI_lt_iff (by omega) (by omega)).mp c3)
          · repeat (first | refine rs [] rfl rfl rfl rfl ?_ | refine rk rfl rfl ?_ | refine rgoh [] rfl rfl ?_ | refine rgeta (hi := rfl) (kk := ?_) | refine rialda (hi := rfl) (kk := ?_))
            refine rcvt rfl rfl rfl rfl rfl x1 rfl (v_though (shut := sh1 (nI i)) rfl hk R2) ?_
            rintro r h3 ⟨rfl, R3, f3⟩
            show am_R M_Sp_cut (36, [.ref 1, .int (nI k), .int (nI i)], [.int _]) _ _
            by_cases g : (rnA N P G wa me (sh1 (nI i)) S).1 k = wa k
            · rw [if_pos g]
              (first | refine rift rfl rfl ?_ | refine riff rfl rfl ?_ | refine rict rfl rfl ?_ | refine ricf rfl rfl ?_)
              repeat (first | refine rs [25] rfl rfl rfl rfl ?_ | refine rk rfl rfl ?_ | refine rgoh [25] rfl rfl ?_ | refine rgeta (hi := rfl) (kk := ?_) | refine rialda (hi := rfl) (kk := ?_))
              refine ih _ h3 (nI_succ i).symm (fun j hj' => ?_) R3 (fr_tr f2 f3 (by omega) (by omega))
              rcases Nat.lt_or_ge j i with w | w
              · exact hj j w
              · rw [show j = i by omega]
                exact fun a => a g
            · rw [if_neg g]
              (first | refine rift rfl rfl ?_ | refine riff rfl rfl ?_ | refine rict rfl rfl ?_ | refine ricf rfl rfl ?_)
              repeat (first | refine rs [25] rfl rfl rfl rfl ?_ | refine rk rfl rfl ?_ | refine rgoh [25] rfl rfl ?_ | refine rgeta (hi := rfl) (kk := ?_) | refine rialda (hi := rfl) (kk := ?_))
              refine rret rfl rfl ?_
              refine ⟨?_, R3, fr_wd (fr_tr (lo := 17) (hi := 20) f2 f3 (by omega) (by omega)) (by omega) (by omega)⟩
              rw [isFst_eps (Or.inl ⟨i, hi, rfl, g, hj⟩), if_neg (fun a => by
                have : nI i < 0 := by rw [a]; decide
                exact nI_pos (by omega) this)]
              rfl
      · rw [if_neg e, if_pos e]
        (first | refine rift rfl rfl ?_ | refine riff rfl rfl ?_ | refine rict rfl rfl ?_ | refine ricf rfl rfl ?_)
        repeat (first | refine rs [25] rfl rfl rfl rfl ?_ | refine rk rfl rfl ?_ | refine rgoh [25] rfl rfl ?_ | refine rgeta (hi := rfl) (kk := ?_) | refine rialda (hi := rfl) (kk := ?_))
        refine rret rfl rfl ?_
        exact ⟨rfl, R1, fr_wd f1 (by omega) (by omega)⟩
  · rw [if_neg c, if_neg c]
    (first | refine rift rfl rfl ?_ | refine riff rfl rfl ?_ | refine rict rfl rfl ?_ | refine ricf rfl rfl ?_)
    repeat (first | refine rs [] rfl rfl rfl rfl ?_ | refine rk rfl rfl ?_ | refine rgoh [] rfl rfl ?_ | refine rgeta (hi := rfl) (kk := ?_) | refine rialda (hi := rfl) (kk := ?_))
    refine rret rfl rfl ?_
    exact ⟨rfl, R, fr_rf⟩
end CCut
