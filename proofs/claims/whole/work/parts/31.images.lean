/-! the class's calls: drift, undo, images -/
def dyA (P : Nat) (z : Sc × Int32) : Sc × Int32 := if P = 0 then ((z.1.1, z.1.2.1, z.1.2.2.1, z.1.2.2.2.1, drw z.2 6, z.1.2.2.2.2.2), lcg z.2) else ((z.1.1, (if inR (drw z.2 (nI P)) P then upd z.1.2.1 (drw z.2 (nI P)).toNatClampNeg (drw (lcg z.2) 10) else z.1.2.1), z.1.2.2.1, z.1.2.2.2.1, drw (lcg (lcg z.2)) 6, z.1.2.2.2.2.2), lcg (lcg (lcg z.2)))
theorem c_nextx {h : am_H} {sd x : Int32} {n : Nat} (hx : x = nI n) (h0 : 0 < n) (hn : n < 2 ^ 31) (hd : h.1 120 = .inr (2, [.int sd])) : am_E M_Draws_next [.ref 120, .int x] h (some (.int (drw sd x))) (am_set h 120 (.inr (2, [.int (lcg sd)]))) := by
  subst hx
  exact c_next h0 hn hd
theorem cDd_nil {P P' : Nat} {dd : List Sc} {h : am_H} {x y : Int32} (D : cDd P dd h) (e : h.1 21 = .inr (1, [.ref 22, .int x, .int y])) : cDd P' [] (am_set h 21 (.inr (1, [.ref 22, .int x, .int 0]))) := by
  obtain ⟨fi, f, q1, q2, q3, q4, q5, q6, q7⟩ := D
  rw [q3] at e
  have ex : nI fi = x := by
    injection e with e
    injection e with _ e
    injection e with _ e
    injection e with e _
    injection e
  subst ex
  have fr1 : am_fr 21 22 h (am_set h 21 (.inr (1, [.ref 22, .int (nI fi), .int 0]))) := fr_set fr_rf (by omega) (by omega)
  refine ⟨fi, f, q1, by simp, am_set_eq, ?_, q5, fun i hi => (q6 i hi).fr fr1 (by omega), fun j S e => by simp at e⟩
  rw [am_set_ne (by omega)]
  exact q4
section CImages
variable {h h' : am_H} {len N P rc bc : Nat} {fa G sd : Int32} {tx wa me rx rh bw bs : Nat → Int32} {S S' : Sc} {dd dd' : List Sc} {i0 i1 i0' i1' : Im}
theorem cRep_ims (R : cRep ⟨⟨len, tx⟩, fa, ⟨N, P, G, wa, me⟩, S, dd, ⟨rc, rx, rh⟩, ⟨bc, bw, bs⟩, sd, i0, i1⟩ h) (f : am_fr 121 130 h h') (q : cIms P i0' i1' h') : cRep ⟨⟨len, tx⟩, fa, ⟨N, P, G, wa, me⟩, S, dd, ⟨rc, rx, rh⟩, ⟨bc, bw, bs⟩, sd, i0', i1'⟩ h' := by
  obtain ⟨x1, x2, x3, x4, x5, x6, ⟨tm, x7⟩, x8, x9, x10, x11, x12⟩ := R
  exact ⟨by unfold pTop; rw [f.2 _ (by omega)]; exact x1, x2.fr f (by omega), x3.fr f (by omega), x4.fr f (by omega), x5.fr f (by omega), x6.fr f (by omega), ⟨tm, by rw [f.2 _ (by omega)]; exact x7⟩, x8.fr f (by omega), x9.fr f (by omega), x10.fr f (by omega), by rw [f.2 _ (by omega)]; exact x11, q⟩
theorem cRep_d0 {x y : Int32} (R : cRep ⟨⟨len, tx⟩, fa, ⟨N, P, G, wa, me⟩, S, dd, ⟨rc, rx, rh⟩, ⟨bc, bw, bs⟩, sd, i0, i1⟩ h) (e : h.1 21 = .inr (1, [.ref 22, .int x, .int y])) : cRep ⟨⟨len, tx⟩, fa, ⟨N, P, G, wa, me⟩, S, [], ⟨rc, rx, rh⟩, ⟨bc, bw, bs⟩, sd, i0, i1⟩ (am_set h 21 (.inr (1, [.ref 22, .int x, .int 0]))) := by
  have D : cDd P dd h := R.2.2.2.2.2.2.2.1
  have hS : cSc P 14 S h := R.2.2.2.2.1
  have f : am_fr 21 22 h (am_set h 21 (.inr (1, [.ref 22, .int x, .int 0]))) := fr_set fr_rf (by omega) (by omega)
  exact cRep_sd R (fr_wd f (by omega) (by omega)) (fun k h1 h2 => f.2 k (by omega)) (hS.fr f (by omega)) (cDd_nil D e)
theorem v_dayU {v1 v2 : Value} {d6 : Int32} (R : cRep ⟨⟨len, tx⟩, fa, ⟨N, P, G, wa, me⟩, S, dd, ⟨rc, rx, rh⟩, ⟨bc, bw, bs⟩, sd, i0, i1⟩ h) : am_R M_Sp_drawDay (33, [.ref 1, v1, v2], [.int d6, .ref 14]) h (fun r h' => r = none ∧ cRep ⟨⟨len, tx⟩, fa, ⟨N, P, G, wa, me⟩, (S.1, S.2.1, S.2.2.1, S.2.2.2.1, d6, S.2.2.2.2.2), dd, ⟨rc, rx, rh⟩, ⟨bc, bw, bs⟩, sd, i0, i1⟩ h' ∧ am_fr 14 121 h h') := by
  obtain ⟨x1, ⟨x2, x3, x4⟩, x5, ⟨x6, x7, waC, meC, x8, x9, x10, x11, x12⟩, ⟨wh, mi, fe, fl, x13, x14, x15, x16⟩, x17, ⟨tm, x18⟩, ⟨fi, ff, x19, x20, x21, x22, x23, x24, x25⟩, ⟨x26, ss, fd, x27, x28, x29, x30⟩, ⟨x31, x32, x33, x34⟩, x35, ⟨fi2, x36, x37, x38, x39, x40⟩⟩ := id R
  have y13 : h.1 14 = .inr (6, [.ref 15, .ref 16, .int fe, .int fl, .int _, .int _, .int _]) := x13
  have y14 : h.1 15 = iar wh := x14
  have y15 : h.1 16 = iar mi := x15
  refine rputa (hi := rfl) (kk := ?_)
  repeat (first | refine rs [] rfl rfl rfl rfl ?_ | refine rk rfl rfl ?_ | refine rgoh [] rfl rfl ?_ | refine rgeta (hi := rfl) (kk := ?_) | refine rialda (hi := rfl) (kk := ?_))
  refine rret rfl rfl ?_
  refine ⟨rfl, ?_, fr_set fr_rf (by omega) (by omega)⟩
  refine cRep_now R (fr_set (lo := 14) (hi := 17) fr_rf (by omega) (by omega)) ⟨wh, mi, fe, fl, am_set_eq, ?_, ?_, x16⟩
  · rw [am_set_ne (by omega)]; exact x14
  · rw [am_set_ne (by omega)]; exact x15
theorem v_dayT {v1 v2 : Value} (R : cRep ⟨⟨len, tx⟩, fa, ⟨N, P, G, wa, me⟩, S, dd, ⟨rc, rx, rh⟩, ⟨bc, bw, bs⟩, sd, i0, i1⟩ h) : am_R M_Sp_drawDay (27, [.ref 1, v1, v2], []) h (fun r h' => r = none ∧ cRep ⟨⟨len, tx⟩, fa, ⟨N, P, G, wa, me⟩, (S.1, S.2.1, S.2.2.1, S.2.2.2.1, drw sd 6, S.2.2.2.2.2), dd, ⟨rc, rx, rh⟩, ⟨bc, bw, bs⟩, lcg sd, i0, i1⟩ h' ∧ am_fr 14 121 h h') := by
  obtain ⟨x1, ⟨x2, x3, x4⟩, x5, ⟨x6, x7, waC, meC, x8, x9, x10, x11, x12⟩, ⟨wh, mi, fe, fl, x13, x14, x15, x16⟩, x17, ⟨tm, x18⟩, ⟨fi, ff, x19, x20, x21, x22, x23, x24, x25⟩, ⟨x26, ss, fd, x27, x28, x29, x30⟩, ⟨x31, x32, x33, x34⟩, x35, ⟨fi2, x36, x37, x38, x39, x40⟩⟩ := id R
  have y13 : h.1 14 = .inr (6, [.ref 15, .ref 16, .int fe, .int fl, .int _, .int _, .int _]) := x13
  have y14 : h.1 15 = iar wh := x14
  have y15 : h.1 16 = iar mi := x15
  unfold pTop at x1
  repeat (first | refine rs [] rfl rfl rfl rfl ?_ | refine rk rfl rfl ?_ | refine rgoh [] rfl rfl ?_ | refine rgeta (hi := rfl) (kk := ?_) | refine rialda (hi := rfl) (kk := ?_))
  (first | refine rcvs rfl rfl rfl rfl rfl (by first | assumption | (simp (disch := omega) only [am_set_ne, am_set_eq]; first | assumption | rfl)) rfl (c_nextx (n := 6) (by decide) (by omega) (by omega) x35) ?_ | refine rcvn rfl rfl rfl rfl rfl (by first | assumption | (simp (disch := omega) only [am_set_ne, am_set_eq]; first | assumption | rfl)) rfl (c_nextx (n := 6) (by decide) (by omega) (by omega) x35) ?_)
  have f1 : am_fr 14 121 h (am_set h 120 (.inr (2, [.int (lcg sd)]))) := fr_set fr_rf (by omega) (by omega)
  have R1 := cRep_seed R (fr_set (lo := 120) (hi := 121) (c := .inr (2, [.int (lcg sd)])) fr_rf (by omega) (by omega)) am_set_eq
  refine am_R.imp (v_dayU R1) ?_
  rintro r h' ⟨rfl, R2, f2⟩
  exact ⟨rfl, R2, fr_tr f1 f2 (by omega) (by omega)⟩
set_option maxHeartbeats 1000000 in
theorem v_day (R : cRep ⟨⟨len, tx⟩, fa, ⟨N, P, G, wa, me⟩, S, dd, ⟨rc, rx, rh⟩, ⟨bc, bw, bs⟩, sd, i0, i1⟩ h) : am_T M_Sp_drawDay [.ref 1] h (fun r h' => r = none ∧ cRep ⟨⟨len, tx⟩, fa, ⟨N, P, G, wa, me⟩, (dyA P (S, sd)).1, dd, ⟨rc, rx, rh⟩, ⟨bc, bw, bs⟩, (dyA P (S, sd)).2, i0, i1⟩ h' ∧ am_fr 14 121 h h') := by
  obtain ⟨x1, ⟨x2, x3, x4⟩, x5, ⟨x6, x7, waC, meC, x8, x9, x10, x11, x12⟩, ⟨wh, mi, fe, fl, x13, x14, x15, x16⟩, x17, ⟨tm, x18⟩, ⟨fi, ff, x19, x20, x21, x22, x23, x24, x25⟩, ⟨x26, ss, fd, x27, x28, x29, x30⟩, ⟨x31, x32, x33, x34⟩, x35, ⟨fi2, x36, x37, x38, x39, x40⟩⟩ := id R
  have y13 : h.1 14 = .inr (6, [.ref 15, .ref 16, .int fe, .int fl, .int _, .int _, .int _]) := x13
  have y14 : h.1 15 = iar wh := x14
  have y15 : h.1 16 = iar mi := x15
  unfold pTop at x1
  unfold dyA
  (try unfold am_E); unfold am_T
  repeat (first | refine rs [27] rfl rfl rfl rfl ?_ | refine rk rfl rfl ?_ | refine rgoh [27] rfl rfl ?_ | refine rgeta (hi := rfl) (kk := ?_) | refine rialda (hi := rfl) (kk := ?_))
  by_cases c : P = 0
  · rw [if_pos c]
    (first | refine rif rfl rfl (fun c1 => ?_) (fun c1 => ?_) | refine ric rfl rfl (fun c1 => ?_) (fun c1 => ?_))
    · exact v_dayT R
    · exact absurd (by rw [c]; decide) c1
  · rw [if_neg c]
    (first | refine rif rfl rfl (fun c1 => ?_) (fun c1 => ?_) | refine ric rfl rfl (fun c1 => ?_) (fun c1 => ?_))
    · exact absurd c1 (nI_nle (by omega) (by omega))
    · repeat (first | refine rs [27] rfl rfl rfl rfl ?_ | refine rk rfl rfl ?_ | refine rgoh [27] rfl rfl ?_ | refine rgeta (hi := rfl) (kk := ?_) | refine rialda (hi := rfl) (kk := ?_))
      (first | refine rcvs rfl rfl rfl rfl rfl (by first | assumption | (simp (disch := omega) only [am_set_ne, am_set_eq]; first | assumption | rfl)) rfl (c_next (by omega) (by omega) x35) ?_ | refine rcvn rfl rfl rfl rfl rfl (by first | assumption | (simp (disch := omega) only [am_set_ne, am_set_eq]; first | assumption | rfl)) rfl (c_next (by omega) (by omega) x35) ?_)
      have R1 := cRep_seed R (fr_set (lo := 120) (hi := 121) (c := .inr (2, [.int (lcg sd)])) fr_rf (by omega) (by omega)) am_set_eq
      repeat (first | refine rs [27] rfl rfl rfl rfl ?_ | refine rk rfl rfl ?_ | refine rgoh [27] rfl rfl ?_ | refine rgeta (hi := rfl) (kk := ?_) | refine rialda (hi := rfl) (kk := ?_))
      (first | refine rcvs rfl rfl rfl rfl rfl (by first | assumption | (simp (disch := omega) only [am_set_ne, am_set_eq]; first | assumption | rfl)) rfl (c_nextx (n := 10) (by decide) (by omega) (by omega) am_set_eq) ?_ | refine rcvn rfl rfl rfl rfl rfl (by first | assumption | (simp (disch := omega) only [am_set_ne, am_set_eq]; first | assumption | rfl)) rfl (c_nextx (n := 10) (by decide) (by omega) (by omega) am_set_eq) ?_)
      have R2 := cRep_seed R1 (fr_set (lo := 120) (hi := 121) (c := .inr (2, [.int (lcg (lcg sd))])) fr_rf (by omega) (by omega)) am_set_eq
      have f2 : am_fr 14 121 h (am_set (am_set h 120 (.inr (2, [.int (lcg sd)]))) 120 (.inr (2, [.int (lcg (lcg sd))]))) := fr_set (fr_set fr_rf (by omega) (by omega)) (by omega) (by omega)
      generalize am_set (am_set h 120 (.inr (2, [.int (lcg sd)]))) 120 (.inr (2, [.int (lcg (lcg sd))])) = h2 at R2 f2 ⊢
      obtain ⟨x1, ⟨x2, x3, x4⟩, x5, ⟨x6, x7, waC, meC, x8, x9, x10, x11, x12⟩, ⟨wh, mi, fe, fl, x13, x14, x15, x16⟩, x17, ⟨tm, x18⟩, ⟨fi, ff, x19, x20, x21, x22, x23, x24, x25⟩, ⟨x26, ss, fd, x27, x28, x29, x30⟩, ⟨x31, x32, x33, x34⟩, x35, ⟨fi2, x36, x37, x38, x39, x40⟩⟩ := id R2
      have y13 : h2.1 14 = .inr (6, [.ref 15, .ref 16, .int fe, .int fl, .int _, .int _, .int _]) := x13
      have y14 : h2.1 15 = iar wh := x14
      have y15 : h2.1 16 = iar mi := x15
      unfold pTop at x1
      repeat (first | refine rs [27] rfl rfl rfl rfl ?_ | refine rk rfl rfl ?_ | refine rgoh [27] rfl rfl ?_ | refine rgeta (hi := rfl) (kk := ?_) | refine rialda (hi := rfl) (kk := ?_))
      (first | refine rcvs rfl rfl rfl rfl rfl (by first | assumption | (simp (disch := omega) only [am_set_ne, am_set_eq]; first | assumption | rfl)) rfl (c_hasPerson x7 x8) ?_ | refine rcvn rfl rfl rfl rfl rfl (by first | assumption | (simp (disch := omega) only [am_set_ne, am_set_eq]; first | assumption | rfl)) rfl (c_hasPerson x7 x8) ?_)
      by_cases d : inR (drw sd (nI P)) P
      · rw [if_pos d, if_pos d]
        (first | refine rift rfl rfl ?_ | refine riff rfl rfl ?_ | refine rict rfl rfl ?_ | refine ricf rfl rfl ?_)
        obtain ⟨k, hk, ek⟩ := inR_of d (by omega)
        rw [ek, nI_clamp (by omega)]
        repeat (first | refine rs [27] rfl rfl rfl rfl ?_ | refine rk rfl rfl ?_ | refine rgoh [27] rfl rfl ?_ | refine rgeta (hi := rfl) (kk := ?_) | refine rialda (hi := rfl) (kk := ?_))
        refine riasta (hi := rfl) (kk := ?_)
        have R3 := cRep_now (S' := (S.1, upd S.2.1 k (drw (lcg sd) 10), S.2.2)) R2 (fr_set (lo := 14) (hi := 17) (a := 16) (c := iar (upd mi k (drw (lcg sd) 10))) fr_rf (by omega) (by omega)) ⟨wh, upd mi k (drw (lcg sd) 10), fe, fl, by rw [am_set_ne (by omega)]; exact x13, by rw [am_set_ne (by omega)]; exact x14, am_set_eq, fun p hp => ⟨(x16 p hp).1, eqP_upd (fun p hp => (x16 p hp).2.1) p hp, (x16 p hp).2.2⟩⟩
        refine am_R.imp (v_dayT R3) ?_
        rintro r h4 ⟨rfl, R4, f4⟩
        exact ⟨rfl, R4, fr_tr (fr_set f2 (by omega) (by omega)) f4 (by omega) (by omega)⟩
      · rw [if_neg d, if_neg d]
        (first | refine rift rfl rfl ?_ | refine riff rfl rfl ?_ | refine rict rfl rfl ?_ | refine ricf rfl rfl ?_)
        refine am_R.imp (v_dayT R2) ?_
        rintro r h4 ⟨rfl, R4, f4⟩
        exact ⟨rfl, R4, fr_tr f2 f4 (by omega) (by omega)⟩
def drA (N P : Nat) (G : Int32) (wa me : Nat → Int32) (n : Nat) (z : Sc × List Sc × Int32) : Sc × List Sc × Int32 := fo (fun _ z => (rnA N P G wa me 0 (dyA P (z.1, z.2.2)).1, dnote z.2.1 z.1, (dyA P (z.1, z.2.2)).2)) n z
def o_drift (n : Int32) : Q → Int32 × Q
  | ⟨⟨len, tx⟩, fa, ⟨N, P, G, wa, me⟩, S, dd, ⟨rc, rx, rh⟩, ⟨bc, bw, bs⟩, sd, i0, i1⟩ => if rfA n N S = 0 then (arv (drA N P G wa me n.toNatClampNeg (S, dd, sd)).1.1 wa P, ⟨⟨len, tx⟩, fa, ⟨N, P, G, wa, me⟩, (drA N P G wa me n.toNatClampNeg (S, dd, sd)).1, (drA N P G wa me n.toNatClampNeg (S, dd, sd)).2.1, ⟨rc, rx, rh⟩, ⟨bc, bw, bs⟩, (drA N P G wa me n.toNatClampNeg (S, dd, sd)).2.2, i0, i1⟩) else (rfA n N S, ⟨⟨len, tx⟩, fa, ⟨N, P, G, wa, me⟩, S, dd, ⟨rc, rx, rh⟩, ⟨bc, bw, bs⟩, sd, i0, i1⟩)
set_option maxHeartbeats 1000000 in
theorem v_drift {n : Int32} (R : cRep ⟨⟨len, tx⟩, fa, ⟨N, P, G, wa, me⟩, S, dd, ⟨rc, rx, rh⟩, ⟨bc, bw, bs⟩, sd, i0, i1⟩ h) : am_O M_Sp_drift [.ref 1, .int n] (o_drift n ⟨⟨len, tx⟩, fa, ⟨N, P, G, wa, me⟩, S, dd, ⟨rc, rx, rh⟩, ⟨bc, bw, bs⟩, sd, i0, i1⟩) h := by
  have x1 := R.1
  unfold pTop at x1
  unfold am_O o_drift
  (try unfold am_E); unfold am_T
  dsimp only
  repeat (first | refine rs [] rfl rfl rfl rfl ?_ | refine rk rfl rfl ?_ | refine rgoh [] rfl rfl ?_ | refine rgeta (hi := rfl) (kk := ?_) | refine rialda (hi := rfl) (kk := ?_))
  (first | refine rcvs rfl rfl rfl rfl rfl (by first | assumption | (simp (disch := omega) only [am_set_ne, am_set_eq]; first | assumption | rfl)) rfl (v_refused R) ?_ | refine rcvn rfl rfl rfl rfl rfl (by first | assumption | (simp (disch := omega) only [am_set_ne, am_set_eq]; first | assumption | rfl)) rfl (v_refused R) ?_)
  by_cases e : rfA n N S = 0
  · rw [e, if_pos rfl]
    repeat (first | refine rs [] rfl rfl rfl rfl ?_ | refine rk rfl rfl ?_ | refine rgoh [] rfl rfl ?_ | refine rgeta (hi := rfl) (kk := ?_) | refine rialda (hi := rfl) (kk := ?_))
    (first | refine rift rfl rfl ?_ | refine riff rfl rfl ?_ | refine rict rfl rfl ?_ | refine ricf rfl rfl ?_)
    obtain ⟨m, rfl, m1, m2, -⟩ := rfA_0 e
    rw [nI_clamp (by omega)]
    repeat (first | refine rs [10] rfl rfl rfl rfl ?_ | refine rk rfl rfl ?_ | refine rgoh [10] rfl rfl ?_ | refine rgeta (hi := rfl) (kk := ?_) | refine rialda (hi := rfl) (kk := ?_))
    refine lup (P := fun i => ∀ x h1, x = nI i → cRep ⟨⟨len, tx⟩, fa, ⟨N, P, G, wa, me⟩, (drA N P G wa me i (S, dd, sd)).1, (drA N P G wa me i (S, dd, sd)).2.1, ⟨rc, rx, rh⟩, ⟨bc, bw, bs⟩, (drA N P G wa me i (S, dd, sd)).2.2, i0, i1⟩ h1 → am_fr 1 130 h h1 → am_R M_Sp_drift (10, [.ref 1, .int (nI m), .int 0, .int x], []) h1 _) m ?_ ?_ 0 h nI_0.symm R fr_rf
    · rintro x h1 rfl R1 f1
      obtain ⟨x1, ⟨x2, x3, x4⟩, x5, ⟨x6, x7, waC, meC, x8, x9, x10, x11, x12⟩, ⟨wh, mi, fe, fl, x13, x14, x15, x16⟩, x17, ⟨tm, x18⟩, ⟨fi, ff, x19, x20, x21, x22, x23, x24, x25⟩, ⟨x26, ss, fd, x27, x28, x29, x30⟩, ⟨x31, x32, x33, x34⟩, x35, ⟨fi2, x36, x37, x38, x39, x40⟩⟩ := id R1
      have y13 : h1.1 14 = .inr (6, [.ref 15, .ref 16, .int fe, .int fl, .int _, .int _, .int _]) := x13
      have y14 : h1.1 15 = iar wh := x14
      have y15 : h1.1 16 = iar mi := x15
      unfold pTop at x1
      repeat (first | refine rs [] rfl rfl rfl rfl ?_ | refine rk rfl rfl ?_ | refine rgoh [] rfl rfl ?_ | refine rgeta (hi := rfl) (kk := ?_) | refine rialda (hi := rfl) (kk := ?_))
      (first | refine rif rfl rfl (fun c1 => ?_) (fun c1 => ?_) | refine ric rfl rfl (fun c1 => ?_) (fun c1 => ?_))
      · repeat (first | refine rs [] rfl rfl rfl rfl ?_ | refine rk rfl rfl ?_ | refine rgoh [] rfl rfl ?_ | refine rgeta (hi := rfl) (kk := ?_) | refine rialda (hi := rfl) (kk := ?_))
        (first | refine rcvs rfl rfl rfl rfl rfl (by first | assumption | (simp (disch := omega) only [am_set_ne, am_set_eq]; first | assumption | rfl)) rfl (a_arrived R1.2.2.2.1 R1.2.2.2.2.1 (by omega)) ?_ | refine rcvn rfl rfl rfl rfl rfl (by first | assumption | (simp (disch := omega) only [am_set_ne, am_set_eq]; first | assumption | rfl)) rfl (a_arrived R1.2.2.2.1 R1.2.2.2.2.1 (by omega)) ?_)
        refine rret rfl rfl ?_
        exact ⟨rfl, R1, f1⟩
      · exact absurd (Int32.le_refl _) c1
    · rintro i hi ih x h1 rfl R1 f1
      obtain ⟨x1, ⟨x2, x3, x4⟩, x5, ⟨x6, x7, waC, meC, x8, x9, x10, x11, x12⟩, ⟨wh, mi, fe, fl, x13, x14, x15, x16⟩, x17, ⟨tm, x18⟩, ⟨fi, ff, x19, x20, x21, x22, x23, x24, x25⟩, ⟨x26, ss, fd, x27, x28, x29, x30⟩, ⟨x31, x32, x33, x34⟩, x35, ⟨fi2, x36, x37, x38, x39, x40⟩⟩ := id R1
      have y13 : h1.1 14 = .inr (6, [.ref 15, .ref 16, .int fe, .int fl, .int _, .int _, .int _]) := x13
      have y14 : h1.1 15 = iar wh := x14
      have y15 : h1.1 16 = iar mi := x15
      unfold pTop at x1
      repeat (first | refine rs [] rfl rfl rfl rfl ?_ | refine rk rfl rfl ?_ | refine rgoh [] rfl rfl ?_ | refine rgeta (hi := rfl) (kk := ?_) | refine rialda (hi := rfl) (kk := ?_))
      (first | refine rif rfl rfl (fun c1 => ?_) (fun c1 => ?_) | refine ric rfl rfl (fun c1 => ?_) (fun c1 => ?_))
      · exact absurd hi ((nI_lt_iff (by omega) (by omega)).mp c1)
      · repeat (first | refine rs [] rfl rfl rfl rfl ?_ | refine rk rfl rfl ?_ | refine rgoh [] rfl rfl ?_ | refine rgeta (hi := rfl) (kk := ?_) | refine rialda (hi := rfl) (kk := ?_))
        refine rcvt rfl rfl rfl rfl rfl x21 rfl (v_note R1) ?_
        rintro r h2 ⟨rfl, R2, f2⟩
        show am_R M_Sp_drift (18, [.ref 1, .int (nI m), .int 0, .int (nI i)], []) _ _
        have z1 := R2.1
        unfold pTop at z1
        repeat (first | refine rs [] rfl rfl rfl rfl ?_ | refine rk rfl rfl ?_ | refine rgoh [] rfl rfl ?_ | refine rgeta (hi := rfl) (kk := ?_) | refine rialda (hi := rfl) (kk := ?_))
        refine rcvt rfl rfl rfl rfl rfl z1 rfl (v_day R2) ?_
        rintro r h3 ⟨rfl, R3, f3⟩
        show am_R M_Sp_drift (20, [.ref 1, .int (nI m), .int 0, .int (nI i)], []) _ _
        obtain ⟨x1, ⟨x2, x3, x4⟩, x5, ⟨x6, x7, waC, meC, x8, x9, x10, x11, x12⟩, ⟨wh, mi, fe, fl, x13, x14, x15, x16⟩, x17, ⟨tm, x18⟩, ⟨fi, ff, x19, x20, x21, x22, x23, x24, x25⟩, ⟨x26, ss, fd, x27, x28, x29, x30⟩, ⟨x31, x32, x33, x34⟩, x35, ⟨fi2, x36, x37, x38, x39, x40⟩⟩ := id R3
        have y13 : h3.1 14 = .inr (6, [.ref 15, .ref 16, .int fe, .int fl, .int _, .int _, .int _]) := x13
        have y14 : h3.1 15 = iar wh := x14
        have y15 : h3.1 16 = iar mi := x15
        unfold pTop at x1
        repeat (first | refine rs [] rfl rfl rfl rfl ?_ | refine rk rfl rfl ?_ | refine rgoh [] rfl rfl ?_ | refine rgeta (hi := rfl) (kk := ?_) | refine rialda (hi := rfl) (kk := ?_))
        refine rcvt rfl rfl rfl rfl rfl y13 rfl (v_run R3) ?_
        rintro r h4 ⟨rfl, R4, f4⟩
        show am_R M_Sp_drift (29, [.ref 1, .int (nI m), .int 0, .int (nI i)], []) _ _
        repeat (first | refine rs [10] rfl rfl rfl rfl ?_ | refine rk rfl rfl ?_ | refine rgoh [10] rfl rfl ?_ | refine rgeta (hi := rfl) (kk := ?_) | refine rialda (hi := rfl) (kk := ?_))
        exact ih _ h4 (nI_succ i).symm R4 (fr_tr f1 (fr_tr (lo := 14) (hi := 121) (fr_wd f2 (by omega) (by omega)) (fr_tr (lo := 14) (hi := 121) f3 f4 (by omega) (by omega)) (by omega) (by omega)) (by omega) (by omega))
  · rw [if_neg e]
    repeat (first | refine rs [] rfl rfl rfl rfl ?_ | refine rk rfl rfl ?_ | refine rgoh [] rfl rfl ?_ | refine rgeta (hi := rfl) (kk := ?_) | refine rialda (hi := rfl) (kk := ?_))
    (first | refine rif rfl rfl (fun c1 => ?_) (fun c1 => ?_) | refine ric rfl rfl (fun c1 => ?_) (fun c1 => ?_))
    · exact absurd c1 e
    · repeat (first | refine rs [] rfl rfl rfl rfl ?_ | refine rk rfl rfl ?_ | refine rgoh [] rfl rfl ?_ | refine rgeta (hi := rfl) (kk := ?_) | refine rialda (hi := rfl) (kk := ?_))
      refine rret rfl rfl ?_
      exact ⟨rfl, R, fr_rf⟩
def o_undo (n : Int32) : Q → Int32 × Q
  | ⟨⟨len, tx⟩, fa, ⟨N, P, G, wa, me⟩, S, dd, ⟨rc, rx, rh⟩, ⟨bc, bw, bs⟩, sd, i0, i1⟩ => if n < 1 ∨ 30 < n then (-1000000002, ⟨⟨len, tx⟩, fa, ⟨N, P, G, wa, me⟩, S, dd, ⟨rc, rx, rh⟩, ⟨bc, bw, bs⟩, sd, i0, i1⟩) else if dd.length < n.toNatClampNeg then (-1000000003, ⟨⟨len, tx⟩, fa, ⟨N, P, G, wa, me⟩, S, dd, ⟨rc, rx, rh⟩, ⟨bc, bw, bs⟩, sd, i0, i1⟩) else ((dd.getD (dd.length - n.toNatClampNeg) S).2.2.2.2.2.1, ⟨⟨len, tx⟩, fa, ⟨N, P, G, wa, me⟩, dd.getD (dd.length - n.toNatClampNeg) S, dd.take (dd.length - n.toNatClampNeg), ⟨rc, rx, rh⟩, ⟨bc, bw, bs⟩, sd, i0, i1⟩)
theorem v_undo {n : Int32} (R : cRep ⟨⟨len, tx⟩, fa, ⟨N, P, G, wa, me⟩, S, dd, ⟨rc, rx, rh⟩, ⟨bc, bw, bs⟩, sd, i0, i1⟩ h) : am_O M_Sp_undo [.ref 1, .int n] (o_undo n ⟨⟨len, tx⟩, fa, ⟨N, P, G, wa, me⟩, S, dd, ⟨rc, rx, rh⟩, ⟨bc, bw, bs⟩, sd, i0, i1⟩) h := by
  have hD : cDd P dd h := R.2.2.2.2.2.2.2.1
  have hS : cSc P 14 S h := R.2.2.2.2.1
  obtain ⟨x1, ⟨x2, x3, x4⟩, x5, ⟨x6, x7, waC, meC, x8, x9, x10, x11, x12⟩, ⟨wh, mi, fe, fl, x13, x14, x15, x16⟩, x17, ⟨tm, x18⟩, ⟨fi, ff, x19, x20, x21, x22, x23, x24, x25⟩, ⟨x26, ss, fd, x27, x28, x29, x30⟩, ⟨x31, x32, x33, x34⟩, x35, ⟨fi2, x36, x37, x38, x39, x40⟩⟩ := id R
  have y13 : h.1 14 = .inr (6, [.ref 15, .ref 16, .int fe, .int fl, .int _, .int _, .int _]) := x13
  have y14 : h.1 15 = iar wh := x14
  have y15 : h.1 16 = iar mi := x15
  unfold pTop at x1
  unfold am_O o_undo
  (try unfold am_E); unfold am_T
  dsimp only
  repeat (first | refine rs [] rfl rfl rfl rfl ?_ | refine rk rfl rfl ?_ | refine rgoh [] rfl rfl ?_ | refine rgeta (hi := rfl) (kk := ?_) | refine rialda (hi := rfl) (kk := ?_))
  (first | refine rif rfl rfl (fun c1 => ?_) (fun c1 => ?_) | refine ric rfl rfl (fun c1 => ?_) (fun c1 => ?_))
  · repeat (first | refine rs [] rfl rfl rfl rfl ?_ | refine rk rfl rfl ?_ | refine rgoh [] rfl rfl ?_ | refine rgeta (hi := rfl) (kk := ?_) | refine rialda (hi := rfl) (kk := ?_))
    refine rret rfl rfl ?_
    rw [if_pos (Or.inl c1)]
    exact ⟨rfl, R, fr_rf⟩
  · repeat (first | refine rs [] rfl rfl rfl rfl ?_ | refine rk rfl rfl ?_ | refine rgoh [] rfl rfl ?_ | refine rgeta (hi := rfl) (kk := ?_) | refine rialda (hi := rfl) (kk := ?_))
    (first | refine rif rfl rfl (fun c2 => ?_) (fun c2 => ?_) | refine ric rfl rfl (fun c2 => ?_) (fun c2 => ?_))
    · rw [if_neg (by rintro (a | a); exact c1 a; exact absurd c2 (Int32.not_le.mpr a))]
      have h0 : ¬ n < 0 := fun a => c1 (Int32.lt_of_lt_of_le a (by decide))
      obtain ⟨m, hm, rfl⟩ := nI_of h0
      have m1 : 1 ≤ m := by
        rcases Nat.lt_or_ge m 1 with w | w
        · exact absurd (by rw [show (1 : Int32) = nI 1 by decide, nI_ltI hm (by omega)]; exact w) c1
        · exact w
      rw [nI_clamp (by omega)]
      by_cases e : dd.length < m
      · rw [if_pos e]
        repeat (first | refine rs [] rfl rfl rfl rfl ?_ | refine rk rfl rfl ?_ | refine rgoh [] rfl rfl ?_ | refine rgeta (hi := rfl) (kk := ?_) | refine rialda (hi := rfl) (kk := ?_))
        (first | refine rcvs rfl rfl rfl rfl rfl (by first | assumption | (simp (disch := omega) only [am_set_ne, am_set_eq]; first | assumption | rfl)) rfl (c_takeBackN rfl hm e hD rfl) ?_ | refine rcvn rfl rfl rfl rfl rfl (by first | assumption | (simp (disch := omega) only [am_set_ne, am_set_eq]; first | assumption | rfl)) rfl (c_takeBackN rfl hm e hD rfl) ?_)
        (first | refine rift rfl rfl ?_ | refine riff rfl rfl ?_ | refine rict rfl rfl ?_ | refine ricf rfl rfl ?_)
        repeat (first | refine rs [] rfl rfl rfl rfl ?_ | refine rk rfl rfl ?_ | refine rgoh [] rfl rfl ?_ | refine rgeta (hi := rfl) (kk := ?_) | refine rialda (hi := rfl) (kk := ?_))
        refine rret rfl rfl ?_
        exact ⟨rfl, R, fr_rf⟩
      · rw [if_neg e]
        have hg : dd[dd.length - m]? = some (dd.getD (dd.length - m) S) := by
          rw [List.getD_eq_getElem?_getD, List.getElem?_eq_getElem (by omega)]
          rfl
        repeat (first | refine rs [] rfl rfl rfl rfl ?_ | refine rk rfl rfl ?_ | refine rgoh [] rfl rfl ?_ | refine rgeta (hi := rfl) (kk := ?_) | refine rialda (hi := rfl) (kk := ?_))
        refine rcvt rfl rfl rfl rfl rfl x21 rfl (c_takeBack rfl m1 (by omega) hg hD hS.raw x7) ?_
        rintro r h1 ⟨rfl, D1, S1, f1, g1⟩
        have R1 := cRep_sd R f1 g1 S1 D1
        show am_R M_Sp_undo (14, [.ref 1, .int (nI m)], [.int 1]) _ _
        obtain ⟨x1, ⟨x2, x3, x4⟩, x5, ⟨x6, x7, waC, meC, x8, x9, x10, x11, x12⟩, ⟨wh, mi, fe, fl, x13, x14, x15, x16⟩, x17, ⟨tm, x18⟩, ⟨fi, ff, x19, x20, x21, x22, x23, x24, x25⟩, ⟨x26, ss, fd, x27, x28, x29, x30⟩, ⟨x31, x32, x33, x34⟩, x35, ⟨fi2, x36, x37, x38, x39, x40⟩⟩ := id R1
        have y13 : h1.1 14 = .inr (6, [.ref 15, .ref 16, .int fe, .int fl, .int _, .int _, .int _]) := x13
        have y14 : h1.1 15 = iar wh := x14
        have y15 : h1.1 16 = iar mi := x15
        unfold pTop at x1
        (first | refine rift rfl rfl ?_ | refine riff rfl rfl ?_ | refine rict rfl rfl ?_ | refine ricf rfl rfl ?_)
        repeat (first | refine rs [] rfl rfl rfl rfl ?_ | refine rk rfl rfl ?_ | refine rgoh [] rfl rfl ?_ | refine rgeta (hi := rfl) (kk := ?_) | refine rialda (hi := rfl) (kk := ?_))
        refine rret rfl rfl ?_
        exact ⟨rfl, R1, fr_wd f1 (by omega) (by omega)⟩
    · repeat (first | refine rs [] rfl rfl rfl rfl ?_ | refine rk rfl rfl ?_ | refine rgoh [] rfl rfl ?_ | refine rgeta (hi := rfl) (kk := ?_) | refine rialda (hi := rfl) (kk := ?_))
      refine rret rfl rfl ?_
      rw [if_pos (Or.inr (Int32.not_le.mp c2))]
      exact ⟨rfl, R, fr_rf⟩
end CImages
