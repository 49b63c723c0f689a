/-! the class's calls: what is only tried -/
section CTried
variable {h h' : am_H} {len N P rc bc : Nat} {fa G sd : Int32} {tx wa me rx rh bw bs : Nat → Int32} {S S' : Sc} {dd dd' : List Sc} {i0 i1 : Im}
theorem v_trial (R : cRep ⟨⟨len, tx⟩, fa, ⟨N, P, G, wa, me⟩, S, dd, ⟨rc, rx, rh⟩, ⟨bc, bw, bs⟩, sd, i0, i1⟩ h) : am_T M_Scene_takeFrom [.ref 17, .ref 14] h (fun r h' => r = none ∧ cRep ⟨⟨len, tx⟩, fa, ⟨N, P, G, wa, me⟩, S, dd, ⟨rc, rx, rh⟩, ⟨bc, bw, bs⟩, sd, i0, i1⟩ h' ∧ cSc P 17 S h' ∧ am_fr 17 20 h h') := by
  have hS : cSc P 14 S h := R.2.2.2.2.1
  have hP : P ≤ 8 := R.2.2.2.1.2.1
  have h17 : cRaw 17 h := R.2.2.2.2.2.1
  obtain ⟨tm, h20⟩ := R.2.2.2.2.2.2.1
  refine am_R.imp (c_takeFrom h17 hS hP (by omega) (by omega) (by omega)) ?_
  rintro r h1 ⟨rfl, g1, g2⟩
  exact ⟨rfl, cRep_tr (f2 := tm) R (fr_wd g2 (by omega) (by omega)) g1.raw (by rw [g2.2 _ (by omega)]; exact h20), g1, g2⟩
theorem v_trun {mt : Nat} {meC me1 : Nat → Int32} {shut : Int32} (R : cRep ⟨⟨len, tx⟩, fa, ⟨N, P, G, wa, me⟩, S, dd, ⟨rc, rx, rh⟩, ⟨bc, bw, bs⟩, sd, i0, i1⟩ h) (T : cSc P 17 S' h) (hm : h.1 mt = iar meC) (hmt : mt ≠ 17 + 1) (hme : eqP P meC me1) : am_T M_Scene_runTrain [.ref 17, .ref 11, .ref mt, .int shut] h (fun r h' => r = none ∧ cRep ⟨⟨len, tx⟩, fa, ⟨N, P, G, wa, me⟩, S, dd, ⟨rc, rx, rh⟩, ⟨bc, bw, bs⟩, sd, i0, i1⟩ h' ∧ cSc P 17 (rnA N P G wa me1 shut S') h' ∧ am_fr 17 20 h h') := by
  have hL : cLn N P G wa me h := R.2.2.2.1
  obtain ⟨tm, h20⟩ := R.2.2.2.2.2.2.1
  refine am_R.imp (a_run (shut := shut) hL T (by omega) hm hmt hme) ?_
  rintro r h1 ⟨rfl, g1, g2⟩
  exact ⟨rfl, cRep_tr (f2 := tm) R (fr_wd g2 (by omega) (by omega)) g1.raw (by rw [g2.2 _ (by omega)]; exact h20), g1, g2⟩
theorem v_though {p shut : Int32} {k : Nat} (hp : p = nI k) (hk : k < P) (R : cRep ⟨⟨len, tx⟩, fa, ⟨N, P, G, wa, me⟩, S, dd, ⟨rc, rx, rh⟩, ⟨bc, bw, bs⟩, sd, i0, i1⟩ h) : am_T M_Sp_arrivesThough [.ref 1, .int p, .int shut] h (fun r h' => r = some (.int (if (rnA N P G wa me shut S).1 k = wa k then 1 else 0)) ∧ cRep ⟨⟨len, tx⟩, fa, ⟨N, P, G, wa, me⟩, S, dd, ⟨rc, rx, rh⟩, ⟨bc, bw, bs⟩, sd, i0, i1⟩ h' ∧ am_fr 17 20 h h') := by
  subst hp
  obtain ⟨v1, v2, v3, v4, v5, v6, v7, v8, -⟩ : cRaw 17 h := R.2.2.2.2.2.1
  have x1 := R.1
  unfold pTop at x1
  (try unfold am_E); unfold am_T
  repeat (first | refine rs [] rfl rfl rfl rfl ?_ | refine rk rfl rfl ?_ | refine rgoh [] rfl rfl ?_ | refine rgeta (hi := rfl) (kk := ?_) | refine rialda (hi := rfl) (kk := ?_))
  refine rcvt rfl rfl rfl rfl rfl v8 rfl (v_trial R) ?_
  rintro r h1 ⟨rfl, R1, T1, f1⟩
  show am_R M_Sp_arrivesThough (5, [.ref 1, .int (nI k), .int shut], []) _ _
  obtain ⟨x1, ⟨x2, x3, x4⟩, x5, ⟨x6, x7, waC, meC, x8, x9, x10, x11, x12⟩, ⟨wh, mi, fe, fl, x13, x14, x15, x16⟩, x17, ⟨tm, x18⟩, ⟨fi, ff, x19, x20, x21, x22, x23, x24, x25⟩, ⟨x26, ss, fd, x27, x28, x29, x30⟩, ⟨x31, x32, x33, x34⟩, x35, ⟨fi2, x36, x37, x38, x39, x40⟩⟩ := id R1
  have y13 : h1.1 14 = .inr (6, [.ref 15, .ref 16, .int fe, .int fl, .int _, .int _, .int _]) := x13
  have y14 : h1.1 15 = iar wh := x14
  have y15 : h1.1 16 = iar mi := x15
  unfold pTop at x1
  obtain ⟨u1, u2, u3, u4, u5, -⟩ := id T1
  repeat (first | refine rs [] rfl rfl rfl rfl ?_ | refine rk rfl rfl ?_ | refine rgoh [] rfl rfl ?_ | refine rgeta (hi := rfl) (kk := ?_) | refine rialda (hi := rfl) (kk := ?_))
  refine rcvt rfl rfl rfl rfl rfl u5 rfl (v_trun R1 T1 x10 (by omega) x12) ?_
  rintro r h2 ⟨rfl, R2, T2, f2⟩
  show am_R M_Sp_arrivesThough (14, [.ref 1, .int (nI k), .int shut], []) _ _
  have x1 := R2.1
  unfold pTop at x1
  obtain ⟨u1, u2, u3, u4, u5, -⟩ := id T2
  repeat (first | refine rs [] rfl rfl rfl rfl ?_ | refine rk rfl rfl ?_ | refine rgoh [] rfl rfl ?_ | refine rgeta (hi := rfl) (kk := ?_) | refine rialda (hi := rfl) (kk := ?_))
  (first | refine rcvs rfl rfl rfl rfl rfl (by first | assumption | (simp (disch := omega) only [am_set_ne, am_set_eq]; first | assumption | rfl)) rfl (a_hasArrived rfl hk R2.2.2.2.1 T2 (by omega)) ?_ | refine rcvn rfl rfl rfl rfl rfl (by first | assumption | (simp (disch := omega) only [am_set_ne, am_set_eq]; first | assumption | rfl)) rfl (a_hasArrived rfl hk R2.2.2.2.1 T2 (by omega)) ?_)
  by_cases c : (rnA N P G wa me shut S).1 k = wa k
  · rw [if_pos c]
    refine rret rfl rfl ?_
    exact ⟨rfl, R2, fr_tr f1 f2 (by omega) (by omega)⟩
  · rw [if_neg c]
    refine rret rfl rfl ?_
    exact ⟨rfl, R2, fr_tr f1 f2 (by omega) (by omega)⟩
def nvA (N P : Nat) (G : Int32) (wa me : Nat → Int32) (n : Nat) (S : Sc) : Sc × Int32 := fo (fun _ z => (rnA N P G wa me 0 z.1, z.2 &&& ((rnA N P G wa me 0 z.1).2.2.2.2.2.2 ^^^ (-1)))) n (S, sh1 (nI N) - 1)
def o_never (n : Int32) : Q → Int32 × Q
  | ⟨⟨len, tx⟩, fa, ⟨N, P, G, wa, me⟩, S, dd, ⟨rc, rx, rh⟩, ⟨bc, bw, bs⟩, sd, i0, i1⟩ => (if n < 0 ∨ 20 < n then -1000000002 else (nvA N P G wa me n.toNatClampNeg S).2, ⟨⟨len, tx⟩, fa, ⟨N, P, G, wa, me⟩, S, dd, ⟨rc, rx, rh⟩, ⟨bc, bw, bs⟩, sd, i0, i1⟩)
set_option maxHeartbeats 1000000 in
theorem v_never {n : Int32} (R : cRep ⟨⟨len, tx⟩, fa, ⟨N, P, G, wa, me⟩, S, dd, ⟨rc, rx, rh⟩, ⟨bc, bw, bs⟩, sd, i0, i1⟩ h) : am_O M_Sp_never [.ref 1, .int n] (o_never n ⟨⟨len, tx⟩, fa, ⟨N, P, G, wa, me⟩, S, dd, ⟨rc, rx, rh⟩, ⟨bc, bw, bs⟩, sd, i0, i1⟩) h := by
  obtain ⟨v1, v2, v3, v4, v5, v6, v7, v8, -⟩ : cRaw 17 h := R.2.2.2.2.2.1
  have x1 := R.1
  unfold pTop at x1
  unfold am_O o_never
  (try unfold am_E); unfold am_T
  dsimp only
  repeat (first | refine rs [] rfl rfl rfl rfl ?_ | refine rk rfl rfl ?_ | refine rgoh [] rfl rfl ?_ | refine rgeta (hi := rfl) (kk := ?_) | refine rialda (hi := rfl) (kk := ?_))
  (first | refine rif rfl rfl (fun c1 => ?_) (fun c1 => ?_) | refine ric rfl rfl (fun c1 => ?_) (fun c1 => ?_))
  · repeat (first | refine rs [] rfl rfl rfl rfl ?_ | refine rk rfl rfl ?_ | refine rgoh [] rfl rfl ?_ | refine rgeta (hi := rfl) (kk := ?_) | refine rialda (hi := rfl) (kk := ?_))
    refine rret rfl rfl ?_
    rw [if_pos (Or.inl c1)]
    exact ⟨rfl, R, fr_rf⟩
  · repeat (first | refine rs [] rfl rfl rfl rfl ?_ | refine rk rfl rfl ?_ | refine rgoh [] rfl rfl ?_ | refine rgeta (hi := rfl) (kk := ?_) | refine rialda (hi := rfl) (kk := ?_))
    (first | refine rif rfl rfl (fun c2 => ?_) (fun c2 => ?_) | refine ric rfl rfl (fun c2 => ?_) (fun c2 => ?_))
    · rw [if_neg (by rintro (a | a); exact c1 a; exact absurd c2 (Int32.not_le.mpr a))]
      obtain ⟨m, hm, rfl⟩ := nI_of c1
      rw [nI_clamp (by omega)]
      repeat (first | refine rs [] rfl rfl rfl rfl ?_ | refine rk rfl rfl ?_ | refine rgoh [] rfl rfl ?_ | refine rgeta (hi := rfl) (kk := ?_) | refine rialda (hi := rfl) (kk := ?_))
      refine rcvt rfl rfl rfl rfl rfl v8 rfl (v_trial R) ?_
      rintro r h1 ⟨rfl, R1, T1, f1⟩
      show am_R M_Sp_never (12, [.ref 1, .int (nI m), _, _], []) _ _
      have x8 : ∃ waC meC, h1.1 11 = _ ∧ _ := R1.2.2.2.1.2.2
      obtain ⟨waC, meC, x8, -⟩ := x8
      have x1 := R1.1
      unfold pTop at x1
      repeat (first | refine rs [] rfl rfl rfl rfl ?_ | refine rk rfl rfl ?_ | refine rgoh [] rfl rfl ?_ | refine rgeta (hi := rfl) (kk := ?_) | refine rialda (hi := rfl) (kk := ?_))
      (first | refine rcvs rfl rfl rfl rfl rfl (by first | assumption | (simp (disch := omega) only [am_set_ne, am_set_eq]; first | assumption | rfl)) rfl (c_allStations x8) ?_ | refine rcvn rfl rfl rfl rfl rfl (by first | assumption | (simp (disch := omega) only [am_set_ne, am_set_eq]; first | assumption | rfl)) rfl (c_allStations x8) ?_)
      repeat (first | refine rs [18] rfl rfl rfl rfl ?_ | refine rk rfl rfl ?_ | refine rgoh [18] rfl rfl ?_ | refine rgeta (hi := rfl) (kk := ?_) | refine rialda (hi := rfl) (kk := ?_))
      refine lup (P := fun i => ∀ x y h2, x = nI i → y = (nvA N P G wa me i S).2 → cRep ⟨⟨len, tx⟩, fa, ⟨N, P, G, wa, me⟩, S, dd, ⟨rc, rx, rh⟩, ⟨bc, bw, bs⟩, sd, i0, i1⟩ h2 → cSc P 17 (nvA N P G wa me i S).1 h2 → am_fr 17 20 h h2 → am_R M_Sp_never (18, [.ref 1, .int (nI m), .int y, .int x], []) h2 _) m ?_ ?_ 0 _ h1 nI_0.symm rfl R1 T1 f1
      · rintro x y h2 rfl rfl R2 T2 f2
        repeat (first | refine rs [] rfl rfl rfl rfl ?_ | refine rk rfl rfl ?_ | refine rgoh [] rfl rfl ?_ | refine rgeta (hi := rfl) (kk := ?_) | refine rialda (hi := rfl) (kk := ?_))
        (first | refine rif rfl rfl (fun c3 => ?_) (fun c3 => ?_) | refine ric rfl rfl (fun c3 => ?_) (fun c3 => ?_))
        · repeat (first | refine rs [] rfl rfl rfl rfl ?_ | refine rk rfl rfl ?_ | refine rgoh [] rfl rfl ?_ | refine rgeta (hi := rfl) (kk := ?_) | refine rialda (hi := rfl) (kk := ?_))
          refine rret rfl rfl ?_
          exact ⟨rfl, R2, fr_wd f2 (by omega) (by omega)⟩
        · exact absurd (Int32.le_refl _) c3
      · rintro i hi ih x y h2 rfl rfl R2 T2 f2
        obtain ⟨x1, ⟨x2, x3, x4⟩, x5, ⟨x6, x7, waC, meC, x8, x9, x10, x11, x12⟩, ⟨wh, mi, fe, fl, x13, x14, x15, x16⟩, x17, ⟨tm, x18⟩, ⟨fi, ff, x19, x20, x21, x22, x23, x24, x25⟩, ⟨x26, ss, fd, x27, x28, x29, x30⟩, ⟨x31, x32, x33, x34⟩, x35, ⟨fi2, x36, x37, x38, x39, x40⟩⟩ := id R2
        have y13 : h2.1 14 = .inr (6, [.ref 15, .ref 16, .int fe, .int fl, .int _, .int _, .int _]) := x13
        have y14 : h2.1 15 = iar wh := x14
        have y15 : h2.1 16 = iar mi := x15
        unfold pTop at x1
        obtain ⟨u1, u2, u3, u4, u5, -⟩ := id T2
        repeat (first | refine rs [] rfl rfl rfl rfl ?_ | refine rk rfl rfl ?_ | refine rgoh [] rfl rfl ?_ | refine rgeta (hi := rfl) (kk := ?_) | refine rialda (hi := rfl) (kk := ?_))
        (first | refine rif rfl rfl (fun c3 => ?_) (fun c3 => ?_) | refine ric rfl rfl (fun c3 => ?_) (fun c3 => ?_))
        · exact absurd hi ((nI_lt_iff (by omega) (by omega)).mp c3)
        · repeat (first | refine rs [] rfl rfl rfl rfl ?_ | refine rk rfl rfl ?_ | refine rgoh [] rfl rfl ?_ | refine rgeta (hi := rfl) (kk := ?_) | refine rialda (hi := rfl) (kk := ?_))
          refine rcvt rfl rfl rfl rfl rfl u5 rfl (v_trun R2 T2 x10 (by omega) x12) ?_
          rintro r h3 ⟨rfl, R3, T3, f3⟩
          show am_R M_Sp_never (30, [.ref 1, .int (nI m), .int _, .int (nI i)], []) _ _
          have x1 := R3.1
          unfold pTop at x1
          obtain ⟨u1, u2, u3, u4, u5, -⟩ := id T3
          repeat (first | refine rs [18] rfl rfl rfl rfl ?_ | refine rk rfl rfl ?_ | refine rgoh [18] rfl rfl ?_ | refine rgeta (hi := rfl) (kk := ?_) | refine rialda (hi := rfl) (kk := ?_))
          exact ih _ _ h3 (nI_succ i).symm rfl R3 T3 (fr_tr f2 f3 (by omega) (by omega))
    · repeat (first | refine rs [] rfl rfl rfl rfl ?_ | refine rk rfl rfl ?_ | refine rgoh [] rfl rfl ?_ | refine rgeta (hi := rfl) (kk := ?_) | refine rialda (hi := rfl) (kk := ?_))
      refine rret rfl rfl ?_
      rw [if_pos (Or.inr (Int32.not_le.mp c2))]
      exact ⟨rfl, R, fr_rf⟩
end CTried
