/-! the class's calls: look, calm, aunts -/
section CLook
variable {h h' : am_H} {len N P rc bc : Nat} {fa G sd : Int32} {tx wa me rx rh bw bs : Nat → Int32} {S S' : Sc} {dd dd' : List Sc} {i0 i1 : Im}
def lkA (hl : List Int32) (n : Nat) : Int32 × Int32 := fo (fun p z => if mxI (wth hl (nI p)) (nI hl.length - wth hl (nI p)) < z.2 then (nI p, mxI (wth hl (nI p)) (nI hl.length - wth hl (nI p))) else z) n (-1, nI hl.length)
noncomputable def o_look : Q → Int32 × Q
  | ⟨⟨len, tx⟩, fa, ⟨N, P, G, wa, me⟩, S, dd, ⟨rc, rx, rh⟩, ⟨bc, bw, bs⟩, sd, i0, i1⟩ => ((lkA (hpA G N P S rc rx rh) P).1, ⟨⟨len, tx⟩, fa, ⟨N, P, G, wa, me⟩, S, dd, ⟨rc, rx, rh⟩, ⟨bc, bw, bs⟩, sd, i0, i1⟩)
set_option maxHeartbeats 1000000 in
theorem v_look (R : cRep ⟨⟨len, tx⟩, fa, ⟨N, P, G, wa, me⟩, S, dd, ⟨rc, rx, rh⟩, ⟨bc, bw, bs⟩, sd, i0, i1⟩ h) : am_O M_Sp_look [.ref 1] (o_look ⟨⟨len, tx⟩, fa, ⟨N, P, G, wa, me⟩, S, dd, ⟨rc, rx, rh⟩, ⟨bc, bw, bs⟩, sd, i0, i1⟩) h := by
  obtain ⟨x1, ⟨x2, x3, x4⟩, x5, ⟨x6, x7, waC, meC, x8, x9, x10, x11, x12⟩, ⟨wh, mi, fe, fl, x13, x14, x15, x16⟩, x17, ⟨tm, x18⟩, ⟨fi, ff, x19, x20, x21, x22, x23, x24, x25⟩, ⟨x26, ss, fd, x27, x28, x29, x30⟩, ⟨x31, x32, x33, x34⟩, x35, ⟨fi2, x36, x37, x38, x39, x40⟩⟩ := id R
  have y13 : h.1 14 = .inr (6, [.ref 15, .ref 16, .int fe, .int fl, .int _, .int _, .int _]) := x13
  have y14 : h.1 15 = iar wh := x14
  have y15 : h.1 16 = iar mi := x15
  unfold pTop at x1
  unfold am_O o_look hpA
  (try unfold am_E); unfold am_T
  dsimp only
  repeat (first | refine rs [] rfl rfl rfl rfl ?_ | refine rk rfl rfl ?_ | refine rgoh [] rfl rfl ?_ | refine rgeta (hi := rfl) (kk := ?_) | refine rialda (hi := rfl) (kk := ?_))
  refine rcvt rfl rfl rfl rfl rfl x27 rfl (v_find R) ?_
  rintro r h1 ⟨rfl, R1, W1, f1⟩
  show am_R M_Sp_look (7, [.ref 1, _, _, _, _, _], [.int _]) _ _
  generalize hop2 (okA G N P S rc rx rh) P = hl at W1 ⊢
  obtain ⟨w1, w2, ss, w3, w4, w5, w6, w7⟩ := id W1
  obtain ⟨x1, ⟨x2, x3, x4⟩, x5, ⟨x6, x7, waC, meC, x8, x9, x10, x11, x12⟩, ⟨wh, mi, fe, fl, x13, x14, x15, x16⟩, x17, ⟨tm, x18⟩, ⟨fi, ff, x19, x20, x21, x22, x23, x24, x25⟩, ⟨x26, ss, fd, x27, x28, x29, x30⟩, ⟨x31, x32, x33, x34⟩, x35, ⟨fi2, x36, x37, x38, x39, x40⟩⟩ := id R1
  have y13 : h1.1 14 = .inr (6, [.ref 15, .ref 16, .int fe, .int fl, .int _, .int _, .int _]) := x13
  have y14 : h1.1 15 = iar wh := x14
  have y15 : h1.1 16 = iar mi := x15
  unfold pTop at x1
  clear x27 x28 x29 x30
  repeat (first | refine rs [14] rfl rfl rfl rfl ?_ | refine rk rfl rfl ?_ | refine rgoh [14] rfl rfl ?_ | refine rgeta (hi := rfl) (kk := ?_) | refine rialda (hi := rfl) (kk := ?_))
  refine lup (P := fun i => ∀ x y z v5, x = nI i → (y, z) = lkA hl i → am_R M_Sp_look (14, [.ref 1, .int (nI hl.length), .int y, .int z, .int x, v5], []) h1 _) P ?_ ?_ 0 _ _ _ nI_0.symm rfl
  · rintro x y z v5 rfl e
    repeat (first | refine rs [] rfl rfl rfl rfl ?_ | refine rk rfl rfl ?_ | refine rgoh [] rfl rfl ?_ | refine rgeta (hi := rfl) (kk := ?_) | refine rialda (hi := rfl) (kk := ?_))
    (first | refine rif rfl rfl (fun c3 => ?_) (fun c3 => ?_) | refine ric rfl rfl (fun c3 => ?_) (fun c3 => ?_))
    · repeat (first | refine rs [] rfl rfl rfl rfl ?_ | refine rk rfl rfl ?_ | refine rgoh [] rfl rfl ?_ | refine rgeta (hi := rfl) (kk := ?_) | refine rialda (hi := rfl) (kk := ?_))
      refine rret rfl rfl ?_
      exact ⟨by rw [← e], R1, fr_wd f1 (by omega) (by omega)⟩
    · exact absurd (Int32.le_refl _) c3
  · rintro i hi ih x y z v5 rfl e
    have es : lkA hl (i + 1) = if mxI (wth hl (nI i)) (nI hl.length - wth hl (nI i)) < (lkA hl i).2 then (nI i, mxI (wth hl (nI i)) (nI hl.length - wth hl (nI i))) else lkA hl i := rfl
    rw [← e] at es
    repeat (first | refine rs [] rfl rfl rfl rfl ?_ | refine rk rfl rfl ?_ | refine rgoh [] rfl rfl ?_ | refine rgeta (hi := rfl) (kk := ?_) | refine rialda (hi := rfl) (kk := ?_))
    (first | refine rif rfl rfl (fun c3 => ?_) (fun c3 => ?_) | refine ric rfl rfl (fun c3 => ?_) (fun c3 => ?_))
    · exact absurd hi ((nI_lt_iff (by omega) (by omega)).mp c3)
    · repeat (first | refine rs [] rfl rfl rfl rfl ?_ | refine rk rfl rfl ?_ | refine rgoh [] rfl rfl ?_ | refine rgeta (hi := rfl) (kk := ?_) | refine rialda (hi := rfl) (kk := ?_))
      (first | refine rcvs rfl rfl rfl rfl rfl (by first | assumption | (simp (disch := omega) only [am_set_ne, am_set_eq]; first | assumption | rfl)) rfl (c_greatestPart W1) ?_ | refine rcvn rfl rfl rfl rfl rfl (by first | assumption | (simp (disch := omega) only [am_set_ne, am_set_eq]; first | assumption | rfl)) rfl (c_greatestPart W1) ?_)
      generalize mxI (wth hl (nI i)) (nI hl.length - wth hl (nI i)) = gp at es ⊢
      repeat (first | refine rs [] rfl rfl rfl rfl ?_ | refine rk rfl rfl ?_ | refine rgoh [] rfl rfl ?_ | refine rgeta (hi := rfl) (kk := ?_) | refine rialda (hi := rfl) (kk := ?_))
      (first | refine rif rfl rfl (fun c4 => ?_) (fun c4 => ?_) | refine ric rfl rfl (fun c4 => ?_) (fun c4 => ?_))
      · repeat (first | refine rs [14] rfl rfl rfl rfl ?_ | refine rk rfl rfl ?_ | refine rgoh [14] rfl rfl ?_ | refine rgeta (hi := rfl) (kk := ?_) | refine rialda (hi := rfl) (kk := ?_))
        refine ih _ _ _ _ (nI_succ i).symm ?_
        rw [es, if_neg (Int32.not_lt.mpr c4)]
      · repeat (first | refine rs [14] rfl rfl rfl rfl ?_ | refine rk rfl rfl ?_ | refine rgoh [14] rfl rfl ?_ | refine rgeta (hi := rfl) (kk := ?_) | refine rialda (hi := rfl) (kk := ?_))
        refine ih _ _ _ _ (nI_succ i).symm ?_
        rw [es, if_pos (Int32.not_le.mp c4)]
def cmA (set G : Int32) (P : Nat) (S : Sc) : Int32 := fo (fun p s => if bitv set (S.1 p) = 1 then s + mxI 0 (shA 0 S p - (G + S.2.2.2.2.1) + 1) else s) P 0
def o_calm (set : Int32) : Q → Int32 × Q
  | ⟨⟨len, tx⟩, fa, ⟨N, P, G, wa, me⟩, S, dd, ⟨rc, rx, rh⟩, ⟨bc, bw, bs⟩, sd, i0, i1⟩ => (if set &&& ((sh1 (nI N) - 1) ^^^ (-1)) = 0 then cmA set G P S else -1000000001, ⟨⟨len, tx⟩, fa, ⟨N, P, G, wa, me⟩, S, dd, ⟨rc, rx, rh⟩, ⟨bc, bw, bs⟩, sd, i0, i1⟩)
theorem v_calm {set : Int32} (R : cRep ⟨⟨len, tx⟩, fa, ⟨N, P, G, wa, me⟩, S, dd, ⟨rc, rx, rh⟩, ⟨bc, bw, bs⟩, sd, i0, i1⟩ h) : am_O M_Sp_calm [.ref 1, .int set] (o_calm set ⟨⟨len, tx⟩, fa, ⟨N, P, G, wa, me⟩, S, dd, ⟨rc, rx, rh⟩, ⟨bc, bw, bs⟩, sd, i0, i1⟩) h := by
  have hS : cSc P 14 S h := R.2.2.2.2.1
  have hL : cLn N P G wa me h := R.2.2.2.1
  obtain ⟨x1, ⟨x2, x3, x4⟩, x5, ⟨x6, x7, waC, meC, x8, x9, x10, x11, x12⟩, ⟨wh, mi, fe, fl, x13, x14, x15, x16⟩, x17, ⟨tm, x18⟩, ⟨fi, ff, x19, x20, x21, x22, x23, x24, x25⟩, ⟨x26, ss, fd, x27, x28, x29, x30⟩, ⟨x31, x32, x33, x34⟩, x35, ⟨fi2, x36, x37, x38, x39, x40⟩⟩ := id R
  have y13 : h.1 14 = .inr (6, [.ref 15, .ref 16, .int fe, .int fl, .int _, .int _, .int _]) := x13
  have y14 : h.1 15 = iar wh := x14
  have y15 : h.1 16 = iar mi := x15
  unfold pTop at x1
  unfold am_O o_calm
  (try unfold am_E); unfold am_T
  dsimp only
  repeat (first | refine rs [] rfl rfl rfl rfl ?_ | refine rk rfl rfl ?_ | refine rgoh [] rfl rfl ?_ | refine rgeta (hi := rfl) (kk := ?_) | refine rialda (hi := rfl) (kk := ?_))
  (first | refine rcvs rfl rfl rfl rfl rfl (by first | assumption | (simp (disch := omega) only [am_set_ne, am_set_eq]; first | assumption | rfl)) rfl (c_allStations x8) ?_ | refine rcvn rfl rfl rfl rfl rfl (by first | assumption | (simp (disch := omega) only [am_set_ne, am_set_eq]; first | assumption | rfl)) rfl (c_allStations x8) ?_)
  repeat (first | refine rs [] rfl rfl rfl rfl ?_ | refine rk rfl rfl ?_ | refine rgoh [] rfl rfl ?_ | refine rgeta (hi := rfl) (kk := ?_) | refine rialda (hi := rfl) (kk := ?_))
  (first | refine rif rfl rfl (fun c1 => ?_) (fun c1 => ?_) | refine ric rfl rfl (fun c1 => ?_) (fun c1 => ?_))
  · rw [if_pos c1]
    repeat (first | refine rs [14] rfl rfl rfl rfl ?_ | refine rk rfl rfl ?_ | refine rgoh [14] rfl rfl ?_ | refine rgeta (hi := rfl) (kk := ?_) | refine rialda (hi := rfl) (kk := ?_))
    refine lup (P := fun i => ∀ x y, x = nI i → y = fo (fun p s => if bitv set (S.1 p) = 1 then s + mxI 0 (shA 0 S p - (G + S.2.2.2.2.1) + 1) else s) i 0 → am_R M_Sp_calm (14, [.ref 1, .int set, .int y, .int x], []) h _) P ?_ ?_ 0 _ nI_0.symm rfl
    · rintro x y rfl rfl
      repeat (first | refine rs [] rfl rfl rfl rfl ?_ | refine rk rfl rfl ?_ | refine rgoh [] rfl rfl ?_ | refine rgeta (hi := rfl) (kk := ?_) | refine rialda (hi := rfl) (kk := ?_))
      (first | refine rif rfl rfl (fun c3 => ?_) (fun c3 => ?_) | refine ric rfl rfl (fun c3 => ?_) (fun c3 => ?_))
      · repeat (first | refine rs [] rfl rfl rfl rfl ?_ | refine rk rfl rfl ?_ | refine rgoh [] rfl rfl ?_ | refine rgeta (hi := rfl) (kk := ?_) | refine rialda (hi := rfl) (kk := ?_))
        refine rret rfl rfl ?_
        exact ⟨rfl, R, fr_rf⟩
      · exact absurd (Int32.le_refl _) c3
    · rintro i hi ih x y rfl rfl
      have es : fo (fun p s => if bitv set (S.1 p) = 1 then s + mxI 0 (shA 0 S p - (G + S.2.2.2.2.1) + 1) else s) (i + 1) 0 = if bitv set (S.1 i) = 1 then fo (fun p s => if bitv set (S.1 p) = 1 then s + mxI 0 (shA 0 S p - (G + S.2.2.2.2.1) + 1) else s) i 0 + mxI 0 (shA 0 S i - (G + S.2.2.2.2.1) + 1) else fo (fun p s => if bitv set (S.1 p) = 1 then s + mxI 0 (shA 0 S p - (G + S.2.2.2.2.1) + 1) else s) i 0 := rfl
      repeat (first | refine rs [] rfl rfl rfl rfl ?_ | refine rk rfl rfl ?_ | refine rgoh [] rfl rfl ?_ | refine rgeta (hi := rfl) (kk := ?_) | refine rialda (hi := rfl) (kk := ?_))
      (first | refine rif rfl rfl (fun c3 => ?_) (fun c3 => ?_) | refine ric rfl rfl (fun c3 => ?_) (fun c3 => ?_))
      · exact absurd hi ((nI_lt_iff (by omega) (by omega)).mp c3)
      · repeat (first | refine rs [] rfl rfl rfl rfl ?_ | refine rk rfl rfl ?_ | refine rgoh [] rfl rfl ?_ | refine rgeta (hi := rfl) (kk := ?_) | refine rialda (hi := rfl) (kk := ?_))
        refine rcss rfl rfl rfl rfl rfl (c_bit) ?_
        rw [(x16 i hi).1]
        repeat (first | refine rs [] rfl rfl rfl rfl ?_ | refine rk rfl rfl ?_ | refine rgoh [] rfl rfl ?_ | refine rgeta (hi := rfl) (kk := ?_) | refine rialda (hi := rfl) (kk := ?_))
        (first | refine rif rfl rfl (fun c4 => ?_) (fun c4 => ?_) | refine ric rfl rfl (fun c4 => ?_) (fun c4 => ?_))
        · repeat (first | refine rs [14] rfl rfl rfl rfl ?_ | refine rk rfl rfl ?_ | refine rgoh [14] rfl rfl ?_ | refine rgeta (hi := rfl) (kk := ?_) | refine rialda (hi := rfl) (kk := ?_))
          (first | refine rcvs rfl rfl rfl rfl rfl (by first | assumption | (simp (disch := omega) only [am_set_ne, am_set_eq]; first | assumption | rfl)) rfl (a_shows rfl hi x7 hS) ?_ | refine rcvn rfl rfl rfl rfl rfl (by first | assumption | (simp (disch := omega) only [am_set_ne, am_set_eq]; first | assumption | rfl)) rfl (a_shows rfl hi x7 hS) ?_)
          repeat (first | refine rs [14] rfl rfl rfl rfl ?_ | refine rk rfl rfl ?_ | refine rgoh [14] rfl rfl ?_ | refine rgeta (hi := rfl) (kk := ?_) | refine rialda (hi := rfl) (kk := ?_))
          (first | refine rcvs rfl rfl rfl rfl rfl (by first | assumption | (simp (disch := omega) only [am_set_ne, am_set_eq]; first | assumption | rfl)) rfl (a_alarm hL hS (by omega)) ?_ | refine rcvn rfl rfl rfl rfl rfl (by first | assumption | (simp (disch := omega) only [am_set_ne, am_set_eq]; first | assumption | rfl)) rfl (a_alarm hL hS (by omega)) ?_)
          repeat (first | refine rs [14] rfl rfl rfl rfl ?_ | refine rk rfl rfl ?_ | refine rgoh [14] rfl rfl ?_ | refine rgeta (hi := rfl) (kk := ?_) | refine rialda (hi := rfl) (kk := ?_))
          refine ih _ _ (nI_succ i).symm ?_
          rw [es, if_pos c4]
          rfl
        · repeat (first | refine rs [14] rfl rfl rfl rfl ?_ | refine rk rfl rfl ?_ | refine rgoh [14] rfl rfl ?_ | refine rgeta (hi := rfl) (kk := ?_) | refine rialda (hi := rfl) (kk := ?_))
          refine ih _ _ (nI_succ i).symm ?_
          rw [es, if_neg c4]
  · rw [if_neg c1]
    repeat (first | refine rs [] rfl rfl rfl rfl ?_ | refine rk rfl rfl ?_ | refine rgoh [] rfl rfl ?_ | refine rgeta (hi := rfl) (kk := ?_) | refine rialda (hi := rfl) (kk := ?_))
    refine rret rfl rfl ?_
    exact ⟨rfl, R, fr_rf⟩
theorem v_ends {p aunt : Int32} {k : Nat} (hp : p = nI k) (hk : k < P) (R : cRep ⟨⟨len, tx⟩, fa, ⟨N, P, G, wa, me⟩, S, dd, ⟨rc, rx, rh⟩, ⟨bc, bw, bs⟩, sd, i0, i1⟩ h) : am_T M_Sp_endsAt [.ref 1, .int p, .int aunt] h (fun r h' => r = some (.int ((rnA N P G wa (upd me k aunt) 0 S).1 k)) ∧ cRep ⟨⟨len, tx⟩, fa, ⟨N, P, G, wa, me⟩, S, dd, ⟨rc, rx, rh⟩, ⟨bc, bw, bs⟩, sd, i0, i1⟩ h' ∧ am_fr 17 21 h h') := by
  subst hp
  obtain ⟨x1, ⟨x2, x3, x4⟩, x5, ⟨x6, x7, waC, meC, x8, x9, x10, x11, x12⟩, ⟨wh, mi, fe, fl, x13, x14, x15, x16⟩, x17, ⟨tm, x18⟩, ⟨fi, ff, x19, x20, x21, x22, x23, x24, x25⟩, ⟨x26, ss, fd, x27, x28, x29, x30⟩, ⟨x31, x32, x33, x34⟩, x35, ⟨fi2, x36, x37, x38, x39, x40⟩⟩ := id R
  have y13 : h.1 14 = .inr (6, [.ref 15, .ref 16, .int fe, .int fl, .int _, .int _, .int _]) := x13
  have y14 : h.1 15 = iar wh := x14
  have y15 : h.1 16 = iar mi := x15
  unfold pTop at x1
  (try unfold am_E); unfold am_T
  repeat (first | refine rs [] rfl rfl rfl rfl ?_ | refine rk rfl rfl ?_ | refine rgoh [] rfl rfl ?_ | refine rgeta (hi := rfl) (kk := ?_) | refine rialda (hi := rfl) (kk := ?_))
  refine rcpy (a := 20) (a0 := 13) (n := 8) (f := meC) (g := tm) (na := 8) (nb := 8) rfl x10 x18 (by omega) (by omega) i8 (by omega) (by omega) (by omega) (by decide) ?_
  repeat (first | refine rs [] rfl rfl rfl rfl ?_ | refine rk rfl rfl ?_ | refine rgoh [] rfl rfl ?_ | refine rgeta (hi := rfl) (kk := ?_) | refine rialda (hi := rfl) (kk := ?_))
  refine riasta (hi := rfl) (hc := am_set_eq) (kk := ?_)
  have f0 : am_fr 17 21 h (am_set (am_set h 20 (iar (va_cpy meC tm 0 0 8))) 20 (iar (upd (va_cpy meC tm 0 0 8) k aunt))) := fr_set (fr_set fr_rf (by omega) (by omega)) (by omega) (by omega)
  have f9 : am_fr 20 21 h (am_set (am_set h 20 (iar (va_cpy meC tm 0 0 8))) 20 (iar (upd (va_cpy meC tm 0 0 8) k aunt))) := fr_set (fr_set fr_rf (by omega) (by omega)) (by omega) (by omega)
  have R0 : cRep ⟨⟨len, tx⟩, fa, ⟨N, P, G, wa, me⟩, S, dd, ⟨rc, rx, rh⟩, ⟨bc, bw, bs⟩, sd, i0, i1⟩ (am_set (am_set h 20 (iar (va_cpy meC tm 0 0 8))) 20 (iar (upd (va_cpy meC tm 0 0 8) k aunt))) := cRep_tr R f0 (x17.fr f9 (by omega)) am_set_eq
  have e20 : (am_set (am_set h 20 (iar (va_cpy meC tm 0 0 8))) 20 (iar (upd (va_cpy meC tm 0 0 8) k aunt))).1 20 = iar (upd (va_cpy meC tm 0 0 8) k aunt) := am_set_eq
  generalize am_set (am_set h 20 (iar (va_cpy meC tm 0 0 8))) 20 (iar (upd (va_cpy meC tm 0 0 8) k aunt)) = h0 at R0 f0 e20 ⊢
  have em : eqP P (upd (va_cpy meC tm 0 0 8) k aunt) (upd me k aunt) := eqP_upd (fun p hp => (cpy8 (by omega)).trans (x12 p hp))
  have x1 := R0.1
  unfold pTop at x1
  obtain ⟨v1, v2, v3, v4, v5, v6, v7, v8, -⟩ : cRaw 17 h0 := R0.2.2.2.2.2.1
  repeat (first | refine rs [] rfl rfl rfl rfl ?_ | refine rk rfl rfl ?_ | refine rgoh [] rfl rfl ?_ | refine rgeta (hi := rfl) (kk := ?_) | refine rialda (hi := rfl) (kk := ?_))
  refine rcvt rfl rfl rfl rfl rfl v8 rfl (v_trial R0) ?_
  rintro r h1 ⟨rfl, R1, T1, f1⟩
  show am_R M_Sp_endsAt (19, [.ref 1, .int (nI k), .int aunt], []) _ _
  have x1 := R1.1
  unfold pTop at x1
  have e20' : h1.1 20 = iar (upd (va_cpy meC tm 0 0 8) k aunt) := by rw [f1.2 _ (by omega)]; exact e20
  obtain ⟨u1, u2, u3, u4, u5, -⟩ := id T1
  repeat (first | refine rs [] rfl rfl rfl rfl ?_ | refine rk rfl rfl ?_ | refine rgoh [] rfl rfl ?_ | refine rgeta (hi := rfl) (kk := ?_) | refine rialda (hi := rfl) (kk := ?_))
  refine rcvt rfl rfl rfl rfl rfl u5 rfl (v_trun R1 T1 e20' (by omega) em) ?_
  rintro r h2 ⟨rfl, R2, T2, f2⟩
  show am_R M_Sp_endsAt (27, [.ref 1, .int (nI k), .int aunt], []) _ _
  have x1 := R2.1
  unfold pTop at x1
  obtain ⟨u1, u2, u3, u4, u5, u6, u7, u8⟩ := id T2
  have t5 : h2.1 17 = .inr (6, [.ref 18, .ref 19, .int u3, .int u4, .int _, .int _, .int _]) := u5
  have t6 : h2.1 18 = iar u1 := u6
  repeat (first | refine rs [] rfl rfl rfl rfl ?_ | refine rk rfl rfl ?_ | refine rgoh [] rfl rfl ?_ | refine rgeta (hi := rfl) (kk := ?_) | refine rialda (hi := rfl) (kk := ?_))
  refine rret rfl rfl ?_
  exact ⟨by rw [(u8 k hk).1], R2, fr_tr f0 (fr_tr (lo := 17) (hi := 20) f1 f2 (by omega) (by omega)) (by omega) (by omega)⟩
end CLook
