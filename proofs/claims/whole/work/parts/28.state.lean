/-! the whole state, and the class's part of the heap -/
abbrev Ln : Type := Nat × Nat × Int32 × (Nat → Int32) × (Nat → Int32)
abbrev Ls : Type := Nat × (Nat → Int32) × (Nat → Int32)
abbrev Im : Type := Option (Sc × Int32)
/-- text, fault, line, now, deeds, what ran, entries, seed, images -/
abbrev Q : Type := (Nat × (Nat → Int32)) × Int32 × Ln × Sc × List Sc × Ls × Ls × Int32 × Im × Im
def pTop (fa : Int32) (h : am_H) : Prop := h.1 1 = .inr (9, [.ref 2, .ref 4, .ref 11, .ref 14, .ref 17, .ref 20, .ref 21, .ref 113, .ref 117, .ref 120, .ref 121, .int fa])
def pRj (h : am_H) : Prop := (∃ k j i nu, h.1 4 = rdc k j i nu) ∧ pRw h
theorem pRj.fr {lo hi : Nat} {h h' : am_H} (f : am_fr lo hi h h') (hd : 11 ≤ lo ∨ hi ≤ 4) (q : pRj h) : pRj h' := by
  obtain ⟨⟨k, j, i, nu, q0⟩, wa, me, wh, mi, N, G, P, fe, fl, F, tr, sp, q1, q2, q3, q4, q5, q6⟩ := q
  exact ⟨⟨k, j, i, nu, by rw [f.2 _ (by omega)]; exact q0⟩, wa, me, wh, mi, N, G, P, fe, fl, F, tr, sp, by rw [f.2 _ (by omega)]; exact q1, by rw [f.2 _ (by omega)]; exact q2, by rw [f.2 _ (by omega)]; exact q3, by rw [f.2 _ (by omega)]; exact q4, by rw [f.2 _ (by omega)]; exact q5, by rw [f.2 _ (by omega)]; exact q6⟩
theorem cBk.fr {bc lo hi : Nat} {bw bs : Nat → Int32} {h h' : am_H} (f : am_fr lo hi h h') (hd : 120 ≤ lo ∨ hi ≤ 117) (q : cBk bc bw bs h) : cBk bc bw bs h' := by
  obtain ⟨q1, q2, q3, q4⟩ := q
  exact ⟨q1, by rw [f.2 _ (by omega)]; exact q2, by rw [f.2 _ (by omega)]; exact q3, by rw [f.2 _ (by omega)]; exact q4⟩
/-- an image at a -/
def cIm (P a : Nat) (o : Im) (h : am_H) : Prop := ∃ s k, h.1 a = .inr (3, [.ref (a + 1), .int s, .int k]) ∧ cRaw (a + 1) h ∧ match o with | none => k = 0 | some (S, sd) => k = 1 ∧ s = sd ∧ cSc P (a + 1) S h
theorem cIm.fr {P a lo hi : Nat} {o : Im} {h h' : am_H} (f : am_fr lo hi h h') (hd : a + 4 ≤ lo ∨ hi ≤ a) (q : cIm P a o h) : cIm P a o h' := by
  obtain ⟨s, k, q1, q2, q3⟩ := q
  refine ⟨s, k, by rw [f.2 _ (by omega)]; exact q1, q2.fr f (by omega), ?_⟩
  cases o with
  | none => exact q3
  | some z => exact ⟨q3.1, q3.2.1, q3.2.2.fr f (by omega)⟩
def cIms (P : Nat) (i0 i1 : Im) (h : am_H) : Prop := ∃ (f : Nat → Option Nat), h.1 121 = .inl (.object "SpiteLine$Image", 2, .inr (.inr (.inr (.inr f)))) ∧ f 0 = some 122 ∧ f 1 = some 126 ∧ cIm P 122 i0 h ∧ cIm P 126 i1 h
theorem cIms.fr {P lo hi : Nat} {i0 i1 : Im} {h h' : am_H} (f : am_fr lo hi h h') (hd : 130 ≤ lo ∨ hi ≤ 121) (q : cIms P i0 i1 h) : cIms P i0 i1 h' := by
  obtain ⟨g, q1, q2, q3, q4, q5⟩ := q
  exact ⟨g, by rw [f.2 _ (by omega)]; exact q1, q2, q3, q4.fr f (by omega), q5.fr f (by omega)⟩
def cRep : Q → am_H → Prop
  | ⟨⟨len, tx⟩, fa, ⟨N, P, G, wa, me⟩, S, dd, ⟨rc, rx, rh⟩, ⟨bc, bw, bs⟩, sd, i0, i1⟩, h => pTop fa h ∧ cTx len tx h ∧ pRj h ∧ cLn N P G wa me h ∧ cSc P 14 S h ∧ cRaw 17 h ∧ (∃ f, h.1 20 = iar f) ∧ cDd P dd h ∧ cWt rc rx rh h ∧ cBk bc bw bs h ∧ h.1 120 = .inr (2, [.int sd]) ∧ cIms P i0 i1 h
theorem cRep.fr {q : Q} {h h' : am_H} (f : am_fr 130 1000000 h h') (R : cRep q h) : cRep q h' := by
  obtain ⟨⟨len, tx⟩, fa, ⟨N, P, G, wa, me⟩, S, dd, ⟨rc, rx, rh⟩, ⟨bc, bw, bs⟩, sd, i0, i1⟩ := q
  obtain ⟨x1, x2, x3, x4, x5, x6, ⟨tm, x7⟩, x8, x9, x10, x11, x12⟩ := R
  exact ⟨by unfold pTop; rw [f.2 _ (by omega)]; exact x1, x2.fr f (by omega), x3.fr f (by omega), x4.fr f (by omega), x5.fr f (by omega), x6.fr f (by omega), ⟨tm, by rw [f.2 _ (by omega)]; exact x7⟩, x8.fr f (by omega), x9.fr f (by omega), x10.fr f (by omega), by rw [f.2 _ (by omega)]; exact x11, x12.fr f (by omega)⟩
/-- a call of the class does o -/
def am_O (K : am_M) (As : List Value) (o : Int32 × Q) (h : am_H) : Prop := am_T K As h (fun r h' => r = some (.int o.1) ∧ cRep o.2 h' ∧ am_fr 1 130 h h')
section CRep
variable {h h' : am_H} {len N P rc bc : Nat} {fa G sd : Int32} {tx wa me rx rh bw bs : Nat → Int32} {S S' : Sc} {dd dd' : List Sc} {i0 i1 : Im}
/-- only now and deeds have changed -/
theorem cRep_sd (R : cRep ⟨⟨len, tx⟩, fa, ⟨N, P, G, wa, me⟩, S, dd, ⟨rc, rx, rh⟩, ⟨bc, bw, bs⟩, sd, i0, i1⟩ h) (f : am_fr 14 113 h h') (g : ∀ k, 17 ≤ k → k < 21 → h'.1 k = h.1 k) (hS : cSc P 14 S' h') (hD : cDd P dd' h') : cRep ⟨⟨len, tx⟩, fa, ⟨N, P, G, wa, me⟩, S', dd', ⟨rc, rx, rh⟩, ⟨bc, bw, bs⟩, sd, i0, i1⟩ h' := by
  obtain ⟨x1, x2, x3, x4, x5, x6, ⟨tm, x7⟩, x8, x9, x10, x11, x12⟩ := R
  have x6' : cRaw 17 h' := by
    obtain ⟨wh, mi, fe, fl, fog, tr, sp, h1, h2, h3⟩ := x6
    exact ⟨wh, mi, fe, fl, fog, tr, sp, by rw [g _ (by omega) (by omega)]; exact h1, by rw [g _ (by omega) (by omega)]; exact h2, by rw [g _ (by omega) (by omega)]; exact h3⟩
  exact ⟨by unfold pTop; rw [f.2 _ (by omega)]; exact x1, x2.fr f (by omega), x3.fr f (by omega), x4.fr f (by omega), hS, x6', ⟨tm, by rw [g _ (by omega) (by omega)]; exact x7⟩, hD, x9.fr f (by omega), x10.fr f (by omega), by rw [f.2 _ (by omega)]; exact x11, x12.fr f (by omega)⟩
theorem cRep_now (R : cRep ⟨⟨len, tx⟩, fa, ⟨N, P, G, wa, me⟩, S, dd, ⟨rc, rx, rh⟩, ⟨bc, bw, bs⟩, sd, i0, i1⟩ h) (f : am_fr 14 17 h h') (hS : cSc P 14 S' h') : cRep ⟨⟨len, tx⟩, fa, ⟨N, P, G, wa, me⟩, S', dd, ⟨rc, rx, rh⟩, ⟨bc, bw, bs⟩, sd, i0, i1⟩ h' := by
  have D : cDd P dd h := R.2.2.2.2.2.2.2.1
  exact cRep_sd R (fr_wd f (by omega) (by omega)) (fun k h1 h2 => f.2 k (by omega)) hS (D.fr f (by omega))
theorem v_note (R : cRep ⟨⟨len, tx⟩, fa, ⟨N, P, G, wa, me⟩, S, dd, ⟨rc, rx, rh⟩, ⟨bc, bw, bs⟩, sd, i0, i1⟩ h) : am_T M_Deeds_note [.ref 21, .ref 14] h (fun r h' => r = none ∧ cRep ⟨⟨len, tx⟩, fa, ⟨N, P, G, wa, me⟩, S, dnote dd S, ⟨rc, rx, rh⟩, ⟨bc, bw, bs⟩, sd, i0, i1⟩ h' ∧ am_fr 14 113 h h') := by
  have D : cDd P dd h := R.2.2.2.2.2.2.2.1
  have hS : cSc P 14 S h := R.2.2.2.2.1
  have hP : P ≤ 8 := R.2.2.2.1.2.1
  refine am_R.imp (c_note D hS hP) ?_
  rintro r h' ⟨rfl, g1, g2⟩
  exact ⟨rfl, cRep_sd R (fr_wd g2 (by omega) (by omega)) (fun k h1 h2 => g2.2 k (by omega)) (hS.fr g2 (by omega)) g1, fr_wd g2 (by omega) (by omega)⟩
theorem v_run {shut : Int32} (R : cRep ⟨⟨len, tx⟩, fa, ⟨N, P, G, wa, me⟩, S, dd, ⟨rc, rx, rh⟩, ⟨bc, bw, bs⟩, sd, i0, i1⟩ h) : am_T M_Scene_runTrain [.ref 14, .ref 11, .ref 13, .int shut] h (fun r h' => r = none ∧ cRep ⟨⟨len, tx⟩, fa, ⟨N, P, G, wa, me⟩, rnA N P G wa me shut S, dd, ⟨rc, rx, rh⟩, ⟨bc, bw, bs⟩, sd, i0, i1⟩ h' ∧ am_fr 14 17 h h') := by
  have hS : cSc P 14 S h := R.2.2.2.2.1
  have hL : cLn N P G wa me h := R.2.2.2.1
  obtain ⟨meC, hm, hme⟩ := cLn_me hL
  refine am_R.imp (a_run (shut := shut) hL hS (by omega) hm (by omega) hme) ?_
  rintro r h' ⟨rfl, g1, g2⟩
  exact ⟨rfl, cRep_now R g2 g1, g2⟩
theorem v_fault (R : cRep ⟨⟨len, tx⟩, fa, ⟨N, P, G, wa, me⟩, S, dd, ⟨rc, rx, rh⟩, ⟨bc, bw, bs⟩, sd, i0, i1⟩ h) : am_O M_Sp_fault [.ref 1] (fa, ⟨⟨len, tx⟩, fa, ⟨N, P, G, wa, me⟩, S, dd, ⟨rc, rx, rh⟩, ⟨bc, bw, bs⟩, sd, i0, i1⟩) h := by
  obtain ⟨x1, ⟨x2, x3, x4⟩, x5, ⟨x6, x7, waC, meC, x8, x9, x10, x11, x12⟩, ⟨wh, mi, fe, fl, x13, x14, x15, x16⟩, x17, ⟨tm, x18⟩, ⟨fi, ff, x19, x20, x21, x22, x23, x24, x25⟩, ⟨x26, ss, fd, x27, x28, x29, x30⟩, ⟨x31, x32, x33, x34⟩, x35, ⟨fi2, x36, x37, x38, x39, x40⟩⟩ := id R
  have y13 : h.1 14 = .inr (6, [.ref 15, .ref 16, .int fe, .int fl, .int _, .int _, .int _]) := x13
  have y14 : h.1 15 = iar wh := x14
  have y15 : h.1 16 = iar mi := x15
  unfold pTop at x1
  unfold am_O
  (try unfold am_E); unfold am_T
  repeat (first | refine rs [] rfl rfl rfl rfl ?_ | refine rk rfl rfl ?_ | refine rgoh [] rfl rfl ?_ | refine rgeta (hi := rfl) (kk := ?_) | refine rialda (hi := rfl) (kk := ?_))
  refine rret rfl rfl ?_
  exact ⟨rfl, R, fr_rf⟩
def o_mien (p v : Int32) : Q → Int32 × Q
  | ⟨⟨len, tx⟩, fa, ⟨N, P, G, wa, me⟩, S, dd, ⟨rc, rx, rh⟩, ⟨bc, bw, bs⟩, sd, i0, i1⟩ => if inR p P then (if v < 0 ∨ 9 < v then (-1000000002, ⟨⟨len, tx⟩, fa, ⟨N, P, G, wa, me⟩, S, dd, ⟨rc, rx, rh⟩, ⟨bc, bw, bs⟩, sd, i0, i1⟩) else (S.2.1 p.toNatClampNeg, ⟨⟨len, tx⟩, fa, ⟨N, P, G, wa, me⟩, (S.1, upd S.2.1 p.toNatClampNeg v, S.2.2), dnote dd S, ⟨rc, rx, rh⟩, ⟨bc, bw, bs⟩, sd, i0, i1⟩)) else (-1000000001, ⟨⟨len, tx⟩, fa, ⟨N, P, G, wa, me⟩, S, dd, ⟨rc, rx, rh⟩, ⟨bc, bw, bs⟩, sd, i0, i1⟩)
theorem v_mien {p v : Int32} (R : cRep ⟨⟨len, tx⟩, fa, ⟨N, P, G, wa, me⟩, S, dd, ⟨rc, rx, rh⟩, ⟨bc, bw, bs⟩, sd, i0, i1⟩ h) : am_O M_Sp_mien [.ref 1, .int p, .int v] (o_mien p v ⟨⟨len, tx⟩, fa, ⟨N, P, G, wa, me⟩, S, dd, ⟨rc, rx, rh⟩, ⟨bc, bw, bs⟩, sd, i0, i1⟩) h := by
  obtain ⟨x1, ⟨x2, x3, x4⟩, x5, ⟨x6, x7, waC, meC, x8, x9, x10, x11, x12⟩, ⟨wh, mi, fe, fl, x13, x14, x15, x16⟩, x17, ⟨tm, x18⟩, ⟨fi, ff, x19, x20, x21, x22, x23, x24, x25⟩, ⟨x26, ss, fd, x27, x28, x29, x30⟩, ⟨x31, x32, x33, x34⟩, x35, ⟨fi2, x36, x37, x38, x39, x40⟩⟩ := id R
  have y13 : h.1 14 = .inr (6, [.ref 15, .ref 16, .int fe, .int fl, .int _, .int _, .int _]) := x13
  have y14 : h.1 15 = iar wh := x14
  have y15 : h.1 16 = iar mi := x15
  unfold pTop at x1
  unfold am_O o_mien
  (try unfold am_E); unfold am_T
  repeat (first | refine rs [] rfl rfl rfl rfl ?_ | refine rk rfl rfl ?_ | refine rgoh [] rfl rfl ?_ | refine rgeta (hi := rfl) (kk := ?_) | refine rialda (hi := rfl) (kk := ?_))
  (first | refine rcvs rfl rfl rfl rfl rfl (by first | assumption | (simp (disch := omega) only [am_set_ne, am_set_eq]; first | assumption | rfl)) rfl (c_hasPerson x7 x8) ?_ | refine rcvn rfl rfl rfl rfl rfl (by first | assumption | (simp (disch := omega) only [am_set_ne, am_set_eq]; first | assumption | rfl)) rfl (c_hasPerson x7 x8) ?_)
  by_cases c : inR p P
  · rw [if_pos c]
    dsimp only
    rw [if_pos c]
    (first | refine rift rfl rfl ?_ | refine riff rfl rfl ?_ | refine rict rfl rfl ?_ | refine ricf rfl rfl ?_)
    obtain ⟨k, hk, rfl⟩ := inR_of c (by omega)
    repeat (first | refine rs [] rfl rfl rfl rfl ?_ | refine rk rfl rfl ?_ | refine rgoh [] rfl rfl ?_ | refine rgeta (hi := rfl) (kk := ?_) | refine rialda (hi := rfl) (kk := ?_))
    (first | refine rif rfl rfl (fun c1 => ?_) (fun c1 => ?_) | refine ric rfl rfl (fun c1 => ?_) (fun c1 => ?_))
    · repeat (first | refine rs [] rfl rfl rfl rfl ?_ | refine rk rfl rfl ?_ | refine rgoh [] rfl rfl ?_ | refine rgeta (hi := rfl) (kk := ?_) | refine rialda (hi := rfl) (kk := ?_))
      refine rret rfl rfl ?_
      rw [if_pos (Or.inl c1)]
      exact ⟨rfl, R, fr_rf⟩
    · repeat (first | refine rs [] rfl rfl rfl rfl ?_ | refine rk rfl rfl ?_ | refine rgoh [] rfl rfl ?_ | refine rgeta (hi := rfl) (kk := ?_) | refine rialda (hi := rfl) (kk := ?_))
      (first | refine rif rfl rfl (fun c2 => ?_) (fun c2 => ?_) | refine ric rfl rfl (fun c2 => ?_) (fun c2 => ?_))
      · rw [if_neg (by rintro (a | a); exact c1 a; exact absurd c2 (Int32.not_le.mpr a))]
        repeat (first | refine rs [] rfl rfl rfl rfl ?_ | refine rk rfl rfl ?_ | refine rgoh [] rfl rfl ?_ | refine rgeta (hi := rfl) (kk := ?_) | refine rialda (hi := rfl) (kk := ?_))
        refine rcvt rfl rfl rfl rfl rfl x21 rfl (v_note R) ?_
        rintro r h1 ⟨rfl, R1, f1⟩
        show am_R M_Sp_mien (19, [.ref 1, .int (nI k), .int v, _], []) _ _
        obtain ⟨x1, ⟨x2, x3, x4⟩, x5, ⟨x6, x7, waC, meC, x8, x9, x10, x11, x12⟩, ⟨wh, mi, fe, fl, x13, x14, x15, x16⟩, x17, ⟨tm, x18⟩, ⟨fi, ff, x19, x20, x21, x22, x23, x24, x25⟩, ⟨x26, ss, fd, x27, x28, x29, x30⟩, ⟨x31, x32, x33, x34⟩, x35, ⟨fi2, x36, x37, x38, x39, x40⟩⟩ := id R1
        have y13 : h1.1 14 = .inr (6, [.ref 15, .ref 16, .int fe, .int fl, .int _, .int _, .int _]) := x13
        have y14 : h1.1 15 = iar wh := x14
        have y15 : h1.1 16 = iar mi := x15
        unfold pTop at x1
        repeat (first | refine rs [] rfl rfl rfl rfl ?_ | refine rk rfl rfl ?_ | refine rgoh [] rfl rfl ?_ | refine rgeta (hi := rfl) (kk := ?_) | refine rialda (hi := rfl) (kk := ?_))
        refine riasta (hi := rfl) (kk := ?_)
        repeat (first | refine rs [] rfl rfl rfl rfl ?_ | refine rk rfl rfl ?_ | refine rgoh [] rfl rfl ?_ | refine rgeta (hi := rfl) (kk := ?_) | refine rialda (hi := rfl) (kk := ?_))
        refine rret rfl rfl ?_
        rw [nI_clamp (by omega)]
        refine ⟨by rw [(x16 k hk).2.1], ?_, fr_tr (fr_wd f1 (by omega) (by omega)) (fr_set (lo := 14) (hi := 17) fr_rf (by omega) (by omega)) (by omega) (by omega)⟩
        refine cRep_now R1 (fr_set (lo := 14) (hi := 17) fr_rf (by omega) (by omega)) ⟨wh, upd mi k v, fe, fl, ?_, ?_, am_set_eq, ?_⟩
        · rw [am_set_ne (by omega)]; exact x13
        · rw [am_set_ne (by omega)]; exact x14
        · intro p hp
          obtain ⟨q1, q2, q3, q4⟩ := x16 p hp
          refine ⟨q1, ?_, q3, q4⟩
          show upd mi k v p = upd S.2.1 k v p
          exact eqP_upd (fun p hp => (x16 p hp).2.1) p hp
      · repeat (first | refine rs [] rfl rfl rfl rfl ?_ | refine rk rfl rfl ?_ | refine rgoh [] rfl rfl ?_ | refine rgeta (hi := rfl) (kk := ?_) | refine rialda (hi := rfl) (kk := ?_))
        refine rret rfl rfl ?_
        rw [if_pos (Or.inr (Int32.not_le.mp c2))]
        exact ⟨rfl, R, fr_rf⟩
  · rw [if_neg c]
    dsimp only
    rw [if_neg c]
    (first | refine rift rfl rfl ?_ | refine riff rfl rfl ?_ | refine rict rfl rfl ?_ | refine ricf rfl rfl ?_)
    repeat (first | refine rs [] rfl rfl rfl rfl ?_ | refine rk rfl rfl ?_ | refine rgoh [] rfl rfl ?_ | refine rgeta (hi := rfl) (kk := ?_) | refine rialda (hi := rfl) (kk := ?_))
    refine rret rfl rfl ?_
    exact ⟨rfl, R, fr_rf⟩
end CRep
