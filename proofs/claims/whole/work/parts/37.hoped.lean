/-! the class's calls: hoped, sure, look -/
section CHoped
variable {h h' : am_H} {len N P rc bc : Nat} {fa G sd : Int32} {tx wa me rx rh bw bs : Nat → Int32} {S S' : Sc} {dd dd' : List Sc} {i0 i1 : Im}
/-- does a set of hopeful ones fit what ran -/
def okA (G : Int32) (N P : Nat) (S : Sc) (rc : Nat) (rx rh : Nat → Int32) : Int32 → Prop := fun c => fitsP (stA c G N P S) rc rx rh
theorem v_find (R : cRep ⟨⟨len, tx⟩, fa, ⟨N, P, G, wa, me⟩, S, dd, ⟨rc, rx, rh⟩, ⟨bc, bw, bs⟩, sd, i0, i1⟩ h) : am_T M_Witness_find [.ref 113, .ref 11, .ref 14] h (fun r h' => r = some (.int (nI (hop2 (okA G N P S rc rx rh) P).length)) ∧ cRep ⟨⟨len, tx⟩, fa, ⟨N, P, G, wa, me⟩, S, dd, ⟨rc, rx, rh⟩, ⟨bc, bw, bs⟩, sd, i0, i1⟩ h' ∧ cWs rc rx rh (hop2 (okA G N P S rc rx rh) P) h' ∧ am_fr 113 117 h h') := by
  have hS : cSc P 14 S h := R.2.2.2.2.1
  have hL : cLn N P G wa me h := R.2.2.2.1
  have hW : cWt rc rx rh h := R.2.2.2.2.2.2.2.2.1
  obtain ⟨meC, hm, -⟩ := cLn_me hL
  obtain ⟨waC, wh, mi, fe, fl, H, e1, e2⟩ := to_scW hL hS (by omega) hm (by omega)
  have eo : okA G N P S rc rx rh = fun c => fitsP (stn c G S.2.2.2.2.1 fe fl mi wh N P) rc rx rh := by
    funext c
    unfold okA
    rw [stn_A e2]
  refine am_R.imp (c_find eo hW H) ?_
  rintro r h1 ⟨rfl, g1, g2⟩
  exact ⟨rfl, cRep_wt R g2 g1.wt, g1, g2⟩
noncomputable def hpA (G : Int32) (N P : Nat) (S : Sc) (rc : Nat) (rx rh : Nat → Int32) : List Int32 := hop2 (okA G N P S rc rx rh) P
noncomputable def o_hoped (i : Int32) : Q → Int32 × Q
  | ⟨⟨len, tx⟩, fa, ⟨N, P, G, wa, me⟩, S, dd, ⟨rc, rx, rh⟩, ⟨bc, bw, bs⟩, sd, i0, i1⟩ => (if i = -1 then nI (hpA G N P S rc rx rh).length else if inR i (hpA G N P S rc rx rh).length then (hpA G N P S rc rx rh).getD i.toNatClampNeg 0 else -1, ⟨⟨len, tx⟩, fa, ⟨N, P, G, wa, me⟩, S, dd, ⟨rc, rx, rh⟩, ⟨bc, bw, bs⟩, sd, i0, i1⟩)
theorem v_hoped {i : Int32} (R : cRep ⟨⟨len, tx⟩, fa, ⟨N, P, G, wa, me⟩, S, dd, ⟨rc, rx, rh⟩, ⟨bc, bw, bs⟩, sd, i0, i1⟩ h) : am_O M_Sp_hoped [.ref 1, .int i] (o_hoped i ⟨⟨len, tx⟩, fa, ⟨N, P, G, wa, me⟩, S, dd, ⟨rc, rx, rh⟩, ⟨bc, bw, bs⟩, sd, i0, i1⟩) h := by
  obtain ⟨x1, ⟨x2, x3, x4⟩, x5, ⟨x6, x7, waC, meC, x8, x9, x10, x11, x12⟩, ⟨wh, mi, fe, fl, x13, x14, x15, x16⟩, x17, ⟨tm, x18⟩, ⟨fi, ff, x19, x20, x21, x22, x23, x24, x25⟩, ⟨x26, ss, fd, x27, x28, x29, x30⟩, ⟨x31, x32, x33, x34⟩, x35, ⟨fi2, x36, x37, x38, x39, x40⟩⟩ := id R
  have y13 : h.1 14 = .inr (6, [.ref 15, .ref 16, .int fe, .int fl, .int _, .int _, .int _]) := x13
  have y14 : h.1 15 = iar wh := x14
  have y15 : h.1 16 = iar mi := x15
  unfold pTop at x1
  unfold am_O o_hoped hpA
  (try unfold am_E); unfold am_T
  dsimp only
  repeat (first | refine rs [] rfl rfl rfl rfl ?_ | refine rk rfl rfl ?_ | refine rgoh [] rfl rfl ?_ | refine rgeta (hi := rfl) (kk := ?_) | refine rialda (hi := rfl) (kk := ?_))
  refine rcvt rfl rfl rfl rfl rfl x27 rfl (v_find R) ?_
  rintro r h1 ⟨rfl, R1, W1, f1⟩
  show am_R M_Sp_hoped (7, [.ref 1, .int i, _], [.int _]) _ _
  generalize hop2 (okA G N P S rc rx rh) P = hl at W1 ⊢
  obtain ⟨w1, w2, ss, w3, w4, w5, w6, w7⟩ := id W1
  have x1 := R1.1
  unfold pTop at x1
  repeat (first | refine rs [] rfl rfl rfl rfl ?_ | refine rk rfl rfl ?_ | refine rgoh [] rfl rfl ?_ | refine rgeta (hi := rfl) (kk := ?_) | refine rialda (hi := rfl) (kk := ?_))
  (first | refine rif rfl rfl (fun c1 => ?_) (fun c1 => ?_) | refine ric rfl rfl (fun c1 => ?_) (fun c1 => ?_))
  · repeat (first | refine rs [] rfl rfl rfl rfl ?_ | refine rk rfl rfl ?_ | refine rgoh [] rfl rfl ?_ | refine rgeta (hi := rfl) (kk := ?_) | refine rialda (hi := rfl) (kk := ?_))
    refine rret rfl rfl ?_
    rw [if_pos c1]
    exact ⟨rfl, R1, fr_wd f1 (by omega) (by omega)⟩
  · rw [if_neg c1]
    repeat (first | refine rs [] rfl rfl rfl rfl ?_ | refine rk rfl rfl ?_ | refine rgoh [] rfl rfl ?_ | refine rgeta (hi := rfl) (kk := ?_) | refine rialda (hi := rfl) (kk := ?_))
    (first | refine rif rfl rfl (fun c2 => ?_) (fun c2 => ?_) | refine ric rfl rfl (fun c2 => ?_) (fun c2 => ?_))
    · repeat (first | refine rs [] rfl rfl rfl rfl ?_ | refine rk rfl rfl ?_ | refine rgoh [] rfl rfl ?_ | refine rgeta (hi := rfl) (kk := ?_) | refine rialda (hi := rfl) (kk := ?_))
      refine rret rfl rfl ?_
      rw [if_neg (fun a => a.1 c2)]
      exact ⟨rfl, R1, fr_wd f1 (by omega) (by omega)⟩
    · repeat (first | refine rs [] rfl rfl rfl rfl ?_ | refine rk rfl rfl ?_ | refine rgoh [] rfl rfl ?_ | refine rgeta (hi := rfl) (kk := ?_) | refine rialda (hi := rfl) (kk := ?_))
      (first | refine rif rfl rfl (fun c3 => ?_) (fun c3 => ?_) | refine ric rfl rfl (fun c3 => ?_) (fun c3 => ?_))
      · repeat (first | refine rs [] rfl rfl rfl rfl ?_ | refine rk rfl rfl ?_ | refine rgoh [] rfl rfl ?_ | refine rgeta (hi := rfl) (kk := ?_) | refine rialda (hi := rfl) (kk := ?_))
        refine rret rfl rfl ?_
        rw [if_neg (fun a => absurd c3 (Int32.not_le.mpr a.2))]
        exact ⟨rfl, R1, fr_wd f1 (by omega) (by omega)⟩
      · have c : inR i hl.length := ⟨c2, Int32.not_le.mp c3⟩
        rw [if_pos c]
        obtain ⟨k, hk, rfl⟩ := inR_of c (by omega)
        rw [nI_clamp (by omega)]
        repeat (first | refine rs [] rfl rfl rfl rfl ?_ | refine rk rfl rfl ?_ | refine rgoh [] rfl rfl ?_ | refine rgeta (hi := rfl) (kk := ?_) | refine rialda (hi := rfl) (kk := ?_))
        refine rret rfl rfl ?_
        refine ⟨?_, R1, fr_wd f1 (by omega) (by omega)⟩
        rw [w7 k (hl.getD k 0) (by rw [List.getD_eq_getElem?_getD, List.getElem?_eq_getElem hk]; rfl)]
noncomputable def o_sure : Q → Int32 × Q
  | ⟨⟨len, tx⟩, fa, ⟨N, P, G, wa, me⟩, S, dd, ⟨rc, rx, rh⟩, ⟨bc, bw, bs⟩, sd, i0, i1⟩ => (if (hpA G N P S rc rx rh).length = 0 then 0 else fo (fun i s => s &&& (hpA G N P S rc rx rh).getD i 0) (hpA G N P S rc rx rh).length (sh1 (nI P) - 1), ⟨⟨len, tx⟩, fa, ⟨N, P, G, wa, me⟩, S, dd, ⟨rc, rx, rh⟩, ⟨bc, bw, bs⟩, sd, i0, i1⟩)
theorem v_sure (R : cRep ⟨⟨len, tx⟩, fa, ⟨N, P, G, wa, me⟩, S, dd, ⟨rc, rx, rh⟩, ⟨bc, bw, bs⟩, sd, i0, i1⟩ h) : am_O M_Sp_sure [.ref 1] (o_sure ⟨⟨len, tx⟩, fa, ⟨N, P, G, wa, me⟩, S, dd, ⟨rc, rx, rh⟩, ⟨bc, bw, bs⟩, sd, i0, i1⟩) h := by
  obtain ⟨x1, ⟨x2, x3, x4⟩, x5, ⟨x6, x7, waC, meC, x8, x9, x10, x11, x12⟩, ⟨wh, mi, fe, fl, x13, x14, x15, x16⟩, x17, ⟨tm, x18⟩, ⟨fi, ff, x19, x20, x21, x22, x23, x24, x25⟩, ⟨x26, ss, fd, x27, x28, x29, x30⟩, ⟨x31, x32, x33, x34⟩, x35, ⟨fi2, x36, x37, x38, x39, x40⟩⟩ := id R
  have y13 : h.1 14 = .inr (6, [.ref 15, .ref 16, .int fe, .int fl, .int _, .int _, .int _]) := x13
  have y14 : h.1 15 = iar wh := x14
  have y15 : h.1 16 = iar mi := x15
  unfold pTop at x1
  unfold am_O o_sure hpA
  (try unfold am_E); unfold am_T
  dsimp only
  repeat (first | refine rs [] rfl rfl rfl rfl ?_ | refine rk rfl rfl ?_ | refine rgoh [] rfl rfl ?_ | refine rgeta (hi := rfl) (kk := ?_) | refine rialda (hi := rfl) (kk := ?_))
  refine rcvt rfl rfl rfl rfl rfl x27 rfl (v_find R) ?_
  rintro r h1 ⟨rfl, R1, W1, f1⟩
  show am_R M_Sp_sure (7, [.ref 1, _, _, _], [.int _]) _ _
  generalize hop2 (okA G N P S rc rx rh) P = hl at W1 ⊢
  obtain ⟨w1, w2, ss, w3, w4, w5, w6, w7⟩ := id W1
  obtain ⟨x1, ⟨x2, x3, x4⟩, x5, ⟨x6, x7, waC, meC, x8, x9, x10, x11, x12⟩, ⟨wh, mi, fe, fl, x13, x14, x15, x16⟩, x17, ⟨tm, x18⟩, ⟨fi, ff, x19, x20, x21, x22, x23, x24, x25⟩, ⟨x26, ss, fd, x27, x28, x29, x30⟩, ⟨x31, x32, x33, x34⟩, x35, ⟨fi2, x36, x37, x38, x39, x40⟩⟩ := id R1
  have y13 : h1.1 14 = .inr (6, [.ref 15, .ref 16, .int fe, .int fl, .int _, .int _, .int _]) := x13
  have y14 : h1.1 15 = iar wh := x14
  have y15 : h1.1 16 = iar mi := x15
  unfold pTop at x1
  clear x27 x28 x29 x30
  repeat (first | refine rs [] rfl rfl rfl rfl ?_ | refine rk rfl rfl ?_ | refine rgoh [] rfl rfl ?_ | refine rgeta (hi := rfl) (kk := ?_) | refine rialda (hi := rfl) (kk := ?_))
  by_cases e : hl.length = 0
  · rw [if_pos e, e]
    (first | refine rift rfl rfl ?_ | refine riff rfl rfl ?_ | refine rict rfl rfl ?_ | refine ricf rfl rfl ?_)
    repeat (first | refine rs [] rfl rfl rfl rfl ?_ | refine rk rfl rfl ?_ | refine rgoh [] rfl rfl ?_ | refine rgeta (hi := rfl) (kk := ?_) | refine rialda (hi := rfl) (kk := ?_))
    refine rret rfl rfl ?_
    exact ⟨rfl, R1, fr_wd f1 (by omega) (by omega)⟩
  · rw [if_neg e]
    (first | refine rif rfl rfl (fun c1 => ?_) (fun c1 => ?_) | refine ric rfl rfl (fun c1 => ?_) (fun c1 => ?_))
    · exact absurd c1 (nI_ne0 (by omega) (by omega))
    · repeat (first | refine rs [] rfl rfl rfl rfl ?_ | refine rk rfl rfl ?_ | refine rgoh [] rfl rfl ?_ | refine rgeta (hi := rfl) (kk := ?_) | refine rialda (hi := rfl) (kk := ?_))
      (first | refine rcvs rfl rfl rfl rfl rfl (by first | assumption | (simp (disch := omega) only [am_set_ne, am_set_eq]; first | assumption | rfl)) rfl (c_allPersons x8) ?_ | refine rcvn rfl rfl rfl rfl rfl (by first | assumption | (simp (disch := omega) only [am_set_ne, am_set_eq]; first | assumption | rfl)) rfl (c_allPersons x8) ?_)
      repeat (first | refine rs [18] rfl rfl rfl rfl ?_ | refine rk rfl rfl ?_ | refine rgoh [18] rfl rfl ?_ | refine rgeta (hi := rfl) (kk := ?_) | refine rialda (hi := rfl) (kk := ?_))
      refine lup (P := fun i => ∀ x y, x = nI i → y = fo (fun i s => s &&& hl.getD i 0) i (sh1 (nI P) - 1) → am_R M_Sp_sure (18, [.ref 1, .int (nI hl.length), .int y, .int x], []) h1 _) hl.length ?_ ?_ 0 _ nI_0.symm rfl
      · rintro x y rfl rfl
        repeat (first | refine rs [] rfl rfl rfl rfl ?_ | refine rk rfl rfl ?_ | refine rgoh [] rfl rfl ?_ | refine rgeta (hi := rfl) (kk := ?_) | refine rialda (hi := rfl) (kk := ?_))
        (first | refine rif rfl rfl (fun c3 => ?_) (fun c3 => ?_) | refine ric rfl rfl (fun c3 => ?_) (fun c3 => ?_))
        · repeat (first | refine rs [] rfl rfl rfl rfl ?_ | refine rk rfl rfl ?_ | refine rgoh [] rfl rfl ?_ | refine rgeta (hi := rfl) (kk := ?_) | refine rialda (hi := rfl) (kk := ?_))
          refine rret rfl rfl ?_
          exact ⟨rfl, R1, fr_wd f1 (by omega) (by omega)⟩
        · exact absurd (Int32.le_refl _) c3
      · rintro i hi ih x y rfl rfl
        repeat (first | refine rs [] rfl rfl rfl rfl ?_ | refine rk rfl rfl ?_ | refine rgoh [] rfl rfl ?_ | refine rgeta (hi := rfl) (kk := ?_) | refine rialda (hi := rfl) (kk := ?_))
        (first | refine rif rfl rfl (fun c3 => ?_) (fun c3 => ?_) | refine ric rfl rfl (fun c3 => ?_) (fun c3 => ?_))
        · exact absurd hi ((nI_lt_iff (by omega) (by omega)).mp c3)
        · repeat (first | refine rs [18] rfl rfl rfl rfl ?_ | refine rk rfl rfl ?_ | refine rgoh [18] rfl rfl ?_ | refine rgeta (hi := rfl) (kk := ?_) | refine rialda (hi := rfl) (kk := ?_))
          refine ih _ _ (nI_succ i).symm ?_
          rw [fo_succ, w7 i (hl.getD i 0) (by rw [List.getD_eq_getElem?_getD, List.getElem?_eq_getElem hi]; rfl)]
end CHoped
