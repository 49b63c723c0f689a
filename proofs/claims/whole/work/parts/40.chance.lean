/-! the class's call chance -/
section CChance
variable {h h' : am_H} {len N P rc bc : Nat} {fa G sd : Int32} {tx wa me rx rh bw bs : Nat → Int32} {S S' : Sc} {dd dd' : List Sc} {i0 i1 : Im}
def tkA (q s : Int32) : Int32 := if q * s < 100 then q * s else 100
def chA (S : Sc) (x q : Int32) (n : Nat) : Int64 := fo (fun p v => if S.1 p = x then v * (100 - tkA q (shA 0 S p)).toInt64 / 100 else v) n 1000000000
def o_chance (x q : Int32) : Q → Int32 × Q
  | ⟨⟨len, tx⟩, fa, ⟨N, P, G, wa, me⟩, S, dd, ⟨rc, rx, rh⟩, ⟨bc, bw, bs⟩, sd, i0, i1⟩ => (if inR x N then (if q < 0 ∨ 100 < q then -1000000002 else (chA S x q P).toInt32) else -1000000001, ⟨⟨len, tx⟩, fa, ⟨N, P, G, wa, me⟩, S, dd, ⟨rc, rx, rh⟩, ⟨bc, bw, bs⟩, sd, i0, i1⟩)
set_option maxHeartbeats 1000000 in
theorem v_chance {x q : Int32} (R : cRep ⟨⟨len, tx⟩, fa, ⟨N, P, G, wa, me⟩, S, dd, ⟨rc, rx, rh⟩, ⟨bc, bw, bs⟩, sd, i0, i1⟩ h) : am_O M_Sp_chance [.ref 1, .int x, .int q] (o_chance x q ⟨⟨len, tx⟩, fa, ⟨N, P, G, wa, me⟩, S, dd, ⟨rc, rx, rh⟩, ⟨bc, bw, bs⟩, sd, i0, i1⟩) h := by
  have hS : cSc P 14 S h := R.2.2.2.2.1
  obtain ⟨x1, ⟨x2, x3, x4⟩, x5, ⟨x6, x7, waC, meC, x8, x9, x10, x11, x12⟩, ⟨wh, mi, fe, fl, x13, x14, x15, x16⟩, x17, ⟨tm, x18⟩, ⟨fi, ff, x19, x20, x21, x22, x23, x24, x25⟩, ⟨x26, ss, fd, x27, x28, x29, x30⟩, ⟨x31, x32, x33, x34⟩, x35, ⟨fi2, x36, x37, x38, x39, x40⟩⟩ := id R
  have y13 : h.1 14 = .inr (6, [.ref 15, .ref 16, .int fe, .int fl, .int _, .int _, .int _]) := x13
  have y14 : h.1 15 = iar wh := x14
  have y15 : h.1 16 = iar mi := x15
  unfold pTop at x1
  unfold am_O o_chance
  (try unfold am_E); unfold am_T
  dsimp only
  repeat (first | refine rs [] rfl rfl rfl rfl ?_ | refine rk rfl rfl ?_ | refine rgoh [] rfl rfl ?_ | refine rgeta (hi := rfl) (kk := ?_) | refine rialda (hi := rfl) (kk := ?_))
  (first | refine rcvs rfl rfl rfl rfl rfl (by first | assumption | (simp (disch := omega) only [am_set_ne, am_set_eq]; first | assumption | rfl)) rfl (c_hasStation x8) ?_ | refine rcvn rfl rfl rfl rfl rfl (by first | assumption | (simp (disch := omega) only [am_set_ne, am_set_eq]; first | assumption | rfl)) rfl (c_hasStation x8) ?_)
  by_cases d : inR x N
  · rw [if_pos d, if_pos d]
    (first | refine rift rfl rfl ?_ | refine riff rfl rfl ?_ | refine rict rfl rfl ?_ | refine ricf rfl rfl ?_)
    repeat (first | refine rs [] rfl rfl rfl rfl ?_ | refine rk rfl rfl ?_ | refine rgoh [] rfl rfl ?_ | refine rgeta (hi := rfl) (kk := ?_) | refine rialda (hi := rfl) (kk := ?_))
    (first | refine rif rfl rfl (fun c1 => ?_) (fun c1 => ?_) | refine ric rfl rfl (fun c1 => ?_) (fun c1 => ?_))
    · repeat (first | refine rs [] rfl rfl rfl rfl ?_ | refine rk rfl rfl ?_ | refine rgoh [] rfl rfl ?_ | refine rgeta (hi := rfl) (kk := ?_) | refine rialda (hi := rfl) (kk := ?_))
      refine rret rfl rfl ?_
      rw [if_pos (Or.inl c1)]
      exact ⟨rfl, R, fr_rf⟩
    · repeat (first | refine rs [] rfl rfl rfl rfl ?_ | refine rk rfl rfl ?_ | refine rgoh [] rfl rfl ?_ | refine rgeta (hi := rfl) (kk := ?_) | refine rialda (hi := rfl) (kk := ?_))
      (first | refine rif rfl rfl (fun c2 => ?_) (fun c2 => ?_) | refine ric rfl rfl (fun c2 => ?_) (fun c2 => ?_))
      · rw [if_neg (by rintro (a | a); exact c1 a; exact absurd c2 (Int32.not_le.mpr a))]
        repeat (first | refine rs [18] rfl rfl rfl rfl ?_ | refine rk rfl rfl ?_ | refine rgoh [18] rfl rfl ?_ | refine rgeta (hi := rfl) (kk := ?_) | refine rialda (hi := rfl) (kk := ?_))
        refine lup (P := fun i => ∀ y z v6, y = nI i → z = chA S x q i → am_R M_Sp_chance (18, [.ref 1, .int x, .int q, .long z, .null, .int y, v6], []) h _) P ?_ ?_ 0 _ _ nI_0.symm rfl
        · rintro y z v6 rfl rfl
          generalize chA S x q P = ch
          repeat (first | refine rs [] rfl rfl rfl rfl ?_ | refine rk rfl rfl ?_ | refine rgoh [] rfl rfl ?_ | refine rgeta (hi := rfl) (kk := ?_) | refine rialda (hi := rfl) (kk := ?_))
          (first | refine rif rfl rfl (fun c3 => ?_) (fun c3 => ?_) | refine ric rfl rfl (fun c3 => ?_) (fun c3 => ?_))
          · repeat (first | refine rs [] rfl rfl rfl rfl ?_ | refine rk rfl rfl ?_ | refine rgoh [] rfl rfl ?_ | refine rgeta (hi := rfl) (kk := ?_) | refine rialda (hi := rfl) (kk := ?_))
            refine rret rfl rfl ?_
            exact ⟨rfl, R, fr_rf⟩
          · exact absurd (Int32.le_refl _) c3
        · rintro i hi ih y z v6 rfl rfl
          have es : chA S x q (i + 1) = if S.1 i = x then chA S x q i * (100 - tkA q (shA 0 S i)).toInt64 / 100 else chA S x q i := rfl
          generalize chA S x q (i + 1) = cn at es ih
          generalize chA S x q i = ch at es ⊢
          repeat (first | refine rs [] rfl rfl rfl rfl ?_ | refine rk rfl rfl ?_ | refine rgoh [] rfl rfl ?_ | refine rgeta (hi := rfl) (kk := ?_) | refine rialda (hi := rfl) (kk := ?_))
          (first | refine rif rfl rfl (fun c3 => ?_) (fun c3 => ?_) | refine ric rfl rfl (fun c3 => ?_) (fun c3 => ?_))
          · exact absurd hi ((nI_lt_iff (by omega) (by omega)).mp c3)
          · repeat (first | refine rs [] rfl rfl rfl rfl ?_ | refine rk rfl rfl ?_ | refine rgoh [] rfl rfl ?_ | refine rgeta (hi := rfl) (kk := ?_) | refine rialda (hi := rfl) (kk := ?_))
            rw [(x16 i hi).1]
            (first | refine rif rfl rfl (fun c4 => ?_) (fun c4 => ?_) | refine ric rfl rfl (fun c4 => ?_) (fun c4 => ?_))
            · rw [if_pos c4] at es
              repeat (first | refine rs [18] rfl rfl rfl rfl ?_ | refine rk rfl rfl ?_ | refine rgoh [18] rfl rfl ?_ | refine rgeta (hi := rfl) (kk := ?_) | refine rialda (hi := rfl) (kk := ?_))
              (first | refine rcvs rfl rfl rfl rfl rfl (by first | assumption | (simp (disch := omega) only [am_set_ne, am_set_eq]; first | assumption | rfl)) rfl (a_shows rfl hi x7 hS) ?_ | refine rcvn rfl rfl rfl rfl rfl (by first | assumption | (simp (disch := omega) only [am_set_ne, am_set_eq]; first | assumption | rfl)) rfl (a_shows rfl hi x7 hS) ?_)
              generalize shA 0 S i = sw at es ⊢
              repeat (first | refine rs [18] rfl rfl rfl rfl ?_ | refine rk rfl rfl ?_ | refine rgoh [18] rfl rfl ?_ | refine rgeta (hi := rfl) (kk := ?_) | refine rialda (hi := rfl) (kk := ?_))
              refine ih _ _ _ (nI_succ i).symm ?_
              rw [es]
              rfl
            · rw [if_neg c4] at es
              repeat (first | refine rs [18] rfl rfl rfl rfl ?_ | refine rk rfl rfl ?_ | refine rgoh [18] rfl rfl ?_ | refine rgeta (hi := rfl) (kk := ?_) | refine rialda (hi := rfl) (kk := ?_))
              exact ih _ _ _ (nI_succ i).symm es.symm
      · repeat (first | refine rs [] rfl rfl rfl rfl ?_ | refine rk rfl rfl ?_ | refine rgoh [] rfl rfl ?_ | refine rgeta (hi := rfl) (kk := ?_) | refine rialda (hi := rfl) (kk := ?_))
        refine rret rfl rfl ?_
        rw [if_pos (Or.inr (Int32.not_le.mp c2))]
        exact ⟨rfl, R, fr_rf⟩
  · rw [if_neg d, if_neg d]
    (first | refine rift rfl rfl ?_ | refine riff rfl rfl ?_ | refine rict rfl rfl ?_ | refine ricf rfl rfl ?_)
    repeat (first | refine rs [] rfl rfl rfl rfl ?_ | refine rk rfl rfl ?_ | refine rgoh [] rfl rfl ?_ | refine rgeta (hi := rfl) (kk := ?_) | refine rialda (hi := rfl) (kk := ?_))
    refine rret rfl rfl ?_
    exact ⟨rfl, R, fr_rf⟩
end CChance
