/-! the class's calls: aunts, chance -/
section CAunts
variable {h h' : am_H} {len N P rc bc : Nat} {fa G sd : Int32} {tx wa me rx rh bw bs : Nat → Int32} {S S' : Sc} {dd dd' : List Sc} {i0 i1 : Im}
def enA (N P : Nat) (G : Int32) (wa me : Nat → Int32) (S : Sc) (k : Nat) (aunt : Int32) : Int32 := (rnA N P G wa (upd me k aunt) 0 S).1 k
def auA (N P : Nat) (G : Int32) (wa me : Nat → Int32) (S : Sc) (k : Nat) (x : Int32) (n : Nat) : Int32 := fo (fun a s => if ¬ a = k ∧ enA N P G wa me S k (nI a) = x then s ||| sh1 (nI a) else s) n 0
def o_aunts (p x : Int32) : Q → Int32 × Q
  | ⟨⟨len, tx⟩, fa, ⟨N, P, G, wa, me⟩, S, dd, ⟨rc, rx, rh⟩, ⟨bc, bw, bs⟩, sd, i0, i1⟩ => (if inR p P ∧ inR x N then (if enA N P G wa me S p.toNatClampNeg (-1) = x then auA N P G wa me S p.toNatClampNeg x P ||| 256 else auA N P G wa me S p.toNatClampNeg x P) else -1000000001, ⟨⟨len, tx⟩, fa, ⟨N, P, G, wa, me⟩, S, dd, ⟨rc, rx, rh⟩, ⟨bc, bw, bs⟩, sd, i0, i1⟩)
set_option maxHeartbeats 1000000 in
theorem v_aunts {p x : Int32} (R : cRep ⟨⟨len, tx⟩, fa, ⟨N, P, G, wa, me⟩, S, dd, ⟨rc, rx, rh⟩, ⟨bc, bw, bs⟩, sd, i0, i1⟩ h) : am_O M_Sp_aunts [.ref 1, .int p, .int x] (o_aunts p x ⟨⟨len, tx⟩, fa, ⟨N, P, G, wa, me⟩, S, dd, ⟨rc, rx, rh⟩, ⟨bc, bw, bs⟩, sd, i0, i1⟩) h := by
  obtain ⟨x1, ⟨x2, x3, x4⟩, x5, ⟨x6, x7, waC, meC, x8, x9, x10, x11, x12⟩, ⟨wh, mi, fe, fl, x13, x14, x15, x16⟩, x17, ⟨tm, x18⟩, ⟨fi, ff, x19, x20, x21, x22, x23, x24, x25⟩, ⟨x26, ss, fd, x27, x28, x29, x30⟩, ⟨x31, x32, x33, x34⟩, x35, ⟨fi2, x36, x37, x38, x39, x40⟩⟩ := id R
  have y13 : h.1 14 = .inr (6, [.ref 15, .ref 16, .int fe, .int fl, .int _, .int _, .int _]) := x13
  have y14 : h.1 15 = iar wh := x14
  have y15 : h.1 16 = iar mi := x15
  unfold pTop at x1
  unfold am_O o_aunts
  (try unfold am_E); unfold am_T
  dsimp only
  repeat (first | refine rs [] rfl rfl rfl rfl ?_ | refine rk rfl rfl ?_ | refine rgoh [] rfl rfl ?_ | refine rgeta (hi := rfl) (kk := ?_) | refine rialda (hi := rfl) (kk := ?_))
  (first | refine rcvs rfl rfl rfl rfl rfl (by first | assumption | (simp (disch := omega) only [am_set_ne, am_set_eq]; first | assumption | rfl)) rfl (c_hasPerson x7 x8) ?_ | refine rcvn rfl rfl rfl rfl rfl (by first | assumption | (simp (disch := omega) only [am_set_ne, am_set_eq]; first | assumption | rfl)) rfl (c_hasPerson x7 x8) ?_)
  by_cases c : inR p P
  · rw [if_pos c]
    (first | refine rift rfl rfl ?_ | refine riff rfl rfl ?_ | refine rict rfl rfl ?_ | refine ricf rfl rfl ?_)
    repeat (first | refine rs [] rfl rfl rfl rfl ?_ | refine rk rfl rfl ?_ | refine rgoh [] rfl rfl ?_ | refine rgeta (hi := rfl) (kk := ?_) | refine rialda (hi := rfl) (kk := ?_))
    (first | refine rcvs rfl rfl rfl rfl rfl (by first | assumption | (simp (disch := omega) only [am_set_ne, am_set_eq]; first | assumption | rfl)) rfl (c_hasStation x8) ?_ | refine rcvn rfl rfl rfl rfl rfl (by first | assumption | (simp (disch := omega) only [am_set_ne, am_set_eq]; first | assumption | rfl)) rfl (c_hasStation x8) ?_)
    by_cases d : inR x N
    · rw [if_pos d, if_pos ⟨c, d⟩]
      (first | refine rift rfl rfl ?_ | refine riff rfl rfl ?_ | refine rict rfl rfl ?_ | refine ricf rfl rfl ?_)
      obtain ⟨k, hk, rfl⟩ := inR_of c (by omega)
      rw [nI_clamp (by omega)]
      repeat (first | refine rs [16] rfl rfl rfl rfl ?_ | refine rk rfl rfl ?_ | refine rgoh [16] rfl rfl ?_ | refine rgeta (hi := rfl) (kk := ?_) | refine rialda (hi := rfl) (kk := ?_))
      refine lup (P := fun i => ∀ y z h1, y = nI i → z = auA N P G wa me S k x i → cRep ⟨⟨len, tx⟩, fa, ⟨N, P, G, wa, me⟩, S, dd, ⟨rc, rx, rh⟩, ⟨bc, bw, bs⟩, sd, i0, i1⟩ h1 → am_fr 17 21 h h1 → am_R M_Sp_aunts (16, [.ref 1, .int (nI k), .int x, .int z, .int y], []) h1 _) P ?_ ?_ 0 _ h nI_0.symm rfl R fr_rf
      · rintro y z h1 rfl rfl R1 f1
        obtain ⟨x1, ⟨x2, x3, x4⟩, x5, ⟨x6, x7, waC, meC, x8, x9, x10, x11, x12⟩, ⟨wh, mi, fe, fl, x13, x14, x15, x16⟩, x17, ⟨tm, x18⟩, ⟨fi, ff, x19, x20, x21, x22, x23, x24, x25⟩, ⟨x26, ss, fd, x27, x28, x29, x30⟩, ⟨x31, x32, x33, x34⟩, x35, ⟨fi2, x36, x37, x38, x39, x40⟩⟩ := id R1
        have y13 : h1.1 14 = .inr (6, [.ref 15, .ref 16, .int fe, .int fl, .int _, .int _, .int _]) := x13
        have y14 : h1.1 15 = iar wh := x14
        have y15 : h1.1 16 = iar mi := x15
        unfold pTop at x1
        repeat (first | refine rs [] rfl rfl rfl rfl ?_ | refine rk rfl rfl ?_ | refine rgoh [] rfl rfl ?_ | refine rgeta (hi := rfl) (kk := ?_) | refine rialda (hi := rfl) (kk := ?_))
        (first | refine rif rfl rfl (fun c3 => ?_) (fun c3 => ?_) | refine ric rfl rfl (fun c3 => ?_) (fun c3 => ?_))
        · repeat (first | refine rs [] rfl rfl rfl rfl ?_ | refine rk rfl rfl ?_ | refine rgoh [] rfl rfl ?_ | refine rgeta (hi := rfl) (kk := ?_) | refine rialda (hi := rfl) (kk := ?_))
          refine rcvt rfl rfl rfl rfl rfl x1 rfl (v_ends (aunt := -1) rfl hk R1) ?_
          rintro r h2 ⟨rfl, R2, f2⟩
          show am_R M_Sp_aunts (42, [.ref 1, .int (nI k), .int x, .int (auA N P G wa me S k x P), .int (nI P)], [.int (enA N P G wa me S k (-1))]) _ _
          generalize enA N P G wa me S k (-1) = en
          generalize auA N P G wa me S k x P = au
          repeat (first | refine rs [] rfl rfl rfl rfl ?_ | refine rk rfl rfl ?_ | refine rgoh [] rfl rfl ?_ | refine rgeta (hi := rfl) (kk := ?_) | refine rialda (hi := rfl) (kk := ?_))
          (first | refine rif rfl rfl (fun c4 => ?_) (fun c4 => ?_) | refine ric rfl rfl (fun c4 => ?_) (fun c4 => ?_))
          · repeat (first | refine rs [] rfl rfl rfl rfl ?_ | refine rk rfl rfl ?_ | refine rgoh [] rfl rfl ?_ | refine rgeta (hi := rfl) (kk := ?_) | refine rialda (hi := rfl) (kk := ?_))
            refine rret rfl rfl ?_
            rw [if_pos c4]
            exact ⟨rfl, R2, fr_wd (fr_tr (lo := 17) (hi := 21) f1 f2 (by omega) (by omega)) (by omega) (by omega)⟩
          · repeat (first | refine rs [] rfl rfl rfl rfl ?_ | refine rk rfl rfl ?_ | refine rgoh [] rfl rfl ?_ | refine rgeta (hi := rfl) (kk := ?_) | refine rialda (hi := rfl) (kk := ?_))
            refine rret rfl rfl ?_
            rw [if_neg c4]
            exact ⟨rfl, R2, fr_wd (fr_tr (lo := 17) (hi := 21) f1 f2 (by omega) (by omega)) (by omega) (by omega)⟩
        · exact absurd (Int32.le_refl _) c3
      · rintro i hi ih y z h1 rfl rfl R1 f1
        have es : auA N P G wa me S k x (i + 1) = if ¬ i = k ∧ enA N P G wa me S k (nI i) = x then auA N P G wa me S k x i ||| sh1 (nI i) else auA N P G wa me S k x i := rfl
        obtain ⟨x1, ⟨x2, x3, x4⟩, x5, ⟨x6, x7, waC, meC, x8, x9, x10, x11, x12⟩, ⟨wh, mi, fe, fl, x13, x14, x15, x16⟩, x17, ⟨tm, x18⟩, ⟨fi, ff, x19, x20, x21, x22, x23, x24, x25⟩, ⟨x26, ss, fd, x27, x28, x29, x30⟩, ⟨x31, x32, x33, x34⟩, x35, ⟨fi2, x36, x37, x38, x39, x40⟩⟩ := id R1
        have y13 : h1.1 14 = .inr (6, [.ref 15, .ref 16, .int fe, .int fl, .int _, .int _, .int _]) := x13
        have y14 : h1.1 15 = iar wh := x14
        have y15 : h1.1 16 = iar mi := x15
        unfold pTop at x1
        repeat (first | refine rs [] rfl rfl rfl rfl ?_ | refine rk rfl rfl ?_ | refine rgoh [] rfl rfl ?_ | refine rgeta (hi := rfl) (kk := ?_) | refine rialda (hi := rfl) (kk := ?_))
        (first | refine rif rfl rfl (fun c3 => ?_) (fun c3 => ?_) | refine ric rfl rfl (fun c3 => ?_) (fun c3 => ?_))
        · exact absurd hi ((nI_lt_iff (by omega) (by omega)).mp c3)
        · repeat (first | refine rs [] rfl rfl rfl rfl ?_ | refine rk rfl rfl ?_ | refine rgoh [] rfl rfl ?_ | refine rgeta (hi := rfl) (kk := ?_) | refine rialda (hi := rfl) (kk := ?_))
          (first | refine rif rfl rfl (fun c4 => ?_) (fun c4 => ?_) | refine ric rfl rfl (fun c4 => ?_) (fun c4 => ?_))
          · have ek : i = k := by
              have t := congrArg Int32.toNatClampNeg c4
              rw [nI_clamp (by omega), nI_clamp (by omega)] at t
              exact t
            repeat (first | refine rs [16] rfl rfl rfl rfl ?_ | refine rk rfl rfl ?_ | refine rgoh [16] rfl rfl ?_ | refine rgeta (hi := rfl) (kk := ?_) | refine rialda (hi := rfl) (kk := ?_))
            refine ih _ _ h1 (nI_succ i).symm ?_ R1 f1
            rw [es, if_neg (fun a => a.1 ek)]
          · have ek : ¬ i = k := fun a => c4 (by rw [a])
            repeat (first | refine rs [16] rfl rfl rfl rfl ?_ | refine rk rfl rfl ?_ | refine rgoh [16] rfl rfl ?_ | refine rgeta (hi := rfl) (kk := ?_) | refine rialda (hi := rfl) (kk := ?_))
            refine rcvt rfl rfl rfl rfl rfl x1 rfl (v_ends (aunt := nI i) rfl hk R1) ?_
            rintro r h2 ⟨rfl, R2, f2⟩
            show am_R M_Sp_aunts (28, [.ref 1, .int (nI k), .int x, .int (auA N P G wa me S k x i), .int (nI i)], [.int (enA N P G wa me S k (nI i))]) _ _
            repeat (first | refine rs [16] rfl rfl rfl rfl ?_ | refine rk rfl rfl ?_ | refine rgoh [16] rfl rfl ?_ | refine rgeta (hi := rfl) (kk := ?_) | refine rialda (hi := rfl) (kk := ?_))
            (first | refine rif rfl rfl (fun c5 => ?_) (fun c5 => ?_) | refine ric rfl rfl (fun c5 => ?_) (fun c5 => ?_))
            · repeat (first | refine rs [16] rfl rfl rfl rfl ?_ | refine rk rfl rfl ?_ | refine rgoh [16] rfl rfl ?_ | refine rgeta (hi := rfl) (kk := ?_) | refine rialda (hi := rfl) (kk := ?_))
              refine ih _ _ h2 (nI_succ i).symm ?_ R2 (fr_tr f1 f2 (by omega) (by omega))
              rw [es, if_pos ⟨ek, c5⟩]
              rfl
            · repeat (first | refine rs [16] rfl rfl rfl rfl ?_ | refine rk rfl rfl ?_ | refine rgoh [16] rfl rfl ?_ | refine rgeta (hi := rfl) (kk := ?_) | refine rialda (hi := rfl) (kk := ?_))
              refine ih _ _ h2 (nI_succ i).symm ?_ R2 (fr_tr f1 f2 (by omega) (by omega))
              rw [es, if_neg (fun a => c5 a.2)]
    · rw [if_neg d, if_neg (fun a => d a.2)]
      (first | refine rift rfl rfl ?_ | refine riff rfl rfl ?_ | refine rict rfl rfl ?_ | refine ricf rfl rfl ?_)
      repeat (first | refine rs [] rfl rfl rfl rfl ?_ | refine rk rfl rfl ?_ | refine rgoh [] rfl rfl ?_ | refine rgeta (hi := rfl) (kk := ?_) | refine rialda (hi := rfl) (kk := ?_))
      refine rret rfl rfl ?_
      exact ⟨rfl, R, fr_rf⟩
  · rw [if_neg c, if_neg (fun a => c a.1)]
    (first | refine rift rfl rfl ?_ | refine riff rfl rfl ?_ | refine rict rfl rfl ?_ | refine ricf rfl rfl ?_)
    repeat (first | refine rs [] rfl rfl rfl rfl ?_ | refine rk rfl rfl ?_ | refine rgoh [] rfl rfl ?_ | refine rgeta (hi := rfl) (kk := ?_) | refine rialda (hi := rfl) (kk := ?_))
    refine rret rfl rfl ?_
    exact ⟨rfl, R, fr_rf⟩
end CAunts
