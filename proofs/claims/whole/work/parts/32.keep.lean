/-! the class's calls: keep, goBack -/
section CKeep
variable {h h' : am_H} {len N P rc bc : Nat} {fa G sd : Int32} {tx wa me rx rh bw bs : Nat → Int32} {S S' : Sc} {dd dd' : List Sc} {i0 i1 i0' i1' : Im}
theorem v_keepA {x s kk : Int32} {k a : Nat} {gI : Nat → Option Nat} (hx : x = nI k) (hk : k < 2) (ha : a = 122 + 4 * k) (hf : gI k = some a) (h121 : h.1 121 = .inl (.object "SpiteLine$Image", 2, .inr (.inr (.inr (.inr gI))))) (hI : h.1 a = .inr (3, [.ref (a + 1), .int s, .int kk])) (hr : cRaw (a + 1) h) (R : cRep ⟨⟨len, tx⟩, fa, ⟨N, P, G, wa, me⟩, S, dd, ⟨rc, rx, rh⟩, ⟨bc, bw, bs⟩, sd, i0, i1⟩ h) : am_R M_Sp_keep (7, [.ref 1, .int x], []) h (fun r h' => r = some (.int 1) ∧ ∃ hA fi' y', am_fr a (a + 4) h hA ∧ cIm P a (some (S, sd)) hA ∧ hA.1 21 = .inr (1, [.ref 22, .int fi', .int y']) ∧ h' = am_set hA 21 (.inr (1, [.ref 22, .int fi', .int 0]))) := by
  have hS : cSc P 14 S h := R.2.2.2.2.1
  obtain ⟨x1, ⟨x2, x3, x4⟩, x5, ⟨x6, x7, waC, meC, x8, x9, x10, x11, x12⟩, ⟨wh, mi, fe, fl, x13, x14, x15, x16⟩, x17, ⟨tm, x18⟩, ⟨fi, ff, x19, x20, x21, x22, x23, x24, x25⟩, ⟨x26, ss, fd, x27, x28, x29, x30⟩, ⟨x31, x32, x33, x34⟩, x35, ⟨fi2, x36, x37, x38, x39, x40⟩⟩ := id R
  have y13 : h.1 14 = .inr (6, [.ref 15, .ref 16, .int fe, .int fl, .int _, .int _, .int _]) := x13
  have y14 : h.1 15 = iar wh := x14
  have y15 : h.1 16 = iar mi := x15
  unfold pTop at x1
  repeat (first | refine rs [] rfl rfl rfl rfl ?_ | refine rk rfl rfl ?_ | refine rgoh [] rfl rfl ?_ | refine rgeta (hi := rfl) (kk := ?_) | refine rialda (hi := rfl) (kk := ?_))
  refine raald rfl h121 (Or.inr rfl) k hk (by omega) hx hf ?_
  repeat (first | refine rs [] rfl rfl rfl rfl ?_ | refine rk rfl rfl ?_ | refine rgoh [] rfl rfl ?_ | refine rgeta (hi := rfl) (kk := ?_) | refine rialda (hi := rfl) (kk := ?_))
  obtain ⟨u1, u2, u3, u4, u5, u6, u7, hx0, -⟩ := id hr
  refine rcvt rfl rfl rfl rfl rfl hx0 rfl (c_takeFrom hr hS x7 (by omega) (by omega) (by omega)) ?_
  rintro r h1 ⟨rfl, g1, g2⟩
  show am_R M_Sp_keep (15, [.ref 1, .int x], []) _ _
  have e1 : h1.1 1 = .inr (9, [.ref 2, .ref 4, .ref 11, .ref 14, .ref 17, .ref 20, .ref 21, .ref 113, .ref 117, .ref 120, .ref 121, .int fa]) := by rw [g2.2 _ (by omega)]; exact x1
  have e120 : h1.1 120 = .inr (2, [.int sd]) := by rw [g2.2 _ (by omega)]; exact x35
  have e121 : h1.1 121 = .inl (.object "SpiteLine$Image", 2, .inr (.inr (.inr (.inr gI)))) := by rw [g2.2 _ (by omega)]; exact h121
  have eI : h1.1 a = .inr (3, [.ref (a + 1), .int s, .int kk]) := by rw [g2.2 _ (by omega)]; exact hI
  have e21 : h1.1 21 = .inr (1, [.ref 22, .int (nI fi), .int (nI dd.length)]) := by rw [g2.2 _ (by omega)]; exact x21
  repeat (first | refine rs [] rfl rfl rfl rfl ?_ | refine rk rfl rfl ?_ | refine rgoh [] rfl rfl ?_ | refine rgeta (hi := rfl) (kk := ?_) | refine rialda (hi := rfl) (kk := ?_))
  refine raald rfl e121 (Or.inr rfl) k hk (by omega) hx hf ?_
  repeat (first | refine rs [] rfl rfl rfl rfl ?_ | refine rk rfl rfl ?_ | refine rgoh [] rfl rfl ?_ | refine rgeta (hi := rfl) (kk := ?_) | refine rialda (hi := rfl) (kk := ?_))
  refine rputa (hi := rfl) (hc := eI) (kk := ?_)
  repeat (first | refine rs [] rfl rfl rfl rfl ?_ | refine rk rfl rfl ?_ | refine rgoh [] rfl rfl ?_ | refine rgeta (hi := rfl) (kk := ?_) | refine rialda (hi := rfl) (kk := ?_))
  refine raald rfl (by rw [am_set_ne (by omega)]; exact e121) (Or.inr rfl) k hk (by omega) hx hf ?_
  repeat (first | refine rs [] rfl rfl rfl rfl ?_ | refine rk rfl rfl ?_ | refine rgoh [] rfl rfl ?_ | refine rgeta (hi := rfl) (kk := ?_) | refine rialda (hi := rfl) (kk := ?_))
  refine rputa (hi := rfl) (hc := am_set_eq) (kk := ?_)
  repeat (first | refine rs [] rfl rfl rfl rfl ?_ | refine rk rfl rfl ?_ | refine rgoh [] rfl rfl ?_ | refine rgeta (hi := rfl) (kk := ?_) | refine rialda (hi := rfl) (kk := ?_))
  refine rputa (hi := rfl) (kk := ?_)
  repeat (first | refine rs [] rfl rfl rfl rfl ?_ | refine rk rfl rfl ?_ | refine rgoh [] rfl rfl ?_ | refine rgeta (hi := rfl) (kk := ?_) | refine rialda (hi := rfl) (kk := ?_))
  refine rret rfl rfl ?_
  have fA : am_fr a (a + 4) h (am_set (am_set h1 a (.inr (3, [.ref (a + 1), .int sd, .int kk]))) a (.inr (3, [.ref (a + 1), .int sd, .int 1]))) := fr_set (fr_set (fr_wd g2 (by omega) (by omega)) (by omega) (by omega)) (by omega) (by omega)
  have fB : am_fr a (a + 1) h1 (am_set (am_set h1 a (.inr (3, [.ref (a + 1), .int sd, .int kk]))) a (.inr (3, [.ref (a + 1), .int sd, .int 1]))) := fr_set (fr_set fr_rf (by omega) (by omega)) (by omega) (by omega)
  refine ⟨rfl, _, nI fi, nI dd.length, fA, ⟨sd, 1, am_set_eq, g1.raw.fr fB (by omega), rfl, rfl, g1.fr fB (by omega)⟩, ?_, rfl⟩
  rw [am_set_ne (by omega), am_set_ne (by omega)]
  exact e21
def o_keep (i : Int32) : Q → Int32 × Q
  | ⟨⟨len, tx⟩, fa, ⟨N, P, G, wa, me⟩, S, dd, ⟨rc, rx, rh⟩, ⟨bc, bw, bs⟩, sd, i0, i1⟩ => if i = 0 then (1, ⟨⟨len, tx⟩, fa, ⟨N, P, G, wa, me⟩, S, [], ⟨rc, rx, rh⟩, ⟨bc, bw, bs⟩, sd, some (S, sd), i1⟩) else if i = 1 then (1, ⟨⟨len, tx⟩, fa, ⟨N, P, G, wa, me⟩, S, [], ⟨rc, rx, rh⟩, ⟨bc, bw, bs⟩, sd, i0, some (S, sd)⟩) else (-1000000001, ⟨⟨len, tx⟩, fa, ⟨N, P, G, wa, me⟩, S, dd, ⟨rc, rx, rh⟩, ⟨bc, bw, bs⟩, sd, i0, i1⟩)
theorem v_keep {x : Int32} (R : cRep ⟨⟨len, tx⟩, fa, ⟨N, P, G, wa, me⟩, S, dd, ⟨rc, rx, rh⟩, ⟨bc, bw, bs⟩, sd, i0, i1⟩ h) : am_O M_Sp_keep [.ref 1, .int x] (o_keep x ⟨⟨len, tx⟩, fa, ⟨N, P, G, wa, me⟩, S, dd, ⟨rc, rx, rh⟩, ⟨bc, bw, bs⟩, sd, i0, i1⟩) h := by
  obtain ⟨gI, z1, z2, z3, z4, z5⟩ := R.2.2.2.2.2.2.2.2.2.2.2
  unfold am_O o_keep
  (try unfold am_E); unfold am_T
  dsimp only
  by_cases c0 : x = 0
  · rw [if_pos c0]
    subst c0
    repeat (first | refine rs [7] rfl rfl rfl rfl ?_ | refine rk rfl rfl ?_ | refine rgoh [7] rfl rfl ?_ | refine rgeta (hi := rfl) (kk := ?_) | refine rialda (hi := rfl) (kk := ?_))
    (first | refine rift rfl rfl ?_ | refine riff rfl rfl ?_ | refine rict rfl rfl ?_ | refine ricf rfl rfl ?_)
    repeat (first | refine rs [7] rfl rfl rfl rfl ?_ | refine rk rfl rfl ?_ | refine rgoh [7] rfl rfl ?_ | refine rgeta (hi := rfl) (kk := ?_) | refine rialda (hi := rfl) (kk := ?_))
    (first | refine rift rfl rfl ?_ | refine riff rfl rfl ?_ | refine rict rfl rfl ?_ | refine ricf rfl rfl ?_)
    obtain ⟨s, kk, q1, q2, q3⟩ := id z4
    refine am_R.imp (v_keepA (k := 0) (a := 122) (by decide) (by omega) rfl z2 z1 q1 q2 R) ?_
    rintro r h1 ⟨rfl, hA, fi', y', f1, I1, e1, rfl⟩
    have RA := cRep_ims (i0' := some (S, sd)) (i1' := i1) R (fr_wd f1 (by omega) (by omega)) ⟨gI, by rw [f1.2 _ (by omega)]; exact z1, z2, z3, I1, z5.fr f1 (by omega)⟩
    exact ⟨rfl, cRep_d0 RA e1, fr_set (fr_wd f1 (by omega) (by omega)) (by omega) (by omega)⟩
  · rw [if_neg c0]
    by_cases c1 : x = 1
    · rw [if_pos c1]
      subst c1
      repeat (first | refine rs [7] rfl rfl rfl rfl ?_ | refine rk rfl rfl ?_ | refine rgoh [7] rfl rfl ?_ | refine rgeta (hi := rfl) (kk := ?_) | refine rialda (hi := rfl) (kk := ?_))
      (first | refine rift rfl rfl ?_ | refine riff rfl rfl ?_ | refine rict rfl rfl ?_ | refine ricf rfl rfl ?_)
      repeat (first | refine rs [7] rfl rfl rfl rfl ?_ | refine rk rfl rfl ?_ | refine rgoh [7] rfl rfl ?_ | refine rgeta (hi := rfl) (kk := ?_) | refine rialda (hi := rfl) (kk := ?_))
      (first | refine rift rfl rfl ?_ | refine riff rfl rfl ?_ | refine rict rfl rfl ?_ | refine ricf rfl rfl ?_)
      obtain ⟨s, kk, q1, q2, q3⟩ := id z5
      refine am_R.imp (v_keepA (k := 1) (a := 126) (by decide) (by omega) rfl z3 z1 q1 q2 R) ?_
      rintro r h1 ⟨rfl, hA, fi', y', f1, I1, e1, rfl⟩
      have RA := cRep_ims (i0' := i0) (i1' := some (S, sd)) R (fr_wd f1 (by omega) (by omega)) ⟨gI, by rw [f1.2 _ (by omega)]; exact z1, z2, z3, z4.fr f1 (by omega), I1⟩
      exact ⟨rfl, cRep_d0 RA e1, fr_set (fr_wd f1 (by omega) (by omega)) (by omega) (by omega)⟩
    · rw [if_neg c1]
      repeat (first | refine rs [7] rfl rfl rfl rfl ?_ | refine rk rfl rfl ?_ | refine rgoh [7] rfl rfl ?_ | refine rgeta (hi := rfl) (kk := ?_) | refine rialda (hi := rfl) (kk := ?_))
      (first | refine rif rfl rfl (fun d1 => ?_) (fun d1 => ?_) | refine ric rfl rfl (fun d1 => ?_) (fun d1 => ?_))
      · repeat (first | refine rs [7] rfl rfl rfl rfl ?_ | refine rk rfl rfl ?_ | refine rgoh [7] rfl rfl ?_ | refine rgeta (hi := rfl) (kk := ?_) | refine rialda (hi := rfl) (kk := ?_))
        refine rret rfl rfl ?_
        exact ⟨rfl, R, fr_rf⟩
      · repeat (first | refine rs [7] rfl rfl rfl rfl ?_ | refine rk rfl rfl ?_ | refine rgoh [7] rfl rfl ?_ | refine rgeta (hi := rfl) (kk := ?_) | refine rialda (hi := rfl) (kk := ?_))
        (first | refine rif rfl rfl (fun d2 => ?_) (fun d2 => ?_) | refine ric rfl rfl (fun d2 => ?_) (fun d2 => ?_))
        · exfalso
          obtain ⟨k, hk, rfl⟩ := inR_of (n := 2) ⟨d1, by rw [show nI 2 = (2 : Int32) by decide]; exact d2⟩ (by omega)
          match k, hk with
          | 0, _ => exact c0 (by decide)
          | 1, _ => exact c1 (by decide)
        · repeat (first | refine rs [7] rfl rfl rfl rfl ?_ | refine rk rfl rfl ?_ | refine rgoh [7] rfl rfl ?_ | refine rgeta (hi := rfl) (kk := ?_) | refine rialda (hi := rfl) (kk := ?_))
          refine rret rfl rfl ?_
          exact ⟨rfl, R, fr_rf⟩
/-- going back to an image -/
def gbA (o : Im) : Q → Int32 × Q
  | ⟨⟨len, tx⟩, fa, ⟨N, P, G, wa, me⟩, S, dd, ⟨rc, rx, rh⟩, ⟨bc, bw, bs⟩, sd, i0, i1⟩ => match o with | none => (-1000000003, ⟨⟨len, tx⟩, fa, ⟨N, P, G, wa, me⟩, S, dd, ⟨rc, rx, rh⟩, ⟨bc, bw, bs⟩, sd, i0, i1⟩) | some z => (1, ⟨⟨len, tx⟩, fa, ⟨N, P, G, wa, me⟩, z.1, [], ⟨rc, rx, rh⟩, ⟨bc, bw, bs⟩, z.2, i0, i1⟩)
def o_goBack (i : Int32) : Q → Int32 × Q
  | ⟨⟨len, tx⟩, fa, ⟨N, P, G, wa, me⟩, S, dd, ⟨rc, rx, rh⟩, ⟨bc, bw, bs⟩, sd, i0, i1⟩ => if i = 0 then gbA i0 ⟨⟨len, tx⟩, fa, ⟨N, P, G, wa, me⟩, S, dd, ⟨rc, rx, rh⟩, ⟨bc, bw, bs⟩, sd, i0, i1⟩ else if i = 1 then gbA i1 ⟨⟨len, tx⟩, fa, ⟨N, P, G, wa, me⟩, S, dd, ⟨rc, rx, rh⟩, ⟨bc, bw, bs⟩, sd, i0, i1⟩ else (-1000000001, ⟨⟨len, tx⟩, fa, ⟨N, P, G, wa, me⟩, S, dd, ⟨rc, rx, rh⟩, ⟨bc, bw, bs⟩, sd, i0, i1⟩)
theorem v_goBackA {x : Int32} {k a : Nat} {gI : Nat → Option Nat} {o : Im} (hx : x = nI k) (hk : k < 2) (ha : a = 122 + 4 * k) (hf : gI k = some a) (h121 : h.1 121 = .inl (.object "SpiteLine$Image", 2, .inr (.inr (.inr (.inr gI))))) (hI : cIm P a o h) (R : cRep ⟨⟨len, tx⟩, fa, ⟨N, P, G, wa, me⟩, S, dd, ⟨rc, rx, rh⟩, ⟨bc, bw, bs⟩, sd, i0, i1⟩ h) : am_R M_Sp_goBack (7, [.ref 1, .int x], []) h (fun r h' => r = some (.int (gbA o ⟨⟨len, tx⟩, fa, ⟨N, P, G, wa, me⟩, S, dd, ⟨rc, rx, rh⟩, ⟨bc, bw, bs⟩, sd, i0, i1⟩).1) ∧ cRep (gbA o ⟨⟨len, tx⟩, fa, ⟨N, P, G, wa, me⟩, S, dd, ⟨rc, rx, rh⟩, ⟨bc, bw, bs⟩, sd, i0, i1⟩).2 h' ∧ am_fr 1 130 h h') := by
  have hS : cSc P 14 S h := R.2.2.2.2.1
  obtain ⟨s, kk, q1, q2, q3⟩ := hI
  obtain ⟨x1, ⟨x2, x3, x4⟩, x5, ⟨x6, x7, waC, meC, x8, x9, x10, x11, x12⟩, ⟨wh, mi, fe, fl, x13, x14, x15, x16⟩, x17, ⟨tm, x18⟩, ⟨fi, ff, x19, x20, x21, x22, x23, x24, x25⟩, ⟨x26, ss, fd, x27, x28, x29, x30⟩, ⟨x31, x32, x33, x34⟩, x35, ⟨fi2, x36, x37, x38, x39, x40⟩⟩ := id R
  have y13 : h.1 14 = .inr (6, [.ref 15, .ref 16, .int fe, .int fl, .int _, .int _, .int _]) := x13
  have y14 : h.1 15 = iar wh := x14
  have y15 : h.1 16 = iar mi := x15
  unfold pTop at x1
  repeat (first | refine rs [] rfl rfl rfl rfl ?_ | refine rk rfl rfl ?_ | refine rgoh [] rfl rfl ?_ | refine rgeta (hi := rfl) (kk := ?_) | refine rialda (hi := rfl) (kk := ?_))
  refine raald rfl h121 (Or.inr rfl) k hk (by omega) hx hf ?_
  repeat (first | refine rs [] rfl rfl rfl rfl ?_ | refine rk rfl rfl ?_ | refine rgoh [] rfl rfl ?_ | refine rgeta (hi := rfl) (kk := ?_) | refine rialda (hi := rfl) (kk := ?_))
  cases o with
  | none =>
    have e : kk = 0 := q3
    subst e
    (first | refine rift rfl rfl ?_ | refine riff rfl rfl ?_ | refine rict rfl rfl ?_ | refine ricf rfl rfl ?_)
    repeat (first | refine rs [] rfl rfl rfl rfl ?_ | refine rk rfl rfl ?_ | refine rgoh [] rfl rfl ?_ | refine rgeta (hi := rfl) (kk := ?_) | refine rialda (hi := rfl) (kk := ?_))
    refine rret rfl rfl ?_
    exact ⟨rfl, R, fr_rf⟩
  | some z =>
    obtain ⟨e, e2, q4⟩ := q3
    subst e
    subst e2
    (first | refine rift rfl rfl ?_ | refine riff rfl rfl ?_ | refine rict rfl rfl ?_ | refine ricf rfl rfl ?_)
    repeat (first | refine rs [] rfl rfl rfl rfl ?_ | refine rk rfl rfl ?_ | refine rgoh [] rfl rfl ?_ | refine rgeta (hi := rfl) (kk := ?_) | refine rialda (hi := rfl) (kk := ?_))
    refine raald rfl h121 (Or.inr rfl) k hk (by omega) hx hf ?_
    repeat (first | refine rs [] rfl rfl rfl rfl ?_ | refine rk rfl rfl ?_ | refine rgoh [] rfl rfl ?_ | refine rgeta (hi := rfl) (kk := ?_) | refine rialda (hi := rfl) (kk := ?_))
    refine rcvt rfl rfl rfl rfl rfl y13 rfl (c_takeFrom hS.raw q4 x7 (by omega) (by omega) (by omega)) ?_
    rintro r h1 ⟨rfl, g1, g2⟩
    show am_R M_Sp_goBack (23, [.ref 1, .int x], []) _ _
    have R1 := cRep_now R g2 g1
    have e121 : h1.1 121 = .inl (.object "SpiteLine$Image", 2, .inr (.inr (.inr (.inr gI)))) := by rw [g2.2 _ (by omega)]; exact h121
    have eI : h1.1 a = .inr (3, [.ref (a + 1), .int z.2, .int 1]) := by rw [g2.2 _ (by omega)]; exact q1
    obtain ⟨x1, ⟨x2, x3, x4⟩, x5, ⟨x6, x7, waC, meC, x8, x9, x10, x11, x12⟩, ⟨wh, mi, fe, fl, x13, x14, x15, x16⟩, x17, ⟨tm, x18⟩, ⟨fi, ff, x19, x20, x21, x22, x23, x24, x25⟩, ⟨x26, ss, fd, x27, x28, x29, x30⟩, ⟨x31, x32, x33, x34⟩, x35, ⟨fi2, x36, x37, x38, x39, x40⟩⟩ := id R1
    have y13 : h1.1 14 = .inr (6, [.ref 15, .ref 16, .int fe, .int fl, .int _, .int _, .int _]) := x13
    have y14 : h1.1 15 = iar wh := x14
    have y15 : h1.1 16 = iar mi := x15
    unfold pTop at x1
    repeat (first | refine rs [] rfl rfl rfl rfl ?_ | refine rk rfl rfl ?_ | refine rgoh [] rfl rfl ?_ | refine rgeta (hi := rfl) (kk := ?_) | refine rialda (hi := rfl) (kk := ?_))
    refine raald rfl e121 (Or.inr rfl) k hk (by omega) hx hf ?_
    repeat (first | refine rs [] rfl rfl rfl rfl ?_ | refine rk rfl rfl ?_ | refine rgoh [] rfl rfl ?_ | refine rgeta (hi := rfl) (kk := ?_) | refine rialda (hi := rfl) (kk := ?_))
    refine rputa (hi := rfl) (kk := ?_)
    repeat (first | refine rs [] rfl rfl rfl rfl ?_ | refine rk rfl rfl ?_ | refine rgoh [] rfl rfl ?_ | refine rgeta (hi := rfl) (kk := ?_) | refine rialda (hi := rfl) (kk := ?_))
    refine rputa (hi := rfl) (kk := ?_)
    repeat (first | refine rs [] rfl rfl rfl rfl ?_ | refine rk rfl rfl ?_ | refine rgoh [] rfl rfl ?_ | refine rgeta (hi := rfl) (kk := ?_) | refine rialda (hi := rfl) (kk := ?_))
    refine rret rfl rfl ?_
    have R2 := cRep_seed (sd' := z.2) R1 (fr_set (lo := 120) (hi := 121) (c := .inr (2, [.int z.2])) fr_rf (by omega) (by omega)) am_set_eq
    refine ⟨rfl, cRep_d0 R2 (by rw [am_set_ne (by omega)]; exact x21), fr_set (fr_set (fr_wd g2 (by omega) (by omega)) (by omega) (by omega)) (by omega) (by omega)⟩
theorem v_goBack {x : Int32} (R : cRep ⟨⟨len, tx⟩, fa, ⟨N, P, G, wa, me⟩, S, dd, ⟨rc, rx, rh⟩, ⟨bc, bw, bs⟩, sd, i0, i1⟩ h) : am_O M_Sp_goBack [.ref 1, .int x] (o_goBack x ⟨⟨len, tx⟩, fa, ⟨N, P, G, wa, me⟩, S, dd, ⟨rc, rx, rh⟩, ⟨bc, bw, bs⟩, sd, i0, i1⟩) h := by
  obtain ⟨gI, z1, z2, z3, z4, z5⟩ := R.2.2.2.2.2.2.2.2.2.2.2
  unfold am_O o_goBack
  (try unfold am_E); unfold am_T
  dsimp only
  by_cases c0 : x = 0
  · rw [if_pos c0]
    subst c0
    repeat (first | refine rs [7] rfl rfl rfl rfl ?_ | refine rk rfl rfl ?_ | refine rgoh [7] rfl rfl ?_ | refine rgeta (hi := rfl) (kk := ?_) | refine rialda (hi := rfl) (kk := ?_))
    (first | refine rift rfl rfl ?_ | refine riff rfl rfl ?_ | refine rict rfl rfl ?_ | refine ricf rfl rfl ?_)
    repeat (first | refine rs [7] rfl rfl rfl rfl ?_ | refine rk rfl rfl ?_ | refine rgoh [7] rfl rfl ?_ | refine rgeta (hi := rfl) (kk := ?_) | refine rialda (hi := rfl) (kk := ?_))
    (first | refine rift rfl rfl ?_ | refine riff rfl rfl ?_ | refine rict rfl rfl ?_ | refine ricf rfl rfl ?_)
    exact v_goBackA (k := 0) (a := 122) (by decide) (by omega) rfl z2 z1 z4 R
  · rw [if_neg c0]
    by_cases c1 : x = 1
    · rw [if_pos c1]
      subst c1
      repeat (first | refine rs [7] rfl rfl rfl rfl ?_ | refine rk rfl rfl ?_ | refine rgoh [7] rfl rfl ?_ | refine rgeta (hi := rfl) (kk := ?_) | refine rialda (hi := rfl) (kk := ?_))
      (first | refine rift rfl rfl ?_ | refine riff rfl rfl ?_ | refine rict rfl rfl ?_ | refine ricf rfl rfl ?_)
      repeat (first | refine rs [7] rfl rfl rfl rfl ?_ | refine rk rfl rfl ?_ | refine rgoh [7] rfl rfl ?_ | refine rgeta (hi := rfl) (kk := ?_) | refine rialda (hi := rfl) (kk := ?_))
      (first | refine rift rfl rfl ?_ | refine riff rfl rfl ?_ | refine rict rfl rfl ?_ | refine ricf rfl rfl ?_)
      exact v_goBackA (k := 1) (a := 126) (by decide) (by omega) rfl z3 z1 z5 R
    · rw [if_neg c1]
      repeat (first | refine rs [7] rfl rfl rfl rfl ?_ | refine rk rfl rfl ?_ | refine rgoh [7] rfl rfl ?_ | refine rgeta (hi := rfl) (kk := ?_) | refine rialda (hi := rfl) (kk := ?_))
      (first | refine rif rfl rfl (fun d1 => ?_) (fun d1 => ?_) | refine ric rfl rfl (fun d1 => ?_) (fun d1 => ?_))
      · repeat (first | refine rs [7] rfl rfl rfl rfl ?_ | refine rk rfl rfl ?_ | refine rgoh [7] rfl rfl ?_ | refine rgeta (hi := rfl) (kk := ?_) | refine rialda (hi := rfl) (kk := ?_))
        refine rret rfl rfl ?_
        exact ⟨rfl, R, fr_rf⟩
      · repeat (first | refine rs [7] rfl rfl rfl rfl ?_ | refine rk rfl rfl ?_ | refine rgoh [7] rfl rfl ?_ | refine rgeta (hi := rfl) (kk := ?_) | refine rialda (hi := rfl) (kk := ?_))
        (first | refine rif rfl rfl (fun d2 => ?_) (fun d2 => ?_) | refine ric rfl rfl (fun d2 => ?_) (fun d2 => ?_))
        · exfalso
          obtain ⟨k, hk, rfl⟩ := inR_of (n := 2) ⟨d1, by rw [show nI 2 = (2 : Int32) by decide]; exact d2⟩ (by omega)
          match k, hk with
          | 0, _ => exact c0 (by decide)
          | 1, _ => exact c1 (by decide)
        · repeat (first | refine rs [7] rfl rfl rfl rfl ?_ | refine rk rfl rfl ?_ | refine rgoh [7] rfl rfl ?_ | refine rgeta (hi := rfl) (kk := ?_) | refine rialda (hi := rfl) (kk := ?_))
          refine rret rfl rfl ?_
          exact ⟨rfl, R, fr_rf⟩
end CKeep
