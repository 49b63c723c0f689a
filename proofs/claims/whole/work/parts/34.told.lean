/-! the class's call line, told well -/
theorem pRd.fr {lo hi : Nat} {N G F : Int32} {ps : List Pn} {h h' : am_H} (f : am_fr lo hi h h') (hd : 11 ≤ lo ∨ hi ≤ 5) (q : pRd N G F ps h) : pRd N G F ps h' := by
  obtain ⟨wa, me, wh, mi, fe, fl, q1, q2, q3, q4, q5, q6, q7⟩ := q
  exact ⟨wa, me, wh, mi, fe, fl, by rw [f.2 _ (by omega)]; exact q1, by rw [f.2 _ (by omega)]; exact q2, by rw [f.2 _ (by omega)]; exact q3, by rw [f.2 _ (by omega)]; exact q4, by rw [f.2 _ (by omega)]; exact q5, by rw [f.2 _ (by omega)]; exact q6, q7⟩
theorem getD_at {ps : List Pn} {p : Nat} (hp : p < ps.length) : ps[p]? = some (ps.getD p pnD) := by
  rw [List.getD_eq_getElem?_getD, List.getElem?_eq_getElem hp]
  rfl
section CTold
variable {h h' : am_H} {len N P rc bc : Nat} {fa G sd : Int32} {tx wa me rx rh bw bs : Nat → Int32} {S S' : Sc} {dd dd' : List Sc} {i0 i1 i0' i1' : Im}
set_option maxHeartbeats 2000000 in
theorem v_lineG {n : Nat} {G1 F1 : Int32} {ps : List Pn} (R : cRep ⟨⟨0, tx⟩, -1, ⟨N, P, G, wa, me⟩, S, dd, ⟨rc, rx, rh⟩, ⟨bc, bw, bs⟩, sd, i0, i1⟩ h) (hn : n ≤ 8) (hps : ps.length ≤ 8) (hp : pRd (nI n) G1 F1 ps h) (h4 : ∃ z, h.1 4 = .inr (5, .ref 5 :: .ref 8 :: z)) : am_R M_Sp_line (27, [.ref 1, .null], []) h (fun r h' => r = some (.int (nI ps.length)) ∧ cRep ⟨⟨0, tx⟩, -1, ⟨n, ps.length, G1, fun p => (ps.getD p pnD).2.1, fun p => (ps.getD p pnD).2.2.1⟩, scP F1 ps, [], ⟨0, rx, rh⟩, ⟨0, bw, bs⟩, sd, none, none⟩ h' ∧ am_fr 11 130 h h') := by
  have hS : cSc P 14 S h := R.2.2.2.2.1
  have hD : cDd P dd h := R.2.2.2.2.2.2.2.1
  obtain ⟨z, h4⟩ := h4
  obtain ⟨x1, ⟨x2, x3, x4⟩, x5, ⟨x6, x7, waC, meC, x8, x9, x10, x11, x12⟩, ⟨wh, mi, fe, fl, x13, x14, x15, x16⟩, x17, ⟨tm, x18⟩, ⟨fi, ff, x19, x20, x21, x22, x23, x24, x25⟩, ⟨x26, ss, fd, x27, x28, x29, x30⟩, ⟨x31, x32, x33, x34⟩, x35, ⟨fi2, x36, x37, x38, x39, x40⟩⟩ := id R
  have y13 : h.1 14 = .inr (6, [.ref 15, .ref 16, .int fe, .int fl, .int _, .int _, .int _]) := x13
  have y14 : h.1 15 = iar wh := x14
  have y15 : h.1 16 = iar mi := x15
  unfold pTop at x1
  obtain ⟨wb, mb, whb, mib, feb, flb, p1, p2, p3, p4, p5, p6, p7⟩ := id hp
  repeat (first | refine rs [] rfl rfl rfl rfl ?_ | refine rk rfl rfl ?_ | refine rgoh [] rfl rfl ?_ | refine rgeta (hi := rfl) (kk := ?_) | refine rialda (hi := rfl) (kk := ?_))
  refine rcvt rfl rfl rfl rfl rfl x8 rfl (c_LtakeFrom x8 x9 x10 p1 p2 p3) ?_
  rintro r h3 ⟨rfl, f3, l1, w', m', l2, l3, l4, l5⟩
  show am_R M_Sp_line (33, [.ref 1, .null], []) _ _
  have e1 : h3.1 1 = .inr (9, [.ref 2, .ref 4, .ref 11, .ref 14, .ref 17, .ref 20, .ref 21, .ref 113, .ref 117, .ref 120, .ref 121, .int (-1)]) := by rw [f3.2 _ (by omega)]; exact x1
  have e4 : h3.1 4 = .inr (5, .ref 5 :: .ref 8 :: z) := by rw [f3.2 _ (by omega)]; exact h4
  have e14 := (f3.2 14 (by omega)).trans y13
  have hb : cSc ps.length 8 (scP F1 ps) h3 := by
    refine ⟨whb, mib, feb, flb, by rw [f3.2 _ (by omega)]; exact p4, by rw [f3.2 _ (by omega)]; exact p5, by rw [f3.2 _ (by omega)]; exact p6, fun p hp => ?_⟩
    obtain ⟨a1, a2, a3, a4, a5, a6⟩ := p7 p _ (getD_at hp)
    exact ⟨a1, a4, a5, a6⟩
  repeat (first | refine rs [] rfl rfl rfl rfl ?_ | refine rk rfl rfl ?_ | refine rgoh [] rfl rfl ?_ | refine rgeta (hi := rfl) (kk := ?_) | refine rialda (hi := rfl) (kk := ?_))
  refine rcvt rfl rfl rfl rfl rfl e14 rfl (c_takeFrom (hS.raw.fr f3 (by omega)) hb hps (by omega) (by omega) (by omega)) ?_
  rintro r h4' ⟨rfl, S4, f4⟩
  show am_R M_Sp_line (39, [.ref 1, .null], []) _ _
  have f34 : am_fr 11 17 h h4' := fr_tr (fr_wd f3 (by omega) (by omega)) f4 (by omega) (by omega)
  have k1 : h4'.1 1 = .inr (9, [.ref 2, .ref 4, .ref 11, .ref 14, .ref 17, .ref 20, .ref 21, .ref 113, .ref 117, .ref 120, .ref 121, .int (-1)]) := by rw [f34.2 _ (by omega)]; exact x1
  have k11 : h4'.1 11 = .inr (4, [.int (nI n), .int G1, .int (nI ps.length), .ref 12, .ref 13]) := by rw [f4.2 _ (by omega)]; exact l1
  have k21 : h4'.1 21 = .inr (1, [.ref 22, .int (nI fi), .int (nI dd.length)]) := by rw [f34.2 _ (by omega)]; exact x21
  have k113 : h4'.1 113 = .inr (8, [.ref 114, .ref 115, .int (nI rc), .ref 116, .int fd]) := by rw [f34.2 _ (by omega)]; exact x27
  have k117 : h4'.1 117 = .inr (0, [.ref 118, .ref 119, .int (nI bc)]) := by rw [f34.2 _ (by omega)]; exact x32
  have k121 : h4'.1 121 = .inl (.object "SpiteLine$Image", 2, .inr (.inr (.inr (.inr fi2)))) := by rw [f34.2 _ (by omega)]; exact x36
  obtain ⟨s0, kk0, m1, m2, -⟩ := id x39
  obtain ⟨s1, kk1, m3, m4, -⟩ := id x40
  have k122 : h4'.1 122 = .inr (3, [.ref 123, .int s0, .int kk0]) := by rw [f34.2 _ (by omega)]; exact m1
  have k126 : h4'.1 126 = .inr (3, [.ref 127, .int s1, .int kk1]) := by rw [f34.2 _ (by omega)]; exact m3
  repeat (first | refine rs [] rfl rfl rfl rfl ?_ | refine rk rfl rfl ?_ | refine rgoh [] rfl rfl ?_ | refine rgeta (hi := rfl) (kk := ?_) | refine rialda (hi := rfl) (kk := ?_))
  refine rputa (hi := rfl) (kk := ?_)
  repeat (first | refine rs [] rfl rfl rfl rfl ?_ | refine rk rfl rfl ?_ | refine rgoh [] rfl rfl ?_ | refine rgeta (hi := rfl) (kk := ?_) | refine rialda (hi := rfl) (kk := ?_))
  refine rputa (hi := rfl) (kk := ?_)
  repeat (first | refine rs [] rfl rfl rfl rfl ?_ | refine rk rfl rfl ?_ | refine rgoh [] rfl rfl ?_ | refine rgeta (hi := rfl) (kk := ?_) | refine rialda (hi := rfl) (kk := ?_))
  refine rputa (hi := rfl) (kk := ?_)
  repeat (first | refine rs [] rfl rfl rfl rfl ?_ | refine rk rfl rfl ?_ | refine rgoh [] rfl rfl ?_ | refine rgeta (hi := rfl) (kk := ?_) | refine rialda (hi := rfl) (kk := ?_))
  (first | refine rift rfl rfl ?_ | refine riff rfl rfl ?_ | refine rict rfl rfl ?_ | refine ricf rfl rfl ?_)
  repeat (first | refine rs [] rfl rfl rfl rfl ?_ | refine rk rfl rfl ?_ | refine rgoh [] rfl rfl ?_ | refine rgeta (hi := rfl) (kk := ?_) | refine rialda (hi := rfl) (kk := ?_))
  refine raald rfl (by simp (disch := omega) only [am_set_ne]; exact k121) (Or.inr rfl) 0 (by omega) (by omega) (by decide) x37 ?_
  repeat (first | refine rs [] rfl rfl rfl rfl ?_ | refine rk rfl rfl ?_ | refine rgoh [] rfl rfl ?_ | refine rgeta (hi := rfl) (kk := ?_) | refine rialda (hi := rfl) (kk := ?_))
  refine rputa (hi := rfl) (kk := ?_)
  repeat (first | refine rs [] rfl rfl rfl rfl ?_ | refine rk rfl rfl ?_ | refine rgoh [] rfl rfl ?_ | refine rgeta (hi := rfl) (kk := ?_) | refine rialda (hi := rfl) (kk := ?_))
  (first | refine rift rfl rfl ?_ | refine riff rfl rfl ?_ | refine rict rfl rfl ?_ | refine ricf rfl rfl ?_)
  repeat (first | refine rs [] rfl rfl rfl rfl ?_ | refine rk rfl rfl ?_ | refine rgoh [] rfl rfl ?_ | refine rgeta (hi := rfl) (kk := ?_) | refine rialda (hi := rfl) (kk := ?_))
  refine raald rfl (by simp (disch := omega) only [am_set_ne]; exact k121) (Or.inr rfl) 1 (by omega) (by omega) (by decide) x38 ?_
  repeat (first | refine rs [] rfl rfl rfl rfl ?_ | refine rk rfl rfl ?_ | refine rgoh [] rfl rfl ?_ | refine rgeta (hi := rfl) (kk := ?_) | refine rialda (hi := rfl) (kk := ?_))
  refine rputa (hi := rfl) (kk := ?_)
  repeat (first | refine rs [] rfl rfl rfl rfl ?_ | refine rk rfl rfl ?_ | refine rgoh [] rfl rfl ?_ | refine rgeta (hi := rfl) (kk := ?_) | refine rialda (hi := rfl) (kk := ?_))
  (first | refine rift rfl rfl ?_ | refine riff rfl rfl ?_ | refine rict rfl rfl ?_ | refine ricf rfl rfl ?_)
  repeat (first | refine rs [] rfl rfl rfl rfl ?_ | refine rk rfl rfl ?_ | refine rgoh [] rfl rfl ?_ | refine rgeta (hi := rfl) (kk := ?_) | refine rialda (hi := rfl) (kk := ?_))
  refine rret rfl rfl ?_
  have D1 : cDd ps.length [] (am_set h4' 21 (.inr (1, [.ref 22, .int (nI fi), .int 0]))) := cDd_nil (hD.fr f34 (by omega)) k21
  have gD : am_fr 113 130 (am_set h4' 21 (.inr (1, [.ref 22, .int (nI fi), .int 0]))) (am_set (am_set (am_set (am_set (am_set h4' 21 (.inr (1, [.ref 22, .int (nI fi), .int 0]))) 113 (.inr (8, [.ref 114, .ref 115, .int (nI 0), .ref 116, .int fd]))) 117 (.inr (0, [.ref 118, .ref 119, .int (nI 0)]))) 122 (.inr (3, [.ref 123, .int s0, .int 0]))) 126 (.inr (3, [.ref 127, .int s1, .int 0]))) := fr_set (fr_set (fr_set (fr_set fr_rf (by omega) (by omega)) (by omega) (by omega)) (by omega) (by omega)) (by omega) (by omega)
  have g4 : am_fr 21 130 h4' (am_set (am_set (am_set (am_set (am_set h4' 21 (.inr (1, [.ref 22, .int (nI fi), .int 0]))) 113 (.inr (8, [.ref 114, .ref 115, .int (nI 0), .ref 116, .int fd]))) 117 (.inr (0, [.ref 118, .ref 119, .int (nI 0)]))) 122 (.inr (3, [.ref 123, .int s0, .int 0]))) 126 (.inr (3, [.ref 127, .int s1, .int 0]))) := fr_set (fr_set (fr_set (fr_set (fr_set fr_rf (by omega) (by omega)) (by omega) (by omega)) (by omega) (by omega)) (by omega) (by omega)) (by omega) (by omega)
  have v113 : (am_set (am_set (am_set (am_set (am_set h4' 21 (.inr (1, [.ref 22, .int (nI fi), .int 0]))) 113 (.inr (8, [.ref 114, .ref 115, .int (nI 0), .ref 116, .int fd]))) 117 (.inr (0, [.ref 118, .ref 119, .int (nI 0)]))) 122 (.inr (3, [.ref 123, .int s0, .int 0]))) 126 (.inr (3, [.ref 127, .int s1, .int 0]))).1 113 = .inr (8, [.ref 114, .ref 115, .int (nI 0), .ref 116, .int fd]) := by simp (disch := omega) only [am_set_ne, am_set_eq]
  have v117 : (am_set (am_set (am_set (am_set (am_set h4' 21 (.inr (1, [.ref 22, .int (nI fi), .int 0]))) 113 (.inr (8, [.ref 114, .ref 115, .int (nI 0), .ref 116, .int fd]))) 117 (.inr (0, [.ref 118, .ref 119, .int (nI 0)]))) 122 (.inr (3, [.ref 123, .int s0, .int 0]))) 126 (.inr (3, [.ref 127, .int s1, .int 0]))).1 117 = .inr (0, [.ref 118, .ref 119, .int (nI 0)]) := by simp (disch := omega) only [am_set_ne, am_set_eq]
  have v122 : (am_set (am_set (am_set (am_set (am_set h4' 21 (.inr (1, [.ref 22, .int (nI fi), .int 0]))) 113 (.inr (8, [.ref 114, .ref 115, .int (nI 0), .ref 116, .int fd]))) 117 (.inr (0, [.ref 118, .ref 119, .int (nI 0)]))) 122 (.inr (3, [.ref 123, .int s0, .int 0]))) 126 (.inr (3, [.ref 127, .int s1, .int 0]))).1 122 = .inr (3, [.ref 123, .int s0, .int 0]) := by simp (disch := omega) only [am_set_ne, am_set_eq]
  have v126 : (am_set (am_set (am_set (am_set (am_set h4' 21 (.inr (1, [.ref 22, .int (nI fi), .int 0]))) 113 (.inr (8, [.ref 114, .ref 115, .int (nI 0), .ref 116, .int fd]))) 117 (.inr (0, [.ref 118, .ref 119, .int (nI 0)]))) 122 (.inr (3, [.ref 123, .int s0, .int 0]))) 126 (.inr (3, [.ref 127, .int s1, .int 0]))).1 126 = .inr (3, [.ref 127, .int s1, .int 0]) := am_set_eq
  have gO : ∀ k, k = 114 ∨ k = 115 ∨ k = 116 ∨ k = 118 ∨ k = 119 ∨ k = 120 ∨ k = 121 ∨ k = 123 ∨ k = 124 ∨ k = 125 ∨ k = 127 ∨ k = 128 ∨ k = 129 → (am_set (am_set (am_set (am_set (am_set h4' 21 (.inr (1, [.ref 22, .int (nI fi), .int 0]))) 113 (.inr (8, [.ref 114, .ref 115, .int (nI 0), .ref 116, .int fd]))) 117 (.inr (0, [.ref 118, .ref 119, .int (nI 0)]))) 122 (.inr (3, [.ref 123, .int s0, .int 0]))) 126 (.inr (3, [.ref 127, .int s1, .int 0]))).1 k = h.1 k := by
    intro k hk
    rw [am_set_ne (by omega), am_set_ne (by omega), am_set_ne (by omega), am_set_ne (by omega), am_set_ne (by omega)]
    exact f34.2 k (by omega)
  obtain ⟨H, eH⟩ : ∃ H, H = (am_set (am_set (am_set (am_set (am_set h4' 21 (.inr (1, [.ref 22, .int (nI fi), .int 0]))) 113 (.inr (8, [.ref 114, .ref 115, .int (nI 0), .ref 116, .int fd]))) 117 (.inr (0, [.ref 118, .ref 119, .int (nI 0)]))) 122 (.inr (3, [.ref 123, .int s0, .int 0]))) 126 (.inr (3, [.ref 127, .int s1, .int 0]))) := ⟨_, rfl⟩
  rw [← eH] at gD g4 v113 v117 v122 v126 gO
  have g34 : am_fr 11 130 h H := fr_tr (fr_wd f34 (by omega) (by omega)) g4 (by omega) (by omega)
  have r0 : cRaw 123 H := by
    obtain ⟨u1, u2, u3, u4, u5, u6, u7, a1, a2, a3⟩ := m2
    exact ⟨u1, u2, u3, u4, u5, u6, u7, by rw [gO _ (by omega)]; exact a1, by rw [gO _ (by omega)]; exact a2, by rw [gO _ (by omega)]; exact a3⟩
  have r1 : cRaw 127 H := by
    obtain ⟨u1, u2, u3, u4, u5, u6, u7, a1, a2, a3⟩ := m4
    exact ⟨u1, u2, u3, u4, u5, u6, u7, by rw [gO _ (by omega)]; exact a1, by rw [gO _ (by omega)]; exact a2, by rw [gO _ (by omega)]; exact a3⟩
  have fin : cRep ⟨⟨0, tx⟩, -1, ⟨n, ps.length, G1, fun p => (ps.getD p pnD).2.1, fun p => (ps.getD p pnD).2.2.1⟩, scP F1 ps, [], ⟨0, rx, rh⟩, ⟨0, bw, bs⟩, sd, none, none⟩ H := by
    refine ⟨by unfold pTop; rw [g34.2 _ (by omega)]; exact x1, R.2.1.fr g34 (by omega), R.2.2.1.fr g34 (by omega), ⟨hn, hps, w', m', by rw [g4.2 _ (by omega)]; exact k11, by rw [g4.2 _ (by omega), f4.2 _ (by omega)]; exact l2, by rw [g4.2 _ (by omega), f4.2 _ (by omega)]; exact l3, fun p hp => (l4 p (by omega)).trans (p7 p _ (getD_at hp)).2.1, fun p hp => (l5 p (by omega)).trans (p7 p _ (getD_at hp)).2.2.1⟩, S4.fr g4 (by omega), (x17.fr f34 (by omega)).fr g4 (by omega), ⟨tm, by rw [g4.2 _ (by omega), f34.2 _ (by omega)]; exact x18⟩, D1.fr gD (by omega), ⟨by omega, ss, fd, v113, by rw [gO _ (by omega)]; exact x28, by rw [gO _ (by omega)]; exact x29, by rw [gO _ (by omega)]; exact x30⟩, ⟨by omega, v117, by rw [gO _ (by omega)]; exact x33, by rw [gO _ (by omega)]; exact x34⟩, by rw [gO _ (by omega)]; exact x35, ⟨fi2, by rw [gO _ (by omega)]; exact x36, x37, x38, ⟨s0, 0, v122, r0, rfl⟩, ⟨s1, 0, v126, r1, rfl⟩⟩⟩
  subst eH
  exact ⟨rfl, fin, g34⟩
theorem v_line (R : cRep ⟨⟨len, tx⟩, fa, ⟨N, P, G, wa, me⟩, S, dd, ⟨rc, rx, rh⟩, ⟨bc, bw, bs⟩, sd, i0, i1⟩ h) : am_O M_Sp_line [.ref 1] (o_line ⟨⟨len, tx⟩, fa, ⟨N, P, G, wa, me⟩, S, dd, ⟨rc, rx, rh⟩, ⟨bc, bw, bs⟩, sd, i0, i1⟩) h := by
  have hT : cTx len tx h := R.2.1
  obtain ⟨⟨k0, j0, i0', nu0, h4⟩, hw⟩ : pRj h := R.2.2.1
  have x1 := R.1
  unfold pTop at x1
  have z4 := h4
  rw [rdc_eq] at z4
  unfold am_O o_line
  (try unfold am_E); unfold am_T
  dsimp only
  repeat (first | refine rs [] rfl rfl rfl rfl ?_ | refine rk rfl rfl ?_ | refine rgoh [] rfl rfl ?_ | refine rgeta (hi := rfl) (kk := ?_) | refine rialda (hi := rfl) (kk := ?_))
  refine rcvt rfl rfl rfl rfl rfl z4 rfl (c_read hT h4 hw) ?_
  rintro r h1 ⟨rfl, f1, q⟩
  show am_R M_Sp_line (5, [.ref 1, .null], []) _ _
  cases ep : prS len tx with
  | inl e =>
    rw [ep] at q
    obtain ⟨k, j⟩ := e
    obtain ⟨hk, ⟨i, nu, e4⟩, w⟩ := q
    exact v_lineF R f1 hk e4 w
  | inr qq =>
    rw [ep] at q
    obtain ⟨⟨i, nu, e4⟩, hp⟩ := q
    obtain ⟨⟨n, en, hn, -⟩, hps⟩ := prS_wf ep
    dsimp only
    rw [en] at hp
    rw [en, nI_clamp (by omega)]
    have y1 : h1.1 1 = .inr (9, [.ref 2, .ref 4, .ref 11, .ref 14, .ref 17, .ref 20, .ref 21, .ref 113, .ref 117, .ref 120, .ref 121, .int fa]) := by rw [f1.2 _ (by omega)]; exact x1
    obtain ⟨t1, t2, t3⟩ := hT.fr f1 (by omega)
    have w4 := e4
    rw [rdc_eq] at w4
    repeat (first | refine rs [] rfl rfl rfl rfl ?_ | refine rk rfl rfl ?_ | refine rgoh [] rfl rfl ?_ | refine rgeta (hi := rfl) (kk := ?_) | refine rialda (hi := rfl) (kk := ?_))
    refine rputa (hi := rfl) (kk := ?_)
    repeat (first | refine rs [] rfl rfl rfl rfl ?_ | refine rk rfl rfl ?_ | refine rgoh [] rfl rfl ?_ | refine rgeta (hi := rfl) (kk := ?_) | refine rialda (hi := rfl) (kk := ?_))
    (first | refine rift rfl rfl ?_ | refine riff rfl rfl ?_ | refine rict rfl rfl ?_ | refine ricf rfl rfl ?_)
    repeat (first | refine rs [] rfl rfl rfl rfl ?_ | refine rk rfl rfl ?_ | refine rgoh [] rfl rfl ?_ | refine rgeta (hi := rfl) (kk := ?_) | refine rialda (hi := rfl) (kk := ?_))
    refine rputa (hi := rfl) (kk := ?_)
    have fA : am_fr 1 11 h (am_set (am_set h1 2 (.inr (7, [.ref 3, .int (nI 0)]))) 1 (.inr (9, [.ref 2, .ref 4, .ref 11, .ref 14, .ref 17, .ref 20, .ref 21, .ref 113, .ref 117, .ref 120, .ref 121, .int (-1)]))) := fr_set (fr_set (fr_wd f1 (by omega) (by omega)) (by omega) (by omega)) (by omega) (by omega)
    have fB : am_fr 1 3 h1 (am_set (am_set h1 2 (.inr (7, [.ref 3, .int (nI 0)]))) 1 (.inr (9, [.ref 2, .ref 4, .ref 11, .ref 14, .ref 17, .ref 20, .ref 21, .ref 113, .ref 117, .ref 120, .ref 121, .int (-1)]))) := fr_set (fr_set fr_rf (by omega) (by omega)) (by omega) (by omega)
    have J : pRj h1 := ⟨⟨_, _, _, _, e4⟩, hp.raw⟩
    have RH := cRep_head (len' := 0) (tx' := tx) R fA am_set_eq ⟨by omega, by rw [am_set_ne (by omega)]; exact am_set_eq, by rw [am_set_ne (by omega), am_set_ne (by omega)]; exact t3⟩ (J.fr fB (by omega))
    have hp2 := hp.fr fB (by omega)
    refine am_R.imp (v_lineG RH hn hps hp2 ⟨_, by rw [am_set_ne (by omega), am_set_ne (by omega)]; exact w4⟩) ?_
    rintro r h2 ⟨rfl, R2, f2⟩
    exact ⟨rfl, R2, fr_tr (lo := 1) (hi := 130) (fr_wd fA (by omega) (by omega)) f2 (by omega) (by omega)⟩
end CTold
