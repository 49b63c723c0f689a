/-! the model's part of the heap -/
/-- a note of 36 numbers that lies at b is the scene S, as far as persons below P go -/
def ntA (P : Nat) (g : Nat → Int32) (b : Nat) (S : Sc) : Prop := g b = S.2.2.2.2.2.1 ∧ g (b + 1) = S.2.2.2.2.2.2 ∧ g (b + 2) = S.2.2.2.2.1 ∧ ∀ p, p < P → g (b + 3 + p) = S.1 p ∧ g (b + 11 + p) = S.2.1 p ∧ g (b + 19 + p) = S.2.2.1 p ∧ g (b + 27 + p) = S.2.2.2.1 p
/-- the model's now -/
def mSc (P : Nat) (S : Sc) (h : am_H) : Prop := ∃ (wh mi fe fl : Nat → Int32), h.1 134 = iar wh ∧ h.1 137 = iar mi ∧ h.1 138 = iar fe ∧ h.1 139 = iar fl ∧ ∀ p, p < P → wh p = S.1 p ∧ mi p = S.2.1 p ∧ fe p = S.2.2.1 p ∧ fl p = S.2.2.2.1 p
def mIm (P : Nat) (g : Nat → Int32) (ls : Nat → Int64) (kp : Nat → Int32) (i : Nat) (o : Im) : Prop := match o with | none => kp i = 0 | some (S, sd) => kp i = 1 ∧ ls i = sd.toInt64 ∧ ntA P g (36 * i) S
def mTx (len : Nat) (tx : Nat → Int32) (h : am_H) : Prop := len ≤ 200 ∧ h.1 131 = .inl (.int, 200, .inl tx)
def mRd (h : am_H) : Prop := (∃ g, h.1 132 = .inl (.int, 3, .inl g)) ∧ ∃ g, h.1 133 = .inl (.int, 40, .inl g)
def mLn (N P : Nat) (wa me : Nat → Int32) (h : am_H) : Prop := N ≤ 8 ∧ P ≤ 8 ∧ ∃ waC meC, h.1 135 = iar waC ∧ h.1 136 = iar meC ∧ eqP P waC wa ∧ eqP P meC me
def mDd (P : Nat) (dd : List Sc) (h : am_H) : Prop := dd.length ≤ 30 ∧ ∃ g, h.1 140 = .inl (.int, 1080, .inl g) ∧ ∀ j S, dd[j]? = some S → ntA P g (36 * j) S
def mAs (h : am_H) : Prop := ∃ g, h.1 141 = .inl (.int, 36, .inl g)
def mWt (rc : Nat) (rx rh : Nat → Int32) (h : am_H) : Prop := rc ≤ 8 ∧ h.1 142 = iar rx ∧ h.1 143 = iar rh
def mSt (h : am_H) : Prop := ∃ g, h.1 144 = .inl (.int, 37, .inl g)
def mBk (bc : Nat) (bw bs : Nat → Int32) (h : am_H) : Prop := bc ≤ 20 ∧ ∃ g, h.1 145 = .inl (.int, 40, .inl g) ∧ ∀ i, i < bc → g (2 * i) = bw i ∧ g (2 * i + 1) = bs i
def mIs (P : Nat) (i0 i1 : Im) (h : am_H) : Prop := ∃ g ls kp, h.1 146 = .inl (.int, 72, .inl g) ∧ h.1 147 = .inl (.long, 2, .inr (.inl ls)) ∧ h.1 148 = .inl (.int, 2, .inl kp) ∧ mIm P g ls kp 0 i0 ∧ mIm P g ls kp 1 i1
section MFr
variable {h h' : am_H} {lo hi len N P rc bc : Nat} {tx wa me rx rh bw bs : Nat → Int32} {S : Sc} {dd : List Sc} {i0 i1 : Im}
theorem mTx.fr (f : am_fr lo hi h h') (hd : 132 ≤ lo ∨ hi ≤ 131) (q : mTx len tx h) : mTx len tx h' := ⟨q.1, by rw [f.2 _ (by omega)]; exact q.2⟩
theorem mRd.fr (f : am_fr lo hi h h') (hd : 134 ≤ lo ∨ hi ≤ 132) (q : mRd h) : mRd h' := by
  obtain ⟨⟨g1, q1⟩, g2, q2⟩ := q
  exact ⟨⟨g1, by rw [f.2 _ (by omega)]; exact q1⟩, g2, by rw [f.2 _ (by omega)]; exact q2⟩
theorem mLn.fr (f : am_fr lo hi h h') (hd : 137 ≤ lo ∨ hi ≤ 135) (q : mLn N P wa me h) : mLn N P wa me h' := by
  obtain ⟨q1, q2, g1, g2, q3, q4, q5⟩ := q
  exact ⟨q1, q2, g1, g2, by rw [f.2 _ (by omega)]; exact q3, by rw [f.2 _ (by omega)]; exact q4, q5⟩
theorem mSc.fr (f : am_fr lo hi h h') (hd : 140 ≤ lo ∨ hi ≤ 134) (q : mSc P S h) : mSc P S h' := by
  obtain ⟨g1, g2, g3, g4, q1, q2, q3, q4, q5⟩ := q
  exact ⟨g1, g2, g3, g4, by rw [f.2 _ (by omega)]; exact q1, by rw [f.2 _ (by omega)]; exact q2, by rw [f.2 _ (by omega)]; exact q3, by rw [f.2 _ (by omega)]; exact q4, q5⟩
theorem mDd.fr (f : am_fr lo hi h h') (hd : 141 ≤ lo ∨ hi ≤ 140) (q : mDd P dd h) : mDd P dd h' := by
  obtain ⟨q1, g, q2, q3⟩ := q
  exact ⟨q1, g, by rw [f.2 _ (by omega)]; exact q2, q3⟩
theorem mAs.fr (f : am_fr lo hi h h') (hd : 142 ≤ lo ∨ hi ≤ 141) (q : mAs h) : mAs h' := by
  obtain ⟨g, q2⟩ := q
  exact ⟨g, by rw [f.2 _ (by omega)]; exact q2⟩
theorem mWt.fr (f : am_fr lo hi h h') (hd : 144 ≤ lo ∨ hi ≤ 142) (q : mWt rc rx rh h) : mWt rc rx rh h' := by
  obtain ⟨q1, q2, q3⟩ := q
  exact ⟨q1, by rw [f.2 _ (by omega)]; exact q2, by rw [f.2 _ (by omega)]; exact q3⟩
theorem mSt.fr (f : am_fr lo hi h h') (hd : 145 ≤ lo ∨ hi ≤ 144) (q : mSt h) : mSt h' := by
  obtain ⟨g, q2⟩ := q
  exact ⟨g, by rw [f.2 _ (by omega)]; exact q2⟩
theorem mBk.fr (f : am_fr lo hi h h') (hd : 146 ≤ lo ∨ hi ≤ 145) (q : mBk bc bw bs h) : mBk bc bw bs h' := by
  obtain ⟨q1, g, q2, q3⟩ := q
  exact ⟨q1, g, by rw [f.2 _ (by omega)]; exact q2, q3⟩
theorem mIs.fr (f : am_fr lo hi h h') (hd : 149 ≤ lo ∨ hi ≤ 146) (q : mIs P i0 i1 h) : mIs P i0 i1 h' := by
  obtain ⟨g, ls, kp, q1, q2, q3, q4⟩ := q
  exact ⟨g, ls, kp, by rw [f.2 _ (by omega)]; exact q1, by rw [f.2 _ (by omega)]; exact q2, by rw [f.2 _ (by omega)]; exact q3, q4⟩
end MFr
def mRep : Q → am_H → Prop
  | ⟨⟨len, tx⟩, fa, ⟨N, P, G, wa, me⟩, S, dd, ⟨rc, rx, rh⟩, ⟨bc, bw, bs⟩, sd, i0, i1⟩, h => ∃ ra rf rn rm sm : Int32, h.1 130 = mO (nI len) fa ra rf rn rm (nI N) G S.2.2.2.2.1 (nI P) S.2.2.2.2.2.1 S.2.2.2.2.2.2 (nI dd.length) sd.toInt64 (nI rc) sm (nI bc) ∧ mTx len tx h ∧ mRd h ∧ mLn N P wa me h ∧ mSc P S h ∧ mDd P dd h ∧ mAs h ∧ mWt rc rx rh h ∧ mSt h ∧ mBk bc bw bs h ∧ mIs P i0 i1 h
/-- a call of the model does o -/
def am_W (K : am_M) (As : List Value) (o : Int32 × Q) (h : am_H) : Prop := am_T K As h (fun r h' => r = some (.int o.1) ∧ mRep o.2 h' ∧ am_fr 130 149 h h')
section MRep
variable {h h' : am_H} {len N P rc bc : Nat} {fa G sd : Int32} {tx wa me rx rh bw bs : Nat → Int32} {S S' : Sc} {dd dd' : List Sc} {i0 i1 : Im}
theorem w_fault (R : mRep ⟨⟨len, tx⟩, fa, ⟨N, P, G, wa, me⟩, S, dd, ⟨rc, rx, rh⟩, ⟨bc, bw, bs⟩, sd, i0, i1⟩ h) : am_W M_Mo_fault [.ref 130] (fa, ⟨⟨len, tx⟩, fa, ⟨N, P, G, wa, me⟩, S, dd, ⟨rc, rx, rh⟩, ⟨bc, bw, bs⟩, sd, i0, i1⟩) h := by
  obtain ⟨ra, rf, rn, rm, sm, x1, -⟩ := id R
  unfold am_W
  (try unfold am_E); unfold am_T
  repeat (first | refine rs [] rfl rfl rfl rfl ?_ | refine rk rfl rfl ?_ | refine rgoh [] rfl rfl ?_ | refine rgeta (hi := rfl) (kk := ?_) | refine rialda (hi := rfl) (kk := ?_))
  refine rret rfl rfl ?_
  exact ⟨rfl, R, fr_rf⟩
theorem mRep.fr {q : Q} {lo hi : Nat} (f : am_fr lo hi h h') (hd : 149 ≤ lo ∨ hi ≤ 130) (R : mRep q h) : mRep q h' := by
  obtain ⟨⟨len, tx⟩, fa, ⟨N, P, G, wa, me⟩, S, dd, ⟨rc, rx, rh⟩, ⟨bc, bw, bs⟩, sd, i0, i1⟩ := q
  obtain ⟨ra, rf, rn, rm, sm, x1, x2, x3, x4, x5, x6, x7, x8, x9, x10, x11⟩ := R
  exact ⟨ra, rf, rn, rm, sm, by rw [f.2 _ (by omega)]; exact x1, x2.fr f (by omega), x3.fr f (by omega), x4.fr f (by omega), x5.fr f (by omega), x6.fr f (by omega), x7.fr f (by omega), x8.fr f (by omega), x9.fr f (by omega), x10.fr f (by omega), x11.fr f (by omega)⟩
theorem w_feed {c : Int32} (R : mRep ⟨⟨len, tx⟩, fa, ⟨N, P, G, wa, me⟩, S, dd, ⟨rc, rx, rh⟩, ⟨bc, bw, bs⟩, sd, i0, i1⟩ h) : am_W M_Mo_feed [.ref 130, .int c] (o_feed c ⟨⟨len, tx⟩, fa, ⟨N, P, G, wa, me⟩, S, dd, ⟨rc, rx, rh⟩, ⟨bc, bw, bs⟩, sd, i0, i1⟩) h := by
  obtain ⟨ra, rf, rn, rm, sm, x1, ⟨t1, t2⟩, x3, x4, x5, x6, x7, x8, x9, x10, x11⟩ := id R
  unfold am_W o_feed
  (try unfold am_E); unfold am_T
  dsimp only
  repeat (first | refine rs [] rfl rfl rfl rfl ?_ | refine rk rfl rfl ?_ | refine rgoh [] rfl rfl ?_ | refine rgeta (hi := rfl) (kk := ?_) | refine rialda (hi := rfl) (kk := ?_))
  refine rcss rfl rfl rfl rfl rfl (w_in) ?_
  by_cases d : c < 0 ∨ 255 < c
  · rw [if_pos d, if_pos d]
    (first | refine rift rfl rfl ?_ | refine riff rfl rfl ?_ | refine rict rfl rfl ?_ | refine ricf rfl rfl ?_)
    repeat (first | refine rs [] rfl rfl rfl rfl ?_ | refine rk rfl rfl ?_ | refine rgoh [] rfl rfl ?_ | refine rgeta (hi := rfl) (kk := ?_) | refine rialda (hi := rfl) (kk := ?_))
    refine rret rfl rfl ?_
    exact ⟨rfl, R, fr_rf⟩
  · rw [if_neg d, if_neg d]
    (first | refine rift rfl rfl ?_ | refine riff rfl rfl ?_ | refine rict rfl rfl ?_ | refine ricf rfl rfl ?_)
    repeat (first | refine rs [] rfl rfl rfl rfl ?_ | refine rk rfl rfl ?_ | refine rgoh [] rfl rfl ?_ | refine rgeta (hi := rfl) (kk := ?_) | refine rialda (hi := rfl) (kk := ?_))
    by_cases e : len = 200
    · rw [if_pos e]
      (first | refine rif rfl rfl (fun c1 => ?_) (fun c1 => ?_) | refine ric rfl rfl (fun c1 => ?_) (fun c1 => ?_))
      · repeat (first | refine rs [] rfl rfl rfl rfl ?_ | refine rk rfl rfl ?_ | refine rgoh [] rfl rfl ?_ | refine rgeta (hi := rfl) (kk := ?_) | refine rialda (hi := rfl) (kk := ?_))
        refine rret rfl rfl ?_
        exact ⟨rfl, R, fr_rf⟩
      · exact absurd (by rw [e]; decide) c1
    · rw [if_neg e]
      (first | refine rif rfl rfl (fun c1 => ?_) (fun c1 => ?_) | refine ric rfl rfl (fun c1 => ?_) (fun c1 => ?_))
      · exfalso
        have t := congrArg Int32.toNatClampNeg c1
        rw [i200, nI_clamp (by omega), nI_clamp (by omega)] at t
        exact e t
      · repeat (first | refine rs [] rfl rfl rfl rfl ?_ | refine rk rfl rfl ?_ | refine rgoh [] rfl rfl ?_ | refine rgeta (hi := rfl) (kk := ?_) | refine rialda (hi := rfl) (kk := ?_))
        refine riasta (hi := rfl) (kk := ?_)
        repeat (first | refine rs [] rfl rfl rfl rfl ?_ | refine rk rfl rfl ?_ | refine rgoh [] rfl rfl ?_ | refine rgeta (hi := rfl) (kk := ?_) | refine rialda (hi := rfl) (kk := ?_))
        refine rputa (hi := rfl) (kk := ?_)
        repeat (first | refine rs [] rfl rfl rfl rfl ?_ | refine rk rfl rfl ?_ | refine rgoh [] rfl rfl ?_ | refine rgeta (hi := rfl) (kk := ?_) | refine rialda (hi := rfl) (kk := ?_))
        refine rret rfl rfl ?_
        have f : am_fr 130 132 h (am_set (am_set h 131 (.inl (.int, 200, .inl (upd tx len c)))) 130 (mO (nI len + 1) fa ra rf rn rm (nI N) G S.2.2.2.2.1 (nI P) S.2.2.2.2.2.1 S.2.2.2.2.2.2 (nI dd.length) sd.toInt64 (nI rc) sm (nI bc))) := fr_set (fr_set fr_rf (by omega) (by omega)) (by omega) (by omega)
        refine ⟨by rw [nI_succ], ?_, fr_wd f (by omega) (by omega)⟩
        exact ⟨ra, rf, rn, rm, sm, by rw [nI_succ]; exact am_set_eq, ⟨by omega, by rw [am_set_ne (by omega)]; exact am_set_eq⟩, x3.fr f (by omega), x4.fr f (by omega), x5.fr f (by omega), x6.fr f (by omega), x7.fr f (by omega), x8.fr f (by omega), x9.fr f (by omega), x10.fr f (by omega), x11.fr f (by omega)⟩
end MRep
