/-! the model's part of the heap -/
/-- a note of 36 numbers that lies at b is the scene S, as far as persons below P go -/
def ntA (P : Nat) (g : Nat → Int32) (b : Nat) (S : Sc) : Prop := g b = S.2.2.2.2.2.1 ∧ g (b + 1) = S.2.2.2.2.2.2 ∧ g (b + 2) = S.2.2.2.2.1 ∧ ∀ p, p < P → g (b + 3 + p) = S.1 p ∧ g (b + 11 + p) = S.2.1 p ∧ g (b + 19 + p) = S.2.2.1 p ∧ g (b + 27 + p) = S.2.2.2.1 p
/-- the model's now -/
def mSc (P : Nat) (S : Sc) (h : am_H) : Prop := ∃ (wh mi fe fl : Nat → Int32), h.1 134 = iar wh ∧ h.1 137 = iar mi ∧ h.1 138 = iar fe ∧ h.1 139 = iar fl ∧ ∀ p, p < P → wh p = S.1 p ∧ mi p = S.2.1 p ∧ fe p = S.2.2.1 p ∧ fl p = S.2.2.2.1 p
def mIm (P : Nat) (g : Nat → Int32) (ls : Nat → Int64) (kp : Nat → Int32) (i : Nat) (o : Im) : Prop := match o with | none => kp i = 0 | some (S, sd) => kp i = 1 ∧ ls i = sd.toInt64 ∧ ntA P g (36 * i) S
def mRep : Q → am_H → Prop
  | ⟨⟨len, tx⟩, fa, ⟨N, P, G, wa, me⟩, S, dd, ⟨rc, rx, rh⟩, ⟨bc, bw, bs⟩, sd, i0, i1⟩, h => ∃ ra rf rn rm sm : Int32, h.1 130 = mO (nI len) fa ra rf rn rm (nI N) G S.2.2.2.2.1 (nI P) S.2.2.2.2.2.1 S.2.2.2.2.2.2 (nI dd.length) sd.toInt64 (nI rc) sm (nI bc) ∧ (len ≤ 200 ∧ h.1 131 = .inl (.int, 200, .inl tx)) ∧ ((∃ g, h.1 132 = .inl (.int, 3, .inl g)) ∧ ∃ g, h.1 133 = .inl (.int, 40, .inl g)) ∧ (N ≤ 8 ∧ P ≤ 8 ∧ ∃ waC meC, h.1 135 = iar waC ∧ h.1 136 = iar meC ∧ eqP P waC wa ∧ eqP P meC me) ∧ mSc P S h ∧ (dd.length ≤ 30 ∧ ∃ g, h.1 140 = .inl (.int, 1080, .inl g) ∧ ∀ j S, dd[j]? = some S → ntA P g (36 * j) S) ∧ (∃ g, h.1 141 = .inl (.int, 36, .inl g)) ∧ (rc ≤ 8 ∧ h.1 142 = iar rx ∧ h.1 143 = iar rh) ∧ (∃ g, h.1 144 = .inl (.int, 37, .inl g)) ∧ (bc ≤ 20 ∧ ∃ g, h.1 145 = .inl (.int, 40, .inl g) ∧ ∀ i, i < bc → g (2 * i) = bw i ∧ g (2 * i + 1) = bs i) ∧ ∃ g ls kp, h.1 146 = .inl (.int, 72, .inl g) ∧ h.1 147 = .inl (.long, 2, .inr (.inl ls)) ∧ h.1 148 = .inl (.int, 2, .inl kp) ∧ mIm P g ls kp 0 i0 ∧ mIm P g ls kp 1 i1
/-- a call of the model does o -/
def am_W (K : am_M) (As : List Value) (o : Int32 × Q) (h : am_H) : Prop := am_T K As h (fun r h' => r = some (.int o.1) ∧ mRep o.2 h' ∧ am_fr 130 149 h h')
section MRep
variable {h h' : am_H} {len N P rc bc : Nat} {fa G sd : Int32} {tx wa me rx rh bw bs : Nat → Int32} {S S' : Sc} {dd dd' : List Sc} {i0 i1 : Im}
theorem w_fault (R : mRep ⟨⟨len, tx⟩, fa, ⟨N, P, G, wa, me⟩, S, dd, ⟨rc, rx, rh⟩, ⟨bc, bw, bs⟩, sd, i0, i1⟩ h) : am_W M_Mo_fault [.ref 130] (fa, ⟨⟨len, tx⟩, fa, ⟨N, P, G, wa, me⟩, S, dd, ⟨rc, rx, rh⟩, ⟨bc, bw, bs⟩, sd, i0, i1⟩) h := by
  obtain ⟨ra, rf, rn, rm, sm, x1, -⟩ := id R
  unfold am_W
  (try unfold am_E); unfold am_T
  repeat (first | refine rs [] rfl rfl rfl rfl ?_ | refine rk rfl rfl ?_ | refine rgoh [] rfl rfl ?_ | refine rgeta (hi := rfl) (kk := ?_) | refine rialda (hi := rfl) (kk := ?_))
  refine rret rfl rfl ?_
  exact ⟨rfl, R, fr_rf⟩
theorem mRep.fr {q : Q} {lo hi : Nat} (f : am_fr lo hi h h') (hd : 149 ≤ lo ∨ hi ≤ 130) (R : mRep q h) : mRep q h' := by
  obtain ⟨⟨len, tx⟩, fa, ⟨N, P, G, wa, me⟩, S, dd, ⟨rc, rx, rh⟩, ⟨bc, bw, bs⟩, sd, i0, i1⟩ := q
  obtain ⟨ra, rf, rn, rm, sm, x1, ⟨x2, x3⟩, ⟨⟨g1, x4⟩, g2, x5⟩, ⟨x6, x7, waC, meC, x8, x9, x10⟩, ⟨wh, mi, fe, fl, x11, x12, x13, x14, x15⟩, ⟨x16, g3, x17, x18⟩, ⟨g4, x19⟩, ⟨x20, x21, x22⟩, ⟨g5, x23⟩, ⟨x24, g6, x25, x26⟩, g7, g8, g9, x27, x28, x29, x30⟩ := R
  have e : ∀ k, 130 ≤ k → k < 149 → h'.1 k = h.1 k := fun k h1 h2 => f.2 k (by omega)
  exact ⟨ra, rf, rn, rm, sm, by rw [e _ (by omega) (by omega)]; exact x1, ⟨x2, by rw [e _ (by omega) (by omega)]; exact x3⟩, ⟨⟨g1, by rw [e _ (by omega) (by omega)]; exact x4⟩, g2, by rw [e _ (by omega) (by omega)]; exact x5⟩, ⟨x6, x7, waC, meC, by rw [e _ (by omega) (by omega)]; exact x8, by rw [e _ (by omega) (by omega)]; exact x9, x10⟩, ⟨wh, mi, fe, fl, by rw [e _ (by omega) (by omega)]; exact x11, by rw [e _ (by omega) (by omega)]; exact x12, by rw [e _ (by omega) (by omega)]; exact x13, by rw [e _ (by omega) (by omega)]; exact x14, x15⟩, ⟨x16, g3, by rw [e _ (by omega) (by omega)]; exact x17, x18⟩, ⟨g4, by rw [e _ (by omega) (by omega)]; exact x19⟩, ⟨x20, by rw [e _ (by omega) (by omega)]; exact x21, by rw [e _ (by omega) (by omega)]; exact x22⟩, ⟨g5, by rw [e _ (by omega) (by omega)]; exact x23⟩, ⟨x24, g6, by rw [e _ (by omega) (by omega)]; exact x25, x26⟩, g7, g8, g9, by rw [e _ (by omega) (by omega)]; exact x27, by rw [e _ (by omega) (by omega)]; exact x28, by rw [e _ (by omega) (by omega)]; exact x29, x30⟩
end MRep
