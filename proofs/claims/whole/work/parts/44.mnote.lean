/-! the model's notes -/
def am_fk (L : List Nat) (h h' : am_H) : Prop := h'.2 = h.2 ∧ ∀ k, k ∉ L → h'.1 k = h.1 k
theorem fl_rf {L : List Nat} {h : am_H} : am_fk L h h := ⟨rfl, fun _ _ => rfl⟩
theorem fl_set {L : List Nat} {a : Nat} {h h1 : am_H} {c : am_C} (f : am_fk L h h1) (m : a ∈ L) : am_fk L h (am_set h1 a c) := ⟨f.1, fun k hk => by rw [am_set_ne (k := k) (a := a) (by rintro rfl; exact hk m)]; exact f.2 k hk⟩
theorem fl_tr {L L1 : List Nat} {h h1 h2 : am_H} (f : am_fk L h h1) (g : am_fk L1 h1 h2) (m : ∀ k, k ∈ L1 → k ∈ L) : am_fk L h h2 := ⟨g.1.trans f.1, fun k hk => by rw [g.2 k (fun e => hk (m k e)), f.2 k hk]⟩
theorem fl_wd {L L1 : List Nat} {h h1 : am_H} (g : am_fk L1 h h1) (m : ∀ k, k ∈ L1 → k ∈ L) : am_fk L h h1 := ⟨g.1, fun k hk => g.2 k (fun e => hk (m k e))⟩
theorem fl_fr {L : List Nat} {lo hi : Nat} {h h1 : am_H} (g : am_fk L h h1) (m : ∀ k, k ∈ L → lo ≤ k ∧ k < hi) : am_fr lo hi h h1 := ⟨g.1, fun k hk => g.2 k (fun e => by have := m k e; omega)⟩
section MFl
variable {h h' : am_H} {L : List Nat} {len N P rc bc : Nat} {tx wa me rx rh bw bs : Nat → Int32} {S : Sc} {dd : List Sc} {i0 i1 : Im}
theorem mTx.fl (f : am_fk L h h') (m : ∀ k, k ∈ [131] → k ∉ L) (q : mTx len tx h) : mTx len tx h' := ⟨q.1, by rw [f.2 _ (m _ (by decide))]; exact q.2⟩
theorem mRd.fl (f : am_fk L h h') (m : ∀ k, k ∈ [132, 133] → k ∉ L) (q : mRd h) : mRd h' := by
  obtain ⟨⟨g1, q1⟩, g2, q2⟩ := q
  exact ⟨⟨g1, by rw [f.2 _ (m _ (by decide))]; exact q1⟩, g2, by rw [f.2 _ (m _ (by decide))]; exact q2⟩
theorem mLn.fl (f : am_fk L h h') (m : ∀ k, k ∈ [135, 136] → k ∉ L) (q : mLn N P wa me h) : mLn N P wa me h' := by
  obtain ⟨q1, q2, g1, g2, q3, q4, q5⟩ := q
  exact ⟨q1, q2, g1, g2, by rw [f.2 _ (m _ (by decide))]; exact q3, by rw [f.2 _ (m _ (by decide))]; exact q4, q5⟩
theorem mSc.fl (f : am_fk L h h') (m : ∀ k, k ∈ [134, 137, 138, 139] → k ∉ L) (q : mSc P S h) : mSc P S h' := by
  obtain ⟨g1, g2, g3, g4, q1, q2, q3, q4, q5⟩ := q
  exact ⟨g1, g2, g3, g4, by rw [f.2 _ (m _ (by decide))]; exact q1, by rw [f.2 _ (m _ (by decide))]; exact q2, by rw [f.2 _ (m _ (by decide))]; exact q3, by rw [f.2 _ (m _ (by decide))]; exact q4, q5⟩
theorem mDd.fl (f : am_fk L h h') (m : ∀ k, k ∈ [140] → k ∉ L) (q : mDd P dd h) : mDd P dd h' := by
  obtain ⟨q1, g, q2, q3⟩ := q
  exact ⟨q1, g, by rw [f.2 _ (m _ (by decide))]; exact q2, q3⟩
theorem mAs.fl (f : am_fk L h h') (m : ∀ k, k ∈ [141] → k ∉ L) (q : mAs h) : mAs h' := by
  obtain ⟨g, q2⟩ := q
  exact ⟨g, by rw [f.2 _ (m _ (by decide))]; exact q2⟩
theorem mWt.fl (f : am_fk L h h') (m : ∀ k, k ∈ [142, 143] → k ∉ L) (q : mWt rc rx rh h) : mWt rc rx rh h' := by
  obtain ⟨q1, q2, q3⟩ := q
  exact ⟨q1, by rw [f.2 _ (m _ (by decide))]; exact q2, by rw [f.2 _ (m _ (by decide))]; exact q3⟩
theorem mSt.fl (f : am_fk L h h') (m : ∀ k, k ∈ [144] → k ∉ L) (q : mSt h) : mSt h' := by
  obtain ⟨g, q2⟩ := q
  exact ⟨g, by rw [f.2 _ (m _ (by decide))]; exact q2⟩
theorem mBk.fl (f : am_fk L h h') (m : ∀ k, k ∈ [145] → k ∉ L) (q : mBk bc bw bs h) : mBk bc bw bs h' := by
  obtain ⟨q1, g, q2, q3⟩ := q
  exact ⟨q1, g, by rw [f.2 _ (m _ (by decide))]; exact q2, q3⟩
theorem mIs.fl (f : am_fk L h h') (m : ∀ k, k ∈ [146, 147, 148] → k ∉ L) (q : mIs P i0 i1 h) : mIs P i0 i1 h' := by
  obtain ⟨g, ls, kp, q1, q2, q3, q4⟩ := q
  exact ⟨g, ls, kp, by rw [f.2 _ (m _ (by decide))]; exact q1, by rw [f.2 _ (m _ (by decide))]; exact q2, by rw [f.2 _ (m _ (by decide))]; exact q3, q4⟩
end MFl
/-- g' is g, but with the note of a scene at b -/
def layP (g g' : Nat → Int32) (b i : Nat) (tr sp fog : Int32) (wh mi fe fl : Nat → Int32) : Prop := g' b = tr ∧ g' (b + 1) = sp ∧ g' (b + 2) = fog ∧ (∀ p, p < i → g' (b + 3 + p) = wh p ∧ g' (b + 11 + p) = mi p ∧ g' (b + 19 + p) = fe p ∧ g' (b + 27 + p) = fl p) ∧ ∀ k, (k < b ∨ b + 36 ≤ k) → g' k = g k
theorem layP_s {g g' : Nat → Int32} {b i : Nat} {tr sp fog : Int32} {wh mi fe fl : Nat → Int32} (hi : i < 8) (q : layP g g' b i tr sp fog wh mi fe fl) : layP g (upd (upd (upd (upd g' (b + 3 + i) (wh i)) (b + 11 + i) (mi i)) (b + 19 + i) (fe i)) (b + 27 + i) (fl i)) b (i + 1) tr sp fog wh mi fe fl := by
  obtain ⟨q1, q2, q3, q4, q5⟩ := q
  refine ⟨?_, ?_, ?_, fun p hp => ?_, fun k hk => ?_⟩
  · rw [pk_un (by omega), pk_un (by omega), pk_un (by omega), pk_un (by omega)]; exact q1
  · rw [pk_un (by omega), pk_un (by omega), pk_un (by omega), pk_un (by omega)]; exact q2
  · rw [pk_un (by omega), pk_un (by omega), pk_un (by omega), pk_un (by omega)]; exact q3
  · rcases Nat.lt_or_ge p i with w | w
    · obtain ⟨r1, r2, r3, r4⟩ := q4 p w
      refine ⟨?_, ?_, ?_, ?_⟩
      · rw [pk_un (by omega), pk_un (by omega), pk_un (by omega), pk_un (by omega)]; exact r1
      · rw [pk_un (by omega), pk_un (by omega), pk_un (by omega), pk_un (by omega)]; exact r2
      · rw [pk_un (by omega), pk_un (by omega), pk_un (by omega), pk_un (by omega)]; exact r3
      · rw [pk_un (by omega), pk_un (by omega), pk_un (by omega), pk_un (by omega)]; exact r4
    · rw [show p = i by omega]
      refine ⟨?_, ?_, ?_, ?_⟩
      · rw [pk_un (by omega), pk_un (by omega), pk_un (by omega), pk_us]
      · rw [pk_un (by omega), pk_un (by omega), pk_us]
      · rw [pk_un (by omega), pk_us]
      · rw [pk_us]
  · rw [pk_un (by omega), pk_un (by omega), pk_un (by omega), pk_un (by omega)]; exact q5 k hk
theorem i11 : (11 : Int32) = nI 11 := by decide
theorem i19 : (19 : Int32) = nI 19 := by decide
theorem i27 : (27 : Int32) = nI 27 := by decide
theorem i36 : (36 : Int32) = nI 36 := by decide
theorem i1044 : (1044 : Int32) = nI 1044 := by decide
section MNote
variable {h : am_H} {fed fa ra rf rn rm N G fog P tr sp dm um sm em : Int32} {sd : Int64} {wh mi fe fl g : Nat → Int32}
set_option maxHeartbeats 1000000 in
theorem w_laysBy {a b L : Nat} {x0 : Int32} (ha : a = 140 ∨ a = 141 ∨ a = 146) (hx : x0 = nI b) (hb : b + 36 ≤ L) (hL : L < 2000) (hm : h.1 130 = mO fed fa ra rf rn rm N G fog P tr sp dm sd um sm em) (h4 : h.1 134 = iar wh) (h7 : h.1 137 = iar mi) (h8 : h.1 138 = iar fe) (h9 : h.1 139 = iar fl) (hg : h.1 a = .inl (.int, L, .inl g)) : am_T M_Mo_laysBy [.ref 130, .ref a, .int x0] h (fun r h' => r = none ∧ ∃ g', h' = am_set h a (.inl (.int, L, .inl g')) ∧ layP g g' b 8 tr sp fog wh mi fe fl) := by
  subst hx
  (try unfold am_E); unfold am_T
  repeat (first | refine rs [21] rfl rfl rfl rfl ?_ | refine rk rfl rfl ?_ | refine rgoh [21] rfl rfl ?_ | refine rgeta (hi := rfl) (kk := ?_) | refine rialda (hi := rfl) (kk := ?_))
  refine riasta (hi := rfl) (hc := hg) (hik := rfl) (hn := by omega) (kk := ?_)
  repeat (first | refine rs [21] rfl rfl rfl rfl ?_ | refine rk rfl rfl ?_ | refine rgoh [21] rfl rfl ?_ | refine rgeta (hi := rfl) (kk := ?_) | refine rialda (hi := rfl) (kk := ?_))
  refine riasta (hi := rfl) (hc := am_set_eq) (hik := show nI b + 1 = nI (b + 1) from nI_1 b) (hn := by omega) (kk := ?_)
  repeat (first | refine rs [21] rfl rfl rfl rfl ?_ | refine rk rfl rfl ?_ | refine rgoh [21] rfl rfl ?_ | refine rgeta (hi := rfl) (kk := ?_) | refine rialda (hi := rfl) (kk := ?_))
  refine riasta (hi := rfl) (hc := am_set_eq) (hik := show nI b + 2 = nI (b + 2) by rw [i2, nI_add]) (hn := by omega) (kk := ?_)
  repeat (first | refine rs [21] rfl rfl rfl rfl ?_ | refine rk rfl rfl ?_ | refine rgoh [21] rfl rfl ?_ | refine rgeta (hi := rfl) (kk := ?_) | refine rialda (hi := rfl) (kk := ?_))
  rw [am_set_set, am_set_set]
  refine lup (P := fun i => ∀ x g', x = nI i → layP g g' b i tr sp fog wh mi fe fl → am_R M_Mo_laysBy (21, [.ref 130, .ref a, .int (nI b), .int x], []) (am_set h a (.inl (.int, L, .inl g'))) _) 8 ?_ ?_ 0 _ nI_0.symm ?_
  · rintro x g' rfl hv
    repeat (first | refine rs [] rfl rfl rfl rfl ?_ | refine rk rfl rfl ?_ | refine rgoh [] rfl rfl ?_ | refine rgeta (hi := rfl) (kk := ?_) | refine rialda (hi := rfl) (kk := ?_))
    (first | refine rift rfl rfl ?_ | refine riff rfl rfl ?_ | refine rict rfl rfl ?_ | refine ricf rfl rfl ?_)
    refine rret rfl rfl ?_
    exact ⟨rfl, g', rfl, hv⟩
  · rintro i hi ih x g' rfl hv
    repeat (first | refine rs [] rfl rfl rfl rfl ?_ | refine rk rfl rfl ?_ | refine rgoh [] rfl rfl ?_ | refine rgeta (hi := rfl) (kk := ?_) | refine rialda (hi := rfl) (kk := ?_))
    (first | refine rif rfl rfl (fun c1 => ?_) (fun c1 => ?_) | refine ric rfl rfl (fun c1 => ?_) (fun c1 => ?_))
    · exact absurd hi ((nI_lt_iff (by omega) (by omega)).mp c1)
    · repeat (first | refine rs [] rfl rfl rfl rfl ?_ | refine rk rfl rfl ?_ | refine rgoh [] rfl rfl ?_ | refine rgeta (hi := rfl) (kk := ?_) | refine rialda (hi := rfl) (kk := ?_))
      refine riasta (hi := rfl) (hc := am_set_eq) (hik := show nI b + 3 + nI i = nI (b + 3 + i) by rw [i3, nI_add, nI_add]) (hn := by omega) (kk := ?_)
      rw [am_set_set]
      repeat (first | refine rs [] rfl rfl rfl rfl ?_ | refine rk rfl rfl ?_ | refine rgoh [] rfl rfl ?_ | refine rgeta (hi := rfl) (kk := ?_) | refine rialda (hi := rfl) (kk := ?_))
      refine riasta (hi := rfl) (hc := am_set_eq) (hik := show nI b + 11 + nI i = nI (b + 11 + i) by rw [i11, nI_add, nI_add]) (hn := by omega) (kk := ?_)
      rw [am_set_set]
      repeat (first | refine rs [] rfl rfl rfl rfl ?_ | refine rk rfl rfl ?_ | refine rgoh [] rfl rfl ?_ | refine rgeta (hi := rfl) (kk := ?_) | refine rialda (hi := rfl) (kk := ?_))
      refine riasta (hi := rfl) (hc := am_set_eq) (hik := show nI b + 19 + nI i = nI (b + 19 + i) by rw [i19, nI_add, nI_add]) (hn := by omega) (kk := ?_)
      rw [am_set_set]
      repeat (first | refine rs [] rfl rfl rfl rfl ?_ | refine rk rfl rfl ?_ | refine rgoh [] rfl rfl ?_ | refine rgeta (hi := rfl) (kk := ?_) | refine rialda (hi := rfl) (kk := ?_))
      refine riasta (hi := rfl) (hc := am_set_eq) (hik := show nI b + 27 + nI i = nI (b + 27 + i) by rw [i27, nI_add, nI_add]) (hn := by omega) (kk := ?_)
      rw [am_set_set]
      repeat (first | refine rs [21] rfl rfl rfl rfl ?_ | refine rk rfl rfl ?_ | refine rgoh [21] rfl rfl ?_ | refine rgeta (hi := rfl) (kk := ?_) | refine rialda (hi := rfl) (kk := ?_))
      exact ih _ _ (nI_succ i).symm (layP_s hi hv)
  · refine ⟨?_, ?_, ?_, fun p hp => by omega, fun k hk => ?_⟩
    · rw [pk_un (by omega), pk_un (by omega), pk_us]
    · rw [pk_un (by omega), pk_us]
    · rw [pk_us]
    · rw [pk_un (by omega), pk_un (by omega), pk_un (by omega)]
/-- what reading a note leaves -/
def redP (g : Nat → Int32) (b i : Nat) (h h' : am_H) : Prop := am_fk [130, 134, 137, 138, 139] h h' ∧ ∃ wh mi fe fl, h'.1 134 = iar wh ∧ h'.1 137 = iar mi ∧ h'.1 138 = iar fe ∧ h'.1 139 = iar fl ∧ ∀ p, p < i → wh p = g (b + 3 + p) ∧ mi p = g (b + 11 + p) ∧ fe p = g (b + 19 + p) ∧ fl p = g (b + 27 + p)
set_option maxHeartbeats 1000000 in
theorem w_read {a b L : Nat} {x0 : Int32} (ha : a = 140 ∨ a = 141 ∨ a = 146) (hx : x0 = nI b) (hb : b + 36 ≤ L) (hL : L < 2000) (hm : h.1 130 = mO fed fa ra rf rn rm N G fog P tr sp dm sd um sm em) (h4 : h.1 134 = iar wh) (h7 : h.1 137 = iar mi) (h8 : h.1 138 = iar fe) (h9 : h.1 139 = iar fl) (hg : h.1 a = .inl (.int, L, .inl g)) : am_T M_Mo_read [.ref 130, .ref a, .int x0] h (fun r h' => r = none ∧ redP g b 8 h h' ∧ h'.1 130 = mO fed fa ra rf rn rm N G (g (b + 2)) P (g b) (g (b + 1)) dm sd um sm em) := by
  subst hx
  have an : a ≠ 130 ∧ a ≠ 134 ∧ a ≠ 137 ∧ a ≠ 138 ∧ a ≠ 139 := by omega
  (try unfold am_E); unfold am_T
  repeat (first | refine rs [21] rfl rfl rfl rfl ?_ | refine rk rfl rfl ?_ | refine rgoh [21] rfl rfl ?_ | refine rgeta (hi := rfl) (kk := ?_) | refine rialda (hi := rfl) (kk := ?_))
  refine rputa (hi := rfl) (hc := hm) (kk := ?_)
  repeat (first | refine rs [21] rfl rfl rfl rfl ?_ | refine rk rfl rfl ?_ | refine rgoh [21] rfl rfl ?_ | refine rgeta (hi := rfl) (kk := ?_) | refine rialda (hi := rfl) (kk := ?_))
  refine rialda (hi := rfl) (hc := by rw [am_set_ne an.1]; exact hg) (hik := show nI b + 1 = nI (b + 1) from nI_1 b) (hn := by omega) (kk := ?_)
  refine rputa (hi := rfl) (hc := am_set_eq) (kk := ?_)
  rw [am_set_set]
  repeat (first | refine rs [21] rfl rfl rfl rfl ?_ | refine rk rfl rfl ?_ | refine rgoh [21] rfl rfl ?_ | refine rgeta (hi := rfl) (kk := ?_) | refine rialda (hi := rfl) (kk := ?_))
  refine rialda (hi := rfl) (hc := by rw [am_set_ne an.1]; exact hg) (hik := show nI b + 2 = nI (b + 2) by rw [i2, nI_add]) (hn := by omega) (kk := ?_)
  refine rputa (hi := rfl) (hc := am_set_eq) (kk := ?_)
  rw [am_set_set]
  repeat (first | refine rs [21] rfl rfl rfl rfl ?_ | refine rk rfl rfl ?_ | refine rgoh [21] rfl rfl ?_ | refine rgeta (hi := rfl) (kk := ?_) | refine rialda (hi := rfl) (kk := ?_))
  generalize eh1 : am_set h 130 _ = h1
  have e1 : h1.1 130 = mO fed fa ra rf rn rm N G (g (b + 2)) P (g b) (g (b + 1)) dm sd um sm em := by rw [← eh1]; exact am_set_eq
  have e2 : redP g b 0 h h1 := by
    rw [← eh1]
    exact ⟨fl_set fl_rf (by decide), wh, mi, fe, fl, by rw [am_set_ne (by omega)]; exact h4, by rw [am_set_ne (by omega)]; exact h7, by rw [am_set_ne (by omega)]; exact h8, by rw [am_set_ne (by omega)]; exact h9, fun p hp => by omega⟩
  clear eh1
  refine lup (P := fun i => ∀ x h1, x = nI i → redP g b i h h1 → h1.1 130 = mO fed fa ra rf rn rm N G (g (b + 2)) P (g b) (g (b + 1)) dm sd um sm em → am_R M_Mo_read (21, [.ref 130, .ref a, .int (nI b), .int x], []) h1 _) 8 ?_ ?_ 0 h1 nI_0.symm e2 e1
  · rintro x h1 rfl hv hm
    repeat (first | refine rs [] rfl rfl rfl rfl ?_ | refine rk rfl rfl ?_ | refine rgoh [] rfl rfl ?_ | refine rgeta (hi := rfl) (kk := ?_) | refine rialda (hi := rfl) (kk := ?_))
    (first | refine rift rfl rfl ?_ | refine riff rfl rfl ?_ | refine rict rfl rfl ?_ | refine ricf rfl rfl ?_)
    refine rret rfl rfl ?_
    exact ⟨rfl, hv, hm⟩
  · rintro i hi ih x h1 rfl ⟨f1, wh, mi, fe, fl, h4, h7, h8, h9, hv⟩ hm
    have hg : h1.1 a = .inl (.int, L, .inl g) := by rw [f1.2 a (by rcases ha with e | e | e <;> rw [e] <;> decide)]; exact hg
    repeat (first | refine rs [] rfl rfl rfl rfl ?_ | refine rk rfl rfl ?_ | refine rgoh [] rfl rfl ?_ | refine rgeta (hi := rfl) (kk := ?_) | refine rialda (hi := rfl) (kk := ?_))
    (first | refine rif rfl rfl (fun c1 => ?_) (fun c1 => ?_) | refine ric rfl rfl (fun c1 => ?_) (fun c1 => ?_))
    · exact absurd hi ((nI_lt_iff (by omega) (by omega)).mp c1)
    · repeat (first | refine rs [] rfl rfl rfl rfl ?_ | refine rk rfl rfl ?_ | refine rgoh [] rfl rfl ?_ | refine rgeta (hi := rfl) (kk := ?_) | refine rialda (hi := rfl) (kk := ?_))
      refine rialda (hi := rfl) (hc := hg) (hik := show nI b + 3 + nI i = nI (b + 3 + i) by rw [i3, nI_add, nI_add]) (hn := by omega) (kk := ?_)
      refine riasta (hi := rfl) (kk := ?_)
      repeat (first | refine rs [] rfl rfl rfl rfl ?_ | refine rk rfl rfl ?_ | refine rgoh [] rfl rfl ?_ | refine rgeta (hi := rfl) (kk := ?_) | refine rialda (hi := rfl) (kk := ?_))
      refine rialda (hi := rfl) (hc := by rw [am_set_ne (by omega)]; exact hg) (hik := show nI b + 11 + nI i = nI (b + 11 + i) by rw [i11, nI_add, nI_add]) (hn := by omega) (kk := ?_)
      refine riasta (hi := rfl) (kk := ?_)
      repeat (first | refine rs [] rfl rfl rfl rfl ?_ | refine rk rfl rfl ?_ | refine rgoh [] rfl rfl ?_ | refine rgeta (hi := rfl) (kk := ?_) | refine rialda (hi := rfl) (kk := ?_))
      refine rialda (hi := rfl) (hc := by rw [am_set_ne (by omega), am_set_ne (by omega)]; exact hg) (hik := show nI b + 19 + nI i = nI (b + 19 + i) by rw [i19, nI_add, nI_add]) (hn := by omega) (kk := ?_)
      refine riasta (hi := rfl) (kk := ?_)
      repeat (first | refine rs [] rfl rfl rfl rfl ?_ | refine rk rfl rfl ?_ | refine rgoh [] rfl rfl ?_ | refine rgeta (hi := rfl) (kk := ?_) | refine rialda (hi := rfl) (kk := ?_))
      refine rialda (hi := rfl) (hc := by rw [am_set_ne (by omega), am_set_ne (by omega), am_set_ne (by omega)]; exact hg) (hik := show nI b + 27 + nI i = nI (b + 27 + i) by rw [i27, nI_add, nI_add]) (hn := by omega) (kk := ?_)
      refine riasta (hi := rfl) (kk := ?_)
      repeat (first | refine rs [21] rfl rfl rfl rfl ?_ | refine rk rfl rfl ?_ | refine rgoh [21] rfl rfl ?_ | refine rgeta (hi := rfl) (kk := ?_) | refine rialda (hi := rfl) (kk := ?_))
      refine ih _ _ (nI_succ i).symm ⟨fl_set (fl_set (fl_set (fl_set f1 (by decide)) (by decide)) (by decide)) (by decide), upd wh i (g (b + 3 + i)), upd mi i (g (b + 11 + i)), upd fe i (g (b + 19 + i)), upd fl i (g (b + 27 + i)), ?_, ?_, ?_, ?_, fun p hp => ?_⟩ ?_
      · simp (disch := omega) only [am_set_ne, am_set_eq]
      · simp (disch := omega) only [am_set_ne, am_set_eq]
      · simp (disch := omega) only [am_set_ne, am_set_eq]
      · simp (disch := omega) only [am_set_ne, am_set_eq]
      · rcases Nat.lt_or_ge p i with w | w
        · obtain ⟨r1, r2, r3, r4⟩ := hv p w
          rw [pk_un (by omega), pk_un (by omega), pk_un (by omega), pk_un (by omega)]
          exact ⟨r1, r2, r3, r4⟩
        · rw [show p = i by omega, pk_us, pk_us, pk_us, pk_us]
          exact ⟨rfl, rfl, rfl, rfl⟩
      · simp (disch := omega) only [am_set_ne, am_set_eq]
        exact hm
end MNote
