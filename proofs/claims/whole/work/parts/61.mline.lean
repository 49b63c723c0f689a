/-! the model's call line -/
def okP (N : Int32) (p : Nat) (z : Pn) : Prop := (¬ z.1 < 0 ∧ ¬ N - 1 < z.1) ∧ (z.2.2.1 = -1 ∨ (¬ z.2.2.1 < 0 ∧ z.2.2.1 < nI p)) ∧ (¬ z.2.2.2.2 < 0 ∧ ¬ 3 < z.2.2.2.2)
section PsOk
variable {len : Nat} {tx : Nat → Int32} {N : Int32}
theorem tlS_ok : ∀ (f i : Nat) (ps : List Pn) {ps' : List Pn}, i ≤ len → (∀ p z, ps[p]? = some z → okP N p z) → tlS len tx N f i ps = .inr ps' → ∀ p z, ps'[p]? = some z → okP N p z
  | 0, i, ps, ps', _, h, e => by
    cases e
    exact h
  | f + 1, i, ps, ps', hi, h, e => by
    unfold tlS at e
    split at e
    · rename_i c0
      split at e
      · cases e
      · split at e
        · split at e
          · cases e
          · rename_i q eq
            obtain ⟨a1, a2, a3, a4, a5, a6⟩ := psS_pos (by omega) eq
            refine tlS_ok f _ _ (sk_le a2).2 ?_ e
            intro p z hp
            rcases Nat.lt_or_ge p ps.length with w | w
            · rw [List.getElem?_append_left w] at hp
              exact h p z hp
            · rw [List.getElem?_append_right w] at hp
              have h0 : p - ps.length < 1 := (List.getElem?_eq_some_iff.mp hp).1
              rw [show p - ps.length = 0 by omega] at hp
              cases hp
              rw [show p = ps.length by omega]
              exact ⟨a3, a5, a6⟩
        · cases e
    · cases e
      exact h
theorem prS_ok {q : Int32 × Int32 × Int32 × List Pn} (e : prS len tx = .inr q) : ∀ p z, q.2.2.2[p]? = some z → okP q.1 p z := by
  unfold prS at e
  split at e
  · rename_i c
    split at e
    · split at e
      · cases e
      · rename_i q1 e1
        have p1 := stS_pos (by omega) e1
        split at e
        · cases e
        · rename_i ps e2
          cases e
          exact tlS_ok 200 _ [] (sk_le p1.2.1).2 (fun p z hz => by simp at hz) e2
    · cases e
  · cases e
    intro p z hz
    simp at hz
end PsOk
theorem ridiv {M : am_M} {j : Nat} {ls st : List Value} {h : am_H} {Φ : Option Value → am_H → Prop} {z : Nat × Nat × Nat × Value × List (Int32 × Nat)} {x y : Int32} (hi : am_ins M j = (.idiv, z)) (hne : ¬ y = 0) (kk : am_R M (j + 1, ls, .int (x / y) :: st) h Φ) : am_R M (j, ls, .int y :: .int x :: st) h Φ := by
  refine am_R_step (by rw [hi]; rfl) ?_ kk
  rw [hi]
  simp only [am_step, am_i2]
  rw [if_neg hne]
theorem fl4 {x : Int32} (h0 : ¬ x < 0) (h3 : ¬ 3 < x) : x - x / 2 * 2 = bitv x 0 ∧ x / 2 = bitv x 1 := by
  obtain ⟨k, hk, rfl⟩ := nI_of h0
  have k3 : k < 4 := by
    rcases Nat.lt_or_ge k 4 with a | a
    · exact a
    · exact absurd (nI_lt (a := 3) (b := k) (by omega) hk) h3
  exact (by decide +kernel : ∀ k, k < 4 → nI k - nI k / 2 * 2 = bitv (nI k) 0 ∧ nI k / 2 = bitv (nI k) 1) k k3
section MLine
variable {h : am_H} {len N P rc bc : Nat} {fa G sd : Int32} {tx wa me rx rh bw bs : Nat → Int32} {S S' : Sc} {dd dd' : List Sc} {i0 i1 : Im}
set_option maxHeartbeats 2000000 in
theorem w_lineG {n : Nat} {G1 F1 ra rf rn rm tr sp dm um sm em : Int32} {ps : List Pn} {v1 v2 : Int32} {gb a4 a5 a6 a7 a8 a9 ka : Nat → Int32} (hn : n ≤ 8) (hps : ps.length ≤ 8) (hok : ∀ (p : Nat) (z : Pn), ps[p]? = some z → ¬ z.2.2.2.2 < 0 ∧ ¬ 3 < z.2.2.2.2) (hq : lsP gb ps) (hm : h.1 130 = mO 0 (-1) ra rf rn rm (nI n) G1 F1 (nI ps.length) tr sp dm sd.toInt64 um sm em) (c1 : h.1 131 = .inl (.int, 200, .inl tx)) (c2 : ∃ g, h.1 132 = .inl (.int, 3, .inl g)) (c3 : h.1 133 = .inl (.int, 40, .inl gb)) (c4 : h.1 134 = iar a4) (c5 : h.1 135 = iar a5) (c6 : h.1 136 = iar a6) (c7 : h.1 137 = iar a7) (c8 : h.1 138 = iar a8) (c9 : h.1 139 = iar a9) (d0 : ∃ g, h.1 140 = .inl (.int, 1080, .inl g)) (x7 : mAs h) (d2 : h.1 142 = iar rx) (d3 : h.1 143 = iar rh) (x9 : mSt h) (d5 : ∃ g, h.1 145 = .inl (.int, 40, .inl g)) (d6 : ∃ g, h.1 146 = .inl (.int, 72, .inl g)) (d7 : ∃ ls, h.1 147 = .inl (.long, 2, .inr (.inl ls))) (d8 : h.1 148 = .inl (.int, 2, .inl ka)) : am_R M_Mo_line (80, [.ref 130, .int v1, .int v2, .int 0], []) h (fun r h' => r = some (.int (nI ps.length)) ∧ mRep ⟨⟨0, tx⟩, -1, ⟨n, ps.length, G1, fun p => (ps.getD p pnD).2.1, fun p => (ps.getD p pnD).2.2.1⟩, scP F1 ps, [], ⟨0, rx, rh⟩, ⟨0, bw, bs⟩, sd, none, none⟩ h' ∧ am_fr 130 149 h h') := by
  refine lup (P := fun i => ∀ x h1 a4 a5 a6 a7 a8 a9, x = nI i → h1.1 134 = iar a4 → h1.1 135 = iar a5 → h1.1 136 = iar a6 → h1.1 137 = iar a7 → h1.1 138 = iar a8 → h1.1 139 = iar a9 → (∀ p, p < i → a4 p = (ps.getD p pnD).1 ∧ a5 p = (ps.getD p pnD).2.1 ∧ a6 p = (ps.getD p pnD).2.2.1 ∧ a7 p = (ps.getD p pnD).2.2.2.1 ∧ a8 p = bitv (ps.getD p pnD).2.2.2.2 0 ∧ a9 p = bitv (ps.getD p pnD).2.2.2.2 1) → am_fk [134, 135, 136, 137, 138, 139] h h1 → am_R M_Mo_line (80, [.ref 130, .int v1, .int v2, .int x], []) h1 _) ps.length ?_ ?_ 0 h a4 a5 a6 a7 a8 a9 nI_0.symm c4 c5 c6 c7 c8 c9 (fun p hp => by omega) fl_rf
  · rintro x h1 a4 a5 a6 a7 a8 a9 rfl c4 c5 c6 c7 c8 c9 hv f
    have hm1 : h1.1 130 = mO 0 (-1) ra rf rn rm (nI n) G1 F1 (nI ps.length) tr sp dm sd.toInt64 um sm em := (f.2 _ (by decide)).trans hm
    have d81 : h1.1 148 = .inl (.int, 2, .inl ka) := (f.2 _ (by decide)).trans d8
    repeat (first | refine rs [] rfl rfl rfl rfl ?_ | refine rk rfl rfl ?_ | refine rgoh [] rfl rfl ?_ | refine rgeta (hi := rfl) (kk := ?_) | refine rialda (hi := rfl) (kk := ?_))
    (first | refine rif rfl rfl (fun b1 => ?_) (fun b1 => ?_) | refine ric rfl rfl (fun b1 => ?_) (fun b1 => ?_))
    · repeat (first | refine rs [] rfl rfl rfl rfl ?_ | refine rk rfl rfl ?_ | refine rgoh [] rfl rfl ?_ | refine rgeta (hi := rfl) (kk := ?_) | refine rialda (hi := rfl) (kk := ?_))
      refine rputa (hi := rfl) (kk := ?_)
      repeat (first | refine rs [] rfl rfl rfl rfl ?_ | refine rk rfl rfl ?_ | refine rgoh [] rfl rfl ?_ | refine rgeta (hi := rfl) (kk := ?_) | refine rialda (hi := rfl) (kk := ?_))
      simp only [am_set_set]
      refine riasta (hi := rfl) (hc := (am_set_ne (by omega)).trans d81) (hik := nI_0.symm) (kk := ?_)
      repeat (first | refine rs [184] rfl rfl rfl rfl ?_ | refine rk rfl rfl ?_ | refine rgoh [184] rfl rfl ?_ | refine rgeta (hi := rfl) (kk := ?_) | refine rialda (hi := rfl) (kk := ?_))
      refine riasta (hi := rfl) (hc := am_set_eq) (hik := show (1 : Int32) = nI 1 by decide) (kk := ?_)
      rw [am_set_set]
      repeat (first | refine rs [] rfl rfl rfl rfl ?_ | refine rk rfl rfl ?_ | refine rgoh [] rfl rfl ?_ | refine rgeta (hi := rfl) (kk := ?_) | refine rialda (hi := rfl) (kk := ?_))
      refine rret rfl rfl ?_
      have F1' : am_fk [130, 148] h1 (am_set (am_set h1 130 (mO 0 (-1) ra rf rn rm (nI n) G1 F1 (nI ps.length) 0 0 0 sd.toInt64 0 sm 0)) 148 (.inl (.int, 2, .inl (upd (upd ka 0 0) 1 0)))) := fl_set (fl_set fl_rf (by decide)) (by decide)
      have F : am_fk [130, 134, 135, 136, 137, 138, 139, 148] h (am_set (am_set h1 130 (mO 0 (-1) ra rf rn rm (nI n) G1 F1 (nI ps.length) 0 0 0 sd.toInt64 0 sm 0)) 148 (.inl (.int, 2, .inl (upd (upd ka 0 0) 1 0)))) := fl_tr (fl_wd f (by decide)) F1' (by decide)
      obtain ⟨ga, d0⟩ := d0
      obtain ⟨g5, d5⟩ := d5
      obtain ⟨g6, d6⟩ := d6
      obtain ⟨g7, d7⟩ := d7
      obtain ⟨g2, c2⟩ := c2
      refine ⟨rfl, ⟨ra, rf, rn, rm, sm, (am_set_ne (by omega)).trans am_set_eq, ⟨by omega, (F.2 _ (by decide)).trans c1⟩, ⟨⟨g2, (F.2 _ (by decide)).trans c2⟩, gb, (F.2 _ (by decide)).trans c3⟩, ⟨hn, hps, a5, a6, (F1'.2 _ (by decide)).trans c5, (F1'.2 _ (by decide)).trans c6, fun p hp => (hv p hp).2.1, fun p hp => (hv p hp).2.2.1⟩, ⟨a4, a7, a8, a9, (F1'.2 _ (by decide)).trans c4, (F1'.2 _ (by decide)).trans c7, (F1'.2 _ (by decide)).trans c8, (F1'.2 _ (by decide)).trans c9, fun p hp => ⟨(hv p hp).1, (hv p hp).2.2.2.1, (hv p hp).2.2.2.2.1, (hv p hp).2.2.2.2.2⟩⟩, ⟨by simp, ga, (F.2 _ (by decide)).trans d0, fun j S' hj => by simp at hj⟩, x7.fl F (by decide), ⟨by omega, (F.2 _ (by decide)).trans d2, (F.2 _ (by decide)).trans d3⟩, x9.fl F (by decide), ⟨by omega, g5, (F.2 _ (by decide)).trans d5, fun i hi => by omega⟩, ⟨g6, g7, upd (upd ka 0 0) 1 0, (F.2 _ (by decide)).trans d6, (F.2 _ (by decide)).trans d7, am_set_eq, ?_, ?_⟩⟩, fl_fr F (by decide)⟩
      · show upd (upd ka 0 0) 1 0 0 = 0
        rw [pk_un (by omega), pk_us]
      · show upd (upd ka 0 0) 1 0 1 = 0
        rw [pk_us]
    · exact absurd (Int32.le_refl _) b1
  · rintro i hi ih x h1 a4 a5 a6 a7 a8 a9 rfl c4 c5 c6 c7 c8 c9 hv f
    have hm1 : h1.1 130 = mO 0 (-1) ra rf rn rm (nI n) G1 F1 (nI ps.length) tr sp dm sd.toInt64 um sm em := (f.2 _ (by decide)).trans hm
    have c31 : h1.1 133 = .inl (.int, 40, .inl gb) := (f.2 _ (by decide)).trans c3
    have hz := getD_at hi
    obtain ⟨q1, q2, q3, q4, q5⟩ := hq i _ hz
    obtain ⟨o1, o2⟩ := hok i _ hz
    obtain ⟨o3, o4⟩ := fl4 o1 o2
    generalize ez : ps.getD i pnD = zz at hz q1 q2 q3 q4 q5 o1 o2 o3 o4
    repeat (first | refine rs [] rfl rfl rfl rfl ?_ | refine rk rfl rfl ?_ | refine rgoh [] rfl rfl ?_ | refine rgeta (hi := rfl) (kk := ?_) | refine rialda (hi := rfl) (kk := ?_))
    (first | refine rif rfl rfl (fun b1 => ?_) (fun b1 => ?_) | refine ric rfl rfl (fun b1 => ?_) (fun b1 => ?_))
    · exact absurd hi ((nI_lt_iff (by omega) (by omega)).mp b1)
    · repeat (first | refine rs [] rfl rfl rfl rfl ?_ | refine rk rfl rfl ?_ | refine rgoh [] rfl rfl ?_ | refine rgeta (hi := rfl) (kk := ?_) | refine rialda (hi := rfl) (kk := ?_))
      refine rialda (hi := rfl) (hik := show 5 * nI i = nI (5 * i) by rw [i5, nI_mul]) (kk := ?_)
      refine riasta (hi := rfl) (kk := ?_)
      repeat (first | refine rs [] rfl rfl rfl rfl ?_ | refine rk rfl rfl ?_ | refine rgoh [] rfl rfl ?_ | refine rgeta (hi := rfl) (kk := ?_) | refine rialda (hi := rfl) (kk := ?_))
      refine rialda (hi := rfl) (hik := show 5 * nI i + 1 = nI (5 * i + 1) by rw [i5, nI_mul, nI_1]) (kk := ?_)
      refine riasta (hi := rfl) (kk := ?_)
      repeat (first | refine rs [] rfl rfl rfl rfl ?_ | refine rk rfl rfl ?_ | refine rgoh [] rfl rfl ?_ | refine rgeta (hi := rfl) (kk := ?_) | refine rialda (hi := rfl) (kk := ?_))
      refine rialda (hi := rfl) (hik := show 5 * nI i + 2 = nI (5 * i + 2) by rw [i5, nI_mul, i2, nI_add]) (kk := ?_)
      refine riasta (hi := rfl) (kk := ?_)
      repeat (first | refine rs [] rfl rfl rfl rfl ?_ | refine rk rfl rfl ?_ | refine rgoh [] rfl rfl ?_ | refine rgeta (hi := rfl) (kk := ?_) | refine rialda (hi := rfl) (kk := ?_))
      refine rialda (hi := rfl) (hik := show 5 * nI i + 3 = nI (5 * i + 3) by rw [i5, nI_mul, i3, nI_add]) (kk := ?_)
      refine riasta (hi := rfl) (kk := ?_)
      repeat (first | refine rs [] rfl rfl rfl rfl ?_ | refine rk rfl rfl ?_ | refine rgoh [] rfl rfl ?_ | refine rgeta (hi := rfl) (kk := ?_) | refine rialda (hi := rfl) (kk := ?_))
      refine rialda (hi := rfl) (hik := show 5 * nI i + 4 = nI (5 * i + 4) by rw [i5, nI_mul, i4, nI_add]) (kk := ?_)
      refine rk rfl rfl ?_
      refine rirem rfl (by decide) ?_
      refine riasta (hi := rfl) (kk := ?_)
      repeat (first | refine rs [] rfl rfl rfl rfl ?_ | refine rk rfl rfl ?_ | refine rgoh [] rfl rfl ?_ | refine rgeta (hi := rfl) (kk := ?_) | refine rialda (hi := rfl) (kk := ?_))
      refine rialda (hi := rfl) (hik := show 5 * nI i + 4 = nI (5 * i + 4) by rw [i5, nI_mul, i4, nI_add]) (kk := ?_)
      refine rk rfl rfl ?_
      refine ridiv rfl (by decide) ?_
      refine riasta (hi := rfl) (kk := ?_)
      repeat (first | refine rs [80] rfl rfl rfl rfl ?_ | refine rk rfl rfl ?_ | refine rgoh [80] rfl rfl ?_ | refine rgeta (hi := rfl) (kk := ?_) | refine rialda (hi := rfl) (kk := ?_))
      rw [q1, q2, q3, q4, q5, o3, o4]
      have F : am_fk [134, 135, 136, 137, 138, 139] h (am_set (am_set (am_set (am_set (am_set (am_set h1 134 (iar (upd a4 i zz.1))) 135 (iar (upd a5 i zz.2.1))) 136 (iar (upd a6 i zz.2.2.1))) 137 (iar (upd a7 i zz.2.2.2.1))) 138 (iar (upd a8 i (bitv zz.2.2.2.2 0)))) 139 (iar (upd a9 i (bitv zz.2.2.2.2 1)))) := fl_set (fl_set (fl_set (fl_set (fl_set (fl_set f (by decide)) (by decide)) (by decide)) (by decide)) (by decide)) (by decide)
      refine ih _ _ (upd a4 i zz.1) (upd a5 i zz.2.1) (upd a6 i zz.2.2.1) (upd a7 i zz.2.2.2.1) (upd a8 i (bitv zz.2.2.2.2 0)) (upd a9 i (bitv zz.2.2.2.2 1)) (nI_succ i).symm ?_ ?_ ?_ ?_ ?_ ?_ (fun p hp => ?_) F
      · simp (disch := omega) only [am_set_ne, am_set_eq]
      · simp (disch := omega) only [am_set_ne, am_set_eq]
      · simp (disch := omega) only [am_set_ne, am_set_eq]
      · simp (disch := omega) only [am_set_ne, am_set_eq]
      · simp (disch := omega) only [am_set_ne, am_set_eq]
      · simp (disch := omega) only [am_set_ne, am_set_eq]
      · rcases Nat.lt_or_ge p i with w | w
        · rw [pk_un (by omega), pk_un (by omega), pk_un (by omega), pk_un (by omega), pk_un (by omega), pk_un (by omega)]
          exact hv p w
        · have e : p = i := by omega
          subst e
          rw [pk_us, pk_us, pk_us, pk_us, pk_us, pk_us, ez]
          exact ⟨rfl, rfl, rfl, rfl, rfl, rfl⟩
end MLine
section MLines
variable {h : am_H} {len N P rc bc : Nat} {fa G sd : Int32} {tx wa me rx rh bw bs : Nat → Int32} {S S' : Sc} {dd dd' : List Sc} {i0 i1 : Im}
set_option maxHeartbeats 2000000 in
theorem w_line (R : mRep ⟨⟨len, tx⟩, fa, ⟨N, P, G, wa, me⟩, S, dd, ⟨rc, rx, rh⟩, ⟨bc, bw, bs⟩, sd, i0, i1⟩ h) : am_W M_Mo_line [.ref 130] (o_line ⟨⟨len, tx⟩, fa, ⟨N, P, G, wa, me⟩, S, dd, ⟨rc, rx, rh⟩, ⟨bc, bw, bs⟩, sd, i0, i1⟩) h := by
  obtain ⟨ra, rf, rn, rm, sm, x1, ⟨t1, t2⟩, ⟨⟨ga, r1⟩, gb, r2⟩, ⟨y1, y2, waC, meC, y3, y4, y5, y6⟩, ⟨wh, mi, fe, fl, z1, z2, z3, z4, z5⟩, x6, x7, x8, x9, x10, x11⟩ := R
  unfold am_W o_line
  (try unfold am_E); unfold am_T
  dsimp only
  repeat (first | refine rs [] rfl rfl rfl rfl ?_ | refine rk rfl rfl ?_ | refine rgoh [] rfl rfl ?_ | refine rgeta (hi := rfl) (kk := ?_) | refine rialda (hi := rfl) (kk := ?_))
  refine rputa (hi := rfl) (kk := ?_)
  repeat (first | refine rs [] rfl rfl rfl rfl ?_ | refine rk rfl rfl ?_ | refine rgoh [] rfl rfl ?_ | refine rgeta (hi := rfl) (kk := ?_) | refine rialda (hi := rfl) (kk := ?_))
  have F : am_fk [130, 132, 133] h (am_set h 130 (mO (nI len) fa 0 rf rn rm (nI N) G S.2.2.2.2.1 (nI P) S.2.2.2.2.2.1 S.2.2.2.2.2.2 (nI dd.length) sd.toInt64 (nI rc) sm (nI bc))) := fl_set fl_rf (by decide)
  have hm : (am_set h 130 (mO (nI len) fa 0 rf rn rm (nI N) G S.2.2.2.2.1 (nI P) S.2.2.2.2.2.1 S.2.2.2.2.2.2 (nI dd.length) sd.toInt64 (nI rc) sm (nI bc))).1 130 = mO (nI len) fa (nI 0) rf rn rm (nI N) G S.2.2.2.2.1 (nI P) S.2.2.2.2.2.1 S.2.2.2.2.2.2 (nI dd.length) sd.toInt64 (nI rc) sm (nI bc) := am_set_eq
  (first | refine rcvs rfl rfl rfl rfl rfl (by first | assumption | (simp (disch := omega) only [am_set_ne, am_set_eq]; first | assumption | rfl)) rfl (w_skip t1 (by omega) hm ((am_set_ne (by omega)).trans t2)) ?_ | refine rcvn rfl rfl rfl rfl rfl (by first | assumption | (simp (disch := omega) only [am_set_ne, am_set_eq]; first | assumption | rfl)) rfl (w_skip t1 (by omega) hm ((am_set_ne (by omega)).trans t2)) ?_)
  rw [am_set_set]
  have hsk := sk_le (tx := tx) (i := 0) (len := len) (by omega)
  generalize ej : sk len tx 0 = j at *
  have F : am_fk [130, 132, 133] h (am_set h 130 (mO (nI len) fa (nI j) rf rn rm (nI N) G S.2.2.2.2.1 (nI P) S.2.2.2.2.2.1 S.2.2.2.2.2.2 (nI dd.length) sd.toInt64 (nI rc) sm (nI bc))) := fl_set fl_rf (by decide)
  have hm : (am_set h 130 (mO (nI len) fa (nI j) rf rn rm (nI N) G S.2.2.2.2.1 (nI P) S.2.2.2.2.2.1 S.2.2.2.2.2.2 (nI dd.length) sd.toInt64 (nI rc) sm (nI bc))).1 130 = mO (nI len) fa (nI j) rf rn rm (nI N) G S.2.2.2.2.1 (nI P) S.2.2.2.2.2.1 S.2.2.2.2.2.2 (nI dd.length) sd.toInt64 (nI rc) sm (nI bc) := am_set_eq
  have r1 : (am_set h 130 (mO (nI len) fa (nI j) rf rn rm (nI N) G S.2.2.2.2.1 (nI P) S.2.2.2.2.2.1 S.2.2.2.2.2.2 (nI dd.length) sd.toInt64 (nI rc) sm (nI bc))).1 132 = .inl (.int, 3, .inl ga) := (am_set_ne (by omega)).trans r1
  have r2 : (am_set h 130 (mO (nI len) fa (nI j) rf rn rm (nI N) G S.2.2.2.2.1 (nI P) S.2.2.2.2.2.1 S.2.2.2.2.2.2 (nI dd.length) sd.toInt64 (nI rc) sm (nI bc))).1 133 = .inl (.int, 40, .inl gb) := (am_set_ne (by omega)).trans r2
  have t3 : (am_set h 130 (mO (nI len) fa (nI j) rf rn rm (nI N) G S.2.2.2.2.1 (nI P) S.2.2.2.2.2.1 S.2.2.2.2.2.2 (nI dd.length) sd.toInt64 (nI rc) sm (nI bc))).1 131 = .inl (.int, 200, .inl tx) := (am_set_ne (by omega)).trans t2
  generalize am_set h 130 (mO (nI len) fa (nI j) rf rn rm (nI N) G S.2.2.2.2.1 (nI P) S.2.2.2.2.2.1 S.2.2.2.2.2.2 (nI dd.length) sd.toInt64 (nI rc) sm (nI bc)) = k0 at *
  obtain ⟨u0, gd, u1, -⟩ := id x6
  obtain ⟨-, u2, u3⟩ := id x8
  obtain ⟨-, ge, u4, -⟩ := id x10
  obtain ⟨gi, ls, kp, u5, u6, u7, -, -⟩ := id x11
  have good : ∀ (n : Nat) (G1 F1 ra rf rn rm : Int32) (ps : List Pn) (v1 v2 : Int32) (ga gb : Nat → Int32) (k : am_H), n ≤ 8 → ps.length ≤ 8 → (∀ (p : Nat) (z : Pn), ps[p]? = some z → ¬ z.2.2.2.2 < 0 ∧ ¬ 3 < z.2.2.2.2) → lsP gb ps → am_fk [130, 132, 133] h k → k.1 132 = .inl (.int, 3, .inl ga) → k.1 133 = .inl (.int, 40, .inl gb) → k.1 130 = mO 0 (-1) ra rf rn rm (nI n) G1 F1 (nI ps.length) S.2.2.2.2.2.1 S.2.2.2.2.2.2 (nI dd.length) sd.toInt64 (nI rc) sm (nI bc) → am_R M_Mo_line (80, [.ref 130, .int v1, .int v2, .int 0], []) k (fun r h' => r = some (.int (nI ps.length)) ∧ mRep ⟨⟨0, tx⟩, -1, ⟨n, ps.length, G1, fun p => (ps.getD p pnD).2.1, fun p => (ps.getD p pnD).2.2.1⟩, scP F1 ps, [], ⟨0, rx, rh⟩, ⟨0, bw, bs⟩, sd, none, none⟩ h' ∧ am_fr 130 149 h h') := by
    intro n G1 F1 ra rf rn rm ps v1 v2 ga gb k b1 b2 b3 b4 f b5 b6 b7
    refine am_R.imp (w_lineG (bw := bw) (bs := bs) b1 b2 b3 b4 b7 ((f.2 _ (by decide)).trans t2) ⟨ga, b5⟩ b6 ((f.2 _ (by decide)).trans z1) ((f.2 _ (by decide)).trans y3) ((f.2 _ (by decide)).trans y4) ((f.2 _ (by decide)).trans z2) ((f.2 _ (by decide)).trans z3) ((f.2 _ (by decide)).trans z4) ⟨gd, (f.2 _ (by decide)).trans u1⟩ (x7.fl f (by decide)) ((f.2 _ (by decide)).trans u2) ((f.2 _ (by decide)).trans u3) (x9.fl f (by decide)) ⟨ge, (f.2 _ (by decide)).trans u4⟩ ⟨gi, (f.2 _ (by decide)).trans u5⟩ ⟨ls, (f.2 _ (by decide)).trans u6⟩ ((f.2 _ (by decide)).trans u7)) ?_
    rintro r h' ⟨rfl, a1, a2⟩
    exact ⟨rfl, a1, fr_tr (fl_fr f (by decide)) a2 (by omega) (by omega)⟩
  by_cases e : j < len
  · repeat (first | refine rs [] rfl rfl rfl rfl ?_ | refine rk rfl rfl ?_ | refine rgoh [] rfl rfl ?_ | refine rgeta (hi := rfl) (kk := ?_) | refine rialda (hi := rfl) (kk := ?_))
    (first | refine rif rfl rfl (fun c1 => ?_) (fun c1 => ?_) | refine ric rfl rfl (fun c1 => ?_) (fun c1 => ?_))
    · rw [nI_eq (by omega) (by omega)] at c1
      omega
    · repeat (first | refine rs [] rfl rfl rfl rfl ?_ | refine rk rfl rfl ?_ | refine rgoh [] rfl rfl ?_ | refine rgeta (hi := rfl) (kk := ?_) | refine rialda (hi := rfl) (kk := ?_))
      (first | refine rift rfl rfl ?_ | refine riff rfl rfl ?_ | refine rict rfl rfl ?_ | refine ricf rfl rfl ?_)
      repeat (first | refine rs [] rfl rfl rfl rfl ?_ | refine rk rfl rfl ?_ | refine rgoh [] rfl rfl ?_ | refine rgeta (hi := rfl) (kk := ?_) | refine rialda (hi := rfl) (kk := ?_))
      refine rcvt rfl rfl rfl rfl rfl hm rfl (w_readsLine (by rw [ej]; exact e) t1 hm t3 r1 r2) ?_
      rintro r k1 ⟨f1, ra1, rf1, rn1, rm1, ga1, gb1, s1, s2, s3, s4⟩
      have F1 := fl_tr F f1 (fun _ a => a)
      cases ep : prS len tx with
      | inl z =>
        rw [ep] at s4
        obtain ⟨rfl, rfl, rfl⟩ := s4
        show am_R M_Mo_line (18, [.ref 130, .int 0, _, _], [.int 0]) _ _
        (first | refine rift rfl rfl ?_ | refine riff rfl rfl ?_ | refine rict rfl rfl ?_ | refine ricf rfl rfl ?_)
        repeat (first | refine rs [] rfl rfl rfl rfl ?_ | refine rk rfl rfl ?_ | refine rgoh [] rfl rfl ?_ | refine rgeta (hi := rfl) (kk := ?_) | refine rialda (hi := rfl) (kk := ?_))
        refine rputa (hi := rfl) (kk := ?_)
        repeat (first | refine rs [] rfl rfl rfl rfl ?_ | refine rk rfl rfl ?_ | refine rgoh [] rfl rfl ?_ | refine rgeta (hi := rfl) (kk := ?_) | refine rialda (hi := rfl) (kk := ?_))
        (first | refine rift rfl rfl ?_ | refine riff rfl rfl ?_ | refine rict rfl rfl ?_ | refine ricf rfl rfl ?_)
        repeat (first | refine rs [] rfl rfl rfl rfl ?_ | refine rk rfl rfl ?_ | refine rgoh [] rfl rfl ?_ | refine rgeta (hi := rfl) (kk := ?_) | refine rialda (hi := rfl) (kk := ?_))
        refine rret rfl rfl ?_
        simp only [am_set_set]
        have f : am_fk [130, 132, 133] h (am_set k1 130 (mO 0 (nI z.2) (nI z.2) (nI z.1) rn1 rm1 (nI N) G S.2.2.2.2.1 (nI P) S.2.2.2.2.2.1 S.2.2.2.2.2.2 (nI dd.length) sd.toInt64 (nI rc) sm (nI bc))) := fl_set F1 (by decide)
        refine ⟨trivial, ⟨nI z.2, nI z.1, rn1, rm1, sm, am_set_eq, ⟨by omega, (f.2 _ (by decide)).trans t2⟩, ⟨⟨ga1, (am_set_ne (by omega)).trans s1⟩, gb1, (am_set_ne (by omega)).trans s2⟩, ⟨y1, y2, waC, meC, (f.2 _ (by decide)).trans y3, (f.2 _ (by decide)).trans y4, y5, y6⟩, ⟨wh, mi, fe, fl, (f.2 _ (by decide)).trans z1, (f.2 _ (by decide)).trans z2, (f.2 _ (by decide)).trans z3, (f.2 _ (by decide)).trans z4, z5⟩, x6.fl f (by decide), x7.fl f (by decide), x8.fl f (by decide), x9.fl f (by decide), x10.fl f (by decide), x11.fl f (by decide)⟩, fl_fr f (by decide)⟩
      | inr z =>
        rw [ep] at s4
        obtain ⟨rfl, rfl, ⟨e0, e1, e2⟩, s5⟩ := s4
        obtain ⟨⟨n, en, n8, -, -⟩, hps⟩ := prS_wf ep
        have hok := prS_ok ep
        obtain ⟨q1, q2, q3, ps⟩ := z
        dsimp only at en e0 e1 e2 hps hok s3 s5 ⊢
        subst en
        show am_R M_Mo_line (18, [.ref 130, .int 0, _, _], [.int 1]) _ _
        (first | refine rift rfl rfl ?_ | refine riff rfl rfl ?_ | refine rict rfl rfl ?_ | refine ricf rfl rfl ?_)
        repeat (first | refine rs [] rfl rfl rfl rfl ?_ | refine rk rfl rfl ?_ | refine rgoh [] rfl rfl ?_ | refine rgeta (hi := rfl) (kk := ?_) | refine rialda (hi := rfl) (kk := ?_))
        refine rputa (hi := rfl) (kk := ?_)
        repeat (first | refine rs [] rfl rfl rfl rfl ?_ | refine rk rfl rfl ?_ | refine rgoh [] rfl rfl ?_ | refine rgeta (hi := rfl) (kk := ?_) | refine rialda (hi := rfl) (kk := ?_))
        (first | refine rift rfl rfl ?_ | refine riff rfl rfl ?_ | refine rict rfl rfl ?_ | refine ricf rfl rfl ?_)
        repeat (first | refine rs [] rfl rfl rfl rfl ?_ | refine rk rfl rfl ?_ | refine rgoh [] rfl rfl ?_ | refine rgeta (hi := rfl) (kk := ?_) | refine rialda (hi := rfl) (kk := ?_))
        (first | refine rift rfl rfl ?_ | refine riff rfl rfl ?_ | refine rict rfl rfl ?_ | refine ricf rfl rfl ?_)
        repeat (first | refine rs [] rfl rfl rfl rfl ?_ | refine rk rfl rfl ?_ | refine rgoh [] rfl rfl ?_ | refine rgeta (hi := rfl) (kk := ?_) | refine rialda (hi := rfl) (kk := ?_))
        refine rialda (hi := rfl) (hc := (by simp only [am_set_set]; exact (am_set_ne (by omega)).trans s1)) (hik := nI_0.symm) (kk := ?_)
        rw [e0]
        repeat (first | refine rs [] rfl rfl rfl rfl ?_ | refine rk rfl rfl ?_ | refine rgoh [] rfl rfl ?_ | refine rgeta (hi := rfl) (kk := ?_) | refine rialda (hi := rfl) (kk := ?_))
        (first | refine rift rfl rfl ?_ | refine riff rfl rfl ?_ | refine rict rfl rfl ?_ | refine ricf rfl rfl ?_)
        repeat (first | refine rs [] rfl rfl rfl rfl ?_ | refine rk rfl rfl ?_ | refine rgoh [] rfl rfl ?_ | refine rgeta (hi := rfl) (kk := ?_) | refine rialda (hi := rfl) (kk := ?_))
        refine rialda (hi := rfl) (hc := (by simp only [am_set_set]; exact (am_set_ne (by omega)).trans s1)) (hik := show (1 : Int32) = nI 1 by decide) (kk := ?_)
        rw [e1]
        repeat (first | refine rs [] rfl rfl rfl rfl ?_ | refine rk rfl rfl ?_ | refine rgoh [] rfl rfl ?_ | refine rgeta (hi := rfl) (kk := ?_) | refine rialda (hi := rfl) (kk := ?_))
        (first | refine rift rfl rfl ?_ | refine riff rfl rfl ?_ | refine rict rfl rfl ?_ | refine ricf rfl rfl ?_)
        repeat (first | refine rs [] rfl rfl rfl rfl ?_ | refine rk rfl rfl ?_ | refine rgoh [] rfl rfl ?_ | refine rgeta (hi := rfl) (kk := ?_) | refine rialda (hi := rfl) (kk := ?_))
        refine rialda (hi := rfl) (hc := (by simp only [am_set_set]; exact (am_set_ne (by omega)).trans s1)) (hik := show (2 : Int32) = nI 2 by decide) (kk := ?_)
        rw [e2]
        repeat (first | refine rs [] rfl rfl rfl rfl ?_ | refine rk rfl rfl ?_ | refine rgoh [] rfl rfl ?_ | refine rgeta (hi := rfl) (kk := ?_) | refine rialda (hi := rfl) (kk := ?_))
        (first | refine rift rfl rfl ?_ | refine riff rfl rfl ?_ | refine rict rfl rfl ?_ | refine ricf rfl rfl ?_)
        repeat (first | refine rs [80] rfl rfl rfl rfl ?_ | refine rk rfl rfl ?_ | refine rgoh [80] rfl rfl ?_ | refine rgeta (hi := rfl) (kk := ?_) | refine rialda (hi := rfl) (kk := ?_))
        simp only [am_set_set]
        rw [nI_clamp (by omega)]
        exact good n q2 q3 ra1 rf1 rn1 (nI ps.length) ps 0 1 ga1 gb1 _ n8 hps (fun p z hz => (hok p z hz).2.2) s5 (fl_set F1 (by decide)) ((am_set_ne (by omega)).trans s1) ((am_set_ne (by omega)).trans s2) am_set_eq
  · have ep : prS len tx = .inr (0, 0, 0, []) := by
      unfold prS
      rw [if_neg (by rw [ej]; exact e)]
    rw [ep]
    dsimp only
    repeat (first | refine rs [] rfl rfl rfl rfl ?_ | refine rk rfl rfl ?_ | refine rgoh [] rfl rfl ?_ | refine rgeta (hi := rfl) (kk := ?_) | refine rialda (hi := rfl) (kk := ?_))
    (first | refine rif rfl rfl (fun c1 => ?_) (fun c1 => ?_) | refine ric rfl rfl (fun c1 => ?_) (fun c1 => ?_))
    · repeat (first | refine rs [] rfl rfl rfl rfl ?_ | refine rk rfl rfl ?_ | refine rgoh [] rfl rfl ?_ | refine rgeta (hi := rfl) (kk := ?_) | refine rialda (hi := rfl) (kk := ?_))
      (first | refine rift rfl rfl ?_ | refine riff rfl rfl ?_ | refine rict rfl rfl ?_ | refine ricf rfl rfl ?_)
      repeat (first | refine rs [] rfl rfl rfl rfl ?_ | refine rk rfl rfl ?_ | refine rgoh [] rfl rfl ?_ | refine rgeta (hi := rfl) (kk := ?_) | refine rialda (hi := rfl) (kk := ?_))
      refine rputa (hi := rfl) (kk := ?_)
      repeat (first | refine rs [] rfl rfl rfl rfl ?_ | refine rk rfl rfl ?_ | refine rgoh [] rfl rfl ?_ | refine rgeta (hi := rfl) (kk := ?_) | refine rialda (hi := rfl) (kk := ?_))
      (first | refine rift rfl rfl ?_ | refine riff rfl rfl ?_ | refine rict rfl rfl ?_ | refine ricf rfl rfl ?_)
      repeat (first | refine rs [] rfl rfl rfl rfl ?_ | refine rk rfl rfl ?_ | refine rgoh [] rfl rfl ?_ | refine rgeta (hi := rfl) (kk := ?_) | refine rialda (hi := rfl) (kk := ?_))
      (first | refine rift rfl rfl ?_ | refine riff rfl rfl ?_ | refine rict rfl rfl ?_ | refine ricf rfl rfl ?_)
      repeat (first | refine rs [] rfl rfl rfl rfl ?_ | refine rk rfl rfl ?_ | refine rgoh [] rfl rfl ?_ | refine rgeta (hi := rfl) (kk := ?_) | refine rialda (hi := rfl) (kk := ?_))
      (first | refine rift rfl rfl ?_ | refine riff rfl rfl ?_ | refine rict rfl rfl ?_ | refine ricf rfl rfl ?_)
      repeat (first | refine rs [] rfl rfl rfl rfl ?_ | refine rk rfl rfl ?_ | refine rgoh [] rfl rfl ?_ | refine rgeta (hi := rfl) (kk := ?_) | refine rialda (hi := rfl) (kk := ?_))
      (first | refine rift rfl rfl ?_ | refine riff rfl rfl ?_ | refine rict rfl rfl ?_ | refine ricf rfl rfl ?_)
      repeat (first | refine rs [] rfl rfl rfl rfl ?_ | refine rk rfl rfl ?_ | refine rgoh [] rfl rfl ?_ | refine rgeta (hi := rfl) (kk := ?_) | refine rialda (hi := rfl) (kk := ?_))
      (first | refine rift rfl rfl ?_ | refine riff rfl rfl ?_ | refine rict rfl rfl ?_ | refine ricf rfl rfl ?_)
      repeat (first | refine rs [80] rfl rfl rfl rfl ?_ | refine rk rfl rfl ?_ | refine rgoh [80] rfl rfl ?_ | refine rgeta (hi := rfl) (kk := ?_) | refine rialda (hi := rfl) (kk := ?_))
      simp only [am_set_set]
      exact good 0 0 0 (nI j) rf rn rm [] 1 1 ga gb _ (by omega) (by simp) (fun p z hz => by simp at hz) (fun p z hz => by simp at hz) (fl_set F (by decide)) ((am_set_ne (by omega)).trans r1) ((am_set_ne (by omega)).trans r2) am_set_eq
    · rw [nI_eq (by omega) (by omega)] at c1
      omega
end MLines
