/-! the model's calls: undo, keep, goBack -/
theorem mIm_cg {P i : Nat} {g g' : Nat → Int32} {ls ls' : Nat → Int64} {kp kp' : Nat → Int32} {o : Im} (hP : P ≤ 8) (e1 : kp' i = kp i) (e2 : ls' i = ls i) (e3 : ∀ k, k < 36 → g' (36 * i + k) = g (36 * i + k)) (q : mIm P g ls kp i o) : mIm P g' ls' kp' i o := by
  cases o with
  | none => exact e1.trans q
  | some z => exact ⟨e1.trans q.1, e2.trans q.2.1, ntA_cg hP e3 q.2.2⟩
section MBack
variable {h h' : am_H} {len N P rc bc : Nat} {fa G sd : Int32} {tx wa me rx rh bw bs : Nat → Int32} {S S' : Sc} {dd dd' : List Sc} {i0 i1 : Im}
theorem w_undo {n : Int32} (R : mRep ⟨⟨len, tx⟩, fa, ⟨N, P, G, wa, me⟩, S, dd, ⟨rc, rx, rh⟩, ⟨bc, bw, bs⟩, sd, i0, i1⟩ h) : am_W M_Mo_undo [.ref 130, .int n] (o_undo n ⟨⟨len, tx⟩, fa, ⟨N, P, G, wa, me⟩, S, dd, ⟨rc, rx, rh⟩, ⟨bc, bw, bs⟩, sd, i0, i1⟩) h := by
  obtain ⟨ra, rf, rn, rm, sm, x1, x2, x3, x4, x5, x6, x7, x8, x9, x10, x11⟩ := id R
  obtain ⟨y1, y2, waC, meC, y3, y4, y5, y6⟩ := id x4
  obtain ⟨wh, mi, fe, fl, z1, z2, z3, z4, z5⟩ := id x5
  obtain ⟨d1, gd, d2, d3⟩ := id x6
  unfold am_W o_undo
  (try unfold am_E); unfold am_T
  dsimp only
  repeat (first | refine rs [] rfl rfl rfl rfl ?_ | refine rk rfl rfl ?_ | refine rgoh [] rfl rfl ?_ | refine rgeta (hi := rfl) (kk := ?_) | refine rialda (hi := rfl) (kk := ?_))
  refine rcss rfl rfl rfl rfl rfl (w_in) ?_
  by_cases d : n < 1 ∨ 30 < n
  · rw [if_pos d, if_pos d]
    (first | refine rift rfl rfl ?_ | refine riff rfl rfl ?_ | refine rict rfl rfl ?_ | refine ricf rfl rfl ?_)
    repeat (first | refine rs [] rfl rfl rfl rfl ?_ | refine rk rfl rfl ?_ | refine rgoh [] rfl rfl ?_ | refine rgeta (hi := rfl) (kk := ?_) | refine rialda (hi := rfl) (kk := ?_))
    refine rret rfl rfl ?_
    exact ⟨rfl, R, fr_rf⟩
  · rw [if_neg d, if_neg d]
    (first | refine rift rfl rfl ?_ | refine riff rfl rfl ?_ | refine rict rfl rfl ?_ | refine ricf rfl rfl ?_)
    obtain ⟨m, hm31, rfl⟩ := nI_of (x := n) (fun a => d (Or.inl (Int32.lt_trans a (by decide))))
    have m1 : 1 ≤ m := by
      rcases Nat.lt_or_ge m 1 with a | a
      · exact absurd (Or.inl (nI_lt (b := 1) a (by omega))) d
      · exact a
    have m2 : m ≤ 30 := by
      rcases Nat.lt_or_ge 30 m with a | a
      · exact absurd (Or.inr (nI_lt (a := 30) a (by omega))) d
      · exact a
    rw [nI_clamp (by omega)]
    repeat (first | refine rs [] rfl rfl rfl rfl ?_ | refine rk rfl rfl ?_ | refine rgoh [] rfl rfl ?_ | refine rgeta (hi := rfl) (kk := ?_) | refine rialda (hi := rfl) (kk := ?_))
    (first | refine rif rfl rfl (fun c1 => ?_) (fun c1 => ?_) | refine ric rfl rfl (fun c1 => ?_) (fun c1 => ?_))
    · rw [nI_leI (by omega) (by omega)] at c1
      rw [if_neg (by omega)]
      repeat (first | refine rs [] rfl rfl rfl rfl ?_ | refine rk rfl rfl ?_ | refine rgoh [] rfl rfl ?_ | refine rgeta (hi := rfl) (kk := ?_) | refine rialda (hi := rfl) (kk := ?_))
      refine rputa (hi := rfl) (kk := ?_)
      repeat (first | refine rs [] rfl rfl rfl rfl ?_ | refine rk rfl rfl ?_ | refine rgoh [] rfl rfl ?_ | refine rgeta (hi := rfl) (kk := ?_) | refine rialda (hi := rfl) (kk := ?_))
      have ek : nI dd.length - nI m = nI (dd.length - m) := pk_sub c1
      have eg : dd[dd.length - m]? = some (dd.getD (dd.length - m) S) := by
        rw [List.getD_eq_getElem?_getD, List.getElem?_eq_getElem (by omega)]
        rfl
      generalize dd.getD (dd.length - m) S = S0 at *
      have f0 : am_fk [130] h (am_set h 130 (mO (nI len) fa ra rf rn rm (nI N) G S.2.2.2.2.1 (nI P) S.2.2.2.2.2.1 S.2.2.2.2.2.2 (nI dd.length - nI m) sd.toInt64 (nI rc) sm (nI bc))) := fl_set fl_rf (by decide)
      refine rcvt rfl rfl rfl rfl rfl am_set_eq rfl (w_read (b := 36 * (dd.length - m)) (L := 1080) (Or.inl rfl) (by rw [ek, i36, nI_mul]) (by omega) (by omega) am_set_eq (by rw [am_set_ne (by omega)]; exact z1) (by rw [am_set_ne (by omega)]; exact z2) (by rw [am_set_ne (by omega)]; exact z3) (by rw [am_set_ne (by omega)]; exact z4) (by rw [am_set_ne (by omega)]; exact d2)) ?_
      rintro r h1 ⟨rfl, hr, hm⟩
      show am_R M_Mo_undo (27, [.ref 130, .int (nI m)], []) _ _
      repeat (first | refine rs [] rfl rfl rfl rfl ?_ | refine rk rfl rfl ?_ | refine rgoh [] rfl rfl ?_ | refine rgeta (hi := rfl) (kk := ?_) | refine rialda (hi := rfl) (kk := ?_))
      refine rret rfl rfl ?_
      have nt := d3 _ _ eg
      have f := fl_tr (L := [130, 134, 137, 138, 139]) (fl_wd f0 (by decide)) hr.1 (fun _ a => a)
      refine ⟨by rw [nt.1], ⟨ra, rf, rn, rm, sm, ?_, x2.fl f (by decide), x3.fl f (by decide), x4.fl f (by decide), red_sc y2 hr nt, ⟨?_, gd, ?_, fun j S' hj => ?_⟩, x7.fl f (by decide), x8.fl f (by decide), x9.fl f (by decide), x10.fl f (by decide), x11.fl f (by decide)⟩, fl_fr f (by decide)⟩
      · rw [hm, nt.1, nt.2.1, nt.2.2.1, ek, List.length_take, Nat.min_eq_left (by omega)]
      · rw [List.length_take]
        omega
      · rw [f.2 _ (by decide)]; exact d2
      · rw [List.getElem?_take] at hj
        split at hj
        · exact d3 j S' hj
        · cases hj
    · rw [nI_leI (by omega) (by omega)] at c1
      rw [if_pos (by omega)]
      repeat (first | refine rs [] rfl rfl rfl rfl ?_ | refine rk rfl rfl ?_ | refine rgoh [] rfl rfl ?_ | refine rgeta (hi := rfl) (kk := ?_) | refine rialda (hi := rfl) (kk := ?_))
      refine rret rfl rfl ?_
      exact ⟨rfl, R, fr_rf⟩
set_option maxHeartbeats 1000000 in
theorem w_keepA {k : Nat} {x : Int32} (hx : x = nI k) (hk : k < 2) (R : mRep ⟨⟨len, tx⟩, fa, ⟨N, P, G, wa, me⟩, S, dd, ⟨rc, rx, rh⟩, ⟨bc, bw, bs⟩, sd, i0, i1⟩ h) : am_R M_Mo_keep (7, [.ref 130, .int x], []) h (fun r h' => r = some (.int 1) ∧ mRep ⟨⟨len, tx⟩, fa, ⟨N, P, G, wa, me⟩, S, [], ⟨rc, rx, rh⟩, ⟨bc, bw, bs⟩, sd, (if k = 0 then some (S, sd) else i0), (if k = 0 then i1 else some (S, sd))⟩ h' ∧ am_fr 130 149 h h') := by
  subst hx
  obtain ⟨ra, rf, rn, rm, sm, x1, x2, x3, x4, x5, x6, x7, x8, x9, x10, x11⟩ := id R
  obtain ⟨y1, y2, waC, meC, y3, y4, y5, y6⟩ := id x4
  obtain ⟨wh, mi, fe, fl, z1, z2, z3, z4, z5⟩ := id x5
  obtain ⟨gi, ls, kp, v1, v2, v3, v4, v5⟩ := id x11
  repeat (first | refine rs [] rfl rfl rfl rfl ?_ | refine rk rfl rfl ?_ | refine rgoh [] rfl rfl ?_ | refine rgeta (hi := rfl) (kk := ?_) | refine rialda (hi := rfl) (kk := ?_))
  refine rcvt rfl rfl rfl rfl rfl x1 rfl (w_laysBy (b := 36 * k) (Or.inr (Or.inr rfl)) (by rw [i36, nI_mul]) (by omega) (by omega) x1 z1 z2 z3 z4 v1) ?_
  rintro r h1 ⟨rfl, g', rfl, hg⟩
  show am_R M_Mo_keep (14, [.ref 130, .int (nI k)], []) _ _
  have nt := layP_nt y2 hg z5
  repeat (first | refine rs [] rfl rfl rfl rfl ?_ | refine rk rfl rfl ?_ | refine rgoh [] rfl rfl ?_ | refine rgeta (hi := rfl) (kk := ?_) | refine rialda (hi := rfl) (kk := ?_))
  refine rlast rfl (show (am_set h 146 (.inl (.int, 72, .inl g'))).1 147 = .inl (.long, 2, .inr (.inl ls)) by rw [am_set_ne (by omega)]; exact v2) k hk (by omega) rfl ?_
  repeat (first | refine rs [] rfl rfl rfl rfl ?_ | refine rk rfl rfl ?_ | refine rgoh [] rfl rfl ?_ | refine rgeta (hi := rfl) (kk := ?_) | refine rialda (hi := rfl) (kk := ?_))
  refine riasta (hi := rfl) (kk := ?_)
  repeat (first | refine rs [] rfl rfl rfl rfl ?_ | refine rk rfl rfl ?_ | refine rgoh [] rfl rfl ?_ | refine rgeta (hi := rfl) (kk := ?_) | refine rialda (hi := rfl) (kk := ?_))
  refine rputa (hi := rfl) (kk := ?_)
  repeat (first | refine rs [] rfl rfl rfl rfl ?_ | refine rk rfl rfl ?_ | refine rgoh [] rfl rfl ?_ | refine rgeta (hi := rfl) (kk := ?_) | refine rialda (hi := rfl) (kk := ?_))
  refine rret rfl rfl ?_
  have f : am_fk [130, 146, 147, 148] h (am_set (am_set (am_set (am_set h 146 (.inl (.int, 72, .inl g'))) 147 (.inl (.long, 2, .inr (.inl (vp_updL ls k sd.toInt64))))) 148 (.inl (.int, 2, .inl (upd kp k 1)))) 130 (mO (nI len) fa ra rf rn rm (nI N) G S.2.2.2.2.1 (nI P) S.2.2.2.2.2.1 S.2.2.2.2.2.2 0 sd.toInt64 (nI rc) sm (nI bc))) := fl_set (fl_set (fl_set (fl_set fl_rf (by decide)) (by decide)) (by decide)) (by decide)
  obtain ⟨-, gd, d2, -⟩ := x6.fl f (by decide)
  refine ⟨rfl, ⟨ra, rf, rn, rm, sm, am_set_eq, x2.fl f (by decide), x3.fl f (by decide), x4.fl f (by decide), x5.fl f (by decide), ⟨by simp, gd, d2, fun j S' hj => by simp at hj⟩, x7.fl f (by decide), x8.fl f (by decide), x9.fl f (by decide), x10.fl f (by decide), ⟨g', vp_updL ls k sd.toInt64, upd kp k 1, ?_, ?_, ?_, ?_, ?_⟩⟩, fl_fr f (by decide)⟩
  · rw [am_set_ne (by omega), am_set_ne (by omega), am_set_ne (by omega)]; exact am_set_eq
  · rw [am_set_ne (by omega), am_set_ne (by omega)]; exact am_set_eq
  · rw [am_set_ne (by omega)]; exact am_set_eq
  · by_cases e : k = 0
    · rw [if_pos e]
      subst e
      exact ⟨pk_us, pk_uLs, nt⟩
    · rw [if_neg e]
      exact mIm_cg y2 (pk_un (by omega)) (pk_uLn (by omega)) (fun j hj => hg.2.2.2.2 _ (Or.inl (by omega))) v4
  · by_cases e : k = 0
    · rw [if_pos e]
      exact mIm_cg y2 (pk_un (by omega)) (pk_uLn (by omega)) (fun j hj => hg.2.2.2.2 _ (Or.inr (by omega))) v5
    · rw [if_neg e]
      have e : k = 1 := by omega
      subst e
      exact ⟨pk_us, pk_uLs, nt⟩
theorem w_keep {x : Int32} (R : mRep ⟨⟨len, tx⟩, fa, ⟨N, P, G, wa, me⟩, S, dd, ⟨rc, rx, rh⟩, ⟨bc, bw, bs⟩, sd, i0, i1⟩ h) : am_W M_Mo_keep [.ref 130, .int x] (o_keep x ⟨⟨len, tx⟩, fa, ⟨N, P, G, wa, me⟩, S, dd, ⟨rc, rx, rh⟩, ⟨bc, bw, bs⟩, sd, i0, i1⟩) h := by
  obtain ⟨ra, rf, rn, rm, sm, x1, x2, x3, x4, x5, x6, x7, x8, x9, x10, x11⟩ := id R
  obtain ⟨y1, y2, waC, meC, y3, y4, y5, y6⟩ := id x4
  obtain ⟨wh, mi, fe, fl, z1, z2, z3, z4, z5⟩ := id x5
  unfold am_W o_keep
  (try unfold am_E); unfold am_T
  dsimp only
  repeat (first | refine rs [] rfl rfl rfl rfl ?_ | refine rk rfl rfl ?_ | refine rgoh [] rfl rfl ?_ | refine rgeta (hi := rfl) (kk := ?_) | refine rialda (hi := rfl) (kk := ?_))
  refine rcss rfl rfl rfl rfl rfl (w_in) ?_
  by_cases d : x < 0 ∨ 1 < x
  · rw [if_pos d]
    rw [i01] at d
    rw [if_neg d.1, if_neg d.2]
    (first | refine rift rfl rfl ?_ | refine riff rfl rfl ?_ | refine rict rfl rfl ?_ | refine ricf rfl rfl ?_)
    repeat (first | refine rs [] rfl rfl rfl rfl ?_ | refine rk rfl rfl ?_ | refine rgoh [] rfl rfl ?_ | refine rgeta (hi := rfl) (kk := ?_) | refine rialda (hi := rfl) (kk := ?_))
    refine rret rfl rfl ?_
    exact ⟨rfl, R, fr_rf⟩
  · rw [if_neg d]
    (first | refine rift rfl rfl ?_ | refine riff rfl rfl ?_ | refine rict rfl rfl ?_ | refine ricf rfl rfl ?_)
    by_cases e : x = 0
    · rw [if_pos e]
      exact w_keepA (k := 0) e (by omega) R
    · rw [if_neg e]
      rw [i01] at d
      have e1 : x = 1 := Classical.byContradiction (fun a => d ⟨e, a⟩)
      rw [if_pos e1]
      exact w_keepA (k := 1) e1 (by omega) R
set_option maxHeartbeats 1000000 in
theorem w_goBackA {k : Nat} {x : Int32} {o : Im} {gi : Nat → Int32} {ls : Nat → Int64} {kp : Nat → Int32} (hx : x = nI k) (hk : k < 2) (v1 : h.1 146 = .inl (.int, 72, .inl gi)) (v2 : h.1 147 = .inl (.long, 2, .inr (.inl ls))) (v3 : h.1 148 = .inl (.int, 2, .inl kp)) (hI : mIm P gi ls kp k o) (R : mRep ⟨⟨len, tx⟩, fa, ⟨N, P, G, wa, me⟩, S, dd, ⟨rc, rx, rh⟩, ⟨bc, bw, bs⟩, sd, i0, i1⟩ h) : am_R M_Mo_goBack (7, [.ref 130, .int x], []) h (fun r h' => r = some (.int (gbA o ⟨⟨len, tx⟩, fa, ⟨N, P, G, wa, me⟩, S, dd, ⟨rc, rx, rh⟩, ⟨bc, bw, bs⟩, sd, i0, i1⟩).1) ∧ mRep (gbA o ⟨⟨len, tx⟩, fa, ⟨N, P, G, wa, me⟩, S, dd, ⟨rc, rx, rh⟩, ⟨bc, bw, bs⟩, sd, i0, i1⟩).2 h' ∧ am_fr 130 149 h h') := by
  subst hx
  obtain ⟨ra, rf, rn, rm, sm, x1, x2, x3, x4, x5, x6, x7, x8, x9, x10, x11⟩ := id R
  obtain ⟨y1, y2, waC, meC, y3, y4, y5, y6⟩ := id x4
  obtain ⟨wh, mi, fe, fl, z1, z2, z3, z4, z5⟩ := id x5
  repeat (first | refine rs [] rfl rfl rfl rfl ?_ | refine rk rfl rfl ?_ | refine rgoh [] rfl rfl ?_ | refine rgeta (hi := rfl) (kk := ?_) | refine rialda (hi := rfl) (kk := ?_))
  cases o with
  | none =>
    have hI : kp k = 0 := hI
    (first | refine rif rfl rfl (fun c1 => ?_) (fun c1 => ?_) | refine ric rfl rfl (fun c1 => ?_) (fun c1 => ?_))
    · repeat (first | refine rs [] rfl rfl rfl rfl ?_ | refine rk rfl rfl ?_ | refine rgoh [] rfl rfl ?_ | refine rgeta (hi := rfl) (kk := ?_) | refine rialda (hi := rfl) (kk := ?_))
      refine rret rfl rfl ?_
      exact ⟨rfl, R, fr_rf⟩
    · exact absurd hI c1
  | some z =>
    obtain ⟨S0, s0⟩ := z
    obtain ⟨j1, j2, nt⟩ := hI
    (first | refine rif rfl rfl (fun c1 => ?_) (fun c1 => ?_) | refine ric rfl rfl (fun c1 => ?_) (fun c1 => ?_))
    · rw [j1] at c1
      exact absurd c1 (by decide)
    · repeat (first | refine rs [] rfl rfl rfl rfl ?_ | refine rk rfl rfl ?_ | refine rgoh [] rfl rfl ?_ | refine rgeta (hi := rfl) (kk := ?_) | refine rialda (hi := rfl) (kk := ?_))
      refine rcvt rfl rfl rfl rfl rfl x1 rfl (w_read (b := 36 * k) (L := 72) (Or.inr (Or.inr rfl)) (by rw [i36, nI_mul]) (by omega) (by omega) x1 z1 z2 z3 z4 v1) ?_
      rintro r h1 ⟨rfl, hr, hm⟩
      show am_R M_Mo_goBack (21, [.ref 130, .int (nI k)], []) _ _
      have f1 := hr.1
      repeat (first | refine rs [] rfl rfl rfl rfl ?_ | refine rk rfl rfl ?_ | refine rgoh [] rfl rfl ?_ | refine rgeta (hi := rfl) (kk := ?_) | refine rialda (hi := rfl) (kk := ?_))
      refine rlald rfl (show h1.1 147 = .inl (.long, 2, .inr (.inl ls)) by rw [f1.2 _ (by decide)]; exact v2) k hk (by omega) rfl ?_
      refine rputa (hi := rfl) (kk := ?_)
      repeat (first | refine rs [] rfl rfl rfl rfl ?_ | refine rk rfl rfl ?_ | refine rgoh [] rfl rfl ?_ | refine rgeta (hi := rfl) (kk := ?_) | refine rialda (hi := rfl) (kk := ?_))
      refine rret rfl rfl ?_
      rw [am_set_set]
      have f : am_fk [130, 134, 137, 138, 139] h (am_set h1 130 (mO (nI len) fa ra rf rn rm (nI N) G (gi (36 * k + 2)) (nI P) (gi (36 * k)) (gi (36 * k + 1)) 0 (ls k) (nI rc) sm (nI bc))) := fl_set f1 (by decide)
      have f2 : am_fk [130] h1 (am_set h1 130 (mO (nI len) fa ra rf rn rm (nI N) G (gi (36 * k + 2)) (nI P) (gi (36 * k)) (gi (36 * k + 1)) 0 (ls k) (nI rc) sm (nI bc))) := fl_set fl_rf (by decide)
      obtain ⟨-, gd, d2, -⟩ := x6.fl f (by decide)
      have R2 : mRep ⟨⟨len, tx⟩, fa, ⟨N, P, G, wa, me⟩, S0, [], ⟨rc, rx, rh⟩, ⟨bc, bw, bs⟩, s0, i0, i1⟩ (am_set h1 130 (mO (nI len) fa ra rf rn rm (nI N) G (gi (36 * k + 2)) (nI P) (gi (36 * k)) (gi (36 * k + 1)) 0 (ls k) (nI rc) sm (nI bc))) := by
        refine ⟨ra, rf, rn, rm, sm, ?_, x2.fl f (by decide), x3.fl f (by decide), x4.fl f (by decide), (red_sc y2 hr nt).fl f2 (by decide), ⟨by simp, gd, d2, fun j S' hj => by simp at hj⟩, x7.fl f (by decide), x8.fl f (by decide), x9.fl f (by decide), x10.fl f (by decide), x11.fl f (by decide)⟩
        rw [← nt.1, ← nt.2.1, ← nt.2.2.1, ← j2]
        exact am_set_eq
      exact ⟨rfl, R2, fl_fr f (by decide)⟩
theorem w_goBack {x : Int32} (R : mRep ⟨⟨len, tx⟩, fa, ⟨N, P, G, wa, me⟩, S, dd, ⟨rc, rx, rh⟩, ⟨bc, bw, bs⟩, sd, i0, i1⟩ h) : am_W M_Mo_goBack [.ref 130, .int x] (o_goBack x ⟨⟨len, tx⟩, fa, ⟨N, P, G, wa, me⟩, S, dd, ⟨rc, rx, rh⟩, ⟨bc, bw, bs⟩, sd, i0, i1⟩) h := by
  obtain ⟨ra, rf, rn, rm, sm, x1, x2, x3, x4, x5, x6, x7, x8, x9, x10, x11⟩ := id R
  obtain ⟨y1, y2, waC, meC, y3, y4, y5, y6⟩ := id x4
  obtain ⟨wh, mi, fe, fl, z1, z2, z3, z4, z5⟩ := id x5
  obtain ⟨gi, ls, kp, v1, v2, v3, v4, v5⟩ := id x11
  unfold am_W o_goBack
  (try unfold am_E); unfold am_T
  dsimp only
  repeat (first | refine rs [] rfl rfl rfl rfl ?_ | refine rk rfl rfl ?_ | refine rgoh [] rfl rfl ?_ | refine rgeta (hi := rfl) (kk := ?_) | refine rialda (hi := rfl) (kk := ?_))
  refine rcss rfl rfl rfl rfl rfl (w_in) ?_
  by_cases d : x < 0 ∨ 1 < x
  · rw [if_pos d]
    rw [i01] at d
    rw [if_neg d.1, if_neg d.2]
    (first | refine rift rfl rfl ?_ | refine riff rfl rfl ?_ | refine rict rfl rfl ?_ | refine ricf rfl rfl ?_)
    repeat (first | refine rs [] rfl rfl rfl rfl ?_ | refine rk rfl rfl ?_ | refine rgoh [] rfl rfl ?_ | refine rgeta (hi := rfl) (kk := ?_) | refine rialda (hi := rfl) (kk := ?_))
    refine rret rfl rfl ?_
    exact ⟨rfl, R, fr_rf⟩
  · rw [if_neg d]
    (first | refine rift rfl rfl ?_ | refine riff rfl rfl ?_ | refine rict rfl rfl ?_ | refine ricf rfl rfl ?_)
    by_cases e : x = 0
    · rw [if_pos e]
      exact w_goBackA (k := 0) e (by omega) v1 v2 v3 v4 R
    · rw [if_neg e]
      rw [i01] at d
      have e1 : x = 1 := Classical.byContradiction (fun a => d ⟨e, a⟩)
      rw [if_pos e1]
      exact w_goBackA (k := 1) e1 (by omega) v1 v2 v3 v5 R
end MBack
