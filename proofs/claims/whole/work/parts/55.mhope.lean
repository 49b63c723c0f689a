/-! the model: which hopes fit what ran -/
/-- the field that counts the sets -/
def smo (h : am_H) : Option Value := match h.1 130 with | .inr z => z.2[29]? | .inl _ => none
section MHope
variable {h h' : am_H} {len N P rc bc : Nat} {fa G sd : Int32} {tx wa me rx rh bw bs : Nat → Int32} {S S' : Sc} {dd dd' : List Sc} {i0 i1 : Im}
theorem smo_of {fed fa ra rf rn rm N G fog P tr sp dm um sm em : Int32} {sd : Int64} (e : h.1 130 = mO fed fa ra rf rn rm N G fog P tr sp dm sd um sm em) : smo h = some (.int sm) := by
  unfold smo
  rw [e]
  rfl
theorem smo_ne {a : Nat} {c : am_C} (ha : 130 ≠ a) : smo (am_set h a c) = smo h := by
  unfold smo
  rw [am_set_ne ha]
theorem smo_fl {L : List Nat} (f : am_fk L h h') (m : 130 ∉ L) : smo h' = smo h := by
  unfold smo
  rw [f.2 _ m]
theorem mRep.top2 {v : Int32} (R : mRep ⟨⟨len, tx⟩, fa, ⟨N, P, G, wa, me⟩, S, dd, ⟨rc, rx, rh⟩, ⟨bc, bw, bs⟩, sd, i0, i1⟩ h) (e : smo h = some (.int v)) : ∃ ra rf rn rm : Int32, h.1 130 = mO (nI len) fa ra rf rn rm (nI N) G S.2.2.2.2.1 (nI P) S.2.2.2.2.2.1 S.2.2.2.2.2.2 (nI dd.length) sd.toInt64 (nI rc) v (nI bc) := by
  obtain ⟨ra, rf, rn, rm, sm, x1⟩ := R.top
  rw [smo_of x1] at e
  injection e with e
  injection e with e
  rw [e] at x1
  exact ⟨ra, rf, rn, rm, x1⟩
theorem w_runS {shut : Int32} (hN0 : 1 ≤ N) (hme : wfM P me) (hS : wfS N P S) (R : mRep ⟨⟨len, tx⟩, fa, ⟨N, P, G, wa, me⟩, S, dd, ⟨rc, rx, rh⟩, ⟨bc, bw, bs⟩, sd, i0, i1⟩ h) : am_T M_Mo_run [.ref 130, .int shut] h (fun r h' => r = none ∧ mRep ⟨⟨len, tx⟩, fa, ⟨N, P, G, wa, me⟩, rnA N P G wa me shut S, dd, ⟨rc, rx, rh⟩, ⟨bc, bw, bs⟩, sd, i0, i1⟩ h' ∧ am_fk [130, 134] h h' ∧ smo h' = smo h) := by
  obtain ⟨ra, rf, rn, rm, sm, x1, x2, x3, x4, x5, x6, x7, x8, x9, x10, x11⟩ := id R
  obtain ⟨y1, y2, waC, meC, y3, y4, y5, y6⟩ := id x4
  obtain ⟨wh, mi, fe, fl, z1, z2, z3, z4, z5⟩ := id x5
  refine w_runK (halts := stA 0 G N P S &&& (shut ^^^ (-1))) hN0 y1 y2 (fun p hp => ?_) (fun p hp => ?_) (fun j hj => ?_) x1 z1 y3 y4 z2 z3 z4 (fun g hg => ?_)
  · rw [(z5 p hp).1]
    exact hS p hp
  · rw [y6 p hp]
    exact hme p hp
  · rw [b_and, b_xor, b_m1 j hj, Bool.and_eq_true, stA_bt y1 hS hj, awP_congr (wh' := wh) (sh' := shM mi fe fl) (fun p hp => ?_)]
    · constructor
      · rintro ⟨⟨a, b⟩, c⟩
        refine ⟨a, b, fun d => ?_⟩
        rw [d] at c
        exact absurd c (by decide)
      · rintro ⟨a, b, c⟩
        refine ⟨⟨a, b⟩, ?_⟩
        cases d : bt shut j
        · rfl
        · exact absurd d c
    · obtain ⟨q1, q2, q3, q4⟩ := z5 p hp
      refine ⟨q1.symm, ?_⟩
      rw [shA_0 (by omega)]
      unfold shM
      rw [q2, q3, q4]
  · have f : am_fk [130, 134] h (am_set (am_set h 134 (iar g)) 130 (mO (nI len) fa ra rf rn rm (nI N) G S.2.2.2.2.1 (nI P) (S.2.2.2.2.2.1 + 1) (stA 0 G N P S &&& (shut ^^^ (-1))) (nI dd.length) sd.toInt64 (nI rc) sm (nI bc))) := fl_set (fl_set fl_rf (by decide)) (by decide)
    refine ⟨rfl, ⟨ra, rf, rn, rm, sm, am_set_eq, x2.fl f (by decide), x3.fl f (by decide), x4.fl f (by decide), ⟨g, mi, fe, fl, ?_, ?_, ?_, ?_, fun p hp => ?_⟩, x6.fl f (by decide), x7.fl f (by decide), x8.fl f (by decide), x9.fl f (by decide), x10.fl f (by decide), x11.fl f (by decide)⟩, f, (smo_of am_set_eq).trans (smo_of x1).symm⟩
    · rw [am_set_ne (by omega)]; exact am_set_eq
    · rw [am_set_ne (by omega), am_set_ne (by omega)]; exact z2
    · rw [am_set_ne (by omega), am_set_ne (by omega)]; exact z3
    · rw [am_set_ne (by omega), am_set_ne (by omega)]; exact z4
    · refine ⟨?_, (z5 p hp).2⟩
      rw [hg p hp]
      exact rtF_eqP y5 y6 y2 (fun p hp => (z5 p hp).1) p hp
theorem w_backS (R : mRep ⟨⟨len, tx⟩, fa, ⟨N, P, G, wa, me⟩, S, dd, ⟨rc, rx, rh⟩, ⟨bc, bw, bs⟩, sd, i0, i1⟩ h) (A : asD P S' h) : am_T M_Mo_back [.ref 130] h (fun r h' => r = none ∧ mRep ⟨⟨len, tx⟩, fa, ⟨N, P, G, wa, me⟩, S', dd, ⟨rc, rx, rh⟩, ⟨bc, bw, bs⟩, sd, i0, i1⟩ h' ∧ am_fk [130, 134, 137, 138, 139] h h' ∧ smo h' = smo h) := by
  obtain ⟨ra, rf, rn, rm, sm, x1, x2, x3, x4, x5, x6, x7, x8, x9, x10, x11⟩ := id R
  obtain ⟨y1, y2, waC, meC, y3, y4, y5, y6⟩ := id x4
  obtain ⟨wh, mi, fe, fl, z1, z2, z3, z4, z5⟩ := id x5
  obtain ⟨ga, d2, d3⟩ := A
  (try unfold am_E); unfold am_T
  repeat (first | refine rs [] rfl rfl rfl rfl ?_ | refine rk rfl rfl ?_ | refine rgoh [] rfl rfl ?_ | refine rgeta (hi := rfl) (kk := ?_) | refine rialda (hi := rfl) (kk := ?_))
  refine rcvt rfl rfl rfl rfl rfl x1 rfl (w_read (b := 0) (Or.inr (Or.inl rfl)) nI_0.symm (by omega) (by omega) x1 z1 z2 z3 z4 d2) ?_
  rintro r h1 ⟨rfl, hr, hm⟩
  show am_R M_Mo_back (5, _, []) _ _
  refine rret rfl rfl ?_
  have f := hr.1
  refine ⟨rfl, ⟨ra, rf, rn, rm, sm, ?_, x2.fl f (by decide), x3.fl f (by decide), x4.fl f (by decide), red_sc y2 hr d3, x6.fl f (by decide), x7.fl f (by decide), x8.fl f (by decide), x9.fl f (by decide), x10.fl f (by decide), x11.fl f (by decide)⟩, f, (smo_of hm).trans (smo_of x1).symm⟩
  rw [hm, d3.1, d3.2.1, d3.2.2.1]
/-- the scene with some of good hope -/
def hpS (set : Int32) (S : Sc) : Sc := (S.1, fun p => if bitv set (nI p) = 1 then 9 else S.2.1 p, S.2.2)
theorem shA_hp {set : Int32} {p : Nat} (hp : p < 8) : shA 0 (hpS set S) p = shA set S p := by
  rw [shA_0 hp]
  rfl
theorem stA_hp {set : Int32} (hP : P ≤ 8) : stA 0 G N P (hpS set S) = stA set G N P S := by
  have e : awA 0 G P (hpS set S) = awA set G P S := by
    unfold awA
    refine fo_congr (fun p b hp => ?_)
    rw [shA_hp (by omega)]
    rfl
  unfold stA
  rw [e]
def hpF (set : Int32) (p : Nat) (f : Nat → Int32) : Nat → Int32 := upd f p (if bitv set (nI p) = 1 then 9 else f p)
theorem hpF_pt {set : Int32} {f : Nat → Int32} {n p : Nat} : fo (hpF set) n f p = if p < n then (if bitv set (nI p) = 1 then 9 else f p) else f p := by
  rw [← fo_upd (c := fun p v => if bitv set (nI p) = 1 then 9 else v)]
  rfl
set_option maxHeartbeats 1000000 in
theorem w_goesSo {set : Int32} (W : wfQ ⟨⟨len, tx⟩, fa, ⟨N, P, G, wa, me⟩, S, dd, ⟨rc, rx, rh⟩, ⟨bc, bw, bs⟩, sd, i0, i1⟩) (R : mRep ⟨⟨len, tx⟩, fa, ⟨N, P, G, wa, me⟩, S, dd, ⟨rc, rx, rh⟩, ⟨bc, bw, bs⟩, sd, i0, i1⟩ h) : am_T M_Mo_goesSo [.ref 130, .int set] h (fun r h' => mRep ⟨⟨len, tx⟩, fa, ⟨N, P, G, wa, me⟩, S, dd, ⟨rc, rx, rh⟩, ⟨bc, bw, bs⟩, sd, i0, i1⟩ h' ∧ am_fk [130, 134, 137, 138, 139, 141] h h' ∧ smo h' = smo h ∧ ∃ v, r = some (.int v) ∧ (v = 1 ∧ okA G N P S rc rx rh set ∨ v = 0 ∧ ¬ okA G N P S rc rx rh set)) := by
  obtain ⟨w1, w2, w3, w4, w5, w6, w7, w8, w9, w10, w11⟩ := id W
  obtain ⟨ra, rf, rn, rm, sm, x1⟩ := R.top
  (try unfold am_E); unfold am_T
  repeat (first | refine rs [] rfl rfl rfl rfl ?_ | refine rk rfl rfl ?_ | refine rgoh [] rfl rfl ?_ | refine rgeta (hi := rfl) (kk := ?_) | refine rialda (hi := rfl) (kk := ?_))
  refine rcvt rfl rfl rfl rfl rfl x1 rfl (w_begin R) ?_
  rintro r h1 ⟨rfl, R1, A1, f1⟩
  show am_R M_Mo_goesSo (2, [.ref 130, .int set, _, _, _], []) _ _
  have s1 : smo h1 = smo h := smo_fl f1 (by decide)
  obtain ⟨ra, rf, rn, rm, sm, x1, x2, x3, x4, x5, x6, x7, x8, x9, x10, x11⟩ := id R1
  obtain ⟨y1, y2, waC, meC, y3, y4, y5, y6⟩ := id x4
  obtain ⟨wh, mi, fe, fl, z1, z2, z3, z4, z5⟩ := id x5
  repeat (first | refine rs [4] rfl rfl rfl rfl ?_ | refine rk rfl rfl ?_ | refine rgoh [4] rfl rfl ?_ | refine rgeta (hi := rfl) (kk := ?_) | refine rialda (hi := rfl) (kk := ?_))
  have tl : ∀ (S2 : Sc) h2 v2 v3 v4, mRep ⟨⟨len, tx⟩, fa, ⟨N, P, G, wa, me⟩, S2, dd, ⟨rc, rx, rh⟩, ⟨bc, bw, bs⟩, sd, i0, i1⟩ h2 → asD P S h2 → am_fk [130, 134, 137, 138, 139, 141] h h2 → smo h2 = smo h → (fitsP S2.2.2.2.2.2.2 rc rx rh ↔ okA G N P S rc rx rh set) → am_R M_Mo_goesSo (30, [.ref 130, .int set, .int v2, v3, v4], []) h2 (fun r h' => mRep ⟨⟨len, tx⟩, fa, ⟨N, P, G, wa, me⟩, S, dd, ⟨rc, rx, rh⟩, ⟨bc, bw, bs⟩, sd, i0, i1⟩ h' ∧ am_fk [130, 134, 137, 138, 139, 141] h h' ∧ smo h' = smo h ∧ ∃ v, r = some (.int v) ∧ (v = 1 ∧ okA G N P S rc rx rh set ∨ v = 0 ∧ ¬ okA G N P S rc rx rh set)) := by
    intro S2 h2 v2 v3 v4 R2 A2 f2 s2 hk
    obtain ⟨ra, rf, rn, rm, sm, x1⟩ := R2.top
    generalize S2.2.2.2.2.2.2 = st at hk x1
    repeat (first | refine rs [] rfl rfl rfl rfl ?_ | refine rk rfl rfl ?_ | refine rgoh [] rfl rfl ?_ | refine rgeta (hi := rfl) (kk := ?_) | refine rialda (hi := rfl) (kk := ?_))
    refine rcvt rfl rfl rfl rfl rfl x1 rfl (w_backS R2 A2) ?_
    rintro r h3 ⟨rfl, R3, f3, s3⟩
    show am_R M_Mo_goesSo (35, [.ref 130, .int set, .int st, _, _], []) _ _
    have f4 := fl_tr f2 f3 (by decide)
    have s4 := s3.trans s2
    obtain ⟨ra, rf, rn, rm, sm, x1, x2, x3, x4, x5, x6, x7, x8, x9, x10, x11⟩ := id R3
    obtain ⟨y1, y2, waC, meC, y3, y4, y5, y6⟩ := id x4
    obtain ⟨wh, mi, fe, fl, z1, z2, z3, z4, z5⟩ := id x5
    obtain ⟨u0, u1, u2⟩ := id x8
    rw [← hk]
    repeat (first | refine rs [39] rfl rfl rfl rfl ?_ | refine rk rfl rfl ?_ | refine rgoh [39] rfl rfl ?_ | refine rgeta (hi := rfl) (kk := ?_) | refine rialda (hi := rfl) (kk := ?_))
    refine lup (P := fun i => ∀ y v, y = nI i → (v = 1 ∧ fitsP st i rx rh ∨ v = 0 ∧ ¬ fitsP st i rx rh) → am_R M_Mo_goesSo (39, [.ref 130, .int set, .int st, .int v, .int y], []) h3 _) rc ?_ ?_ 0 1 nI_0.symm (Or.inl ⟨rfl, fun i hi => by omega⟩)
    · rintro y v rfl hv
      repeat (first | refine rs [] rfl rfl rfl rfl ?_ | refine rk rfl rfl ?_ | refine rgoh [] rfl rfl ?_ | refine rgeta (hi := rfl) (kk := ?_) | refine rialda (hi := rfl) (kk := ?_))
      (first | refine rif rfl rfl (fun c1 => ?_) (fun c1 => ?_) | refine ric rfl rfl (fun c1 => ?_) (fun c1 => ?_))
      · repeat (first | refine rs [] rfl rfl rfl rfl ?_ | refine rk rfl rfl ?_ | refine rgoh [] rfl rfl ?_ | refine rgeta (hi := rfl) (kk := ?_) | refine rialda (hi := rfl) (kk := ?_))
        refine rretz rfl rfl (by rcases hv with ⟨a, -⟩ | ⟨a, -⟩; exact Or.inr a; exact Or.inl a) ?_
        exact ⟨R3, f4, s4, v, rfl, hv⟩
      · exact absurd (Int32.le_refl _) c1
    · rintro i hi ih y v rfl hv
      have ih0 := ih _ 0 (nI_succ i).symm
      have ih1 := ih _ 1 (nI_succ i).symm
      obtain ⟨k, hk8, ek⟩ := w7 i hi
      repeat (first | refine rs [] rfl rfl rfl rfl ?_ | refine rk rfl rfl ?_ | refine rgoh [] rfl rfl ?_ | refine rgeta (hi := rfl) (kk := ?_) | refine rialda (hi := rfl) (kk := ?_))
      (first | refine rif rfl rfl (fun c1 => ?_) (fun c1 => ?_) | refine ric rfl rfl (fun c1 => ?_) (fun c1 => ?_))
      · exact absurd hi ((nI_lt_iff (by omega) (by omega)).mp c1)
      · repeat (first | refine rs [] rfl rfl rfl rfl ?_ | refine rk rfl rfl ?_ | refine rgoh [] rfl rfl ?_ | refine rgeta (hi := rfl) (kk := ?_) | refine rialda (hi := rfl) (kk := ?_))
        (first | refine rif rfl rfl (fun c2 => ?_) (fun c2 => ?_) | refine ric rfl rfl (fun c2 => ?_) (fun c2 => ?_))
        · repeat (first | refine rs [39] rfl rfl rfl rfl ?_ | refine rk rfl rfl ?_ | refine rgoh [39] rfl rfl ?_ | refine rgeta (hi := rfl) (kk := ?_) | refine rialda (hi := rfl) (kk := ?_))
          refine ih0 (Or.inr ⟨rfl, fun a => ?_⟩)
          rcases hv with ⟨b, -⟩ | ⟨-, b⟩
          · rw [b] at c2
            exact absurd c2 (by decide)
          · exact b (fun j hj => a j (by omega))
        · have hv : fitsP st i rx rh := by
            rcases hv with ⟨-, b⟩ | ⟨b, -⟩
            · exact b
            · exact absurd b c2
          have e1 : (if bitv st (rx i) = 1 then (1 : Int32) else 0) = bitv st (rx i) := by
            rw [ek]
            rcases bitv_01 (x := st) (k := k) (by omega) with b | b
            · rw [b]
              decide
            · rw [b]
              decide
          repeat (first | refine rs [] rfl rfl rfl rfl ?_ | refine rk rfl rfl ?_ | refine rgoh [] rfl rfl ?_ | refine rgeta (hi := rfl) (kk := ?_) | refine rialda (hi := rfl) (kk := ?_))
          (first | refine rif rfl rfl (fun c3 => ?_) (fun c3 => ?_) | refine ric rfl rfl (fun c3 => ?_) (fun c3 => ?_))
          · repeat (first | refine rs [39] rfl rfl rfl rfl ?_ | refine rk rfl rfl ?_ | refine rgoh [39] rfl rfl ?_ | refine rgeta (hi := rfl) (kk := ?_) | refine rialda (hi := rfl) (kk := ?_))
            refine ih1 (Or.inl ⟨rfl, fun j hj => ?_⟩)
            rcases Nat.lt_or_ge j i with w | w
            · exact hv j w
            · rw [show j = i by omega, e1]
              exact c3
          · repeat (first | refine rs [39] rfl rfl rfl rfl ?_ | refine rk rfl rfl ?_ | refine rgoh [39] rfl rfl ?_ | refine rgeta (hi := rfl) (kk := ?_) | refine rialda (hi := rfl) (kk := ?_))
            refine ih0 (Or.inr ⟨rfl, fun a => ?_⟩)
            have := a i (by omega)
            rw [e1] at this
            exact c3 this
  have key : ∀ y v3 v4, y = nI 0 → am_R M_Mo_goesSo (4, [.ref 130, .int set, .int y, v3, v4], []) (am_set h1 137 (iar (fo (hpF set) 0 mi))) (fun r h' => mRep ⟨⟨len, tx⟩, fa, ⟨N, P, G, wa, me⟩, S, dd, ⟨rc, rx, rh⟩, ⟨bc, bw, bs⟩, sd, i0, i1⟩ h' ∧ am_fk [130, 134, 137, 138, 139, 141] h h' ∧ smo h' = smo h ∧ ∃ v, r = some (.int v) ∧ (v = 1 ∧ okA G N P S rc rx rh set ∨ v = 0 ∧ ¬ okA G N P S rc rx rh set)) := by
    refine lup (P := fun i => ∀ y v3 v4, y = nI i → am_R M_Mo_goesSo (4, [.ref 130, .int set, .int y, v3, v4], []) (am_set h1 137 (iar (fo (hpF set) i mi))) (fun r h' => mRep ⟨⟨len, tx⟩, fa, ⟨N, P, G, wa, me⟩, S, dd, ⟨rc, rx, rh⟩, ⟨bc, bw, bs⟩, sd, i0, i1⟩ h' ∧ am_fk [130, 134, 137, 138, 139, 141] h h' ∧ smo h' = smo h ∧ ∃ v, r = some (.int v) ∧ (v = 1 ∧ okA G N P S rc rx rh set ∨ v = 0 ∧ ¬ okA G N P S rc rx rh set))) P ?_ ?_
    · rintro y v3 v4 rfl
      have f2 : am_fk [134, 137, 138, 139] h1 (am_set h1 137 (iar (fo (hpF set) P mi))) := fl_set fl_rf (by decide)
      have R2 := mRep_sc (S' := hpS set S) R1 f2 ⟨wh, fo (hpF set) P mi, fe, fl, by rw [am_set_ne (by omega)]; exact z1, am_set_eq, by rw [am_set_ne (by omega)]; exact z3, by rw [am_set_ne (by omega)]; exact z4, fun p hp => ⟨(z5 p hp).1, by rw [hpF_pt, if_pos hp, (z5 p hp).2.1]; rfl, (z5 p hp).2.2⟩⟩ rfl
      have s2 : smo (am_set h1 137 (iar (fo (hpF set) P mi))) = smo h := (smo_fl f2 (by decide)).trans s1
      have A2 := A1.fl f2 (by decide)
      have f3 : am_fk [130, 134, 137, 138, 139, 141] h (am_set h1 137 (iar (fo (hpF set) P mi))) := fl_tr (fl_wd f1 (by decide)) f2 (by decide)
      generalize am_set h1 137 (iar (fo (hpF set) P mi)) = h2 at *
      obtain ⟨ra, rf, rn, rm, sm, x1⟩ := R2.top
      repeat (first | refine rs [] rfl rfl rfl rfl ?_ | refine rk rfl rfl ?_ | refine rgoh [] rfl rfl ?_ | refine rgeta (hi := rfl) (kk := ?_) | refine rialda (hi := rfl) (kk := ?_))
      (first | refine rif rfl rfl (fun c1 => ?_) (fun c1 => ?_) | refine ric rfl rfl (fun c1 => ?_) (fun c1 => ?_))
      · repeat (first | refine rs [] rfl rfl rfl rfl ?_ | refine rk rfl rfl ?_ | refine rgoh [] rfl rfl ?_ | refine rgeta (hi := rfl) (kk := ?_) | refine rialda (hi := rfl) (kk := ?_))
        (first | refine rif rfl rfl (fun c2 => ?_) (fun c2 => ?_) | refine ric rfl rfl (fun c2 => ?_) (fun c2 => ?_))
        · have e : N = 0 := by
            rcases Nat.eq_zero_or_pos N with a | a
            · exact a
            · exact absurd c2 (nI_nle a (by omega))
          have rc0 : rc = 0 := by
            rcases Nat.eq_zero_or_pos rc with a | a
            · exact a
            · obtain ⟨k, hk, -⟩ := w7 0 a
              omega
          refine tl _ h2 _ _ _ R2 A2 f3 s2 ?_
          unfold okA fitsP
          rw [rc0]
          exact ⟨fun _ i hi => by omega, fun _ i hi => by omega⟩
        · have hN0 : 1 ≤ N := by
            rcases Nat.eq_zero_or_pos N with a | a
            · exact absurd (by rw [a]; decide) c2
            · exact a
          repeat (first | refine rs [] rfl rfl rfl rfl ?_ | refine rk rfl rfl ?_ | refine rgoh [] rfl rfl ?_ | refine rgeta (hi := rfl) (kk := ?_) | refine rialda (hi := rfl) (kk := ?_))
          refine rcvt rfl rfl rfl rfl rfl x1 rfl (w_runS (S := hpS set S) hN0 w4 w5 R2) ?_
          rintro r h3 ⟨rfl, R3, f4, s3⟩
          show am_R M_Mo_goesSo (30, [.ref 130, .int set, .int (nI P), v3, v4], []) _ _
          refine tl _ h3 _ _ _ R3 (A2.fl f4 (by decide)) (fl_tr f3 f4 (by decide)) (s3.trans s2) ?_
          have e : (rnA N P G wa me 0 (hpS set S)).2.2.2.2.2.2 = stA set G N P S := by
            show stA 0 G N P (hpS set S) &&& (0 ^^^ (-1)) = _
            rw [and_all, stA_hp y2]
          rw [e]
          exact Iff.rfl
      · exact absurd (Int32.le_refl _) c1
    · rintro i hi ih y v3 v4 rfl
      have ih := ih _ v3 v4 (nI_succ i).symm
      rw [fo_succ] at ih
      generalize fo (hpF set) i mi = g at *
      unfold hpF at ih
      repeat (first | refine rs [] rfl rfl rfl rfl ?_ | refine rk rfl rfl ?_ | refine rgoh [] rfl rfl ?_ | refine rgeta (hi := rfl) (kk := ?_) | refine rialda (hi := rfl) (kk := ?_))
      (first | refine rif rfl rfl (fun c1 => ?_) (fun c1 => ?_) | refine ric rfl rfl (fun c1 => ?_) (fun c1 => ?_))
      · exact absurd hi ((nI_lt_iff (by omega) (by omega)).mp c1)
      · repeat (first | refine rs [] rfl rfl rfl rfl ?_ | refine rk rfl rfl ?_ | refine rgoh [] rfl rfl ?_ | refine rgeta (hi := rfl) (kk := ?_) | refine rialda (hi := rfl) (kk := ?_))
        refine rcss rfl rfl rfl rfl rfl (w_has) ?_
        by_cases d : bitv set (nI i) = 1
        · rw [if_pos d] at ih ⊢
          (first | refine rift rfl rfl ?_ | refine riff rfl rfl ?_ | refine rict rfl rfl ?_ | refine ricf rfl rfl ?_)
          repeat (first | refine rs [] rfl rfl rfl rfl ?_ | refine rk rfl rfl ?_ | refine rgoh [] rfl rfl ?_ | refine rgeta (hi := rfl) (kk := ?_) | refine rialda (hi := rfl) (kk := ?_))
          refine riasta (hi := rfl) (hc := am_set_eq) (kk := ?_)
          rw [am_set_set]
          repeat (first | refine rs [4] rfl rfl rfl rfl ?_ | refine rk rfl rfl ?_ | refine rgoh [4] rfl rfl ?_ | refine rgeta (hi := rfl) (kk := ?_) | refine rialda (hi := rfl) (kk := ?_))
          exact ih
        · rw [if_neg d] at ih ⊢
          (first | refine rift rfl rfl ?_ | refine riff rfl rfl ?_ | refine rict rfl rfl ?_ | refine ricf rfl rfl ?_)
          repeat (first | refine rs [] rfl rfl rfl rfl ?_ | refine rk rfl rfl ?_ | refine rgoh [] rfl rfl ?_ | refine rgeta (hi := rfl) (kk := ?_) | refine rialda (hi := rfl) (kk := ?_))
          refine riasta (hi := rfl) (hc := am_set_eq) (kk := ?_)
          rw [am_set_set]
          repeat (first | refine rs [4] rfl rfl rfl rfl ?_ | refine rk rfl rfl ?_ | refine rgoh [4] rfl rfl ?_ | refine rgeta (hi := rfl) (kk := ?_) | refine rialda (hi := rfl) (kk := ?_))
          exact ih
  have st := key 0 .null .null nI_0.symm
  rw [show fo (hpF set) 0 mi = mi from rfl, am_set_self z2] at st
  exact st
end MHope
