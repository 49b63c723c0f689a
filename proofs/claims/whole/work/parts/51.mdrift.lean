/-! the model's draws and drift (wb_*: pasted from kit/laws/BITS) -/
theorem wb_tb (n : Nat) : (lN n).toBitVec = BitVec.ofNat 64 n := rfl
theorem wb_inj {a b : Int64} (h : a.toBitVec = b.toBitVec) : a = b := Int64.toBitVec_inj.mp h
theorem wb_lt2 {a b : Nat} (h : a < b) : 2 ^ a < 2 ^ b := Nat.pow_lt_pow_right (by decide) h
theorem wb_and {a b : Nat} (ha : a < 2 ^ 64) (hb : b < 2 ^ 64) : lN a &&& lN b = lN (a &&& b) := by
  apply wb_inj
  rw [Int64.toBitVec_and, wb_tb, wb_tb, wb_tb]
  apply BitVec.eq_of_toNat_eq
  rw [BitVec.toNat_and, BitVec.toNat_ofNat, BitVec.toNat_ofNat, BitVec.toNat_ofNat, Nat.mod_eq_of_lt ha, Nat.mod_eq_of_lt hb, Nat.mod_eq_of_lt (Nat.and_lt_two_pow _ hb)]
theorem wb_mask {n k : Nat} (hn : n < 2 ^ 64) (hk : k < 64) : lN n &&& lN (2 ^ k - 1) = lN (n % 2 ^ k) := by
  rw [wb_and hn (by have := wb_lt2 hk; omega), Nat.and_two_pow_sub_one_eq_mod]
/-- the next seed, as a number -/
def lcN (n : Nat) : Nat := (n * 1103515245 + 12345) % 2147483648
theorem lcN_lt (n : Nat) : lcN n < 2 ^ 31 := Nat.mod_lt _ (by decide)
theorem lc_long {n : Nat} (hn : n < 2 ^ 31) : (nI n).toInt64 * 1103515245 + 12345 = lN (n * 1103515245 + 12345) := by
  rw [nI_l hn, show (1103515245 : Int64) = lN 1103515245 from rfl, lN_mul, show (12345 : Int64) = lN 12345 from rfl, lN_add]
theorem lcg_n {n : Nat} (hn : n < 2 ^ 31) : lcg (nI n) = nI (lcN n) := by
  unfold lcg
  rw [lc_long hn, show (2147483647 : Int64) = lN (2 ^ 31 - 1) from rfl, wb_mask (by omega) (by decide), lN_i]
  rfl
theorem lcr_n {n : Nat} (hn : n < 2 ^ 31) : ((nI n).toInt64 * 1103515245 + 12345) - ((nI n).toInt64 * 1103515245 + 12345) / 2147483648 * 2147483648 = (lcg (nI n)).toInt64 := by
  rw [lc_long hn, show (2147483648 : Int64) = lN 2147483648 from rfl, pk_lRem (by omega) (by decide) (by decide), lcg_n hn, nI_l (lcN_lt n)]
  rfl
theorem drw_n {n m : Nat} (hn : n < 2 ^ 31) (h0 : 0 < m) (hm : m < 2 ^ 31) : drw (nI n) (nI m) = nI (lcN n / 65536 % m) := by
  unfold drw
  have := lcN_lt n
  rw [lcg_n hn, show (65536 : Int32) = nI 65536 from rfl, pk_div this (by decide) (by decide), pk_rem (by omega) h0 hm]
theorem drl_n {n m : Nat} (hn : n < 2 ^ 31) (h0 : 0 < m) (hm : m < 2 ^ 31) : ((lcg (nI n)).toInt64 / 65536 - (lcg (nI n)).toInt64 / 65536 / (nI m).toInt64 * (nI m).toInt64).toInt32 = drw (nI n) (nI m) := by
  have := lcN_lt n
  rw [drw_n hn h0 hm, lcg_n hn, nI_l this, nI_l hm, show (65536 : Int64) = lN 65536 from rfl, pk_lDiv (by omega) (by decide) (by decide), pk_lRem (by omega) h0 (by omega), lN_i]
theorem lcg_pos {sd : Int32} (h : ¬ sd < 0) : ¬ lcg sd < 0 := by
  obtain ⟨n, hn, rfl⟩ := nI_of h
  rw [lcg_n hn]
  exact nI_pos (lcN_lt n)
theorem rlrem2 {M : am_M} {j : Nat} {ls st : List Value} {h : am_H} {Φ : Option Value → am_H → Prop} {z : Nat × Nat × Nat × Value × List (Int32 × Nat)} {x y w : Int64} (hi : am_ins M j = (.lrem, z)) (hne : ¬ y = 0) (e : x - x / y * y = w) (kk : am_R M (j + 1, ls, .long w :: st) h Φ) : am_R M (j, ls, .long y :: .long x :: st) h Φ := rlrem hi hne (by rw [e]; exact kk)
theorem rldiv {M : am_M} {j : Nat} {ls st : List Value} {h : am_H} {Φ : Option Value → am_H → Prop} {z : Nat × Nat × Nat × Value × List (Int32 × Nat)} {x y : Int64} (hi : am_ins M j = (.ldiv, z)) (hne : ¬ y = 0) (kk : am_R M (j + 1, ls, .long (x / y) :: st) h Φ) : am_R M (j, ls, .long y :: .long x :: st) h Φ := by
  refine am_R_step (by rw [hi]; rfl) ?_ kk
  rw [hi]
  simp only [am_step, am_l2]
  rw [if_neg hne]
section MDrift
variable {h h' : am_H} {len N P rc bc : Nat} {fa G sd : Int32} {tx wa me rx rh bw bs : Nat → Int32} {S S' : Sc} {dd dd' : List Sc} {i0 i1 : Im}
theorem w_drawn {m : Nat} {x : Int32} (hs : ¬ sd < 0) (hx : x = nI m) (m0 : 0 < m) (hm : m < 2 ^ 31) (R : mRep ⟨⟨len, tx⟩, fa, ⟨N, P, G, wa, me⟩, S, dd, ⟨rc, rx, rh⟩, ⟨bc, bw, bs⟩, sd, i0, i1⟩ h) : am_T M_Mo_drawn [.ref 130, .int x] h (fun r h' => ∃ d s, d = drw sd x ∧ s = lcg sd ∧ r = some (.int d) ∧ mRep ⟨⟨len, tx⟩, fa, ⟨N, P, G, wa, me⟩, S, dd, ⟨rc, rx, rh⟩, ⟨bc, bw, bs⟩, s, i0, i1⟩ h' ∧ am_fk [130] h h') := by
  subst hx
  obtain ⟨n, hn, rfl⟩ := nI_of hs
  obtain ⟨s, es⟩ : ∃ s, s = lcg (nI n) := ⟨_, rfl⟩
  obtain ⟨d, ed⟩ : ∃ d, d = drw (nI n) (nI m) := ⟨_, rfl⟩
  have e1 := lcr_n hn
  have e2 := drl_n hn m0 hm
  rw [← ed, ← es] at e2
  rw [← es] at e1
  obtain ⟨ra, rf, rn, rm, sm, x1, x2, x3, x4, x5, x6, x7, x8, x9, x10, x11⟩ := id R
  obtain ⟨y1, y2, waC, meC, y3, y4, y5, y6⟩ := id x4
  obtain ⟨wh, mi, fe, fl, z1, z2, z3, z4, z5⟩ := id x5
  generalize (nI n).toInt64 = w at x1 e1
  have hne : ¬ (nI m).toInt64 = 0 := by
    rw [nI_l hm, show (0 : Int64) = lN 0 from rfl, lN_eq hm (by decide)]
    omega
  (try unfold am_E); unfold am_T
  refine rs [] rfl rfl rfl rfl ?_
  refine rs [] rfl rfl rfl rfl ?_
  refine rgeta (hi := rfl) (kk := ?_)
  refine rk rfl rfl ?_
  refine rs [] rfl rfl rfl rfl ?_
  refine rk rfl rfl ?_
  refine rs [] rfl rfl rfl rfl ?_
  refine rk rfl rfl ?_
  refine rlrem2 rfl (by decide) e1 ?_
  refine rputa (hi := rfl) (kk := ?_)
  refine rs [] rfl rfl rfl rfl ?_
  refine rgeta (hi := rfl) (hc := am_set_eq) (kk := ?_)
  refine rk rfl rfl ?_
  refine rldiv rfl (by decide) ?_
  refine rs [] rfl rfl rfl rfl ?_
  refine rs [] rfl rfl rfl rfl ?_
  refine rlrem rfl hne ?_
  refine rs [] rfl rfl rfl rfl ?_
  refine rret rfl rfl ?_
  have f : am_fk [130] h (am_set h 130 (mO (nI len) fa ra rf rn rm (nI N) G S.2.2.2.2.1 (nI P) S.2.2.2.2.2.1 S.2.2.2.2.2.2 (nI dd.length) s.toInt64 (nI rc) sm (nI bc))) := fl_set fl_rf (by decide)
  exact ⟨d, s, ed, es, congrArg (fun z => some (Value.int z)) e2, ⟨ra, rf, rn, rm, sm, am_set_eq, x2.fl f (by decide), x3.fl f (by decide), x4.fl f (by decide), x5.fl f (by decide), x6.fl f (by decide), x7.fl f (by decide), x8.fl f (by decide), x9.fl f (by decide), x10.fl f (by decide), x11.fl f (by decide)⟩, f⟩
/-- the last draw of a day, and its train -/
theorem w_dayT {n x v3 : Value} {Φ : Option Value → am_H → Prop} (hs : ¬ sd < 0) (hN0 : 1 ≤ N) (hme : wfM P me) (hS : wfS N P S) (R : mRep ⟨⟨len, tx⟩, fa, ⟨N, P, G, wa, me⟩, S, dd, ⟨rc, rx, rh⟩, ⟨bc, bw, bs⟩, sd, i0, i1⟩ h) (kk : ∀ d s h', d = drw sd 6 → s = lcg sd → mRep ⟨⟨len, tx⟩, fa, ⟨N, P, G, wa, me⟩, rnA N P G wa me 0 (S.1, S.2.1, S.2.2.1, S.2.2.2.1, d, S.2.2.2.2.2), dd, ⟨rc, rx, rh⟩, ⟨bc, bw, bs⟩, s, i0, i1⟩ h' → am_fr 130 149 h h' → am_R M_Mo_drift (48, [.ref 130, n, x, v3], []) h' Φ) : am_R M_Mo_drift (40, [.ref 130, n, x, v3], []) h Φ := by
  have x1 := R
  obtain ⟨ra, rf, rn, rm, sm, x1, -⟩ := x1
  repeat (first | refine rs [] rfl rfl rfl rfl ?_ | refine rk rfl rfl ?_ | refine rgoh [] rfl rfl ?_ | refine rgeta (hi := rfl) (kk := ?_) | refine rialda (hi := rfl) (kk := ?_))
  refine rcvt rfl rfl rfl rfl rfl x1 rfl (w_drawn (m := 6) hs (by decide) (by omega) (by omega) R) ?_
  rintro r h1 ⟨d, s, ed, es, rfl, R1, f1⟩
  show am_R M_Mo_drift (44, [.ref 130, n, x, v3], [.int d, .ref 130]) _ _
  obtain ⟨ra, rf, rn, rm, sm, x1, x2, x3, x4, x5, x6, x7, x8, x9, x10, x11⟩ := id R1
  obtain ⟨y1, y2, waC, meC, y3, y4, y5, y6⟩ := id x4
  obtain ⟨wh, mi, fe, fl, z1, z2, z3, z4, z5⟩ := id x5
  refine rputa (hi := rfl) (kk := ?_)
  have f : am_fk [130] h1 (am_set h1 130 (mO (nI len) fa ra rf rn rm (nI N) G d (nI P) S.2.2.2.2.2.1 S.2.2.2.2.2.2 (nI dd.length) s.toInt64 (nI rc) sm (nI bc))) := fl_set fl_rf (by decide)
  have R2 : mRep ⟨⟨len, tx⟩, fa, ⟨N, P, G, wa, me⟩, (S.1, S.2.1, S.2.2.1, S.2.2.2.1, d, S.2.2.2.2.2), dd, ⟨rc, rx, rh⟩, ⟨bc, bw, bs⟩, s, i0, i1⟩ (am_set h1 130 (mO (nI len) fa ra rf rn rm (nI N) G d (nI P) S.2.2.2.2.2.1 S.2.2.2.2.2.2 (nI dd.length) s.toInt64 (nI rc) sm (nI bc))) := ⟨ra, rf, rn, rm, sm, am_set_eq, x2.fl f (by decide), x3.fl f (by decide), x4.fl f (by decide), x5.fl f (by decide), x6.fl f (by decide), x7.fl f (by decide), x8.fl f (by decide), x9.fl f (by decide), x10.fl f (by decide), x11.fl f (by decide)⟩
  have f2 : am_fr 130 149 h (am_set h1 130 (mO (nI len) fa ra rf rn rm (nI N) G d (nI P) S.2.2.2.2.2.1 S.2.2.2.2.2.2 (nI dd.length) s.toInt64 (nI rc) sm (nI bc))) := fr_tr (fl_fr f1 (by decide)) (fl_fr (lo := 130) (hi := 149) f (by decide)) (by omega) (by omega)
  have x1' : (am_set h1 130 (mO (nI len) fa ra rf rn rm (nI N) G d (nI P) S.2.2.2.2.2.1 S.2.2.2.2.2.2 (nI dd.length) s.toInt64 (nI rc) sm (nI bc))).1 130 = mO (nI len) fa ra rf rn rm (nI N) G d (nI P) S.2.2.2.2.2.1 S.2.2.2.2.2.2 (nI dd.length) s.toInt64 (nI rc) sm (nI bc) := am_set_eq
  show am_R M_Mo_drift (45, [.ref 130, n, x, v3], []) (am_set h1 130 (mO (nI len) fa ra rf rn rm (nI N) G d (nI P) S.2.2.2.2.2.1 S.2.2.2.2.2.2 (nI dd.length) s.toInt64 (nI rc) sm (nI bc))) Φ
  generalize am_set h1 130 (mO (nI len) fa ra rf rn rm (nI N) G d (nI P) S.2.2.2.2.2.1 S.2.2.2.2.2.2 (nI dd.length) s.toInt64 (nI rc) sm (nI bc)) = h2 at *
  repeat (first | refine rs [] rfl rfl rfl rfl ?_ | refine rk rfl rfl ?_ | refine rgoh [] rfl rfl ?_ | refine rgeta (hi := rfl) (kk := ?_) | refine rialda (hi := rfl) (kk := ?_))
  refine rcvt rfl rfl rfl rfl rfl x1' rfl (w_run (S := (S.1, S.2.1, S.2.2.1, S.2.2.2.1, d, S.2.2.2.2.2)) hN0 hme hS R2) ?_
  rintro r h3 ⟨rfl, R3, f3⟩
  show am_R M_Mo_drift (48, [.ref 130, n, x, v3], []) _ _
  exact kk d s h3 ed es R3 (fr_tr f2 (fl_fr (lo := 130) (hi := 149) f3 (by decide)) (by omega) (by omega))
/-- one day -/
theorem w_day {n x : Int32} {v3 : Value} {Φ : Option Value → am_H → Prop} (hs : ¬ sd < 0) (hN0 : 1 ≤ N) (hme : wfM P me) (hS : wfS N P S) (R : mRep ⟨⟨len, tx⟩, fa, ⟨N, P, G, wa, me⟩, S, dd, ⟨rc, rx, rh⟩, ⟨bc, bw, bs⟩, sd, i0, i1⟩ h) (kk : ∀ v3 h', mRep ⟨⟨len, tx⟩, fa, ⟨N, P, G, wa, me⟩, rnA N P G wa me 0 (dyA P (S, sd)).1, dd, ⟨rc, rx, rh⟩, ⟨bc, bw, bs⟩, (dyA P (S, sd)).2, i0, i1⟩ h' → am_fr 130 149 h h' → am_R M_Mo_drift (48, [.ref 130, .int n, .int x, v3], []) h' Φ) : am_R M_Mo_drift (25, [.ref 130, .int n, .int x, v3], []) h Φ := by
  obtain ⟨ra, rf, rn, rm, sm, x1, x2, x3, x4, x5, x6, x7, x8, x9, x10, x11⟩ := id R
  obtain ⟨y1, y2, waC, meC, y3, y4, y5, y6⟩ := id x4
  obtain ⟨wh, mi, fe, fl, z1, z2, z3, z4, z5⟩ := id x5
  repeat (first | refine rs [40] rfl rfl rfl rfl ?_ | refine rk rfl rfl ?_ | refine rgoh [40] rfl rfl ?_ | refine rgeta (hi := rfl) (kk := ?_) | refine rialda (hi := rfl) (kk := ?_))
  by_cases c : P = 0
  · (first | refine rif rfl rfl (fun c1 => ?_) (fun c1 => ?_) | refine ric rfl rfl (fun c1 => ?_) (fun c1 => ?_))
    · refine w_dayT hs hN0 hme hS R (fun d s h' ed es R' f' => ?_)
      have e : dyA P (S, sd) = ((S.1, S.2.1, S.2.2.1, S.2.2.2.1, d, S.2.2.2.2.2), s) := by
        rw [ed, es]
        exact if_pos c
      rw [e] at kk
      exact kk _ h' R' f'
    · exact absurd (by rw [c]; decide) c1
  · (first | refine rif rfl rfl (fun c1 => ?_) (fun c1 => ?_) | refine ric rfl rfl (fun c1 => ?_) (fun c1 => ?_))
    · exact absurd c1 (nI_nle (by omega) (by omega))
    · obtain ⟨k, hk, ek⟩ : ∃ k, k < P ∧ drw sd (nI P) = nI k := by
        obtain ⟨t, ht, rfl⟩ := nI_of hs
        exact ⟨_, Nat.mod_lt _ (by omega), drw_n ht (by omega) (by omega)⟩
      repeat (first | refine rs [40] rfl rfl rfl rfl ?_ | refine rk rfl rfl ?_ | refine rgoh [40] rfl rfl ?_ | refine rgeta (hi := rfl) (kk := ?_) | refine rialda (hi := rfl) (kk := ?_))
      refine rcvt rfl rfl rfl rfl rfl x1 rfl (w_drawn (m := P) hs rfl (by omega) (by omega) R) ?_
      rintro r h1 ⟨d, s, ed, es, rfl, R1, f1⟩
      show am_R M_Mo_drift (32, [.ref 130, .int n, .int x, v3], [.int d]) _ _
      rw [ek] at ed
      subst ed
      have hs1 : ¬ s < 0 := es ▸ lcg_pos hs
      have x1 := R1
      obtain ⟨ra, rf, rn, rm, sm, x1, -⟩ := x1
      repeat (first | refine rs [40] rfl rfl rfl rfl ?_ | refine rk rfl rfl ?_ | refine rgoh [40] rfl rfl ?_ | refine rgeta (hi := rfl) (kk := ?_) | refine rialda (hi := rfl) (kk := ?_))
      refine rcvt rfl rfl rfl rfl rfl x1 rfl (w_drawn (m := 10) hs1 (by decide) (by omega) (by omega) R1) ?_
      rintro r h2 ⟨d2, s2, ed2, es2, rfl, R2, f2⟩
      show am_R M_Mo_drift (39, [.ref 130, .int n, .int x, .int (nI k)], [.int d2, .int (nI k), .ref 137]) _ _
      have hs2 : ¬ s2 < 0 := es2 ▸ lcg_pos hs1
      obtain ⟨ra, rf, rn, rm, sm, x1, x2, x3, x4, x5, x6, x7, x8, x9, x10, x11⟩ := id R2
      obtain ⟨y1, y2, waC, meC, y3, y4, y5, y6⟩ := id x4
      obtain ⟨wh, mi, fe, fl, z1, z2, z3, z4, z5⟩ := id x5
      refine riasta (hi := rfl) (kk := ?_)
      have f3 : am_fk [134, 137, 138, 139] h2 (am_set h2 137 (iar (upd mi k d2))) := fl_set fl_rf (by decide)
      have R3 := mRep_sc (S' := (S.1, upd S.2.1 k d2, S.2.2)) R2 f3 ⟨wh, upd mi k d2, fe, fl, by rw [am_set_ne (by omega)]; exact z1, am_set_eq, by rw [am_set_ne (by omega)]; exact z3, by rw [am_set_ne (by omega)]; exact z4, fun p hp => ⟨(z5 p hp).1, eqP_upd (fun p hp => (z5 p hp).2.1) p hp, (z5 p hp).2.2⟩⟩ rfl
      refine w_dayT (S := (S.1, upd S.2.1 k d2, S.2.2)) hs2 hN0 hme hS R3 (fun d3 s3 h' ed3 es3 R' f' => ?_)
      have e : dyA P (S, sd) = ((S.1, upd S.2.1 k d2, S.2.2.1, S.2.2.2.1, d3, S.2.2.2.2.2), s3) := by
        unfold dyA
        rw [if_neg c]
        dsimp only
        rw [ek, if_pos (inR_nI hk (by omega)), nI_clamp (by omega), ← es, ← ed2, ← es2, ← ed3, ← es3]
      rw [e] at kk
      exact kk _ h' R' (fr_tr (fr_tr (fl_fr (lo := 130) (hi := 149) f1 (by decide)) (fr_tr (fl_fr (lo := 130) (hi := 149) f2 (by decide)) (fl_fr (lo := 130) (hi := 149) f3 (by decide)) (by omega) (by omega)) (by omega) (by omega)) f' (by omega) (by omega))
theorem p1 {α β : Type} (a : α) (b : β) : (a, b).1 = a := rfl
theorem p2 {α β : Type} (a : α) (b : β) : (a, b).2 = b := rfl
theorem dyA_1 {z : Sc × Int32} : (dyA P z).1.1 = z.1.1 := by
  unfold dyA
  by_cases c : P = 0
  · rw [if_pos c, p1, p1]
  · rw [if_neg c, p1, p1]
theorem dyA_2 {z : Sc × Int32} (h : ¬ z.2 < 0) : ¬ (dyA P z).2 < 0 := by
  unfold dyA
  by_cases c : P = 0
  · rw [if_pos c, p2]
    exact lcg_pos h
  · rw [if_neg c, p2]
    exact lcg_pos (lcg_pos (lcg_pos h))
theorem wfS_dr (hN0 : 1 ≤ N) (hS : wfS N P S) (hs : ¬ sd < 0) (i : Nat) : wfS N P (drA N P G wa me i (S, dd, sd)).1 ∧ ¬ (drA N P G wa me i (S, dd, sd)).2.2 < 0 := by
  induction i with
  | zero => exact ⟨hS, hs⟩
  | succ i ih =>
    refine ⟨wfS_rn hN0 ?_, dyA_2 ih.2⟩
    intro p hp
    rw [dyA_1]
    exact ih.1 p hp
theorem w_drift {n : Int32} (W : wfQ ⟨⟨len, tx⟩, fa, ⟨N, P, G, wa, me⟩, S, dd, ⟨rc, rx, rh⟩, ⟨bc, bw, bs⟩, sd, i0, i1⟩) (R : mRep ⟨⟨len, tx⟩, fa, ⟨N, P, G, wa, me⟩, S, dd, ⟨rc, rx, rh⟩, ⟨bc, bw, bs⟩, sd, i0, i1⟩ h) : am_W M_Mo_drift [.ref 130, .int n] (o_drift n ⟨⟨len, tx⟩, fa, ⟨N, P, G, wa, me⟩, S, dd, ⟨rc, rx, rh⟩, ⟨bc, bw, bs⟩, sd, i0, i1⟩) h := by
  obtain ⟨ra, rf, rn, rm, sm, x1, x2, x3, x4, x5, x6, x7, x8, x9, x10, x11⟩ := id R
  obtain ⟨y1, y2, waC, meC, y3, y4, y5, y6⟩ := id x4
  obtain ⟨wh, mi, fe, fl, z1, z2, z3, z4, z5⟩ := id x5
  obtain ⟨w1, w2, w3, w4, w5, w6, w7, w8, w9, w10, w11⟩ := id W
  unfold am_W o_drift
  (try unfold am_E); unfold am_T
  dsimp only
  repeat (first | refine rs [] rfl rfl rfl rfl ?_ | refine rk rfl rfl ?_ | refine rgoh [] rfl rfl ?_ | refine rgeta (hi := rfl) (kk := ?_) | refine rialda (hi := rfl) (kk := ?_))
  refine rcss rfl rfl rfl rfl rfl (w_in) ?_
  by_cases d : n < 1 ∨ 20 < n
  · have er : rfA n N S = -1000000002 := if_pos d
    rw [er, if_pos d, if_neg (by decide)]
    (first | refine rift rfl rfl ?_ | refine riff rfl rfl ?_ | refine rict rfl rfl ?_ | refine ricf rfl rfl ?_)
    repeat (first | refine rs [] rfl rfl rfl rfl ?_ | refine rk rfl rfl ?_ | refine rgoh [] rfl rfl ?_ | refine rgeta (hi := rfl) (kk := ?_) | refine rialda (hi := rfl) (kk := ?_))
    refine rret rfl rfl ?_
    exact ⟨rfl, R, fr_rf⟩
  · rw [if_neg d]
    (first | refine rift rfl rfl ?_ | refine riff rfl rfl ?_ | refine rict rfl rfl ?_ | refine ricf rfl rfl ?_)
    repeat (first | refine rs [] rfl rfl rfl rfl ?_ | refine rk rfl rfl ?_ | refine rgoh [] rfl rfl ?_ | refine rgeta (hi := rfl) (kk := ?_) | refine rialda (hi := rfl) (kk := ?_))
    (first | refine rif rfl rfl (fun c1 => ?_) (fun c1 => ?_) | refine ric rfl rfl (fun c1 => ?_) (fun c1 => ?_))
    · have er : rfA n N S = -1000000003 := by
        unfold rfA
        rw [if_neg d, if_pos]
        exact Classical.byContradiction (fun a => nI_ne0 (n := N) (by omega) (by omega) c1)
      rw [er, if_neg (by decide)]
      repeat (first | refine rs [] rfl rfl rfl rfl ?_ | refine rk rfl rfl ?_ | refine rgoh [] rfl rfl ?_ | refine rgeta (hi := rfl) (kk := ?_) | refine rialda (hi := rfl) (kk := ?_))
      refine rret rfl rfl ?_
      exact ⟨rfl, R, fr_rf⟩
    · have hN0 : ¬ N = 0 := fun a => c1 (by rw [a]; rfl)
      repeat (first | refine rs [20] rfl rfl rfl rfl ?_ | refine rk rfl rfl ?_ | refine rgoh [20] rfl rfl ?_ | refine rgeta (hi := rfl) (kk := ?_) | refine rialda (hi := rfl) (kk := ?_))
      (first | refine rif rfl rfl (fun c2 => ?_) (fun c2 => ?_) | refine ric rfl rfl (fun c2 => ?_) (fun c2 => ?_))
      · have er : rfA n N S = 0 := by
          unfold rfA
          rw [if_neg d, if_neg hN0, if_neg (Int32.not_lt.mpr c2)]
        rw [er, if_pos rfl]
        obtain ⟨m, rfl, m1, m2, -⟩ := rfA_0 er
        rw [nI_clamp (by omega)]
        repeat (first | refine rs [20] rfl rfl rfl rfl ?_ | refine rk rfl rfl ?_ | refine rgoh [20] rfl rfl ?_ | refine rgeta (hi := rfl) (kk := ?_) | refine rialda (hi := rfl) (kk := ?_))
        refine lup (P := fun i => ∀ x v3 h1, x = nI i → mRep ⟨⟨len, tx⟩, fa, ⟨N, P, G, wa, me⟩, (drA N P G wa me i (S, dd, sd)).1, (drA N P G wa me i (S, dd, sd)).2.1, ⟨rc, rx, rh⟩, ⟨bc, bw, bs⟩, (drA N P G wa me i (S, dd, sd)).2.2, i0, i1⟩ h1 → am_fr 130 149 h h1 → am_R M_Mo_drift (20, [.ref 130, .int (nI m), .int x, v3], []) h1 _) m ?_ ?_ 0 _ h nI_0.symm R fr_rf
        · rintro x v3 h1 rfl R1 f1
          obtain ⟨ra, rf, rn, rm, sm, x1, -⟩ := id R1
          repeat (first | refine rs [] rfl rfl rfl rfl ?_ | refine rk rfl rfl ?_ | refine rgoh [] rfl rfl ?_ | refine rgeta (hi := rfl) (kk := ?_) | refine rialda (hi := rfl) (kk := ?_))
          (first | refine rif rfl rfl (fun c1 => ?_) (fun c1 => ?_) | refine ric rfl rfl (fun c1 => ?_) (fun c1 => ?_))
          · repeat (first | refine rs [] rfl rfl rfl rfl ?_ | refine rk rfl rfl ?_ | refine rgoh [] rfl rfl ?_ | refine rgeta (hi := rfl) (kk := ?_) | refine rialda (hi := rfl) (kk := ?_))
            (first | refine rcvs rfl rfl rfl rfl rfl (by first | assumption | (simp (disch := omega) only [am_set_ne, am_set_eq]; first | assumption | rfl)) rfl (w_ars R1) ?_ | refine rcvn rfl rfl rfl rfl rfl (by first | assumption | (simp (disch := omega) only [am_set_ne, am_set_eq]; first | assumption | rfl)) rfl (w_ars R1) ?_)
            refine rret rfl rfl ?_
            exact ⟨rfl, R1, f1⟩
          · exact absurd (Int32.le_refl _) c1
        · rintro i hi ih x v3 h1 rfl R1 f1
          have hw := wfS_dr (G := G) (wa := wa) (me := me) (dd := dd) (by omega) w5 w9 i
          obtain ⟨ra, rf, rn, rm, sm, x1, -⟩ := id R1
          repeat (first | refine rs [] rfl rfl rfl rfl ?_ | refine rk rfl rfl ?_ | refine rgoh [] rfl rfl ?_ | refine rgeta (hi := rfl) (kk := ?_) | refine rialda (hi := rfl) (kk := ?_))
          (first | refine rif rfl rfl (fun c1 => ?_) (fun c1 => ?_) | refine ric rfl rfl (fun c1 => ?_) (fun c1 => ?_))
          · exact absurd hi ((nI_lt_iff (by omega) (by omega)).mp c1)
          · repeat (first | refine rs [] rfl rfl rfl rfl ?_ | refine rk rfl rfl ?_ | refine rgoh [] rfl rfl ?_ | refine rgeta (hi := rfl) (kk := ?_) | refine rialda (hi := rfl) (kk := ?_))
            refine rcvt rfl rfl rfl rfl rfl x1 rfl (w_notes R1) ?_
            rintro r h2 ⟨rfl, R2, f2⟩
            show am_R M_Mo_drift (25, [.ref 130, .int (nI m), .int (nI i), v3], []) _ _
            refine w_day hw.2 (by omega) w4 hw.1 R2 (fun v3 h3 R3 f3 => ?_)
            repeat (first | refine rs [20] rfl rfl rfl rfl ?_ | refine rk rfl rfl ?_ | refine rgoh [20] rfl rfl ?_ | refine rgeta (hi := rfl) (kk := ?_) | refine rialda (hi := rfl) (kk := ?_))
            exact ih _ v3 h3 (nI_succ i).symm R3 (fr_tr f1 (fr_tr (lo := 130) (hi := 149) (fl_fr f2 (by decide)) f3 (by omega) (by omega)) (by omega) (by omega))
      · have er : rfA n N S = -1000000004 := by
          unfold rfA
          rw [if_neg d, if_neg hN0, if_pos (Int32.not_le.mp c2)]
        rw [er, if_neg (by decide)]
        repeat (first | refine rs [] rfl rfl rfl rfl ?_ | refine rk rfl rfl ?_ | refine rgoh [] rfl rfl ?_ | refine rgeta (hi := rfl) (kk := ?_) | refine rialda (hi := rfl) (kk := ?_))
        refine rret rfl rfl ?_
        exact ⟨rfl, R, fr_rf⟩
end MDrift
