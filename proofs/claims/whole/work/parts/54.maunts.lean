/-! the model's call aunts -/
section MAunts
variable {h h' : am_H} {len N P rc bc : Nat} {fa G sd : Int32} {tx wa me rx rh bw bs : Nat → Int32} {S S' : Sc} {dd dd' : List Sc} {i0 i1 : Im}
theorem upd_upd {f : Nat → Int32} {k : Nat} {a b : Int32} : upd (upd f k a) k b = upd f k b := by
  funext q
  by_cases e : q = k
  · rw [e, pk_us, pk_us]
  · rw [pk_un e, pk_un e, pk_un e]
theorem mRep_me {k : Nat} {v : Int32} {meC : Nat → Int32} (hm : h.1 136 = iar meC) (R : mRep ⟨⟨len, tx⟩, fa, ⟨N, P, G, wa, me⟩, S, dd, ⟨rc, rx, rh⟩, ⟨bc, bw, bs⟩, sd, i0, i1⟩ h) : mRep ⟨⟨len, tx⟩, fa, ⟨N, P, G, wa, upd me k v⟩, S, dd, ⟨rc, rx, rh⟩, ⟨bc, bw, bs⟩, sd, i0, i1⟩ (am_set h 136 (iar (upd meC k v))) := by
  obtain ⟨ra, rf, rn, rm, sm, x1, x2, x3, ⟨y1, y2, waC, meC', y3, y4, y5, y6⟩, x5, x6, x7, x8, x9, x10, x11⟩ := R
  have f : am_fk [136] h (am_set h 136 (iar (upd meC k v))) := fl_set fl_rf (by decide)
  rw [hm] at y4
  have em : meC = meC' := by
    injection y4 with y4
    injection y4 with _ y4
    injection y4 with _ y4
    injection y4
  refine ⟨ra, rf, rn, rm, sm, by rw [f.2 _ (by decide)]; exact x1, x2.fl f (by decide), x3.fl f (by decide), ⟨y1, y2, waC, upd meC k v, by rw [f.2 _ (by decide)]; exact y3, am_set_eq, y5, ?_⟩, x5.fl f (by decide), x6.fl f (by decide), x7.fl f (by decide), x8.fl f (by decide), x9.fl f (by decide), x10.fl f (by decide), x11.fl f (by decide)⟩
  rw [em]
  exact eqP_upd y6
theorem wfM_upd {k : Nat} {v : Int32} (q : wfM P me) (hv : v = -1 ∨ ∃ j, j < P ∧ v = nI j) : wfM P (upd me k v) := by
  intro p hp
  by_cases e : p = k
  · rw [e, pk_us]
    exact hv
  · rw [pk_un e]
    exact q p hp
theorem i8' : (8 : Int32) = nI 8 := by decide
set_option maxHeartbeats 1000000 in
theorem w_aunts {p x : Int32} (W : wfQ ⟨⟨len, tx⟩, fa, ⟨N, P, G, wa, me⟩, S, dd, ⟨rc, rx, rh⟩, ⟨bc, bw, bs⟩, sd, i0, i1⟩) (R : mRep ⟨⟨len, tx⟩, fa, ⟨N, P, G, wa, me⟩, S, dd, ⟨rc, rx, rh⟩, ⟨bc, bw, bs⟩, sd, i0, i1⟩ h) : am_W M_Mo_aunts [.ref 130, .int p, .int x] (o_aunts p x ⟨⟨len, tx⟩, fa, ⟨N, P, G, wa, me⟩, S, dd, ⟨rc, rx, rh⟩, ⟨bc, bw, bs⟩, sd, i0, i1⟩) h := by
  obtain ⟨w1, w2, w3, w4, w5, w6, w7, w8, w9, w10, w11⟩ := id W
  obtain ⟨ra, rf, rn, rm, sm, x1, x2, x3, x4, x5, x6, x7, x8, x9, x10, x11⟩ := id R
  obtain ⟨y1, y2, waC, meC, y3, y4, y5, y6⟩ := id x4
  obtain ⟨wh, mi, fe, fl, z1, z2, z3, z4, z5⟩ := id x5
  unfold am_W o_aunts
  (try unfold am_E); unfold am_T
  dsimp only
  repeat (first | refine rs [] rfl rfl rfl rfl ?_ | refine rk rfl rfl ?_ | refine rgoh [] rfl rfl ?_ | refine rgeta (hi := rfl) (kk := ?_) | refine rialda (hi := rfl) (kk := ?_))
  (first | refine rcvs rfl rfl rfl rfl rfl (by first | assumption | (simp (disch := omega) only [am_set_ne, am_set_eq]; first | assumption | rfl)) rfl (w_isPerson y2 x1) ?_ | refine rcvn rfl rfl rfl rfl rfl (by first | assumption | (simp (disch := omega) only [am_set_ne, am_set_eq]; first | assumption | rfl)) rfl (w_isPerson y2 x1) ?_)
  by_cases c : inR p P
  · rw [if_pos c]
    (first | refine rift rfl rfl ?_ | refine riff rfl rfl ?_ | refine rict rfl rfl ?_ | refine ricf rfl rfl ?_)
    repeat (first | refine rs [] rfl rfl rfl rfl ?_ | refine rk rfl rfl ?_ | refine rgoh [] rfl rfl ?_ | refine rgeta (hi := rfl) (kk := ?_) | refine rialda (hi := rfl) (kk := ?_))
    (first | refine rcvs rfl rfl rfl rfl rfl (by first | assumption | (simp (disch := omega) only [am_set_ne, am_set_eq]; first | assumption | rfl)) rfl (w_isStation y1 x1) ?_ | refine rcvn rfl rfl rfl rfl rfl (by first | assumption | (simp (disch := omega) only [am_set_ne, am_set_eq]; first | assumption | rfl)) rfl (w_isStation y1 x1) ?_)
    by_cases d : inR x N
    · rw [if_pos d, if_pos ⟨c, d⟩]
      (first | refine rift rfl rfl ?_ | refine riff rfl rfl ?_ | refine rict rfl rfl ?_ | refine ricf rfl rfl ?_)
      obtain ⟨k, hk, rfl⟩ := inR_of c (by omega)
      have hN0 : 1 ≤ N := by
        rcases Nat.lt_or_ge N 1 with a | a
        · have := w1 (by omega)
          omega
        · exact a
      rw [nI_clamp (by omega)]
      repeat (first | refine rs [] rfl rfl rfl rfl ?_ | refine rk rfl rfl ?_ | refine rgoh [] rfl rfl ?_ | refine rgeta (hi := rfl) (kk := ?_) | refine rialda (hi := rfl) (kk := ?_))
      refine rcvt rfl rfl rfl rfl rfl x1 rfl (w_begin R) ?_
      rintro r h1 ⟨rfl, R1, A1, f1⟩
      rw [y6 k hk]
      show am_R M_Mo_aunts (19, [.ref 130, .int (nI k), .int x, .int (me k), .int 0, _], []) _ _
      generalize eΦ : (fun r h' => r = some (Value.int (if enA N P G wa me S k (-1) = x then auA N P G wa me S k x P ||| 256 else auA N P G wa me S k x P)) ∧ mRep ⟨⟨len, tx⟩, fa, ⟨N, P, G, wa, me⟩, S, dd, ⟨rc, rx, rh⟩, ⟨bc, bw, bs⟩, sd, i0, i1⟩ h' ∧ am_fr 130 149 h h') = Φ
      have body : ∀ a h1 c v m, wfM P (upd me k a) → mRep ⟨⟨len, tx⟩, fa, ⟨N, P, G, wa, upd me k c⟩, S, dd, ⟨rc, rx, rh⟩, ⟨bc, bw, bs⟩, sd, i0, i1⟩ h1 → asD P S h1 → am_fr 130 149 h h1 → (∀ h', mRep ⟨⟨len, tx⟩, fa, ⟨N, P, G, wa, upd me k a⟩, S, dd, ⟨rc, rx, rh⟩, ⟨bc, bw, bs⟩, sd, i0, i1⟩ h' → asD P S h' → am_fr 130 149 h h' → am_R M_Mo_aunts (63, [.ref 130, .int (nI k), .int x, .int (me k), .int (if enA N P G wa me S k a = x then v ||| sh1 m else v), .int m], []) h' Φ) → am_R M_Mo_aunts (43, [.ref 130, .int (nI k), .int x, .int (me k), .int v, .int m], [.int a, .int (nI k), .ref 136]) h1 Φ := by
        intro a h1 c v m wm R1 A1 f1 kk
        obtain ⟨ra, rf, rn, rm, sm, x1, x2, x3, x4, x5, x6, x7, x8, x9, x10, x11⟩ := id R1
        obtain ⟨y1, y2, waC, meC, y3, y4, y5, y6⟩ := id x4
        obtain ⟨wh, mi, fe, fl, z1, z2, z3, z4, z5⟩ := id x5
        have R2 := mRep_me (k := k) (v := a) y4 R1
        rw [upd_upd] at R2
        refine riasta (hi := rfl) (kk := ?_)
        have g2 : am_fk [136] h1 (am_set h1 136 (iar (upd meC k a))) := fl_set fl_rf (by decide)
        have A2 := A1.fl g2 (by decide)
        have f2 : am_fr 130 149 h (am_set h1 136 (iar (upd meC k a))) := fr_tr f1 (fl_fr (lo := 130) (hi := 149) g2 (by decide)) (by omega) (by omega)
        clear x1 x2 x3 x4 x5 x6 x7 x8 x9 x10 x11 z1 z2 z3 z4 z5 y3 y5 y6 g2
        show am_R M_Mo_aunts (44, _, _) (am_set h1 136 (iar (upd meC k a))) _
        generalize am_set h1 136 (iar (upd meC k a)) = h2 at *
        obtain ⟨ra, rf, rn, rm, sm, x1⟩ := R2.top
        repeat (first | refine rs [] rfl rfl rfl rfl ?_ | refine rk rfl rfl ?_ | refine rgoh [] rfl rfl ?_ | refine rgeta (hi := rfl) (kk := ?_) | refine rialda (hi := rfl) (kk := ?_))
        refine rcvt rfl rfl rfl rfl rfl x1 rfl (w_run hN0 wm w5 R2) ?_
        rintro r h3 ⟨rfl, R3, f3⟩
        show am_R M_Mo_aunts (47, [.ref 130, .int (nI k), .int x, .int (me k), .int v, .int m], []) _ _
        have A3 := A2.fl f3 (by decide)
        have f4 : am_fr 130 149 h h3 := fr_tr f2 (fl_fr (lo := 130) (hi := 149) f3 (by decide)) (by omega) (by omega)
        obtain ⟨ra, rf, rn, rm, sm, x1, x2, x3, x4, x5, x6, x7, x8, x9, x10, x11⟩ := id R3
        obtain ⟨y1, y2, waC, meC, y3, y4, y5, y6⟩ := id x4
        obtain ⟨wh, mi, fe, fl, z1, z2, z3, z4, z5⟩ := id x5
        have fin : ∀ v', v' = (if enA N P G wa me S k a = x then v ||| sh1 m else v) → am_R M_Mo_aunts (60, [.ref 130, .int (nI k), .int x, .int (me k), .int v, .int m], [.int v']) h3 Φ := by
          rintro v' rfl
          repeat (first | refine rs [] rfl rfl rfl rfl ?_ | refine rk rfl rfl ?_ | refine rgoh [] rfl rfl ?_ | refine rgeta (hi := rfl) (kk := ?_) | refine rialda (hi := rfl) (kk := ?_))
          refine rcvt rfl rfl rfl rfl rfl x1 rfl (w_back R3 A3) ?_
          rintro r h4 ⟨rfl, R4, f5⟩
          show am_R M_Mo_aunts (63, [.ref 130, .int (nI k), .int x, .int (me k), _, .int m], []) _ _
          exact kk h4 R4 (A3.fl f5 (by decide)) (fr_tr f4 (fl_fr (lo := 130) (hi := 149) f5 (by decide)) (by omega) (by omega))
        repeat (first | refine rs [] rfl rfl rfl rfl ?_ | refine rk rfl rfl ?_ | refine rgoh [] rfl rfl ?_ | refine rgeta (hi := rfl) (kk := ?_) | refine rialda (hi := rfl) (kk := ?_))
        rw [(z5 k hk).1]
        (first | refine rif rfl rfl (fun c4 => ?_) (fun c4 => ?_) | refine ric rfl rfl (fun c4 => ?_) (fun c4 => ?_))
        · repeat (first | refine rs [60] rfl rfl rfl rfl ?_ | refine rk rfl rfl ?_ | refine rgoh [60] rfl rfl ?_ | refine rgeta (hi := rfl) (kk := ?_) | refine rialda (hi := rfl) (kk := ?_))
          refine fin _ ?_
          rw [if_pos (show enA N P G wa me S k a = x from c4)]
          rfl
        · repeat (first | refine rs [60] rfl rfl rfl rfl ?_ | refine rk rfl rfl ?_ | refine rgoh [60] rfl rfl ?_ | refine rgeta (hi := rfl) (kk := ?_) | refine rialda (hi := rfl) (kk := ?_))
          refine fin _ ?_
          rw [if_neg (show ¬ enA N P G wa me S k a = x from c4)]
          exact Int32.or_zero
      repeat (first | refine rs [21] rfl rfl rfl rfl ?_ | refine rk rfl rfl ?_ | refine rgoh [21] rfl rfl ?_ | refine rgeta (hi := rfl) (kk := ?_) | refine rialda (hi := rfl) (kk := ?_))
      have e0 : upd me k (me k) = me := upd_self
      refine lup (P := fun i => ∀ y v c h1, y = nI i → v = (if i = 9 then (if enA N P G wa me S k (-1) = x then auA N P G wa me S k x P ||| 256 else auA N P G wa me S k x P) else auA N P G wa me S k x (min i P)) → mRep ⟨⟨len, tx⟩, fa, ⟨N, P, G, wa, upd me k c⟩, S, dd, ⟨rc, rx, rh⟩, ⟨bc, bw, bs⟩, sd, i0, i1⟩ h1 → asD P S h1 → am_fr 130 149 h h1 → am_R M_Mo_aunts (21, [.ref 130, .int (nI k), .int x, .int (me k), .int v, .int y], []) h1 Φ) 9 ?_ ?_ 0 0 (me k) h1 nI_0.symm ?_ (by rw [e0]; exact R1) A1 (fl_fr f1 (by decide))
      · rintro y v c h1 rfl hv R1 A1 f1
        rw [if_pos rfl] at hv
        obtain ⟨ra, rf, rn, rm, sm, x1, x2, x3, x4, x5, x6, x7, x8, x9, x10, x11⟩ := id R1
        obtain ⟨y1, y2, waC, meC, y3, y4, y5, y6⟩ := id x4
        obtain ⟨wh, mi, fe, fl, z1, z2, z3, z4, z5⟩ := id x5
        repeat (first | refine rs [] rfl rfl rfl rfl ?_ | refine rk rfl rfl ?_ | refine rgoh [] rfl rfl ?_ | refine rgeta (hi := rfl) (kk := ?_) | refine rialda (hi := rfl) (kk := ?_))
        (first | refine rift rfl rfl ?_ | refine riff rfl rfl ?_ | refine rict rfl rfl ?_ | refine ricf rfl rfl ?_)
        repeat (first | refine rs [] rfl rfl rfl rfl ?_ | refine rk rfl rfl ?_ | refine rgoh [] rfl rfl ?_ | refine rgeta (hi := rfl) (kk := ?_) | refine rialda (hi := rfl) (kk := ?_))
        refine riasta (hi := rfl) (kk := ?_)
        repeat (first | refine rs [] rfl rfl rfl rfl ?_ | refine rk rfl rfl ?_ | refine rgoh [] rfl rfl ?_ | refine rgeta (hi := rfl) (kk := ?_) | refine rialda (hi := rfl) (kk := ?_))
        refine rret rfl rfl ?_
        rw [← eΦ, ← hv]
        have R2 := mRep_me (k := k) (v := me k) y4 R1
        rw [upd_upd, e0] at R2
        exact ⟨rfl, R2, fr_tr f1 (fr_set (lo := 130) (hi := 149) fr_rf (by omega) (by omega)) (by omega) (by omega)⟩
      · rintro i hi ih y v c h1 rfl hv R1 A1 f1
        have ih := fun v c h1 => ih _ v c h1 (nI_succ i).symm
        rw [if_neg (by omega)] at hv
        obtain ⟨ra, rf, rn, rm, sm, x1⟩ := R1.top
        repeat (first | refine rs [] rfl rfl rfl rfl ?_ | refine rk rfl rfl ?_ | refine rgoh [] rfl rfl ?_ | refine rgeta (hi := rfl) (kk := ?_) | refine rialda (hi := rfl) (kk := ?_))
        (first | refine rif rfl rfl (fun c1 => ?_) (fun c1 => ?_) | refine ric rfl rfl (fun c1 => ?_) (fun c1 => ?_))
        · rw [i8', nI_ltI (by omega) (by omega)] at c1
          omega
        · repeat (first | refine rs [] rfl rfl rfl rfl ?_ | refine rk rfl rfl ?_ | refine rgoh [] rfl rfl ?_ | refine rgeta (hi := rfl) (kk := ?_) | refine rialda (hi := rfl) (kk := ?_))
          (first | refine rif rfl rfl (fun c2 => ?_) (fun c2 => ?_) | refine ric rfl rfl (fun c2 => ?_) (fun c2 => ?_))
          · rw [i8', nI_eq (by omega) (by omega)] at c2
            subst c2
            repeat (first | refine rs [] rfl rfl rfl rfl ?_ | refine rk rfl rfl ?_ | refine rgoh [] rfl rfl ?_ | refine rgeta (hi := rfl) (kk := ?_) | refine rialda (hi := rfl) (kk := ?_))
            (first | refine rift rfl rfl ?_ | refine riff rfl rfl ?_ | refine rict rfl rfl ?_ | refine ricf rfl rfl ?_)
            repeat (first | refine rs [43] rfl rfl rfl rfl ?_ | refine rk rfl rfl ?_ | refine rgoh [43] rfl rfl ?_ | refine rgeta (hi := rfl) (kk := ?_) | refine rialda (hi := rfl) (kk := ?_))
            refine body _ h1 c v _ (wfM_upd w4 (Or.inl rfl)) R1 A1 f1 (fun h' R' A' f' => ?_)
            repeat (first | refine rs [21] rfl rfl rfl rfl ?_ | refine rk rfl rfl ?_ | refine rgoh [21] rfl rfl ?_ | refine rgeta (hi := rfl) (kk := ?_) | refine rialda (hi := rfl) (kk := ?_))
            refine ih _ _ h' ?_ R' A' f'
            rw [if_pos rfl, hv, Nat.min_eq_right (by omega)]
            rfl
          · have i8 : i < 8 := by
              rw [i8', nI_eq (by omega) (by omega)] at c2
              omega
            repeat (first | refine rs [] rfl rfl rfl rfl ?_ | refine rk rfl rfl ?_ | refine rgoh [] rfl rfl ?_ | refine rgeta (hi := rfl) (kk := ?_) | refine rialda (hi := rfl) (kk := ?_))
            (first | refine rif rfl rfl (fun c3 => ?_) (fun c3 => ?_) | refine ric rfl rfl (fun c3 => ?_) (fun c3 => ?_))
            · have iP : P ≤ i := by
                rw [nI_leI (by omega) (by omega)] at c3
                exact c3
              repeat (first | refine rs [21] rfl rfl rfl rfl ?_ | refine rk rfl rfl ?_ | refine rgoh [21] rfl rfl ?_ | refine rgeta (hi := rfl) (kk := ?_) | refine rialda (hi := rfl) (kk := ?_))
              refine ih _ _ h1 ?_ R1 A1 f1
              rw [if_neg (by omega), hv, Nat.min_eq_right (by omega), Nat.min_eq_right (by omega)]
            · have iP : i < P := by
                rw [nI_leI (by omega) (by omega)] at c3
                omega
              rw [Nat.min_eq_left (by omega)] at hv
              have es : auA N P G wa me S k x (i + 1) = if ¬ i = k ∧ enA N P G wa me S k (nI i) = x then auA N P G wa me S k x i ||| sh1 (nI i) else auA N P G wa me S k x i := rfl
              repeat (first | refine rs [] rfl rfl rfl rfl ?_ | refine rk rfl rfl ?_ | refine rgoh [] rfl rfl ?_ | refine rgeta (hi := rfl) (kk := ?_) | refine rialda (hi := rfl) (kk := ?_))
              (first | refine rif rfl rfl (fun c4 => ?_) (fun c4 => ?_) | refine ric rfl rfl (fun c4 => ?_) (fun c4 => ?_))
              · rw [nI_eq (by omega) (by omega)] at c4
                repeat (first | refine rs [21] rfl rfl rfl rfl ?_ | refine rk rfl rfl ?_ | refine rgoh [21] rfl rfl ?_ | refine rgeta (hi := rfl) (kk := ?_) | refine rialda (hi := rfl) (kk := ?_))
                refine ih _ _ h1 ?_ R1 A1 f1
                rw [if_neg (by omega), Nat.min_eq_left (by omega), es, if_neg (fun a => a.1 c4), hv]
              · rw [nI_eq (by omega) (by omega)] at c4
                repeat (first | refine rs [] rfl rfl rfl rfl ?_ | refine rk rfl rfl ?_ | refine rgoh [] rfl rfl ?_ | refine rgeta (hi := rfl) (kk := ?_) | refine rialda (hi := rfl) (kk := ?_))
                (first | refine rif rfl rfl (fun c5 => ?_) (fun c5 => ?_) | refine ric rfl rfl (fun c5 => ?_) (fun c5 => ?_))
                · exact absurd c5 c2
                · repeat (first | refine rs [43] rfl rfl rfl rfl ?_ | refine rk rfl rfl ?_ | refine rgoh [43] rfl rfl ?_ | refine rgeta (hi := rfl) (kk := ?_) | refine rialda (hi := rfl) (kk := ?_))
                  refine body _ h1 c v _ (wfM_upd w4 (Or.inr ⟨i, iP, rfl⟩)) R1 A1 f1 (fun h' R' A' f' => ?_)
                  repeat (first | refine rs [21] rfl rfl rfl rfl ?_ | refine rk rfl rfl ?_ | refine rgoh [21] rfl rfl ?_ | refine rgeta (hi := rfl) (kk := ?_) | refine rialda (hi := rfl) (kk := ?_))
                  refine ih _ _ h' ?_ R' A' f'
                  rw [if_neg (show ¬ i + 1 = 9 by omega), Nat.min_eq_left (by omega), es, hv]
                  by_cases g : enA N P G wa me S k (nI i) = x
                  · rw [if_pos g, if_pos ⟨c4, g⟩]
                  · rw [if_neg g, if_neg (fun a => g a.2)]
      · rw [if_neg (by omega), Nat.zero_min]
        rfl
    · rw [if_neg d, if_neg (fun a => d a.2)]
      (first | refine rift rfl rfl ?_ | refine riff rfl rfl ?_ | refine rict rfl rfl ?_ | refine ricf rfl rfl ?_)
      repeat (first | refine rs [] rfl rfl rfl rfl ?_ | refine rk rfl rfl ?_ | refine rgoh [] rfl rfl ?_ | refine rgeta (hi := rfl) (kk := ?_) | refine rialda (hi := rfl) (kk := ?_))
      refine rret rfl rfl ?_
      exact ⟨rfl, R, fr_rf⟩
  · rw [if_neg c, if_neg (fun a => c a.1)]
    (first | refine rift rfl rfl ?_ | refine riff rfl rfl ?_ | refine rict rfl rfl ?_ | refine ricf rfl rfl ?_)
    repeat (first | refine rs [] rfl rfl rfl rfl ?_ | refine rk rfl rfl ?_ | refine rgoh [] rfl rfl ?_ | refine rgeta (hi := rfl) (kk := ?_) | refine rialda (hi := rfl) (kk := ?_))
    refine rret rfl rfl ?_
    exact ⟨rfl, R, fr_rf⟩
end MAunts
