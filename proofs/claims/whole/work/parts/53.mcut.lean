/-! the model's calls: cut, aunts -/
def popI (s : Int32) : Int32 := fo (fun k c => c + bitv s (nI k)) 9 0
def pop (j : Nat) : Nat := fo (fun k c => c + j / 2 ^ k % 2) 9 0
theorem pop_I : ∀ j, j < 256 → popI (nI j) = nI (pop j) := by decide +kernel
theorem pop_le : ∀ j, j < 256 → pop j ≤ 8 := by decide +kernel
theorem pop_0 : ∀ j, j < 256 → pop j = 0 → j = 0 := by decide +kernel
theorem pop_1 : ∀ j, j < 256 → pop j = 1 → ∃ x, x < 8 ∧ j = 2 ^ x := by decide +kernel
theorem pop_2 : ∀ x, x < 8 → pop (2 ^ x) = 1 := by decide +kernel
theorem bt_pw : ∀ x, x < 8 → bt (nI (2 ^ x)) x = true := by decide +kernel
theorem i9' : (9 : Int32) = nI 9 := by decide
theorem w_bits {h : am_H} {s : Int32} : am_E M_Mo_bits [.int s] h (some (.int (popI s))) h := by
  (try unfold am_E); unfold am_T
  repeat (first | refine rs [4] rfl rfl rfl rfl ?_ | refine rk rfl rfl ?_ | refine rgoh [4] rfl rfl ?_ | refine rgeta (hi := rfl) (kk := ?_) | refine rialda (hi := rfl) (kk := ?_))
  refine lup (P := fun i => ∀ x v, x = nI i → v = fo (fun k c => c + bitv s (nI k)) i 0 → am_R M_Mo_bits (4, [.int s, .int v, .int x], []) h _) 9 ?_ ?_ 0 0 nI_0.symm rfl
  · rintro x v rfl rfl
    repeat (first | refine rs [] rfl rfl rfl rfl ?_ | refine rk rfl rfl ?_ | refine rgoh [] rfl rfl ?_ | refine rgeta (hi := rfl) (kk := ?_) | refine rialda (hi := rfl) (kk := ?_))
    (first | refine rift rfl rfl ?_ | refine riff rfl rfl ?_ | refine rict rfl rfl ?_ | refine ricf rfl rfl ?_)
    repeat (first | refine rs [] rfl rfl rfl rfl ?_ | refine rk rfl rfl ?_ | refine rgoh [] rfl rfl ?_ | refine rgeta (hi := rfl) (kk := ?_) | refine rialda (hi := rfl) (kk := ?_))
    refine rret rfl rfl ?_
    exact ⟨rfl, rfl⟩
  · rintro i hi ih x v rfl rfl
    repeat (first | refine rs [] rfl rfl rfl rfl ?_ | refine rk rfl rfl ?_ | refine rgoh [] rfl rfl ?_ | refine rgeta (hi := rfl) (kk := ?_) | refine rialda (hi := rfl) (kk := ?_))
    (first | refine rif rfl rfl (fun c1 => ?_) (fun c1 => ?_) | refine ric rfl rfl (fun c1 => ?_) (fun c1 => ?_))
    · rw [i9'] at c1
      exact absurd hi ((nI_lt_iff (by omega) (by omega)).mp c1)
    · repeat (first | refine rs [4] rfl rfl rfl rfl ?_ | refine rk rfl rfl ?_ | refine rgoh [4] rfl rfl ?_ | refine rgeta (hi := rfl) (kk := ?_) | refine rialda (hi := rfl) (kk := ?_))
      exact ih _ _ (nI_succ i).symm rfl
section MCut
variable {h h' : am_H} {len N P rc bc : Nat} {fa G sd : Int32} {tx wa me rx rh bw bs : Nat → Int32} {S S' : Sc} {dd dd' : List Sc} {i0 i1 : Im}
/-- where the train doesn't stop, one stays -/
theorem stays {halts : Int32} {y k : Nat} {f : Nat → Int32} (hy : y < 32) (e : f k = nI y) (nb : ¬ bitv halts (nI y) = 1) : ∀ n, n ≤ 8 → fo (stF P wa me halts) n f k = nI y
  | 0, _ => e
  | n + 1, hn => by
    have ih := stays hy e nb n (by omega)
    rw [fo_succ]
    generalize fo (stF P wa me halts) n f = g at *
    unfold stF
    split
    · rename_i c
      have ne : ¬ n = y := fun a => nb (a ▸ c)
      have e1 : fo (loF P wa me (nI n)) P g k = nI y := by
        rcases loF_pt (P := P) (wa := wa) (me := me) (f := g) (x := nI n) (p := k) P with a | a
        · rw [a, ih]
        · rw [ih] at a
          exact absurd a.2.2 (nI_m1 hy)
      rw [tiF_pt]
      split
      · rw [if_neg]
        · exact e1
        · rintro ⟨a, -⟩
          rw [e1, nI_eq (by omega) (by omega)] at a
          exact ne a.symm
      · exact e1
    · exact ih
theorem cut_one {k y : Nat} (hN : N ≤ 8) (hy : y < N) (hk : k < P) (e : S.1 k = nI y) : (rnA N P G wa me (nI (2 ^ y)) S).1 k = nI y := by
  show rtF N P wa me (stA 0 G N P S &&& (nI (2 ^ y) ^^^ (-1))) S.1 k = nI y
  unfold rtF
  have nb : ¬ bitv (stA 0 G N P S &&& (nI (2 ^ y) ^^^ (-1))) (nI y) = 1 := by
    rw [bitv_bt (by omega), b_and, b_xor, bt_pw y (by omega), b_m1 y (by omega)]
    simp
  have e1 := stays (P := P) (wa := wa) (me := me) (by omega) e nb N hN
  rw [emF_pt, if_pos hk, e1, if_neg (nI_m1 (by omega))]
/-- the best so far: fewest stations, then the least set -/
def btS (pb : Nat → Prop) (i : Nat) (b : Int32) : Prop := (b = -1 ∧ ∀ j, j < i → ¬ pb j) ∨ ∃ t, t < i ∧ b = nI t ∧ pb t ∧ (∀ j, j < i → pb j → pop t ≤ pop j) ∧ ∀ j, j < t → pb j → pop t < pop j
theorem btS_no {pb : Nat → Prop} {i : Nat} {b : Int32} (q : btS pb i b) (n : ¬ pb i) : btS pb (i + 1) b := by
  rcases q with ⟨a, c⟩ | ⟨t, ht, a, c, d, e⟩
  · left
    refine ⟨a, fun j hj => ?_⟩
    rcases Nat.lt_or_ge j i with w | w
    · exact c j w
    · rw [show j = i by omega]
      exact n
  · right
    refine ⟨t, by omega, a, c, fun j hj pj => ?_, e⟩
    rcases Nat.lt_or_ge j i with w | w
    · exact d j w pj
    · rw [show j = i by omega] at pj
      exact absurd pj n
theorem btS_keep {pb : Nat → Prop} {i t : Nat} {b : Int32} (q : btS pb i b) (hb : b = nI t) (ht : t < 256) (hi : i < 256) (hp : pop t ≤ pop i) : btS pb (i + 1) b := by
  rcases q with ⟨a, c⟩ | ⟨t', ht', a, c, d, e⟩
  · exfalso
    rw [hb] at a
    exact (by decide +kernel : ∀ t, t < 256 → ¬ nI t = -1) t ht a
  · rw [hb, nI_eq (by omega) (by omega)] at a
    subst a
    right
    refine ⟨t, by omega, hb, c, fun j hj pj => ?_, e⟩
    rcases Nat.lt_or_ge j i with w | w
    · exact d j w pj
    · rw [show j = i by omega]
      exact hp
theorem btS_new {pb : Nat → Prop} {i : Nat} {b : Int32} (q : btS pb i b) (pi : pb i) (hb : b = -1 ∨ ∃ t, t < 256 ∧ b = nI t ∧ pop i < pop t) (hi : i < 256) : btS pb (i + 1) (nI i) := by
  right
  rcases q with ⟨a, c⟩ | ⟨t', ht', a, c, d, e⟩
  · refine ⟨i, by omega, rfl, pi, fun j hj pj => ?_, fun j hj pj => absurd pj (c j hj)⟩
    rcases Nat.lt_or_ge j i with w | w
    · exact absurd pj (c j w)
    · rw [show j = i by omega]
      exact Nat.le_refl _
  · rcases hb with hb | ⟨t, ht, hb, hp⟩
    · exfalso
      rw [hb] at a
      exact (by decide +kernel : ∀ t, t < 256 → ¬ nI t = -1) t' (by omega) a.symm
    · rw [hb, nI_eq (by omega) (by omega)] at a
      subst a
      have ds : ∀ j, j < i → pb j → pop i < pop j := fun j hj pj => Nat.lt_of_lt_of_le hp (d j hj pj)
      refine ⟨i, by omega, rfl, pi, fun j hj pj => ?_, ds⟩
      rcases Nat.lt_or_ge j i with w | w
      · exact Nat.le_of_lt (ds j w pj)
      · rw [show j = i by omega]
        exact Nat.le_refl _
set_option maxHeartbeats 1000000 in
theorem w_cut {p : Int32} (W : wfQ ⟨⟨len, tx⟩, fa, ⟨N, P, G, wa, me⟩, S, dd, ⟨rc, rx, rh⟩, ⟨bc, bw, bs⟩, sd, i0, i1⟩) (R : mRep ⟨⟨len, tx⟩, fa, ⟨N, P, G, wa, me⟩, S, dd, ⟨rc, rx, rh⟩, ⟨bc, bw, bs⟩, sd, i0, i1⟩ h) : am_W M_Mo_cut [.ref 130, .int p] (o_cut p ⟨⟨len, tx⟩, fa, ⟨N, P, G, wa, me⟩, S, dd, ⟨rc, rx, rh⟩, ⟨bc, bw, bs⟩, sd, i0, i1⟩) h := by
  obtain ⟨w1, w2, w3, w4, w5, w6, w7, w8, w9, w10, w11⟩ := id W
  obtain ⟨ra, rf, rn, rm, sm, x1, x2, x3, x4, x5, x6, x7, x8, x9, x10, x11⟩ := id R
  obtain ⟨y1, y2, waC, meC, y3, y4, y5, y6⟩ := id x4
  obtain ⟨wh, mi, fe, fl, z1, z2, z3, z4, z5⟩ := id x5
  unfold am_W o_cut
  (try unfold am_E); unfold am_T
  dsimp only
  repeat (first | refine rs [] rfl rfl rfl rfl ?_ | refine rk rfl rfl ?_ | refine rgoh [] rfl rfl ?_ | refine rgeta (hi := rfl) (kk := ?_) | refine rialda (hi := rfl) (kk := ?_))
  (first | refine rcvs rfl rfl rfl rfl rfl (by first | assumption | (simp (disch := omega) only [am_set_ne, am_set_eq]; first | assumption | rfl)) rfl (w_isPerson y2 x1) ?_ | refine rcvn rfl rfl rfl rfl rfl (by first | assumption | (simp (disch := omega) only [am_set_ne, am_set_eq]; first | assumption | rfl)) rfl (w_isPerson y2 x1) ?_)
  by_cases c : inR p P
  · rw [if_pos c, if_pos c]
    (first | refine rift rfl rfl ?_ | refine riff rfl rfl ?_ | refine rict rfl rfl ?_ | refine ricf rfl rfl ?_)
    obtain ⟨k, hk, rfl⟩ := inR_of c (by omega)
    have hN0 : 1 ≤ N := by
      rcases Nat.lt_or_ge N 1 with a | a
      · have := w1 (by omega)
        omega
      · exact a
    rw [nI_clamp (by omega)]
    repeat (first | refine rs [] rfl rfl rfl rfl ?_ | refine rk rfl rfl ?_ | refine rgoh [] rfl rfl ?_ | refine rgeta (hi := rfl) (kk := ?_) | refine rialda (hi := rfl) (kk := ?_))
    rw [(z5 k hk).1, y5 k hk]
    (first | refine rif rfl rfl (fun c2 => ?_) (fun c2 => ?_) | refine ric rfl rfl (fun c2 => ?_) (fun c2 => ?_))
    · rw [if_pos c2]
      repeat (first | refine rs [] rfl rfl rfl rfl ?_ | refine rk rfl rfl ?_ | refine rgoh [] rfl rfl ?_ | refine rgeta (hi := rfl) (kk := ?_) | refine rialda (hi := rfl) (kk := ?_))
      refine rret rfl rfl ?_
      exact ⟨rfl, R, fr_rf⟩
    · rw [if_neg c2]
      repeat (first | refine rs [] rfl rfl rfl rfl ?_ | refine rk rfl rfl ?_ | refine rgoh [] rfl rfl ?_ | refine rgeta (hi := rfl) (kk := ?_) | refine rialda (hi := rfl) (kk := ?_))
      refine rcvt rfl rfl rfl rfl rfl x1 rfl (w_begin R) ?_
      rintro r h1 ⟨rfl, R1, A1, f1⟩
      show am_R M_Mo_cut (19, [.ref 130, .int (nI k), _, _, _], []) _ _
      repeat (first | refine rs [23] rfl rfl rfl rfl ?_ | refine rk rfl rfl ?_ | refine rgoh [23] rfl rfl ?_ | refine rgeta (hi := rfl) (kk := ?_) | refine rialda (hi := rfl) (kk := ?_))
      obtain ⟨y, hy, ey⟩ := w5 k hk
      have hpw := pw8 y1
      have hyp : 2 ^ y < 2 ^ N := Nat.pow_lt_pow_right (by decide) hy
      generalize epb : (fun j => ¬ (rnA N P G wa me (nI j) S).1 k = wa k) = pb
      have pbe : ∀ j, pb j ↔ ¬ (rnA N P G wa me (nI j) S).1 k = wa k := fun j => by rw [← epb]
      refine lup (P := fun i => ∀ x b v4 h1, x = nI i → btS pb i b → mRep ⟨⟨len, tx⟩, fa, ⟨N, P, G, wa, me⟩, S, dd, ⟨rc, rx, rh⟩, ⟨bc, bw, bs⟩, sd, i0, i1⟩ h1 → asD P S h1 → am_fr 130 149 h h1 → am_R M_Mo_cut (23, [.ref 130, .int (nI k), .int b, .int x, v4], []) h1 _) (2 ^ N) ?_ ?_ 0 _ _ h1 nI_0.symm (Or.inl ⟨rfl, fun j hj => by omega⟩) R1 A1 (fl_fr f1 (by decide))
      · rintro x b v4 h1 rfl hb R1 A1 f1
        obtain ⟨ra, rf, rn, rm, sm, x1⟩ := R1.top
        repeat (first | refine rs [] rfl rfl rfl rfl ?_ | refine rk rfl rfl ?_ | refine rgoh [] rfl rfl ?_ | refine rgeta (hi := rfl) (kk := ?_) | refine rialda (hi := rfl) (kk := ?_))
        (first | refine rif rfl rfl (fun c3 => ?_) (fun c3 => ?_) | refine ric rfl rfl (fun c3 => ?_) (fun c3 => ?_))
        · repeat (first | refine rs [] rfl rfl rfl rfl ?_ | refine rk rfl rfl ?_ | refine rgoh [] rfl rfl ?_ | refine rgeta (hi := rfl) (kk := ?_) | refine rialda (hi := rfl) (kk := ?_))
          refine rret rfl rfl ?_
          refine ⟨?_, R1, f1⟩
          have py : pb (2 ^ y) := by
            rw [pbe, cut_one y1 hy hk ey, ← ey]
            exact c2
          have ps : pop (2 ^ y) = 1 := pop_2 y (by omega)
          rcases hb with ⟨a, b⟩ | ⟨t, ht, a, ct, d, e⟩
          · exact absurd py (b _ hyp)
          · have e1 := d _ hyp py
            rw [ps] at e1
            have e0 : ¬ (rnA N P G wa me 0 S).1 k = wa k ↔ pb 0 := (pbe 0).symm
            by_cases p0 : pb 0
            · rw [if_pos (e0.mpr p0), a]
              have := d 0 (by omega) p0
              have t0 := pop_0 t (by omega) (by
                have : pop 0 = 0 := by decide +kernel
                omega)
              rw [t0]
              rfl
            · rw [if_neg (fun g => p0 (e0.mp g))]
              have tn : ¬ pop t = 0 := fun g => by
                rw [pop_0 t (by omega) g] at ct
                exact p0 ct
              obtain ⟨z, hz, ez⟩ := pop_1 t (by omega) (by omega)
              subst ez
              have hzN : z < N := by
                rcases Nat.lt_or_ge z N with w | w
                · exact w
                · have := Nat.pow_le_pow_right (n := 2) (by decide) w
                  omega
              have isf : isFst (fun x => ¬ (rnA N P G wa me (sh1 (nI x)) S).1 k = wa k) N (nI z) := by
                refine Or.inl ⟨z, hzN, rfl, ?_, fun j hj pj => ?_⟩
                · show ¬ (rnA N P G wa me (sh1 (nI z)) S).1 k = wa k
                  rw [sh1_nI z (by omega)]
                  exact (pbe _).mp ct
                · have pj : ¬ (rnA N P G wa me (sh1 (nI j)) S).1 k = wa k := pj
                  rw [sh1_nI j (by omega)] at pj
                  have := e (2 ^ j) (Nat.pow_lt_pow_right (by decide) hj) ((pbe _).mpr pj)
                  rw [pop_2 j (by omega), pop_2 z (by omega)] at this
                  omega
              rw [isFst_eps isf, if_neg (nI_m1 (by omega)), a, sh1_nI z (by omega)]
        · exact absurd (by rw [show (1 : Int32) <<< (nI N &&& 31) = nI (2 ^ N) from sh1_nI N y1]; exact Int32.le_refl _) c3
      · rintro i hi ih x b v4 h1 rfl hb R1 A1 f1
        have ih := fun b v4 h1 => ih _ b v4 h1 (nI_succ i).symm
        obtain ⟨ra, rf, rn, rm, sm, x1⟩ := R1.top
        repeat (first | refine rs [] rfl rfl rfl rfl ?_ | refine rk rfl rfl ?_ | refine rgoh [] rfl rfl ?_ | refine rgeta (hi := rfl) (kk := ?_) | refine rialda (hi := rfl) (kk := ?_))
        (first | refine rif rfl rfl (fun c3 => ?_) (fun c3 => ?_) | refine ric rfl rfl (fun c3 => ?_) (fun c3 => ?_))
        · rw [show (1 : Int32) <<< (nI N &&& 31) = nI (2 ^ N) from sh1_nI N y1] at c3
          exact absurd hi ((nI_lt_iff (by omega) (by omega)).mp c3)
        · repeat (first | refine rs [] rfl rfl rfl rfl ?_ | refine rk rfl rfl ?_ | refine rgoh [] rfl rfl ?_ | refine rgeta (hi := rfl) (kk := ?_) | refine rialda (hi := rfl) (kk := ?_))
          refine rcvt rfl rfl rfl rfl rfl x1 rfl (w_run hN0 w4 w5 R1) ?_
          rintro r h2 ⟨rfl, R2, f2⟩
          show am_R M_Mo_cut (32, [.ref 130, .int (nI k), .int b, .int (nI i), v4], []) _ _
          have A2 := A1.fl f2 (by decide)
          have f3 : am_fr 130 149 h h2 := fr_tr f1 (fl_fr (lo := 130) (hi := 149) f2 (by decide)) (by omega) (by omega)
          obtain ⟨ra, rf, rn, rm, sm, x1, x2, x3, x4, x5, x6, x7, x8, x9, x10, x11⟩ := id R2
          obtain ⟨y1, y2, waC, meC, y3, y4, y5, y6⟩ := id x4
          obtain ⟨wh, mi, fe, fl, z1, z2, z3, z4, z5⟩ := id x5
          have fin : ∀ b' v4, btS pb (i + 1) b' → am_R M_Mo_cut (58, [.ref 130, .int (nI k), .int b, .int (nI i), v4], [.int b']) h2 (fun r h' => r = some (.int (if ¬ (rnA N P G wa me 0 S).1 k = wa k then 0 else (if Classical.epsilon (isFst (fun x => ¬ (rnA N P G wa me (sh1 (nI x)) S).1 k = wa k) N) = -1 then -1 else sh1 (Classical.epsilon (isFst (fun x => ¬ (rnA N P G wa me (sh1 (nI x)) S).1 k = wa k) N))))) ∧ mRep ⟨⟨len, tx⟩, fa, ⟨N, P, G, wa, me⟩, S, dd, ⟨rc, rx, rh⟩, ⟨bc, bw, bs⟩, sd, i0, i1⟩ h' ∧ am_fr 130 149 h h') := by
            intro b' v4 hb'
            repeat (first | refine rs [] rfl rfl rfl rfl ?_ | refine rk rfl rfl ?_ | refine rgoh [] rfl rfl ?_ | refine rgeta (hi := rfl) (kk := ?_) | refine rialda (hi := rfl) (kk := ?_))
            refine rcvt rfl rfl rfl rfl rfl x1 rfl (w_back R2 A2) ?_
            rintro r h3 ⟨rfl, R3, f4⟩
            show am_R M_Mo_cut (61, [.ref 130, .int (nI k), .int b', .int (nI i), v4], []) _ _
            repeat (first | refine rs [23] rfl rfl rfl rfl ?_ | refine rk rfl rfl ?_ | refine rgoh [23] rfl rfl ?_ | refine rgeta (hi := rfl) (kk := ?_) | refine rialda (hi := rfl) (kk := ?_))
            exact ih _ _ h3 hb' R3 (A2.fl f4 (by decide)) (fr_tr f3 (fl_fr (lo := 130) (hi := 149) f4 (by decide)) (by omega) (by omega))
          have tl : ∀ s, (¬ s = 0 → b = -1 ∨ ∃ t, t < 256 ∧ b = nI t ∧ pop i < pop t) → (s = 0 → ∃ t, t < 256 ∧ b = nI t ∧ pop t ≤ pop i) → am_R M_Mo_cut (43, [.ref 130, .int (nI k), .int b, .int (nI i), v4], [.int s]) h2 (fun r h' => r = some (.int (if ¬ (rnA N P G wa me 0 S).1 k = wa k then 0 else (if Classical.epsilon (isFst (fun x => ¬ (rnA N P G wa me (sh1 (nI x)) S).1 k = wa k) N) = -1 then -1 else sh1 (Classical.epsilon (isFst (fun x => ¬ (rnA N P G wa me (sh1 (nI x)) S).1 k = wa k) N))))) ∧ mRep ⟨⟨len, tx⟩, fa, ⟨N, P, G, wa, me⟩, S, dd, ⟨rc, rx, rh⟩, ⟨bc, bw, bs⟩, sd, i0, i1⟩ h' ∧ am_fr 130 149 h h') := by
            intro s s1 s2
            repeat (first | refine rs [] rfl rfl rfl rfl ?_ | refine rk rfl rfl ?_ | refine rgoh [] rfl rfl ?_ | refine rgeta (hi := rfl) (kk := ?_) | refine rialda (hi := rfl) (kk := ?_))
            rw [(z5 k hk).1, y5 k hk]
            (first | refine rif rfl rfl (fun c4 => ?_) (fun c4 => ?_) | refine ric rfl rfl (fun c4 => ?_) (fun c4 => ?_))
            · repeat (first | refine rs [58] rfl rfl rfl rfl ?_ | refine rk rfl rfl ?_ | refine rgoh [58] rfl rfl ?_ | refine rgeta (hi := rfl) (kk := ?_) | refine rialda (hi := rfl) (kk := ?_))
              exact fin _ _ (btS_no hb (fun a => (pbe i).mp a c4))
            · repeat (first | refine rs [] rfl rfl rfl rfl ?_ | refine rk rfl rfl ?_ | refine rgoh [] rfl rfl ?_ | refine rgeta (hi := rfl) (kk := ?_) | refine rialda (hi := rfl) (kk := ?_))
              (first | refine rif rfl rfl (fun c5 => ?_) (fun c5 => ?_) | refine ric rfl rfl (fun c5 => ?_) (fun c5 => ?_))
              · repeat (first | refine rs [58] rfl rfl rfl rfl ?_ | refine rk rfl rfl ?_ | refine rgoh [58] rfl rfl ?_ | refine rgeta (hi := rfl) (kk := ?_) | refine rialda (hi := rfl) (kk := ?_))
                obtain ⟨t, t1, t2, t3⟩ := s2 c5
                exact fin _ _ (btS_keep hb t2 t1 (by omega) t3)
              · repeat (first | refine rs [58] rfl rfl rfl rfl ?_ | refine rk rfl rfl ?_ | refine rgoh [58] rfl rfl ?_ | refine rgeta (hi := rfl) (kk := ?_) | refine rialda (hi := rfl) (kk := ?_))
                exact fin _ _ (btS_new hb ((pbe i).mpr c4) (s1 c5) (by omega))
          repeat (first | refine rs [] rfl rfl rfl rfl ?_ | refine rk rfl rfl ?_ | refine rgoh [] rfl rfl ?_ | refine rgeta (hi := rfl) (kk := ?_) | refine rialda (hi := rfl) (kk := ?_))
          (first | refine rif rfl rfl (fun c4 => ?_) (fun c4 => ?_) | refine ric rfl rfl (fun c4 => ?_) (fun c4 => ?_))
          · repeat (first | refine rs [43] rfl rfl rfl rfl ?_ | refine rk rfl rfl ?_ | refine rgoh [43] rfl rfl ?_ | refine rgeta (hi := rfl) (kk := ?_) | refine rialda (hi := rfl) (kk := ?_))
            exact tl _ (fun _ => Or.inl c4) (fun a => absurd a (by decide))
          · obtain ⟨t, ht, et⟩ : ∃ t, t < 256 ∧ b = nI t := by
              rcases hb with ⟨a, -⟩ | ⟨t, ht, a, -⟩
              · exact absurd a c4
              · exact ⟨t, by omega, a⟩
            repeat (first | refine rs [] rfl rfl rfl rfl ?_ | refine rk rfl rfl ?_ | refine rgoh [] rfl rfl ?_ | refine rgeta (hi := rfl) (kk := ?_) | refine rialda (hi := rfl) (kk := ?_))
            refine rcss rfl rfl rfl rfl rfl (w_bits) ?_
            repeat (first | refine rs [] rfl rfl rfl rfl ?_ | refine rk rfl rfl ?_ | refine rgoh [] rfl rfl ?_ | refine rgeta (hi := rfl) (kk := ?_) | refine rialda (hi := rfl) (kk := ?_))
            refine rcss rfl rfl rfl rfl rfl (w_bits) ?_
            rw [et, pop_I t ht, pop_I i (by omega)]
            rw [et] at tl
            have q1 := pop_le t ht
            have q2 := pop_le i (by omega)
            (first | refine rif rfl rfl (fun c5 => ?_) (fun c5 => ?_) | refine ric rfl rfl (fun c5 => ?_) (fun c5 => ?_))
            · rw [nI_leI (by omega) (by omega)] at c5
              repeat (first | refine rs [43] rfl rfl rfl rfl ?_ | refine rk rfl rfl ?_ | refine rgoh [43] rfl rfl ?_ | refine rgeta (hi := rfl) (kk := ?_) | refine rialda (hi := rfl) (kk := ?_))
              exact tl _ (fun a => absurd rfl a) (fun _ => ⟨t, ht, rfl, c5⟩)
            · rw [nI_leI (by omega) (by omega)] at c5
              repeat (first | refine rs [43] rfl rfl rfl rfl ?_ | refine rk rfl rfl ?_ | refine rgoh [43] rfl rfl ?_ | refine rgeta (hi := rfl) (kk := ?_) | refine rialda (hi := rfl) (kk := ?_))
              exact tl _ (fun _ => Or.inr ⟨t, ht, rfl, by omega⟩) (fun a => absurd a (by decide))
  · rw [if_neg c, if_neg c]
    (first | refine rift rfl rfl ?_ | refine riff rfl rfl ?_ | refine rict rfl rfl ?_ | refine ricf rfl rfl ?_)
    repeat (first | refine rs [] rfl rfl rfl rfl ?_ | refine rk rfl rfl ?_ | refine rgoh [] rfl rfl ?_ | refine rgeta (hi := rfl) (kk := ?_) | refine rialda (hi := rfl) (kk := ?_))
    refine rret rfl rfl ?_
    exact ⟨rfl, R, fr_rf⟩
end MCut
