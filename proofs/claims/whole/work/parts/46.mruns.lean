/-! the model's train: the whole run -/
section MRuns
variable {h : am_H} {fed fa ra rf rn rm G fog tr sp dm um sm em : Int32} {sd : Int64} {N P : Nat} {wh wa me mi fe fl g : Nat → Int32}
set_option maxHeartbeats 2000000 in
theorem w_runK {forced halts : Int32} {Φ : Option Value → am_H → Prop} (hN0 : 1 ≤ N) (hN : N ≤ 8) (hP : P ≤ 8) (hf : ∀ p, p < P → ∃ k, k < N ∧ wh p = nI k) (hme : ∀ p, p < P → me p = -1 ∨ ∃ k, k < P ∧ me p = nI k) (hh : ∀ j, j < 32 → (bt halts j = true ↔ j < N ∧ ¬ awP wh (shM mi fe fl) (G + fog) (nI j) P ∧ ¬ bt forced j = true)) (hm : h.1 130 = mO fed fa ra rf rn rm (nI N) G fog (nI P) tr sp dm sd um sm em) (h4 : h.1 134 = iar wh) (h5 : h.1 135 = iar wa) (h6 : h.1 136 = iar me) (h7 : h.1 137 = iar mi) (h8 : h.1 138 = iar fe) (h9 : h.1 139 = iar fl) (kk : ∀ g, (∀ p, p < P → g p = rtF N P wa me halts wh p) → Φ none (am_set (am_set h 134 (iar g)) 130 (mO fed fa ra rf rn rm (nI N) G fog (nI P) (tr + 1) halts dm sd um sm em))) : am_T M_Mo_run [.ref 130, .int forced] h Φ := by
  have key : ∀ x set g v4 v5 v6, x = nI 0 → rlA N P (fo (stF P wa me halts) 0 wh) g → (∀ p j, p < P → 0 ≤ j → j < 32 → (fo (stF P wa me halts) 0 wh p = nI j ↔ wh p = nI j)) → (∀ j, j < 32 → (bt set j = true ↔ j < 0 ∧ bt halts j = true)) → am_R M_Mo_run (4, [.ref 130, .int forced, .int set, .int x, v4, v5, v6], []) (am_set h 134 (iar g)) Φ := by
    refine lup (P := fun i => ∀ x set g v4 v5 v6, x = nI i → rlA N P (fo (stF P wa me halts) i wh) g → (∀ p j, p < P → i ≤ j → j < 32 → (fo (stF P wa me halts) i wh p = nI j ↔ wh p = nI j)) → (∀ j, j < 32 → (bt set j = true ↔ j < i ∧ bt halts j = true)) → am_R M_Mo_run (4, [.ref 130, .int forced, .int set, .int x, v4, v5, v6], []) (am_set h 134 (iar g)) Φ) N ?_ ?_
    · rintro x set g v4 v5 v6 rfl r pos hs
      have hm' : (am_set h 134 (iar g)).1 130 = mO fed fa ra rf rn rm (nI N) G fog (nI P) tr sp dm sd um sm em := by rw [am_set_ne (by omega)]; exact hm
      have h5' : (am_set h 134 (iar g)).1 135 = iar wa := by rw [am_set_ne (by omega)]; exact h5
      have h6' : (am_set h 134 (iar g)).1 136 = iar me := by rw [am_set_ne (by omega)]; exact h6
      have es : set = halts := by
        refine bt_ext (fun j hj => ?_)
        rw [hs j hj]
        exact ⟨fun a => a.2, fun a => ⟨((hh j hj).mp a).1, a⟩⟩
      subst es
      repeat (first | refine rs [] rfl rfl rfl rfl ?_ | refine rk rfl rfl ?_ | refine rgoh [] rfl rfl ?_ | refine rgeta (hi := rfl) (kk := ?_) | refine rialda (hi := rfl) (kk := ?_))
      (first | refine rif rfl rfl (fun c1 => ?_) (fun c1 => ?_) | refine ric rfl rfl (fun c1 => ?_) (fun c1 => ?_))
      · repeat (first | refine rs [] rfl rfl rfl rfl ?_ | refine rk rfl rfl ?_ | refine rgoh [] rfl rfl ?_ | refine rgeta (hi := rfl) (kk := ?_) | refine rialda (hi := rfl) (kk := ?_))
        (first | refine rcvs rfl rfl rfl rfl rfl (by first | assumption | (simp (disch := omega) only [am_set_ne, am_set_eq]; first | assumption | rfl)) rfl (w_getOut hP hme hm' am_set_eq h5' h6') ?_ | refine rcvn rfl rfl rfl rfl rfl (by first | assumption | (simp (disch := omega) only [am_set_ne, am_set_eq]; first | assumption | rfl)) rfl (w_getOut hP hme hm' am_set_eq h5' h6') ?_)
        rw [am_set_set]
        repeat (first | refine rs [] rfl rfl rfl rfl ?_ | refine rk rfl rfl ?_ | refine rgoh [] rfl rfl ?_ | refine rgeta (hi := rfl) (kk := ?_) | refine rialda (hi := rfl) (kk := ?_))
        refine rputa (hi := rfl) (kk := ?_)
        repeat (first | refine rs [] rfl rfl rfl rfl ?_ | refine rk rfl rfl ?_ | refine rgoh [] rfl rfl ?_ | refine rgeta (hi := rfl) (kk := ?_) | refine rialda (hi := rfl) (kk := ?_))
        refine rret rfl rfl ?_
        rw [am_set_set]
        refine kk _ (fun p hp => ?_)
        unfold rtF
        rw [goF_pt, emF_pt, if_pos hp, if_pos hp]
        rcases r p hp with ⟨a, b⟩ | ⟨k, hk, a, b⟩
        · rw [if_pos a, if_pos b]
        · rw [a, b, if_neg (nI_m1 (by omega)), if_neg (nI_m2 (by omega))]
      · exact absurd (Int32.le_refl _) c1
    · rintro i hi ih x set g v4 v5 v6 rfl r pos hs
      have ih := fun set g v4 v5 v6 => ih _ set g v4 v5 v6 (nI_succ i).symm
      rw [fo_succ] at ih
      have pos' : ∀ p j, p < P → i + 1 ≤ j → j < 32 → (stF P wa me halts i (fo (stF P wa me halts) i wh) p = nI j ↔ wh p = nI j) := by
        intro p j hp h1 h2
        rw [stF_pos (by omega) h2]
        exact pos p j hp (by omega) h2
      generalize fo (stF P wa me halts) i wh = f at *
      have hm' : ∀ g, (am_set h 134 (iar g)).1 130 = mO fed fa ra rf rn rm (nI N) G fog (nI P) tr sp dm sd um sm em := fun g => by rw [am_set_ne (by omega)]; exact hm
      have h5' : ∀ g, (am_set h 134 (iar g)).1 135 = iar wa := fun g => by rw [am_set_ne (by omega)]; exact h5
      have h6' : ∀ g, (am_set h 134 (iar g)).1 136 = iar me := fun g => by rw [am_set_ne (by omega)]; exact h6
      have h7' : (am_set h 134 (iar g)).1 137 = iar mi := by rw [am_set_ne (by omega)]; exact h7
      have h8' : (am_set h 134 (iar g)).1 138 = iar fe := by rw [am_set_ne (by omega)]; exact h8
      have h9' : (am_set h 134 (iar g)).1 139 = iar fl := by rw [am_set_ne (by omega)]; exact h9
      have ea : awP g (shM mi fe fl) (G + fog) (nI i) P ↔ awP wh (shM mi fe fl) (G + fog) (nI i) P := by
        constructor
        · rintro ⟨p, hp, a, b⟩
          exact ⟨p, hp, (pos p i hp (Nat.le_refl _) (by omega)).mp ((r.st hp (by omega)).mpr a), b⟩
        · rintro ⟨p, hp, a, b⟩
          exact ⟨p, hp, (r.st hp (by omega)).mp ((pos p i hp (Nat.le_refl _) (by omega)).mpr a), b⟩
      have tl : ∀ s v4 v5 v6, (¬ s = 0 ↔ bt halts i = true) → am_R M_Mo_run (19, [.ref 130, .int forced, .int set, .int (nI i), v4, v5, v6], [.int s]) (am_set h 134 (iar g)) Φ := by
        intro s v4 v5 v6 es
        repeat (first | refine rs [24] rfl rfl rfl rfl ?_ | refine rk rfl rfl ?_ | refine rgoh [24] rfl rfl ?_ | refine rgeta (hi := rfl) (kk := ?_) | refine rialda (hi := rfl) (kk := ?_))
        refine lup (P := fun n => ∀ y stood, y = nI n → (∀ q, q < 32 → (bt stood q = true ↔ q < n ∧ g q = nI i)) → am_R M_Mo_run (24, [.ref 130, .int forced, .int set, .int (nI i), .int s, .int stood, .int y], []) (am_set h 134 (iar g)) Φ) P ?_ ?_ 0 0 nI_0.symm (fun q hq => by rw [b_0]; simp)
        · rintro y stood rfl hst
          have hst' : ∀ p, p < P → (bitv stood (nI p) = 1 ↔ f p = nI i) := by
            intro p hp
            rw [bitv_bt (by omega), r.st hp (by omega)]
            have e := hst p (by omega)
            by_cases c : bt stood p = true
            · rw [if_pos c]
              exact ⟨fun _ => (e.mp c).2, fun _ => rfl⟩
            · rw [if_neg c]
              exact ⟨fun a => absurd a (by decide), fun a => absurd (e.mpr ⟨hp, a⟩) c⟩
          repeat (first | refine rs [] rfl rfl rfl rfl ?_ | refine rk rfl rfl ?_ | refine rgoh [] rfl rfl ?_ | refine rgeta (hi := rfl) (kk := ?_) | refine rialda (hi := rfl) (kk := ?_))
          (first | refine rif rfl rfl (fun c1 => ?_) (fun c1 => ?_) | refine ric rfl rfl (fun c1 => ?_) (fun c1 => ?_))
          · repeat (first | refine rs [] rfl rfl rfl rfl ?_ | refine rk rfl rfl ?_ | refine rgoh [] rfl rfl ?_ | refine rgeta (hi := rfl) (kk := ?_) | refine rialda (hi := rfl) (kk := ?_))
            (first | refine rif rfl rfl (fun c2 => ?_) (fun c2 => ?_) | refine ric rfl rfl (fun c2 => ?_) (fun c2 => ?_))
            · have nb : ¬ bt halts i = true := fun a => es.mpr a c2
              have e : stF P wa me halts i f = f := by
                unfold stF
                rw [bitv_bt (by omega), if_neg nb]
                exact if_neg (by decide)
              rw [e] at ih pos'
              repeat (first | refine rs [4] rfl rfl rfl rfl ?_ | refine rk rfl rfl ?_ | refine rgoh [4] rfl rfl ?_ | refine rgeta (hi := rfl) (kk := ?_) | refine rialda (hi := rfl) (kk := ?_))
              refine ih _ _ _ _ _ r pos' (fun j hj => ?_)
              rw [hs j hj]
              constructor
              · rintro ⟨a, b⟩
                exact ⟨by omega, b⟩
              · rintro ⟨a, b⟩
                refine ⟨?_, b⟩
                rcases Nat.lt_or_ge j i with w | w
                · exact w
                · rw [show j = i by omega] at b
                  exact absurd b nb
            · have yb : bt halts i = true := es.mp c2
              have e : stF P wa me halts i f = fo (tiF wa (nI i)) P (fo (loF P wa me (nI i)) P f) := by
                unfold stF
                rw [bitv_bt (by omega), if_pos yb]
                exact if_pos rfl
              rw [e] at ih pos'
              repeat (first | refine rs [] rfl rfl rfl rfl ?_ | refine rk rfl rfl ?_ | refine rgoh [] rfl rfl ?_ | refine rgeta (hi := rfl) (kk := ?_) | refine rialda (hi := rfl) (kk := ?_))
              (first | refine rcvs rfl rfl rfl rfl rfl (by first | assumption | (simp (disch := omega) only [am_set_ne, am_set_eq]; first | assumption | rfl)) rfl (w_getOut hP hme (hm' g) am_set_eq (h5' g) (h6' g)) ?_ | refine rcvn rfl rfl rfl rfl rfl (by first | assumption | (simp (disch := omega) only [am_set_ne, am_set_eq]; first | assumption | rfl)) rfl (w_getOut hP hme (hm' g) am_set_eq (h5' g) (h6' g)) ?_)
              rw [am_set_set]
              repeat (first | refine rs [58] rfl rfl rfl rfl ?_ | refine rk rfl rfl ?_ | refine rgoh [58] rfl rfl ?_ | refine rgeta (hi := rfl) (kk := ?_) | refine rialda (hi := rfl) (kk := ?_))
              refine lup (P := fun n => ∀ y, y = nI n → am_R M_Mo_run (58, [.ref 130, .int forced, .int (set ||| sh1 (nI i)), .int (nI i), .int s, .int stood, .int y], []) (am_set h 134 (iar (fo (boF wa stood (nI i)) n (fo (goF wa me (nI i) 0) P g)))) Φ) P ?_ ?_ 0 nI_0.symm
              · rintro y rfl
                repeat (first | refine rs [] rfl rfl rfl rfl ?_ | refine rk rfl rfl ?_ | refine rgoh [] rfl rfl ?_ | refine rgeta (hi := rfl) (kk := ?_) | refine rialda (hi := rfl) (kk := ?_))
                (first | refine rif rfl rfl (fun c3 => ?_) (fun c3 => ?_) | refine ric rfl rfl (fun c3 => ?_) (fun c3 => ?_))
                · repeat (first | refine rs [4] rfl rfl rfl rfl ?_ | refine rk rfl rfl ?_ | refine rgoh [4] rfl rfl ?_ | refine rgeta (hi := rfl) (kk := ?_) | refine rialda (hi := rfl) (kk := ?_))
                  refine ih _ _ _ _ _ (rlA.bo hN hme hP hi hst' r) pos' (fun j hj => ?_)
                  rw [b_or, bt_sh1 (by omega) hj, Bool.or_eq_true, hs j hj, decide_eq_true_iff]
                  constructor
                  · rintro (⟨a, b⟩ | rfl)
                    · exact ⟨by omega, b⟩
                    · exact ⟨by omega, yb⟩
                  · rintro ⟨a, b⟩
                    rcases Nat.lt_or_ge j i with w | w
                    · exact Or.inl ⟨w, b⟩
                    · exact Or.inr (by omega)
                · exact absurd (Int32.le_refl _) c3
              · rintro n hn ih2 y rfl
                have ih2 := ih2 _ (nI_succ n).symm
                rw [fo_succ] at ih2
                generalize fo (boF wa stood (nI i)) n (fo (goF wa me (nI i) 0) P g) = g2 at *
                repeat (first | refine rs [] rfl rfl rfl rfl ?_ | refine rk rfl rfl ?_ | refine rgoh [] rfl rfl ?_ | refine rgeta (hi := rfl) (kk := ?_) | refine rialda (hi := rfl) (kk := ?_))
                (first | refine rif rfl rfl (fun c3 => ?_) (fun c3 => ?_) | refine ric rfl rfl (fun c3 => ?_) (fun c3 => ?_))
                · exact absurd hn ((nI_lt_iff (by omega) (by omega)).mp c3)
                · repeat (first | refine rs [] rfl rfl rfl rfl ?_ | refine rk rfl rfl ?_ | refine rgoh [] rfl rfl ?_ | refine rgeta (hi := rfl) (kk := ?_) | refine rialda (hi := rfl) (kk := ?_))
                  refine rcss rfl rfl rfl rfl rfl (w_has) ?_
                  by_cases d : bitv stood (nI n) = 1
                  · rw [if_pos d]
                    (first | refine rift rfl rfl ?_ | refine riff rfl rfl ?_ | refine rict rfl rfl ?_ | refine ricf rfl rfl ?_)
                    repeat (first | refine rs [] rfl rfl rfl rfl ?_ | refine rk rfl rfl ?_ | refine rgoh [] rfl rfl ?_ | refine rgeta (hi := rfl) (kk := ?_) | refine rialda (hi := rfl) (kk := ?_))
                    (first | refine rif rfl rfl (fun c4 => ?_) (fun c4 => ?_) | refine ric rfl rfl (fun c4 => ?_) (fun c4 => ?_))
                    · repeat (first | refine rs [] rfl rfl rfl rfl ?_ | refine rk rfl rfl ?_ | refine rgoh [] rfl rfl ?_ | refine rgeta (hi := rfl) (kk := ?_) | refine rialda (hi := rfl) (kk := ?_))
                      refine riasta (hi := rfl) (hc := am_set_eq) (kk := ?_)
                      rw [am_set_set]
                      repeat (first | refine rs [58] rfl rfl rfl rfl ?_ | refine rk rfl rfl ?_ | refine rgoh [58] rfl rfl ?_ | refine rgeta (hi := rfl) (kk := ?_) | refine rialda (hi := rfl) (kk := ?_))
                      have e2 : boF wa stood (nI i) n g2 = upd g2 n (g2 n) := by
                        unfold boF
                        rw [if_neg (fun a => Int32.not_lt.mpr c4 a.2)]
                      rw [e2] at ih2
                      exact ih2
                    · repeat (first | refine rs [] rfl rfl rfl rfl ?_ | refine rk rfl rfl ?_ | refine rgoh [] rfl rfl ?_ | refine rgeta (hi := rfl) (kk := ?_) | refine rialda (hi := rfl) (kk := ?_))
                      refine riasta (hi := rfl) (hc := am_set_eq) (kk := ?_)
                      rw [am_set_set]
                      repeat (first | refine rs [58] rfl rfl rfl rfl ?_ | refine rk rfl rfl ?_ | refine rgoh [58] rfl rfl ?_ | refine rgeta (hi := rfl) (kk := ?_) | refine rialda (hi := rfl) (kk := ?_))
                      have e2 : boF wa stood (nI i) n g2 = upd g2 n (-2) := by
                        unfold boF
                        rw [if_pos ⟨d, Int32.not_le.mp c4⟩]
                      rw [e2] at ih2
                      exact ih2
                  · rw [if_neg d]
                    (first | refine rift rfl rfl ?_ | refine riff rfl rfl ?_ | refine rict rfl rfl ?_ | refine ricf rfl rfl ?_)
                    repeat (first | refine rs [] rfl rfl rfl rfl ?_ | refine rk rfl rfl ?_ | refine rgoh [] rfl rfl ?_ | refine rgeta (hi := rfl) (kk := ?_) | refine rialda (hi := rfl) (kk := ?_))
                    refine riasta (hi := rfl) (hc := am_set_eq) (kk := ?_)
                    rw [am_set_set]
                    repeat (first | refine rs [58] rfl rfl rfl rfl ?_ | refine rk rfl rfl ?_ | refine rgoh [58] rfl rfl ?_ | refine rgeta (hi := rfl) (kk := ?_) | refine rialda (hi := rfl) (kk := ?_))
                    have e2 : boF wa stood (nI i) n g2 = upd g2 n (g2 n) := by
                      unfold boF
                      rw [if_neg (fun a => d a.1)]
                    rw [e2] at ih2
                    exact ih2
          · exact absurd (Int32.le_refl _) c1
        · rintro n hn ih2 y stood rfl hst
          have ih2 := fun stood => ih2 _ stood (nI_succ n).symm
          repeat (first | refine rs [] rfl rfl rfl rfl ?_ | refine rk rfl rfl ?_ | refine rgoh [] rfl rfl ?_ | refine rgeta (hi := rfl) (kk := ?_) | refine rialda (hi := rfl) (kk := ?_))
          (first | refine rif rfl rfl (fun c1 => ?_) (fun c1 => ?_) | refine ric rfl rfl (fun c1 => ?_) (fun c1 => ?_))
          · exact absurd hn ((nI_lt_iff (by omega) (by omega)).mp c1)
          · repeat (first | refine rs [] rfl rfl rfl rfl ?_ | refine rk rfl rfl ?_ | refine rgoh [] rfl rfl ?_ | refine rgeta (hi := rfl) (kk := ?_) | refine rialda (hi := rfl) (kk := ?_))
            (first | refine rif rfl rfl (fun c2 => ?_) (fun c2 => ?_) | refine ric rfl rfl (fun c2 => ?_) (fun c2 => ?_))
            · repeat (first | refine rs [24] rfl rfl rfl rfl ?_ | refine rk rfl rfl ?_ | refine rgoh [24] rfl rfl ?_ | refine rgeta (hi := rfl) (kk := ?_) | refine rialda (hi := rfl) (kk := ?_))
              refine ih2 _ (fun q hq => ?_)
              show bt (stood ||| sh1 (nI n)) q = true ↔ _
              rw [b_or, bt_sh1 (by omega) hq, Bool.or_eq_true, hst q hq, decide_eq_true_iff]
              constructor
              · rintro (⟨a, b⟩ | rfl)
                · exact ⟨by omega, b⟩
                · exact ⟨by omega, c2⟩
              · rintro ⟨a, b⟩
                rcases Nat.lt_or_ge q n with w | w
                · exact Or.inl ⟨w, b⟩
                · exact Or.inr (by omega)
            · repeat (first | refine rs [24] rfl rfl rfl rfl ?_ | refine rk rfl rfl ?_ | refine rgoh [24] rfl rfl ?_ | refine rgeta (hi := rfl) (kk := ?_) | refine rialda (hi := rfl) (kk := ?_))
              refine ih2 _ (fun q hq => ?_)
              show bt (stood ||| 0) q = true ↔ _
              rw [Int32.or_zero, hst q hq]
              constructor
              · rintro ⟨a, b⟩
                exact ⟨by omega, b⟩
              · rintro ⟨a, b⟩
                refine ⟨?_, b⟩
                rcases Nat.lt_or_ge q n with w | w
                · exact w
                · rw [show q = n by omega] at b
                  exact absurd b c2
      have hhi := hh i (by omega)
      repeat (first | refine rs [] rfl rfl rfl rfl ?_ | refine rk rfl rfl ?_ | refine rgoh [] rfl rfl ?_ | refine rgeta (hi := rfl) (kk := ?_) | refine rialda (hi := rfl) (kk := ?_))
      (first | refine rif rfl rfl (fun c1 => ?_) (fun c1 => ?_) | refine ric rfl rfl (fun c1 => ?_) (fun c1 => ?_))
      · exact absurd hi ((nI_lt_iff (by omega) (by omega)).mp c1)
      · repeat (first | refine rs [] rfl rfl rfl rfl ?_ | refine rk rfl rfl ?_ | refine rgoh [] rfl rfl ?_ | refine rgeta (hi := rfl) (kk := ?_) | refine rialda (hi := rfl) (kk := ?_))
        refine rcss rfl rfl rfl rfl rfl (w_has) ?_
        rw [bitv_bt (by omega)]
        by_cases d : bt forced i = true
        · rw [if_pos d, if_pos rfl]
          (first | refine rift rfl rfl ?_ | refine riff rfl rfl ?_ | refine rict rfl rfl ?_ | refine ricf rfl rfl ?_)
          repeat (first | refine rs [19] rfl rfl rfl rfl ?_ | refine rk rfl rfl ?_ | refine rgoh [19] rfl rfl ?_ | refine rgeta (hi := rfl) (kk := ?_) | refine rialda (hi := rfl) (kk := ?_))
          exact tl _ _ _ _ ⟨fun a => absurd rfl a, fun a => absurd d (hhi.mp a).2.2⟩
        · rw [if_neg d, if_neg (by decide)]
          (first | refine rift rfl rfl ?_ | refine riff rfl rfl ?_ | refine rict rfl rfl ?_ | refine ricf rfl rfl ?_)
          repeat (first | refine rs [] rfl rfl rfl rfl ?_ | refine rk rfl rfl ?_ | refine rgoh [] rfl rfl ?_ | refine rgeta (hi := rfl) (kk := ?_) | refine rialda (hi := rfl) (kk := ?_))
          refine rcvt rfl rfl rfl rfl rfl (hm' g) rfl (w_isAwaited hP (hm' g) am_set_eq h7' h8' h9') ?_
          rintro r' h' ⟨rfl, w, rfl, hw⟩
          show am_R M_Mo_run (15, _, [.int w]) _ _
          rw [ea] at hw
          (first | refine rif rfl rfl (fun c2 => ?_) (fun c2 => ?_) | refine ric rfl rfl (fun c2 => ?_) (fun c2 => ?_))
          · have na : ¬ awP wh (shM mi fe fl) (G + fog) (nI i) P := by
              rcases hw with ⟨a, b⟩ | ⟨a, b⟩
              · rw [a] at c2
                exact absurd c2 (by decide)
              · exact b
            repeat (first | refine rs [19] rfl rfl rfl rfl ?_ | refine rk rfl rfl ?_ | refine rgoh [19] rfl rfl ?_ | refine rgeta (hi := rfl) (kk := ?_) | refine rialda (hi := rfl) (kk := ?_))
            exact tl _ _ _ _ ⟨fun _ => hhi.mpr ⟨hi, na, d⟩, fun _ => by decide⟩
          · have na : awP wh (shM mi fe fl) (G + fog) (nI i) P := by
              rcases hw with ⟨a, b⟩ | ⟨a, b⟩
              · exact b
              · exact absurd a c2
            repeat (first | refine rs [19] rfl rfl rfl rfl ?_ | refine rk rfl rfl ?_ | refine rgoh [19] rfl rfl ?_ | refine rgeta (hi := rfl) (kk := ?_) | refine rialda (hi := rfl) (kk := ?_))
            exact tl _ _ _ _ ⟨fun a => absurd rfl a, fun a => absurd na (hhi.mp a).2.1⟩
  have r0 : rlA N P wh wh := fun p hp => by
    obtain ⟨k, hk, e⟩ := hf p hp
    exact Or.inr ⟨k, hk, e, e⟩
  have st := fun v4 v5 v6 => key 0 0 wh v4 v5 v6 nI_0.symm r0 (fun p j _ _ _ => Iff.rfl) (fun j hj => by rw [b_0]; simp)
  rw [am_set_self h4] at st
  (try unfold am_E); unfold am_T
  repeat (first | refine rs [4] rfl rfl rfl rfl ?_ | refine rk rfl rfl ?_ | refine rgoh [4] rfl rfl ?_ | refine rgeta (hi := rfl) (kk := ?_) | refine rialda (hi := rfl) (kk := ?_))
  exact st _ _ _
end MRuns
