/-! the class's Reader: the whole text -/
def tlS (len : Nat) (tx : Nat → Int32) (N : Int32) : Nat → Nat → List Pn → (Nat × Nat) ⊕ List Pn
  | 0, _, ps => .inr ps
  | f + 1, i, ps => if i < len then (if tx i = 115 ∨ (tx i = 112 ∧ ps.length = 8) then .inl (3, i) else if tx i = 112 then (match psS len tx N ps.length (i + 1) with | .inl e => .inl e | .inr q => tlS len tx N f (sk len tx q.1) (ps ++ [q.2])) else .inl (1, i)) else .inr ps
/-- what a text says: a fault, or stations, limit, fog, persons -/
def prS (len : Nat) (tx : Nat → Int32) : (Nat × Nat) ⊕ (Int32 × Int32 × Int32 × List Pn) :=
  if sk len tx 0 < len then (if tx (sk len tx 0) = 115 then (match stS len tx (sk len tx 0 + 1) with | .inl e => .inl e | .inr q => (match tlS len tx q.2.1 200 (sk len tx q.1) [] with | .inl e => .inl e | .inr ps => .inr (q.2.1, q.2.2.1, q.2.2.2, ps))) else .inl (1, sk len tx 0)) else .inr (0, 0, 0, [])
section Pos
variable {len : Nat} {tx : Nat → Int32}
theorem numS_pos {i : Nat} {lo up : Int32} {q : Nat × Int32} (hi : i ≤ len) (h : numS len tx i lo up = .inr q) : i < q.1 ∧ q.1 ≤ len ∧ ¬ q.2 < lo ∧ ¬ up < q.2 := by
  have h1 := sk_le (tx := tx) hi
  have h2 := nd_le (tx := tx) h1.2
  unfold numS at h
  split at h
  · cases h
  · split at h
    · cases h
    · rename_i z1 z2
      cases h
      simp only [not_or] at z2
      exact ⟨by dsimp only; omega, by dsimp only; omega, z2.2.1, z2.2.2⟩
theorem sgS_pos {i j : Nat} {c : Int32} (hi : i ≤ len) (hc : c ≠ -1) (h : sgS len tx i c = .inr j) : i < j ∧ j ≤ len := by
  have h1 := sk_le (tx := tx) hi
  unfold sgS at h
  split at h
  · rename_i z
    have := ltr_lt z hc
    cases h
    omega
  · cases h
theorem stS_pos {i : Nat} {q : Nat × Int32 × Int32 × Int32} (hi : i ≤ len) (h : stS len tx i = .inr q) : i < q.1 ∧ q.1 ≤ len ∧ (¬ q.2.1 < 2 ∧ ¬ 8 < q.2.1) := by
  unfold stS at h
  split at h
  · cases h
  · rename_i q1 e1
    obtain ⟨a1, a2, a3, a4⟩ := numS_pos hi e1
    split at h
    · cases h
    · rename_i q2 e2
      obtain ⟨b1, b2, -⟩ := numS_pos a2 e2
      split at h
      · cases h
      · rename_i q3 e3
        obtain ⟨c1, c2, -⟩ := numS_pos b2 e3
        split at h
        · cases h
        · rename_i j e4
          have d := sgS_pos c2 (by decide) e4
          cases h
          exact ⟨by dsimp only; omega, by dsimp only; omega, a3, a4⟩
theorem psS_pos {i P : Nat} {N : Int32} {q : Nat × Pn} (hi : i ≤ len) (h : psS len tx N P i = .inr q) : i < q.1 ∧ q.1 ≤ len ∧ (¬ q.2.1 < 0 ∧ ¬ N - 1 < q.2.1) ∧ (¬ q.2.2.1 < 0 ∧ ¬ N - 1 < q.2.2.1) ∧ (q.2.2.2.1 = -1 ∨ (¬ q.2.2.2.1 < 0 ∧ q.2.2.2.1 < nI P)) ∧ (¬ q.2.2.2.2.2 < 0 ∧ ¬ 3 < q.2.2.2.2.2) := by
  unfold psS at h
  split at h
  · cases h
  · rename_i q1 e1
    obtain ⟨a1, a2, a3, a4⟩ := numS_pos hi e1
    split at h
    · cases h
    · rename_i q2 e2
      obtain ⟨b1, b2, b3, b4⟩ := numS_pos a2 e2
      split at h
      · cases h
      · split at h
        · cases h
        · rename_i q3 e3
          obtain ⟨c1, c2, c3, c4⟩ := numS_pos b2 e3
          split at h
          · cases h
          · rename_i z
            split at h
            · cases h
            · rename_i q4 e4
              obtain ⟨d1, d2, -⟩ := numS_pos c2 e4
              split at h
              · cases h
              · rename_i q5 e5
                obtain ⟨f1, f2, f3, f4⟩ := numS_pos d2 e5
                split at h
                · cases h
                · rename_i j e6
                  have g := sgS_pos f2 (by decide) e6
                  cases h
                  refine ⟨by dsimp only; omega, by dsimp only; omega, ⟨a3, a4⟩, ⟨b3, b4⟩, ?_, ⟨f3, f4⟩⟩
                  dsimp only
                  by_cases h9 : q3.2 = 9
                  · left
                    rw [if_pos h9]
                  · right
                    rw [if_neg h9]
                    refine ⟨c3, Classical.byContradiction (fun w => z ⟨h9, w⟩)⟩
end Pos
section CText
variable {h : am_H} {len : Nat} {tx : Nat → Int32} {pl : Int32}
theorem c_Sclear {a w mi : Nat} {fe fl fog tr sp : Int32} (ha : a = 8) (hs : h.1 a = .inr (6, [.ref w, .ref mi, .int fe, .int fl, .int fog, .int tr, .int sp])) : am_E M_Scene_clear [.ref a] h none (am_set h a (.inr (6, [.ref w, .ref mi, .int 0, .int 0, .int 0, .int 0, .int 0]))) := by
  subst ha
  (try unfold am_E); unfold am_T
  repeat (first | refine rs [] rfl rfl rfl rfl ?_ | refine rk rfl rfl ?_ | refine rgoh [] rfl rfl ?_ | refine rgeta (hi := rfl) (kk := ?_) | refine rialda (hi := rfl) (kk := ?_))
  refine rputa (hi := rfl) (kk := ?_)
  repeat (first | refine rs [] rfl rfl rfl rfl ?_ | refine rk rfl rfl ?_ | refine rgoh [] rfl rfl ?_ | refine rgeta (hi := rfl) (kk := ?_) | refine rialda (hi := rfl) (kk := ?_))
  refine rret rfl rfl ?_
  refine ⟨rfl, ?_⟩
  simp only [am_set_set]
  rfl
/-- the reader's cells, whatever stands in them -/
def pRw (h : am_H) : Prop := ∃ (wa me wh mi : Nat → Int32) (N G P fe fl F tr sp : Int32), h.1 5 = .inr (4, [.int N, .int G, .int P, .ref 6, .ref 7]) ∧ h.1 6 = iar wa ∧ h.1 7 = iar me ∧ h.1 8 = .inr (6, [.ref 9, .ref 10, .int fe, .int fl, .int F, .int tr, .int sp]) ∧ h.1 9 = iar wh ∧ h.1 10 = iar mi
theorem pRd.raw {N G F : Int32} {ps : List Pn} {h : am_H} (q : pRd N G F ps h) : pRw h := by
  obtain ⟨wa, me, wh, mi, fe, fl, q1, q2, q3, q4, q5, q6, q7⟩ := q
  exact ⟨wa, me, wh, mi, N, G, _, fe, fl, F, 0, 0, q1, q2, q3, q4, q5, q6⟩
theorem pRw.set4 {h : am_H} {c : am_C} (q : pRw h) : pRw (am_set h 4 c) := by
  obtain ⟨wa, me, wh, mi, N, G, P, fe, fl, F, tr, sp, q1, q2, q3, q4, q5, q6⟩ := q
  exact ⟨wa, me, wh, mi, N, G, P, fe, fl, F, tr, sp, by rw [am_set_ne (by omega)]; exact q1, by rw [am_set_ne (by omega)]; exact q2, by rw [am_set_ne (by omega)]; exact q3, by rw [am_set_ne (by omega)]; exact q4, by rw [am_set_ne (by omega)]; exact q5, by rw [am_set_ne (by omega)]; exact q6⟩
/-- behind reading: the reader's verdict -/
def rdV (len : Nat) (pl : Int32) (v : (Nat × Nat) ⊕ (Int32 × Int32 × Int32 × List Pn)) (h : am_H) : Prop := match v with
  | .inl (k, j) => (0 < k ∧ k < 100) ∧ (∃ i nu, h.1 4 = rdc (nI k) (nI j) i nu) ∧ pRw h
  | .inr q => (∃ i nu, h.1 4 = rdc 0 pl i nu) ∧ pRd q.1 q.2.1 q.2.2.1 q.2.2.2 h
theorem c_skO {o : (Nat × Nat) ⊕ Nat} {c : am_C} (hT : cTx len tx h) (hr : atO len pl o c) : am_T M_Reader_skipBlanks [.ref 4, .ref 2] (am_set h 4 c) (fun r h' => ∃ c', r = none ∧ h' = am_set h 4 c' ∧ atO len pl (match o with | .inl e => .inl e | .inr i => .inr (sk len tx i)) c') := by
  cases o with
  | inl e =>
    obtain ⟨k, j⟩ := e
    obtain ⟨hk, nu, i, hi, rfl⟩ := atO_inl hr
    refine am_R.imp (c_skipBlanks (hT.set (by omega)) hi rfl am_set_eq) ?_
    rintro r h' ⟨rfl, rfl⟩
    rw [am_set_set]
    exact ⟨_, rfl, rfl, nu, hk, _, (sk_le hi).2, rfl⟩
  | inr i =>
    obtain ⟨hi, nu, rfl⟩ := atO_inr hr
    refine am_R.imp (c_skipBlanks (hT.set (by omega)) hi rfl am_set_eq) ?_
    rintro r h' ⟨rfl, rfl⟩
    rw [am_set_set]
    exact ⟨_, rfl, rfl, nu, (sk_le hi).2, rfl⟩
set_option maxHeartbeats 1000000 in
/-- the clauses behind the first -/
theorem c_readT {N G F : Int32} (hN : 0 < N) : ∀ (f i : Nat) (ps : List Pn) (c : am_C) (h : am_H) (x : Int32), f ≤ 200 → 201 - f ≤ i → ps.length ≤ 8 → x = nI (201 - f) → cTx len tx h → atO len pl (.inr i) c → pRd N G F ps h → am_R M_Reader_read (20, [.ref 4, .ref 2, .int x], []) (am_set h 4 c) (fun r h' => r = none ∧ am_fr 4 11 h h' ∧ rdV len pl (match tlS len tx N f i ps with | .inl e => .inl e | .inr ps => .inr (N, G, F, ps)) h')
  | f, i, ps, c, h, x, hf, hfi, hps, hx, hT, hr, hp => by
    have hl2 : len ≤ 200 := hT.1
    obtain ⟨hil, nu, rfl⟩ := atO_inr hr
    have hT1 := hT.set (a := 4) (c := rdc 0 pl (nI i) nu) (by omega)
    obtain ⟨t1, t2, t3⟩ := id hT1
    match f, hf, hfi, hx with
    | 0, hf, hfi, hx => exfalso; omega
    | f + 1, hf, hfi, hx =>
      subst hx
      repeat (first | refine rs [] rfl rfl rfl rfl ?_ | refine rk rfl rfl ?_ | refine rgoh [] rfl rfl ?_ | refine rgeta (hi := rfl) (kk := ?_) | refine rialda (hi := rfl) (kk := ?_))
      (first | refine rif rfl rfl (fun c1 => ?_) (fun c1 => ?_) | refine ric rfl rfl (fun c1 => ?_) (fun c1 => ?_))
      · exfalso
        rw [i200, nI_ltI (by omega) (by omega)] at c1
        omega
      · repeat (first | refine rs [] rfl rfl rfl rfl ?_ | refine rk rfl rfl ?_ | refine rgoh [] rfl rfl ?_ | refine rgeta (hi := rfl) (kk := ?_) | refine rialda (hi := rfl) (kk := ?_))
        (first | refine rift rfl rfl ?_ | refine riff rfl rfl ?_ | refine rict rfl rfl ?_ | refine ricf rfl rfl ?_)
        repeat (first | refine rs [] rfl rfl rfl rfl ?_ | refine rk rfl rfl ?_ | refine rgoh [] rfl rfl ?_ | refine rgeta (hi := rfl) (kk := ?_) | refine rialda (hi := rfl) (kk := ?_))
        (first | refine rif rfl rfl (fun c2 => ?_) (fun c2 => ?_) | refine ric rfl rfl (fun c2 => ?_) (fun c2 => ?_))
        · have hi : ¬ i < len := (nI_lt_iff (by omega) (by omega)).mp c2
          refine rret rfl rfl ?_
          refine ⟨rfl, fr_set fr_rf (by omega) (by omega), ?_⟩
          show rdV len pl (match (if i < len then _ else Sum.inr ps) with | .inl e => .inl e | .inr ps => .inr (N, G, F, ps)) _
          rw [if_neg hi]
          exact ⟨⟨_, _, am_set_eq⟩, hp.set4⟩
        · have hi : i < len := by
            rw [nI_leI (by omega) (by omega)] at c2
            omega
          have hst : ∀ (b : Bool), True := fun _ => trivial
          repeat (first | refine rs [] rfl rfl rfl rfl ?_ | refine rk rfl rfl ?_ | refine rgoh [] rfl rfl ?_ | refine rgeta (hi := rfl) (kk := ?_) | refine rialda (hi := rfl) (kk := ?_))
          refine rcvt rfl rfl rfl rfl rfl am_set_eq rfl (c_rcT hN hps hT hr hp hi) ?_
          rintro r h' ⟨rfl, c', h1, rfl, f1, q⟩
          show am_R M_Reader_read (34, [.ref 4, .ref 2, .int (nI (201 - (f + 1)))], []) _ _
          have hT2 : cTx len tx h1 := hT.fr f1 (by omega)
          have flt : ∀ e, atO len pl (.inl e) c' → h1 = h → tlS len tx N (f + 1) i ps = .inl e → am_R M_Reader_read (34, [.ref 4, .ref 2, .int (nI (201 - (f + 1)))], []) (am_set h1 4 c') (fun r h' => r = none ∧ am_fr 4 11 h h' ∧ rdV len pl (match tlS len tx N (f + 1) i ps with | .inl e => .inl e | .inr ps => .inr (N, G, F, ps)) h') := by
            intro e a1 eh e1
            obtain ⟨z1, ec1⟩ := rd4 a1
            repeat (first | refine rs [] rfl rfl rfl rfl ?_ | refine rk rfl rfl ?_ | refine rgoh [] rfl rfl ?_ | refine rgeta (hi := rfl) (kk := ?_) | refine rialda (hi := rfl) (kk := ?_))
            refine rcvt rfl rfl rfl rfl rfl (by rw [am_set_eq]; exact ec1) rfl (c_skO hT2 a1) ?_
            rintro r h' ⟨c2', rfl, rfl, a2⟩
            show am_R M_Reader_read (37, [.ref 4, .ref 2, .int (nI (201 - (f + 1)))], []) _ _
            obtain ⟨k, j⟩ := e
            obtain ⟨hk, nu, i2, hi2, rfl⟩ := atO_inl a2
            have hk0 : ¬ nI k = 0 := nI_ne0 hk.1 (by omega)
            have fin : am_R M_Reader_read (39, [.ref 4, .ref 2, .int (nI (201 - (f + 1)) + 1)], []) (am_set h1 4 (rdc (nI k) (nI j) (nI i2) nu)) (fun r h' => r = none ∧ am_fr 4 11 h h' ∧ rdV len pl (match tlS len tx N (f + 1) i ps with | .inl e => .inl e | .inr ps => .inr (N, G, F, ps)) h') := by
              refine rret rfl rfl ?_
              rw [e1]
              exact ⟨rfl, fr_tr f1 (fr_set (lo := 4) (hi := 11) fr_rf (by omega) (by omega)) (by omega) (by omega), hk, ⟨_, _, am_set_eq⟩, (eh ▸ hp).raw.set4⟩
            repeat (first | refine rs [] rfl rfl rfl rfl ?_ | refine rk rfl rfl ?_ | refine rgoh [] rfl rfl ?_ | refine rgeta (hi := rfl) (kk := ?_) | refine rialda (hi := rfl) (kk := ?_))
            (first | refine rif rfl rfl (fun c3 => ?_) (fun c3 => ?_) | refine ric rfl rfl (fun c3 => ?_) (fun c3 => ?_))
            · exact fin
            · repeat (first | refine rs [] rfl rfl rfl rfl ?_ | refine rk rfl rfl ?_ | refine rgoh [] rfl rfl ?_ | refine rgeta (hi := rfl) (kk := ?_) | refine rialda (hi := rfl) (kk := ?_))
              (first | refine rif rfl rfl (fun c4 => ?_) (fun c4 => ?_) | refine ric rfl rfl (fun c4 => ?_) (fun c4 => ?_))
              · exact absurd c4 hk0
              · exact fin
          have et : tlS len tx N (f + 1) i ps = if tx i = 115 ∨ (tx i = 112 ∧ ps.length = 8) then .inl (3, i) else if tx i = 112 then (match psS len tx N ps.length (i + 1) with | .inl e => .inl e | .inr q => tlS len tx N f (sk len tx q.1) (ps ++ [q.2])) else .inl (1, i) := by
            show (if i < len then _ else _) = _
            rw [if_pos hi]
          by_cases d1 : tx i = 115 ∨ (tx i = 112 ∧ ps.length = 8)
          · rw [if_pos d1] at q et
            exact flt _ q.1 q.2 et
          · rw [if_neg d1] at q et
            by_cases d2 : tx i = 112
            · rw [if_pos d2] at q et
              have h8 : ps.length < 8 := by
                rcases Nat.lt_or_ge ps.length 8 with g | g
                · exact g
                · exact absurd (Or.inr ⟨d2, by omega⟩) d1
              cases ep : psS len tx N ps.length (i + 1) with
              | inl e =>
                rw [ep] at q et
                exact flt _ q.1 q.2 et
              | inr qq =>
                rw [ep] at q et
                dsimp only at q et
                obtain ⟨a1, hp1⟩ := q
                obtain ⟨b1, b2, -⟩ := psS_pos (by omega) ep
                have hsk := sk_le (tx := tx) b2
                obtain ⟨z1, ec1⟩ := rd4 a1
                repeat (first | refine rs [] rfl rfl rfl rfl ?_ | refine rk rfl rfl ?_ | refine rgoh [] rfl rfl ?_ | refine rgeta (hi := rfl) (kk := ?_) | refine rialda (hi := rfl) (kk := ?_))
                refine rcvt rfl rfl rfl rfl rfl (by rw [am_set_eq]; exact ec1) rfl (c_skO hT2 a1) ?_
                rintro r h' ⟨c2', rfl, rfl, a2⟩
                show am_R M_Reader_read (37, [.ref 4, .ref 2, .int (nI (201 - (f + 1)))], []) _ _
                repeat (first | refine rs [20] rfl rfl rfl rfl ?_ | refine rk rfl rfl ?_ | refine rgoh [20] rfl rfl ?_ | refine rgeta (hi := rfl) (kk := ?_) | refine rialda (hi := rfl) (kk := ?_))
                have := c_readT hN f (sk len tx qq.1) (ps ++ [qq.2]) c2' h1 _ (by omega) (by omega) (by rw [List.length_append]; simp; omega) (show nI (201 - (f + 1)) + 1 = nI (201 - f) by rw [nI_1]; congr 1; omega) hT2 a2 hp1
                refine am_R.imp this ?_
                rintro r h' ⟨rfl, g1, g2⟩
                rw [et]
                exact ⟨rfl, fr_tr f1 g1 (by omega) (by omega), g2⟩
            · rw [if_neg d2] at q et
              exact flt _ q.1 q.2 et
theorem rdc_eq {k j i nu : Int32} : rdc k j i nu = .inr (5, [.ref 5, .ref 8, .int k, .int j, .int i, .int nu]) := rfl
set_option maxHeartbeats 1000000 in
/-- reading a text -/
theorem c_read {k j i nu : Int32} (hT : cTx len tx h) (h4 : h.1 4 = rdc k j i nu) (hw : pRw h) : am_T M_Reader_read [.ref 4, .ref 2] h (fun r h' => r = none ∧ am_fr 4 11 h h' ∧ rdV len (-1) (prS len tx) h') := by
  obtain ⟨wa, me, wh, mi, N, G, P, fe, fl, F, tr, sp, q1, q2, q3, q4, q5, q6⟩ := hw
  have hl2 : len ≤ 200 := hT.1
  rw [rdc_eq] at h4
  (try unfold am_E); unfold am_T
  repeat (first | refine rs [] rfl rfl rfl rfl ?_ | refine rk rfl rfl ?_ | refine rgoh [] rfl rfl ?_ | refine rgeta (hi := rfl) (kk := ?_) | refine rialda (hi := rfl) (kk := ?_))
  refine rcvt rfl rfl rfl rfl rfl q1 rfl (c_Lclear q1) ?_
  rintro r h' ⟨rfl, rfl⟩
  show am_R M_Reader_read (3, _, []) _ _
  generalize eh1 : am_set h 5 _ = h1
  have f1 : am_fr 4 11 h h1 := by rw [← eh1]; exact fr_set fr_rf (by omega) (by omega)
  have g4 : h1.1 4 = .inr (5, [.ref 5, .ref 8, .int k, .int j, .int i, .int nu]) := by rw [← eh1, am_set_ne (by omega)]; exact h4
  have g5 : h1.1 5 = .inr (4, [.int 0, .int 0, .int 0, .ref 6, .ref 7]) := by rw [← eh1]; exact am_set_eq
  have g6 : h1.1 6 = iar wa := by rw [← eh1, am_set_ne (by omega)]; exact q2
  have g7 : h1.1 7 = iar me := by rw [← eh1, am_set_ne (by omega)]; exact q3
  have g8 : h1.1 8 = .inr (6, [.ref 9, .ref 10, .int fe, .int fl, .int F, .int tr, .int sp]) := by rw [← eh1, am_set_ne (by omega)]; exact q4
  have g9 : h1.1 9 = iar wh := by rw [← eh1, am_set_ne (by omega)]; exact q5
  have g10 : h1.1 10 = iar mi := by rw [← eh1, am_set_ne (by omega)]; exact q6
  repeat (first | refine rs [] rfl rfl rfl rfl ?_ | refine rk rfl rfl ?_ | refine rgoh [] rfl rfl ?_ | refine rgeta (hi := rfl) (kk := ?_) | refine rialda (hi := rfl) (kk := ?_))
  (first | refine rcvs rfl rfl rfl rfl rfl (by first | assumption | (simp (disch := omega) only [am_set_ne, am_set_eq]; first | assumption | rfl)) rfl (c_Sclear rfl g8) ?_ | refine rcvn rfl rfl rfl rfl rfl (by first | assumption | (simp (disch := omega) only [am_set_ne, am_set_eq]; first | assumption | rfl)) rfl (c_Sclear rfl g8) ?_)
  generalize eh2 : am_set h1 8 _ = h2
  have f2 : am_fr 4 11 h h2 := by rw [← eh2]; exact fr_set f1 (by omega) (by omega)
  have p4 : h2.1 4 = .inr (5, [.ref 5, .ref 8, .int k, .int j, .int i, .int nu]) := by rw [← eh2, am_set_ne (by omega)]; exact g4
  have hp : pRd 0 0 0 [] h2 := by
    refine ⟨wa, me, wh, mi, 0, 0, ?_, ?_, ?_, ?_, ?_, ?_, fun p q e => by simp at e⟩ <;> rw [← eh2]
    · rw [am_set_ne (by omega)]; exact g5
    · rw [am_set_ne (by omega)]; exact g6
    · rw [am_set_ne (by omega)]; exact g7
    · exact am_set_eq
    · rw [am_set_ne (by omega)]; exact g9
    · rw [am_set_ne (by omega)]; exact g10
  have hT2 : cTx len tx h2 := hT.fr f2 (by omega)
  repeat (first | refine rs [] rfl rfl rfl rfl ?_ | refine rk rfl rfl ?_ | refine rgoh [] rfl rfl ?_ | refine rgeta (hi := rfl) (kk := ?_) | refine rialda (hi := rfl) (kk := ?_))
  refine rputa (hi := rfl) (kk := ?_)
  repeat (first | refine rs [] rfl rfl rfl rfl ?_ | refine rk rfl rfl ?_ | refine rgoh [] rfl rfl ?_ | refine rgeta (hi := rfl) (kk := ?_) | refine rialda (hi := rfl) (kk := ?_))
  have a0 : atO len (-1) (.inr 0) (rdc 0 (-1) 0 nu) := ⟨nu, by omega, rfl⟩
  simp only [am_set_set]
  refine rcvt rfl rfl rfl rfl rfl am_set_eq rfl (c_skO hT2 a0) ?_
  rintro r h' ⟨c1, rfl, rfl, a1⟩
  show am_R M_Reader_read (18, _, []) _ _
  have hsk := sk_le (tx := tx) (i := 0) (len := len) (by omega)
  obtain ⟨hil, nu1, rfl⟩ := atO_inr a1
  have hT3 := hT2.set (a := 4) (c := rdc 0 (-1) (nI (sk len tx 0)) nu1) (by omega)
  obtain ⟨t1, t2, t3⟩ := id hT3
  repeat (first | refine rs [20] rfl rfl rfl rfl ?_ | refine rk rfl rfl ?_ | refine rgoh [20] rfl rfl ?_ | refine rgeta (hi := rfl) (kk := ?_) | refine rialda (hi := rfl) (kk := ?_))
  repeat (first | refine rs [] rfl rfl rfl rfl ?_ | refine rk rfl rfl ?_ | refine rgoh [] rfl rfl ?_ | refine rgeta (hi := rfl) (kk := ?_) | refine rialda (hi := rfl) (kk := ?_))
  (first | refine rift rfl rfl ?_ | refine riff rfl rfl ?_ | refine rict rfl rfl ?_ | refine ricf rfl rfl ?_)
  · repeat (first | refine rs [] rfl rfl rfl rfl ?_ | refine rk rfl rfl ?_ | refine rgoh [] rfl rfl ?_ | refine rgeta (hi := rfl) (kk := ?_) | refine rialda (hi := rfl) (kk := ?_))
    (first | refine rift rfl rfl ?_ | refine riff rfl rfl ?_ | refine rict rfl rfl ?_ | refine ricf rfl rfl ?_)
    repeat (first | refine rs [] rfl rfl rfl rfl ?_ | refine rk rfl rfl ?_ | refine rgoh [] rfl rfl ?_ | refine rgeta (hi := rfl) (kk := ?_) | refine rialda (hi := rfl) (kk := ?_))
    (first | refine rif rfl rfl (fun c2 => ?_) (fun c2 => ?_) | refine ric rfl rfl (fun c2 => ?_) (fun c2 => ?_))
    · have hi : ¬ sk len tx 0 < len := (nI_lt_iff (by omega) (by omega)).mp c2
      refine rret rfl rfl ?_
      refine ⟨rfl, fr_set f2 (by omega) (by omega), ?_⟩
      unfold prS
      rw [if_neg hi]
      exact ⟨⟨_, _, am_set_eq⟩, hp.set4⟩
    · have hi : sk len tx 0 < len := by
        rw [nI_leI (by omega) (by omega)] at c2
        omega
      repeat (first | refine rs [] rfl rfl rfl rfl ?_ | refine rk rfl rfl ?_ | refine rgoh [] rfl rfl ?_ | refine rgeta (hi := rfl) (kk := ?_) | refine rialda (hi := rfl) (kk := ?_))
      refine rcvt rfl rfl rfl rfl rfl am_set_eq rfl (c_rcF hT2 a1 hp hi) ?_
      rintro r h' ⟨rfl, c', h3, rfl, f3, q⟩
      show am_R M_Reader_read (34, [.ref 4, .ref 2, .int 0], []) _ _
      have hT4 : cTx len tx h3 := hT2.fr f3 (by omega)
      have flt : ∀ e, atO len (-1) (.inl e) c' → h3 = h2 → prS len tx = .inl e → am_R M_Reader_read (34, [.ref 4, .ref 2, .int 0], []) (am_set h3 4 c') (fun r h' => r = none ∧ am_fr 4 11 h h' ∧ rdV len (-1) (prS len tx) h') := by
        intro e a1 eh e1
        obtain ⟨z1, ec1⟩ := rd4 a1
        repeat (first | refine rs [] rfl rfl rfl rfl ?_ | refine rk rfl rfl ?_ | refine rgoh [] rfl rfl ?_ | refine rgeta (hi := rfl) (kk := ?_) | refine rialda (hi := rfl) (kk := ?_))
        refine rcvt rfl rfl rfl rfl rfl (by rw [am_set_eq]; exact ec1) rfl (c_skO hT4 a1) ?_
        rintro r h' ⟨c2', rfl, rfl, a2⟩
        show am_R M_Reader_read (37, [.ref 4, .ref 2, .int 0], []) _ _
        obtain ⟨k, j⟩ := e
        obtain ⟨hk, nu, i2, hi2, rfl⟩ := atO_inl a2
        have hk0 : ¬ nI k = 0 := nI_ne0 hk.1 (by omega)
        repeat (first | refine rs [20] rfl rfl rfl rfl ?_ | refine rk rfl rfl ?_ | refine rgoh [20] rfl rfl ?_ | refine rgeta (hi := rfl) (kk := ?_) | refine rialda (hi := rfl) (kk := ?_))
        repeat (first | refine rs [] rfl rfl rfl rfl ?_ | refine rk rfl rfl ?_ | refine rgoh [] rfl rfl ?_ | refine rgeta (hi := rfl) (kk := ?_) | refine rialda (hi := rfl) (kk := ?_))
        (first | refine rift rfl rfl ?_ | refine riff rfl rfl ?_ | refine rict rfl rfl ?_ | refine ricf rfl rfl ?_)
        · repeat (first | refine rs [] rfl rfl rfl rfl ?_ | refine rk rfl rfl ?_ | refine rgoh [] rfl rfl ?_ | refine rgeta (hi := rfl) (kk := ?_) | refine rialda (hi := rfl) (kk := ?_))
          (first | refine rif rfl rfl (fun c4 => ?_) (fun c4 => ?_) | refine ric rfl rfl (fun c4 => ?_) (fun c4 => ?_))
          · exact absurd c4 hk0
          · refine rret rfl rfl ?_
            rw [e1]
            exact ⟨rfl, fr_tr f2 (fr_set (lo := 4) (hi := 11) f3 (by omega) (by omega)) (by omega) (by omega), hk, ⟨_, _, am_set_eq⟩, (eh ▸ hp).raw.set4⟩
      have et : prS len tx = (if tx (sk len tx 0) = 115 then (match stS len tx (sk len tx 0 + 1) with | .inl e => .inl e | .inr q => (match tlS len tx q.2.1 200 (sk len tx q.1) [] with | .inl e => .inl e | .inr ps => .inr (q.2.1, q.2.2.1, q.2.2.2, ps))) else .inl (1, sk len tx 0)) := by
        unfold prS
        rw [if_pos hi]
      by_cases d1 : tx (sk len tx 0) = 115
      · rw [if_pos d1] at q et
        cases ep : stS len tx (sk len tx 0 + 1) with
        | inl e =>
          rw [ep] at q et
          exact flt _ q.1 q.2 et
        | inr qq =>
          rw [ep] at q et
          dsimp only at q et
          obtain ⟨a3, hp1⟩ := q
          obtain ⟨b1, b2, b3⟩ := stS_pos (by omega) ep
          have hsk := sk_le (tx := tx) b2
          obtain ⟨z1, ec1⟩ := rd4 a3
          repeat (first | refine rs [] rfl rfl rfl rfl ?_ | refine rk rfl rfl ?_ | refine rgoh [] rfl rfl ?_ | refine rgeta (hi := rfl) (kk := ?_) | refine rialda (hi := rfl) (kk := ?_))
          refine rcvt rfl rfl rfl rfl rfl (by rw [am_set_eq]; exact ec1) rfl (c_skO hT4 a3) ?_
          rintro r h' ⟨c2', rfl, rfl, a2⟩
          show am_R M_Reader_read (37, [.ref 4, .ref 2, .int 0], []) _ _
          repeat (first | refine rs [20] rfl rfl rfl rfl ?_ | refine rk rfl rfl ?_ | refine rgoh [20] rfl rfl ?_ | refine rgeta (hi := rfl) (kk := ?_) | refine rialda (hi := rfl) (kk := ?_))
          have hN : 0 < qq.2.1 := by
            have := b3.1
            rw [Int32.not_lt] at this
            exact Int32.lt_of_lt_of_le (by decide) this
          refine am_R.imp (c_readT hN 200 (sk len tx qq.1) [] c2' h3 _ (by omega) (by omega) (by simp) rfl hT4 a2 hp1) ?_
          rintro r h' ⟨rfl, g1, g2⟩
          rw [et]
          exact ⟨rfl, fr_tr (fr_tr f2 f3 (by omega) (by omega)) g1 (by omega) (by omega), g2⟩
      · rw [if_neg d1] at q et
        exact flt _ q.1 q.2 et
end CText
