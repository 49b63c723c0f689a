/-! the class's Reader: clauses, the whole text -/
section CCl
variable {h : am_H} {len : Nat} {tx : Nat → Int32} {pl : Int32}
theorem ltr_at {i : Nat} (hi : i < len) : ltr len tx i = tx i := by
  unfold ltr
  rw [if_pos hi]
set_option maxHeartbeats 1000000 in
theorem c_rcF {i : Nat} {c : am_C} {G F : Int32} (hT : cTx len tx h) (hr : atO len pl (.inr i) c) (hp : pRd 0 G F [] h) (hi : i < len) : am_T M_Reader_readClause [.ref 4, .ref 2] (am_set h 4 c) (fun r h' => r = none ∧ ∃ c' h1, h' = am_set h1 4 c' ∧ am_fr 4 11 h h1 ∧ if tx i = 115 then (match stS len tx (i + 1) with | .inl e => atO len pl (.inl e) c' ∧ h1 = h | .inr q => atO len pl (.inr q.1) c' ∧ pRd q.2.1 q.2.2.1 q.2.2.2 [] h1) else atO len pl (.inl (1, i)) c' ∧ h1 = h) := by
  obtain ⟨wa, me, wh, mi, fe, fl, p1, p2, p3, p4, p5, p6, p7⟩ := id hp
  obtain ⟨hil, nu, rfl⟩ := atO_inr hr
  have hl2 : len ≤ 200 := hT.1
  have hT1 := hT.set (a := 4) (c := rdc 0 pl (nI i) nu) (by omega)
  obtain ⟨t1, t2, t3⟩ := id hT1
  have p1' : (am_set h 4 (rdc 0 pl (nI i) nu)).1 5 = .inr (4, [.int 0, .int G, .int (nI ([] : List Pn).length), .ref 6, .ref 7]) := p1
  (try unfold am_E); unfold am_T
  repeat (first | refine rs [] rfl rfl rfl rfl ?_ | refine rk rfl rfl ?_ | refine rgoh [] rfl rfl ?_ | refine rgeta (hi := rfl) (kk := ?_) | refine rialda (hi := rfl) (kk := ?_))
  (first | refine rcvs rfl rfl rfl rfl rfl (by first | assumption | (simp (disch := omega) only [am_set_ne, am_set_eq]; first | assumption | rfl)) rfl (c_letterAt hT1 rfl (by omega)) ?_ | refine rcvn rfl rfl rfl rfl rfl (by first | assumption | (simp (disch := omega) only [am_set_ne, am_set_eq]; first | assumption | rfl)) rfl (c_letterAt hT1 rfl (by omega)) ?_)
  rw [ltr_at hi]
  repeat (first | refine rs [] rfl rfl rfl rfl ?_ | refine rk rfl rfl ?_ | refine rgoh [] rfl rfl ?_ | refine rgeta (hi := rfl) (kk := ?_) | refine rialda (hi := rfl) (kk := ?_))
  (first | refine rif rfl rfl (fun c1 => ?_) (fun c1 => ?_) | refine ric rfl rfl (fun c1 => ?_) (fun c1 => ?_))
  · repeat (first | refine rs [] rfl rfl rfl rfl ?_ | refine rk rfl rfl ?_ | refine rgoh [] rfl rfl ?_ | refine rgeta (hi := rfl) (kk := ?_) | refine rialda (hi := rfl) (kk := ?_))
    (first | refine rcvs rfl rfl rfl rfl rfl (by first | assumption | (simp (disch := omega) only [am_set_ne, am_set_eq]; first | assumption | rfl)) rfl (c_isTold p1') ?_ | refine rcvn rfl rfl rfl rfl rfl (by first | assumption | (simp (disch := omega) only [am_set_ne, am_set_eq]; first | assumption | rfl)) rfl (c_isTold p1') ?_)
    rw [if_neg (by decide)]
    (first | refine rift rfl rfl ?_ | refine riff rfl rfl ?_ | refine rict rfl rfl ?_ | refine ricf rfl rfl ?_)
    repeat (first | refine rs [] rfl rfl rfl rfl ?_ | refine rk rfl rfl ?_ | refine rgoh [] rfl rfl ?_ | refine rgeta (hi := rfl) (kk := ?_) | refine rialda (hi := rfl) (kk := ?_))
    (first | refine rif rfl rfl (fun c2 => ?_) (fun c2 => ?_) | refine ric rfl rfl (fun c2 => ?_) (fun c2 => ?_))
    · exact absurd (c1.symm.trans c2) (by decide)
    · repeat (first | refine rs [] rfl rfl rfl rfl ?_ | refine rk rfl rfl ?_ | refine rgoh [] rfl rfl ?_ | refine rgeta (hi := rfl) (kk := ?_) | refine rialda (hi := rfl) (kk := ?_))
      (first | refine rift rfl rfl ?_ | refine riff rfl rfl ?_ | refine rict rfl rfl ?_ | refine ricf rfl rfl ?_)
      repeat (first | refine rs [] rfl rfl rfl rfl ?_ | refine rk rfl rfl ?_ | refine rgoh [] rfl rfl ?_ | refine rgeta (hi := rfl) (kk := ?_) | refine rialda (hi := rfl) (kk := ?_))
      (first | refine rift rfl rfl ?_ | refine riff rfl rfl ?_ | refine rict rfl rfl ?_ | refine ricf rfl rfl ?_)
      repeat (first | refine rs [] rfl rfl rfl rfl ?_ | refine rk rfl rfl ?_ | refine rgoh [] rfl rfl ?_ | refine rgeta (hi := rfl) (kk := ?_) | refine rialda (hi := rfl) (kk := ?_))
      (first | refine rif rfl rfl (fun c3 => ?_) (fun c3 => ?_) | refine ric rfl rfl (fun c3 => ?_) (fun c3 => ?_))
      · repeat (first | refine rs [] rfl rfl rfl rfl ?_ | refine rk rfl rfl ?_ | refine rgoh [] rfl rfl ?_ | refine rgeta (hi := rfl) (kk := ?_) | refine rialda (hi := rfl) (kk := ?_))
        have a2 : atO len pl (.inr (i + 1)) (rdc 0 pl (nI i + 1) nu) := ⟨nu, by omega, by rw [nI_succ]⟩
        rw [am_set_set]
        refine rcvt rfl rfl rfl rfl rfl am_set_eq rfl (c_readStations hT a2 hp) ?_
        rintro r h' ⟨rfl, c', h1, rfl, f1, q⟩
        show am_R M_Reader_readClause (50, _, []) _ _
        repeat (first | refine rs [] rfl rfl rfl rfl ?_ | refine rk rfl rfl ?_ | refine rgoh [] rfl rfl ?_ | refine rgeta (hi := rfl) (kk := ?_) | refine rialda (hi := rfl) (kk := ?_))
        refine rret rfl rfl ?_
        refine ⟨rfl, c', h1, rfl, f1, ?_⟩
        rw [if_pos c1]
        exact q
      · exact absurd c1 c3
  · repeat (first | refine rs [] rfl rfl rfl rfl ?_ | refine rk rfl rfl ?_ | refine rgoh [] rfl rfl ?_ | refine rgeta (hi := rfl) (kk := ?_) | refine rialda (hi := rfl) (kk := ?_))
    have fin : am_R M_Reader_readClause (68, [.ref 4, .ref 2, .int (tx i), .int 0, .int 0], []) (am_set h 4 (rdc 0 pl (nI i) nu)) (fun r h' => r = none ∧ ∃ c' h1, h' = am_set h1 4 c' ∧ am_fr 4 11 h h1 ∧ if tx i = 115 then (match stS len tx (i + 1) with | .inl e => atO len pl (.inl e) c' ∧ h1 = h | .inr q => atO len pl (.inr q.1) c' ∧ pRd q.2.1 q.2.2.1 q.2.2.2 [] h1) else atO len pl (.inl (1, i)) c' ∧ h1 = h) := by
      repeat (first | refine rs [] rfl rfl rfl rfl ?_ | refine rk rfl rfl ?_ | refine rgoh [] rfl rfl ?_ | refine rgeta (hi := rfl) (kk := ?_) | refine rialda (hi := rfl) (kk := ?_))
      refine rcvt rfl rfl rfl rfl rfl am_set_eq rfl (c_rdB i1 rfl (by omega) hr) ?_
      rintro r h' ⟨c', rfl, rfl, q⟩
      show am_R M_Reader_readClause (73, _, []) _ _
      refine rret rfl rfl ?_
      refine ⟨rfl, c', h, rfl, fr_rf, ?_⟩
      rw [if_neg c1]
      exact ⟨q, rfl⟩
    (first | refine rif rfl rfl (fun c2 => ?_) (fun c2 => ?_) | refine ric rfl rfl (fun c2 => ?_) (fun c2 => ?_))
    · repeat (first | refine rs [] rfl rfl rfl rfl ?_ | refine rk rfl rfl ?_ | refine rgoh [] rfl rfl ?_ | refine rgeta (hi := rfl) (kk := ?_) | refine rialda (hi := rfl) (kk := ?_))
      (first | refine rift rfl rfl ?_ | refine riff rfl rfl ?_ | refine rict rfl rfl ?_ | refine ricf rfl rfl ?_)
      repeat (first | refine rs [] rfl rfl rfl rfl ?_ | refine rk rfl rfl ?_ | refine rgoh [] rfl rfl ?_ | refine rgeta (hi := rfl) (kk := ?_) | refine rialda (hi := rfl) (kk := ?_))
      (first | refine rift rfl rfl ?_ | refine riff rfl rfl ?_ | refine rict rfl rfl ?_ | refine ricf rfl rfl ?_)
      repeat (first | refine rs [] rfl rfl rfl rfl ?_ | refine rk rfl rfl ?_ | refine rgoh [] rfl rfl ?_ | refine rgeta (hi := rfl) (kk := ?_) | refine rialda (hi := rfl) (kk := ?_))
      (first | refine rift rfl rfl ?_ | refine riff rfl rfl ?_ | refine rict rfl rfl ?_ | refine ricf rfl rfl ?_)
      repeat (first | refine rs [] rfl rfl rfl rfl ?_ | refine rk rfl rfl ?_ | refine rgoh [] rfl rfl ?_ | refine rgeta (hi := rfl) (kk := ?_) | refine rialda (hi := rfl) (kk := ?_))
      (first | refine rif rfl rfl (fun c3 => ?_) (fun c3 => ?_) | refine ric rfl rfl (fun c3 => ?_) (fun c3 => ?_))
      · exact absurd c3 c1
      · repeat (first | refine rs [] rfl rfl rfl rfl ?_ | refine rk rfl rfl ?_ | refine rgoh [] rfl rfl ?_ | refine rgeta (hi := rfl) (kk := ?_) | refine rialda (hi := rfl) (kk := ?_))
        (first | refine rif rfl rfl (fun c4 => ?_) (fun c4 => ?_) | refine ric rfl rfl (fun c4 => ?_) (fun c4 => ?_))
        · repeat (first | refine rs [] rfl rfl rfl rfl ?_ | refine rk rfl rfl ?_ | refine rgoh [] rfl rfl ?_ | refine rgeta (hi := rfl) (kk := ?_) | refine rialda (hi := rfl) (kk := ?_))
          (first | refine rcvs rfl rfl rfl rfl rfl (by first | assumption | (simp (disch := omega) only [am_set_ne, am_set_eq]; first | assumption | rfl)) rfl (c_isTold p1') ?_ | refine rcvn rfl rfl rfl rfl rfl (by first | assumption | (simp (disch := omega) only [am_set_ne, am_set_eq]; first | assumption | rfl)) rfl (c_isTold p1') ?_)
          rw [if_neg (by decide)]
          (first | refine rift rfl rfl ?_ | refine riff rfl rfl ?_ | refine rict rfl rfl ?_ | refine ricf rfl rfl ?_)
          exact fin
        · exact absurd c2 c4
    · repeat (first | refine rs [] rfl rfl rfl rfl ?_ | refine rk rfl rfl ?_ | refine rgoh [] rfl rfl ?_ | refine rgeta (hi := rfl) (kk := ?_) | refine rialda (hi := rfl) (kk := ?_))
      (first | refine rift rfl rfl ?_ | refine riff rfl rfl ?_ | refine rict rfl rfl ?_ | refine ricf rfl rfl ?_)
      repeat (first | refine rs [] rfl rfl rfl rfl ?_ | refine rk rfl rfl ?_ | refine rgoh [] rfl rfl ?_ | refine rgeta (hi := rfl) (kk := ?_) | refine rialda (hi := rfl) (kk := ?_))
      (first | refine rift rfl rfl ?_ | refine riff rfl rfl ?_ | refine rict rfl rfl ?_ | refine ricf rfl rfl ?_)
      repeat (first | refine rs [] rfl rfl rfl rfl ?_ | refine rk rfl rfl ?_ | refine rgoh [] rfl rfl ?_ | refine rgeta (hi := rfl) (kk := ?_) | refine rialda (hi := rfl) (kk := ?_))
      (first | refine rif rfl rfl (fun c3 => ?_) (fun c3 => ?_) | refine ric rfl rfl (fun c3 => ?_) (fun c3 => ?_))
      · exact absurd c3 c1
      · repeat (first | refine rs [] rfl rfl rfl rfl ?_ | refine rk rfl rfl ?_ | refine rgoh [] rfl rfl ?_ | refine rgeta (hi := rfl) (kk := ?_) | refine rialda (hi := rfl) (kk := ?_))
        (first | refine rif rfl rfl (fun c4 => ?_) (fun c4 => ?_) | refine ric rfl rfl (fun c4 => ?_) (fun c4 => ?_))
        · exact absurd c4 c2
        · exact fin
set_option maxHeartbeats 1000000 in
theorem c_rcT {i : Nat} {c : am_C} {N G F : Int32} {ps : List Pn} (hN : 0 < N) (hps : ps.length ≤ 8) (hT : cTx len tx h) (hr : atO len pl (.inr i) c) (hp : pRd N G F ps h) (hi : i < len) : am_T M_Reader_readClause [.ref 4, .ref 2] (am_set h 4 c) (fun r h' => r = none ∧ ∃ c' h1, h' = am_set h1 4 c' ∧ am_fr 4 11 h h1 ∧ if tx i = 115 ∨ (tx i = 112 ∧ ps.length = 8) then atO len pl (.inl (3, i)) c' ∧ h1 = h else if tx i = 112 then (match psS len tx N ps.length (i + 1) with | .inl e => atO len pl (.inl e) c' ∧ h1 = h | .inr q => atO len pl (.inr q.1) c' ∧ pRd N G F (ps ++ [q.2]) h1) else atO len pl (.inl (1, i)) c' ∧ h1 = h) := by
  obtain ⟨wa, me, wh, mi, fe, fl, p1, p2, p3, p4, p5, p6, p7⟩ := id hp
  obtain ⟨hil, nu, rfl⟩ := atO_inr hr
  have hl2 : len ≤ 200 := hT.1
  have hT1 := hT.set (a := 4) (c := rdc 0 pl (nI i) nu) (by omega)
  obtain ⟨t1, t2, t3⟩ := id hT1
  have p1' : (am_set h 4 (rdc 0 pl (nI i) nu)).1 5 = .inr (4, [.int N, .int G, .int (nI ps.length), .ref 6, .ref 7]) := p1
  (try unfold am_E); unfold am_T
  repeat (first | refine rs [] rfl rfl rfl rfl ?_ | refine rk rfl rfl ?_ | refine rgoh [] rfl rfl ?_ | refine rgeta (hi := rfl) (kk := ?_) | refine rialda (hi := rfl) (kk := ?_))
  (first | refine rcvs rfl rfl rfl rfl rfl (by first | assumption | (simp (disch := omega) only [am_set_ne, am_set_eq]; first | assumption | rfl)) rfl (c_letterAt hT1 rfl (by omega)) ?_ | refine rcvn rfl rfl rfl rfl rfl (by first | assumption | (simp (disch := omega) only [am_set_ne, am_set_eq]; first | assumption | rfl)) rfl (c_letterAt hT1 rfl (by omega)) ?_)
  rw [ltr_at hi]
  have f3 : ∀ z3 z4, (tx i = 115 ∨ (tx i = 112 ∧ ps.length = 8)) → am_R M_Reader_readClause (32, [.ref 4, .ref 2, .int (tx i), .int z3, .int z4], []) (am_set h 4 (rdc 0 pl (nI i) nu)) (fun r h' => r = none ∧ ∃ c' h1, h' = am_set h1 4 c' ∧ am_fr 4 11 h h1 ∧ if tx i = 115 ∨ (tx i = 112 ∧ ps.length = 8) then atO len pl (.inl (3, i)) c' ∧ h1 = h else if tx i = 112 then (match psS len tx N ps.length (i + 1) with | .inl e => atO len pl (.inl e) c' ∧ h1 = h | .inr q => atO len pl (.inr q.1) c' ∧ pRd N G F (ps ++ [q.2]) h1) else atO len pl (.inl (1, i)) c' ∧ h1 = h) := by
    intro z3 z4 hq
    repeat (first | refine rs [] rfl rfl rfl rfl ?_ | refine rk rfl rfl ?_ | refine rgoh [] rfl rfl ?_ | refine rgeta (hi := rfl) (kk := ?_) | refine rialda (hi := rfl) (kk := ?_))
    refine rcvt rfl rfl rfl rfl rfl am_set_eq rfl (c_rdB i3 rfl (by omega) hr) ?_
    rintro r h' ⟨c', rfl, rfl, q⟩
    show am_R M_Reader_readClause (37, _, []) _ _
    repeat (first | refine rs [] rfl rfl rfl rfl ?_ | refine rk rfl rfl ?_ | refine rgoh [] rfl rfl ?_ | refine rgeta (hi := rfl) (kk := ?_) | refine rialda (hi := rfl) (kk := ?_))
    refine rret rfl rfl ?_
    refine ⟨rfl, c', h, rfl, fr_rf, ?_⟩
    rw [if_pos hq]
    exact ⟨q, rfl⟩
  repeat (first | refine rs [] rfl rfl rfl rfl ?_ | refine rk rfl rfl ?_ | refine rgoh [] rfl rfl ?_ | refine rgeta (hi := rfl) (kk := ?_) | refine rialda (hi := rfl) (kk := ?_))
  (first | refine rif rfl rfl (fun c1 => ?_) (fun c1 => ?_) | refine ric rfl rfl (fun c1 => ?_) (fun c1 => ?_))
  · repeat (first | refine rs [] rfl rfl rfl rfl ?_ | refine rk rfl rfl ?_ | refine rgoh [] rfl rfl ?_ | refine rgeta (hi := rfl) (kk := ?_) | refine rialda (hi := rfl) (kk := ?_))
    (first | refine rcvs rfl rfl rfl rfl rfl (by first | assumption | (simp (disch := omega) only [am_set_ne, am_set_eq]; first | assumption | rfl)) rfl (c_isTold p1') ?_ | refine rcvn rfl rfl rfl rfl rfl (by first | assumption | (simp (disch := omega) only [am_set_ne, am_set_eq]; first | assumption | rfl)) rfl (c_isTold p1') ?_)
    rw [if_pos hN]
    (first | refine rift rfl rfl ?_ | refine riff rfl rfl ?_ | refine rict rfl rfl ?_ | refine ricf rfl rfl ?_)
    repeat (first | refine rs [] rfl rfl rfl rfl ?_ | refine rk rfl rfl ?_ | refine rgoh [] rfl rfl ?_ | refine rgeta (hi := rfl) (kk := ?_) | refine rialda (hi := rfl) (kk := ?_))
    (first | refine rif rfl rfl (fun c2 => ?_) (fun c2 => ?_) | refine ric rfl rfl (fun c2 => ?_) (fun c2 => ?_))
    · exact absurd (c1.symm.trans c2) (by decide)
    · repeat (first | refine rs [] rfl rfl rfl rfl ?_ | refine rk rfl rfl ?_ | refine rgoh [] rfl rfl ?_ | refine rgeta (hi := rfl) (kk := ?_) | refine rialda (hi := rfl) (kk := ?_))
      (first | refine rift rfl rfl ?_ | refine riff rfl rfl ?_ | refine rict rfl rfl ?_ | refine ricf rfl rfl ?_)
      exact f3 _ _ (Or.inl c1)
  · repeat (first | refine rs [] rfl rfl rfl rfl ?_ | refine rk rfl rfl ?_ | refine rgoh [] rfl rfl ?_ | refine rgeta (hi := rfl) (kk := ?_) | refine rialda (hi := rfl) (kk := ?_))
    (first | refine rif rfl rfl (fun c2 => ?_) (fun c2 => ?_) | refine ric rfl rfl (fun c2 => ?_) (fun c2 => ?_))
    · repeat (first | refine rs [] rfl rfl rfl rfl ?_ | refine rk rfl rfl ?_ | refine rgoh [] rfl rfl ?_ | refine rgeta (hi := rfl) (kk := ?_) | refine rialda (hi := rfl) (kk := ?_))
      (first | refine rif rfl rfl (fun c3 => ?_) (fun c3 => ?_) | refine ric rfl rfl (fun c3 => ?_) (fun c3 => ?_))
      · have h8 : ps.length < 8 := by
          rw [i8, nI_ltI (by omega) (by omega)] at c3
          exact c3
        repeat (first | refine rs [] rfl rfl rfl rfl ?_ | refine rk rfl rfl ?_ | refine rgoh [] rfl rfl ?_ | refine rgeta (hi := rfl) (kk := ?_) | refine rialda (hi := rfl) (kk := ?_))
        (first | refine rift rfl rfl ?_ | refine riff rfl rfl ?_ | refine rict rfl rfl ?_ | refine ricf rfl rfl ?_)
        repeat (first | refine rs [] rfl rfl rfl rfl ?_ | refine rk rfl rfl ?_ | refine rgoh [] rfl rfl ?_ | refine rgeta (hi := rfl) (kk := ?_) | refine rialda (hi := rfl) (kk := ?_))
        (first | refine rift rfl rfl ?_ | refine riff rfl rfl ?_ | refine rict rfl rfl ?_ | refine ricf rfl rfl ?_)
        repeat (first | refine rs [] rfl rfl rfl rfl ?_ | refine rk rfl rfl ?_ | refine rgoh [] rfl rfl ?_ | refine rgeta (hi := rfl) (kk := ?_) | refine rialda (hi := rfl) (kk := ?_))
        (first | refine rif rfl rfl (fun c4 => ?_) (fun c4 => ?_) | refine ric rfl rfl (fun c4 => ?_) (fun c4 => ?_))
        · exact absurd c4 c1
        · repeat (first | refine rs [] rfl rfl rfl rfl ?_ | refine rk rfl rfl ?_ | refine rgoh [] rfl rfl ?_ | refine rgeta (hi := rfl) (kk := ?_) | refine rialda (hi := rfl) (kk := ?_))
          (first | refine rif rfl rfl (fun c5 => ?_) (fun c5 => ?_) | refine ric rfl rfl (fun c5 => ?_) (fun c5 => ?_))
          · repeat (first | refine rs [] rfl rfl rfl rfl ?_ | refine rk rfl rfl ?_ | refine rgoh [] rfl rfl ?_ | refine rgeta (hi := rfl) (kk := ?_) | refine rialda (hi := rfl) (kk := ?_))
            (first | refine rcvs rfl rfl rfl rfl rfl (by first | assumption | (simp (disch := omega) only [am_set_ne, am_set_eq]; first | assumption | rfl)) rfl (c_isTold p1') ?_ | refine rcvn rfl rfl rfl rfl rfl (by first | assumption | (simp (disch := omega) only [am_set_ne, am_set_eq]; first | assumption | rfl)) rfl (c_isTold p1') ?_)
            rw [if_pos hN]
            (first | refine rift rfl rfl ?_ | refine riff rfl rfl ?_ | refine rict rfl rfl ?_ | refine ricf rfl rfl ?_)
            repeat (first | refine rs [] rfl rfl rfl rfl ?_ | refine rk rfl rfl ?_ | refine rgoh [] rfl rfl ?_ | refine rgeta (hi := rfl) (kk := ?_) | refine rialda (hi := rfl) (kk := ?_))
            have a2 : atO len pl (.inr (i + 1)) (rdc 0 pl (nI i + 1) nu) := ⟨nu, by omega, by rw [nI_succ]⟩
            rw [am_set_set]
            refine rcvt rfl rfl rfl rfl rfl am_set_eq rfl (c_readPerson hT a2 hp h8) ?_
            rintro r h' ⟨rfl, c', h1, rfl, f1, q⟩
            show am_R M_Reader_readClause (67, _, []) _ _
            repeat (first | refine rs [] rfl rfl rfl rfl ?_ | refine rk rfl rfl ?_ | refine rgoh [] rfl rfl ?_ | refine rgeta (hi := rfl) (kk := ?_) | refine rialda (hi := rfl) (kk := ?_))
            refine rret rfl rfl ?_
            refine ⟨rfl, c', h1, rfl, f1, ?_⟩
            rw [if_neg (by rintro (z | z); exact c1 z; omega), if_pos c2]
            exact q
          · exact absurd c2 c5
      · have h8 : ps.length = 8 := by
          rw [i8, nI_ltI (by omega) (by omega)] at c3
          omega
        repeat (first | refine rs [] rfl rfl rfl rfl ?_ | refine rk rfl rfl ?_ | refine rgoh [] rfl rfl ?_ | refine rgeta (hi := rfl) (kk := ?_) | refine rialda (hi := rfl) (kk := ?_))
        (first | refine rift rfl rfl ?_ | refine riff rfl rfl ?_ | refine rict rfl rfl ?_ | refine ricf rfl rfl ?_)
        repeat (first | refine rs [] rfl rfl rfl rfl ?_ | refine rk rfl rfl ?_ | refine rgoh [] rfl rfl ?_ | refine rgeta (hi := rfl) (kk := ?_) | refine rialda (hi := rfl) (kk := ?_))
        (first | refine rift rfl rfl ?_ | refine riff rfl rfl ?_ | refine rict rfl rfl ?_ | refine ricf rfl rfl ?_)
        exact f3 _ _ (Or.inr ⟨c2, h8⟩)
    · repeat (first | refine rs [] rfl rfl rfl rfl ?_ | refine rk rfl rfl ?_ | refine rgoh [] rfl rfl ?_ | refine rgeta (hi := rfl) (kk := ?_) | refine rialda (hi := rfl) (kk := ?_))
      (first | refine rift rfl rfl ?_ | refine riff rfl rfl ?_ | refine rict rfl rfl ?_ | refine ricf rfl rfl ?_)
      repeat (first | refine rs [] rfl rfl rfl rfl ?_ | refine rk rfl rfl ?_ | refine rgoh [] rfl rfl ?_ | refine rgeta (hi := rfl) (kk := ?_) | refine rialda (hi := rfl) (kk := ?_))
      (first | refine rift rfl rfl ?_ | refine riff rfl rfl ?_ | refine rict rfl rfl ?_ | refine ricf rfl rfl ?_)
      repeat (first | refine rs [] rfl rfl rfl rfl ?_ | refine rk rfl rfl ?_ | refine rgoh [] rfl rfl ?_ | refine rgeta (hi := rfl) (kk := ?_) | refine rialda (hi := rfl) (kk := ?_))
      (first | refine rif rfl rfl (fun c3 => ?_) (fun c3 => ?_) | refine ric rfl rfl (fun c3 => ?_) (fun c3 => ?_))
      · exact absurd c3 c1
      · repeat (first | refine rs [] rfl rfl rfl rfl ?_ | refine rk rfl rfl ?_ | refine rgoh [] rfl rfl ?_ | refine rgeta (hi := rfl) (kk := ?_) | refine rialda (hi := rfl) (kk := ?_))
        (first | refine rif rfl rfl (fun c4 => ?_) (fun c4 => ?_) | refine ric rfl rfl (fun c4 => ?_) (fun c4 => ?_))
        · exact absurd c4 c2
        · repeat (first | refine rs [] rfl rfl rfl rfl ?_ | refine rk rfl rfl ?_ | refine rgoh [] rfl rfl ?_ | refine rgeta (hi := rfl) (kk := ?_) | refine rialda (hi := rfl) (kk := ?_))
          refine rcvt rfl rfl rfl rfl rfl am_set_eq rfl (c_rdB i1 rfl (by omega) hr) ?_
          rintro r h' ⟨c', rfl, rfl, q⟩
          show am_R M_Reader_readClause (73, _, []) _ _
          refine rret rfl rfl ?_
          refine ⟨rfl, c', h, rfl, fr_rf, ?_⟩
          rw [if_neg (by rintro (z | z); exact c1 z; exact c2 z.1), if_neg c2]
          exact ⟨q, rfl⟩
end CCl
