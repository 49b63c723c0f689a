/-! the class's Reader: numbers, ends -/
theorem nd0 {len : Nat} {tx : Nat → Int32} {j : Nat} : nd len tx j = 0 ↔ ¬ fig (ltr len tx j) := by
  unfold ltr
  by_cases hj : j < len
  · rw [if_pos hj]
    constructor
    · intro h q
      rw [nd_fig hj q] at h
      omega
    · intro h
      exact nd_no hj h
  · rw [if_neg hj]
    constructor
    · intro _
      decide
    · intro _
      exact nd_end (by omega)
theorem i3 : (3 : Int32) = nI 3 := by decide
theorem i2 : (2 : Int32) = nI 2 := by decide
abbrev badN (len : Nat) (tx : Nat → Int32) (j : Nat) (lo hi : Int32) : Prop := 3 < nd len tx j ∨ val3 tx j (nd len tx j) < lo ∨ hi < val3 tx j (nd len tx j)
section CNum
variable {h : am_H} {len : Nat} {tx : Nat → Int32} {kd pl nu : Int32}
theorem c_blameR {i k w : Int32} (hr : h.1 4 = rdc kd pl i nu) : am_E M_Reader_blame [.ref 4, .int k, .int w] h none (am_set h 4 (if kd = 0 then rdc k w i nu else rdc kd pl i nu)) := by
  by_cases hk : kd = 0
  · subst hk
    rw [if_pos rfl]
    exact c_blame0 hr
  · rw [if_neg hk, am_set_self hr]
    exact c_blame1 hk hr
set_option maxHeartbeats 1000000 in
theorem c_rn {i : Nat} {lo up : Int32} (hT : cTx len tx h) (hi : i ≤ len) (hr : h.1 4 = rdc kd pl (nI i) nu) : am_T M_Reader_readNumber [.ref 4, .ref 2, .int lo, .int up] h (fun r h' =>
    (nd len tx (sk len tx i) = 0 ∧ r = some (.int 0) ∧ h' = am_set h 4 (if kd = 0 then rdc 1 (nI (sk len tx i)) (nI (sk len tx i)) nu else rdc kd pl (nI (sk len tx i)) nu)) ∨
    (¬ nd len tx (sk len tx i) = 0 ∧ r = some (.int (val3 tx (sk len tx i) (nd len tx (sk len tx i)))) ∧ h' = am_set h 4 (if badN len tx (sk len tx i) lo up ∧ kd = 0 then rdc 2 (nI (sk len tx i)) (nI (sk len tx i + nd len tx (sk len tx i))) (nI (sk len tx i)) else rdc kd pl (nI (sk len tx i + nd len tx (sk len tx i))) (nI (sk len tx i))))) := by
  have hsk := sk_le (tx := tx) hi
  (try unfold am_E); unfold am_T
  repeat (first | refine rs [] rfl rfl rfl rfl ?_ | refine rk rfl rfl ?_ | refine rgoh [] rfl rfl ?_ | refine rgeta (hi := rfl) (kk := ?_) | refine rialda (hi := rfl) (kk := ?_))
  (first | refine rcvs rfl rfl rfl rfl rfl (by first | assumption | (simp (disch := omega) only [am_set_ne, am_set_eq]; first | assumption | rfl)) rfl (c_skipBlanks hT hi rfl hr) ?_ | refine rcvn rfl rfl rfl rfl rfl (by first | assumption | (simp (disch := omega) only [am_set_ne, am_set_eq]; first | assumption | rfl)) rfl (c_skipBlanks hT hi rfl hr) ?_)
  generalize hj : sk len tx i = j at *
  have hT1 := hT.set (a := 4) (c := rdc kd pl (nI j) nu) (by omega)
  obtain ⟨t1, t2, t3⟩ := id hT1
  repeat (first | refine rs [] rfl rfl rfl rfl ?_ | refine rk rfl rfl ?_ | refine rgoh [] rfl rfl ?_ | refine rgeta (hi := rfl) (kk := ?_) | refine rialda (hi := rfl) (kk := ?_))
  (first | refine rcvs rfl rfl rfl rfl rfl (by first | assumption | (simp (disch := omega) only [am_set_ne, am_set_eq]; first | assumption | rfl)) rfl (c_letterAt hT1 rfl (by omega)) ?_ | refine rcvn rfl rfl rfl rfl rfl (by first | assumption | (simp (disch := omega) only [am_set_ne, am_set_eq]; first | assumption | rfl)) rfl (c_letterAt hT1 rfl (by omega)) ?_)
  refine rcss rfl rfl rfl rfl rfl (c_isFigure) ?_
  by_cases hf : fig (ltr len tx j)
  · rw [if_pos hf]
    have hnd : ¬ nd len tx j = 0 := fun q => nd0.mp q hf
    (first | refine rift rfl rfl ?_ | refine riff rfl rfl ?_ | refine rict rfl rfl ?_ | refine ricf rfl rfl ?_)
    repeat (first | refine rs [24] rfl rfl rfl rfl ?_ | refine rk rfl rfl ?_ | refine rgoh [24] rfl rfl ?_ | refine rgeta (hi := rfl) (kk := ?_) | refine rialda (hi := rfl) (kk := ?_))
    suffices hs : ∀ d q, d = len - (j + q) → j + q ≤ len → q + nd len tx (j + q) = nd len tx j → am_R M_Reader_readNumber (24, [.ref 4, .ref 2, .int lo, .int up, .int (val3 tx j q), .int (nI q)], []) (am_set h 4 (rdc kd pl (nI (j + q)) (nI j))) (fun r h' => r = some (.int (val3 tx j (nd len tx j))) ∧ h' = am_set h 4 (if badN len tx j lo up ∧ kd = 0 then rdc 2 (nI j) (nI (j + nd len tx j)) (nI j) else rdc kd pl (nI (j + nd len tx j)) (nI j))) by
      rw [am_set_set]
      exact am_R.imp (hs _ 0 rfl (by omega) (by rw [Nat.add_zero]; omega)) (fun r h' q => Or.inr ⟨hnd, q⟩)
    have fin : ∀ q, j + q ≤ len → nd len tx j = q → am_R M_Reader_readNumber (57, [.ref 4, .ref 2, .int lo, .int up, .int (val3 tx j q), .int (nI q)], []) (am_set h 4 (rdc kd pl (nI (j + q)) (nI j))) (fun r h' => r = some (.int (val3 tx j (nd len tx j))) ∧ h' = am_set h 4 (if badN len tx j lo up ∧ kd = 0 then rdc 2 (nI j) (nI (j + nd len tx j)) (nI j) else rdc kd pl (nI (j + nd len tx j)) (nI j))) := by
      intro q hq e
      subst e
      have bad : badN len tx j lo up → am_R M_Reader_readNumber (66, [.ref 4, .ref 2, .int lo, .int up, .int (val3 tx j (nd len tx j)), .int (nI (nd len tx j))], []) (am_set h 4 (rdc kd pl (nI (j + nd len tx j)) (nI j))) (fun r h' => r = some (.int (val3 tx j (nd len tx j))) ∧ h' = am_set h 4 (if badN len tx j lo up ∧ kd = 0 then rdc 2 (nI j) (nI (j + nd len tx j)) (nI j) else rdc kd pl (nI (j + nd len tx j)) (nI j))) := by
        intro hb
        repeat (first | refine rs [] rfl rfl rfl rfl ?_ | refine rk rfl rfl ?_ | refine rgoh [] rfl rfl ?_ | refine rgeta (hi := rfl) (kk := ?_) | refine rialda (hi := rfl) (kk := ?_))
        (first | refine rcvs rfl rfl rfl rfl rfl (by first | assumption | (simp (disch := omega) only [am_set_ne, am_set_eq]; first | assumption | rfl)) rfl (c_blameR am_set_eq) ?_ | refine rcvn rfl rfl rfl rfl rfl (by first | assumption | (simp (disch := omega) only [am_set_ne, am_set_eq]; first | assumption | rfl)) rfl (c_blameR am_set_eq) ?_)
        repeat (first | refine rs [] rfl rfl rfl rfl ?_ | refine rk rfl rfl ?_ | refine rgoh [] rfl rfl ?_ | refine rgeta (hi := rfl) (kk := ?_) | refine rialda (hi := rfl) (kk := ?_))
        refine rret rfl rfl ?_
        rw [am_set_set]
        refine ⟨rfl, ?_⟩
        by_cases hk : kd = 0
        · rw [if_pos hk, if_pos ⟨hb, hk⟩]
        · rw [if_neg hk, if_neg (fun z => hk z.2)]
      repeat (first | refine rs [] rfl rfl rfl rfl ?_ | refine rk rfl rfl ?_ | refine rgoh [] rfl rfl ?_ | refine rgeta (hi := rfl) (kk := ?_) | refine rialda (hi := rfl) (kk := ?_))
      (first | refine rif rfl rfl (fun c1 => ?_) (fun c1 => ?_) | refine ric rfl rfl (fun c1 => ?_) (fun c1 => ?_))
      · refine bad (Or.inl ?_)
        rw [i3, nI_ltI (by omega) (by omega)] at c1
        omega
      · repeat (first | refine rs [] rfl rfl rfl rfl ?_ | refine rk rfl rfl ?_ | refine rgoh [] rfl rfl ?_ | refine rgeta (hi := rfl) (kk := ?_) | refine rialda (hi := rfl) (kk := ?_))
        (first | refine rif rfl rfl (fun c2 => ?_) (fun c2 => ?_) | refine ric rfl rfl (fun c2 => ?_) (fun c2 => ?_))
        · refine bad (Or.inr (Or.inl ?_))
          exact c2
        · repeat (first | refine rs [] rfl rfl rfl rfl ?_ | refine rk rfl rfl ?_ | refine rgoh [] rfl rfl ?_ | refine rgeta (hi := rfl) (kk := ?_) | refine rialda (hi := rfl) (kk := ?_))
          (first | refine rif rfl rfl (fun c3 => ?_) (fun c3 => ?_) | refine ric rfl rfl (fun c3 => ?_) (fun c3 => ?_))
          · repeat (first | refine rs [] rfl rfl rfl rfl ?_ | refine rk rfl rfl ?_ | refine rgoh [] rfl rfl ?_ | refine rgeta (hi := rfl) (kk := ?_) | refine rialda (hi := rfl) (kk := ?_))
            refine rret rfl rfl ?_
            refine ⟨rfl, ?_⟩
            rw [if_neg]
            rintro ⟨z | z | z, -⟩
            · rw [i3, nI_ltI (by omega) (by omega)] at c1
              omega
            · exact c2 z
            · exact Int32.not_lt.mpr c3 z
          · refine bad (Or.inr (Or.inr ?_))
            exact Int32.not_le.mp c3
    intro d
    induction d with
    | zero =>
      intro q hd hq e
      have hT2 := hT.set (a := 4) (c := rdc kd pl (nI (j + q)) (nI j)) (by omega)
      obtain ⟨t1, t2, t3⟩ := id hT2
      rw [nd_end (by omega)] at e
      repeat (first | refine rs [] rfl rfl rfl rfl ?_ | refine rk rfl rfl ?_ | refine rgoh [] rfl rfl ?_ | refine rgeta (hi := rfl) (kk := ?_) | refine rialda (hi := rfl) (kk := ?_))
      (first | refine rif rfl rfl (fun c1 => ?_) (fun c1 => ?_) | refine ric rfl rfl (fun c1 => ?_) (fun c1 => ?_))
      · exact fin q hq (by omega)
      · exfalso
        rw [nI_leI (by omega) (by omega)] at c1
        omega
    | succ d ih =>
      intro q hd hq e
      have hT2 := hT.set (a := 4) (c := rdc kd pl (nI (j + q)) (nI j)) (by omega)
      obtain ⟨t1, t2, t3⟩ := id hT2
      have el : ltr len tx (j + q) = tx (j + q) := by
        unfold ltr
        rw [if_pos (by omega)]
      repeat (first | refine rs [] rfl rfl rfl rfl ?_ | refine rk rfl rfl ?_ | refine rgoh [] rfl rfl ?_ | refine rgeta (hi := rfl) (kk := ?_) | refine rialda (hi := rfl) (kk := ?_))
      (first | refine rif rfl rfl (fun c1 => ?_) (fun c1 => ?_) | refine ric rfl rfl (fun c1 => ?_) (fun c1 => ?_))
      · exfalso
        rw [nI_leI (by omega) (by omega)] at c1
        omega
      · repeat (first | refine rs [] rfl rfl rfl rfl ?_ | refine rk rfl rfl ?_ | refine rgoh [] rfl rfl ?_ | refine rgeta (hi := rfl) (kk := ?_) | refine rialda (hi := rfl) (kk := ?_))
        (first | refine rcvs rfl rfl rfl rfl rfl (by first | assumption | (simp (disch := omega) only [am_set_ne, am_set_eq]; first | assumption | rfl)) rfl (c_letterAt hT2 rfl (by omega)) ?_ | refine rcvn rfl rfl rfl rfl rfl (by first | assumption | (simp (disch := omega) only [am_set_ne, am_set_eq]; first | assumption | rfl)) rfl (c_letterAt hT2 rfl (by omega)) ?_)
        refine rcss rfl rfl rfl rfl rfl (c_isFigure) ?_
        rw [el]
        by_cases hf2 : fig (tx (j + q))
        · rw [if_pos hf2]
          rw [nd_fig (by omega) hf2] at e
          have ih := ih (q + 1) (by omega) (by omega) (by rw [show j + (q + 1) = j + q + 1 by omega]; omega)
          have ev : val3 tx j (q + 1) = if q < 3 then val3 tx j q * 10 + tx (j + q) - 48 else val3 tx j q := rfl
          rw [show j + (q + 1) = j + q + 1 by omega, nI_succ (j + q), nI_succ q, ev] at ih
          (first | refine rift rfl rfl ?_ | refine riff rfl rfl ?_ | refine rict rfl rfl ?_ | refine ricf rfl rfl ?_)
          repeat (first | refine rs [] rfl rfl rfl rfl ?_ | refine rk rfl rfl ?_ | refine rgoh [] rfl rfl ?_ | refine rgeta (hi := rfl) (kk := ?_) | refine rialda (hi := rfl) (kk := ?_))
          (first | refine rif rfl rfl (fun c2 => ?_) (fun c2 => ?_) | refine ric rfl rfl (fun c2 => ?_) (fun c2 => ?_))
          · have hq3 : ¬ q < 3 := by
              rw [nI_1, i3, nI_ltI (by omega) (by omega)] at c2
              omega
            rw [if_neg hq3] at ih
            repeat (first | refine rs [24] rfl rfl rfl rfl ?_ | refine rk rfl rfl ?_ | refine rgoh [24] rfl rfl ?_ | refine rgeta (hi := rfl) (kk := ?_) | refine rialda (hi := rfl) (kk := ?_))
            rw [am_set_set]
            exact ih
          · have hq3 : q < 3 := by
              rw [nI_1, i3, nI_ltI (by omega) (by omega)] at c2
              omega
            rw [if_pos hq3] at ih
            repeat (first | refine rs [24] rfl rfl rfl rfl ?_ | refine rk rfl rfl ?_ | refine rgoh [24] rfl rfl ?_ | refine rgeta (hi := rfl) (kk := ?_) | refine rialda (hi := rfl) (kk := ?_))
            (first | refine rcvs rfl rfl rfl rfl rfl (by first | assumption | (simp (disch := omega) only [am_set_ne, am_set_eq]; first | assumption | rfl)) rfl (c_letterAt hT2 rfl (by omega)) ?_ | refine rcvn rfl rfl rfl rfl rfl (by first | assumption | (simp (disch := omega) only [am_set_ne, am_set_eq]; first | assumption | rfl)) rfl (c_letterAt hT2 rfl (by omega)) ?_)
            rw [el]
            repeat (first | refine rs [24] rfl rfl rfl rfl ?_ | refine rk rfl rfl ?_ | refine rgoh [24] rfl rfl ?_ | refine rgeta (hi := rfl) (kk := ?_) | refine rialda (hi := rfl) (kk := ?_))
            rw [am_set_set]
            exact ih
        · rw [if_neg hf2]
          rw [nd_no (by omega) hf2] at e
          (first | refine rift rfl rfl ?_ | refine riff rfl rfl ?_ | refine rict rfl rfl ?_ | refine ricf rfl rfl ?_)
          exact fin q hq (by omega)
  · rw [if_neg hf]
    (first | refine rift rfl rfl ?_ | refine riff rfl rfl ?_ | refine rict rfl rfl ?_ | refine ricf rfl rfl ?_)
    repeat (first | refine rs [] rfl rfl rfl rfl ?_ | refine rk rfl rfl ?_ | refine rgoh [] rfl rfl ?_ | refine rgeta (hi := rfl) (kk := ?_) | refine rialda (hi := rfl) (kk := ?_))
    (first | refine rcvs rfl rfl rfl rfl rfl (by first | assumption | (simp (disch := omega) only [am_set_ne, am_set_eq]; first | assumption | rfl)) rfl (c_blameR am_set_eq) ?_ | refine rcvn rfl rfl rfl rfl rfl (by first | assumption | (simp (disch := omega) only [am_set_ne, am_set_eq]; first | assumption | rfl)) rfl (c_blameR am_set_eq) ?_)
    repeat (first | refine rs [] rfl rfl rfl rfl ?_ | refine rk rfl rfl ?_ | refine rgoh [] rfl rfl ?_ | refine rgeta (hi := rfl) (kk := ?_) | refine rialda (hi := rfl) (kk := ?_))
    refine rret rfl rfl ?_
    rw [am_set_set]
    exact Or.inl ⟨nd0.mpr hf, rfl, rfl⟩
theorem c_readNumber {o : (Nat × Nat) ⊕ Nat} {lo hi : Int32} (hT : cTx len tx h) (hr : rdS len pl o nu (h.1 4)) : am_T M_Reader_readNumber [.ref 4, .ref 2, .int lo, .int hi] h (fun r h' => ∃ v nu' c, r = some (.int v) ∧ h' = am_set h 4 c ∧ rdS len pl (bnN len tx o lo hi) nu' c ∧ ∀ i q, o = .inr i → numS len tx i lo hi = .inr q → v = q.2 ∧ nu' = nI (sk len tx i)) := by
  cases o with
  | inl e =>
    obtain ⟨k, j⟩ := e
    obtain ⟨q1, i, q2, q3⟩ := hr
    have hk : ¬ nI k = 0 := nI_ne0 q1.1 (by omega)
    have hsk := sk_le (tx := tx) q2
    have hnl := nd_le (tx := tx) hsk.2
    refine am_R.imp (c_rn hT q2 q3) ?_
    rintro r h' (⟨-, rfl, rfl⟩ | ⟨-, rfl, rfl⟩)
    · rw [if_neg hk]
      exact ⟨_, _, _, rfl, rfl, ⟨q1, _, hsk.2, rfl⟩, fun i q z => by cases z⟩
    · rw [if_neg (fun z => hk z.2)]
      exact ⟨_, _, _, rfl, rfl, ⟨q1, _, hnl, rfl⟩, fun i q z => by cases z⟩
  | inr i =>
    obtain ⟨q2, q3⟩ := hr
    have hsk := sk_le (tx := tx) q2
    have hnl := nd_le (tx := tx) hsk.2
    refine am_R.imp (c_rn hT q2 q3) ?_
    rintro r h' (⟨z1, rfl, rfl⟩ | ⟨z1, rfl, rfl⟩)
    · rw [if_pos rfl]
      have e : numS len tx i lo hi = .inl (1, sk len tx i) := by
        unfold numS
        rw [if_pos z1]
      have eb : bnN len tx (.inr i) lo hi = .inl (1, sk len tx i) := by
        show (match numS len tx i lo hi with | .inl e => Sum.inl e | .inr q => .inr q.1) = _
        rw [e]
      rw [eb]
      refine ⟨_, _, _, rfl, rfl, ⟨by omega, _, hsk.2, rfl⟩, fun i' q z1 z2 => ?_⟩
      cases z1
      rw [e] at z2
      cases z2
    · by_cases hb : badN len tx (sk len tx i) lo hi
      · rw [if_pos ⟨hb, rfl⟩]
        have e : numS len tx i lo hi = .inl (2, sk len tx i) := by
          unfold numS
          rw [if_neg z1, if_pos hb]
        have eb : bnN len tx (.inr i) lo hi = .inl (2, sk len tx i) := by
          show (match numS len tx i lo hi with | .inl e => Sum.inl e | .inr q => .inr q.1) = _
          rw [e]
        rw [eb]
        refine ⟨_, _, _, rfl, rfl, ⟨by omega, _, hnl, rfl⟩, fun i' q z1 z2 => ?_⟩
        cases z1
        rw [e] at z2
        cases z2
      · rw [if_neg (fun z => hb z.1)]
        have e : numS len tx i lo hi = .inr (sk len tx i + nd len tx (sk len tx i), val3 tx (sk len tx i) (nd len tx (sk len tx i))) := by
          unfold numS
          rw [if_neg z1, if_neg hb]
        have eb : bnN len tx (.inr i) lo hi = .inr (sk len tx i + nd len tx (sk len tx i)) := by
          show (match numS len tx i lo hi with | .inl e => Sum.inl e | .inr q => .inr q.1) = _
          rw [e]
        rw [eb]
        refine ⟨_, _, _, rfl, rfl, ⟨hnl, rfl⟩, fun i' q z1 z2 => ?_⟩
        cases z1
        rw [e] at z2
        cases z2
        exact ⟨rfl, rfl⟩
theorem c_re {i : Nat} (hT : cTx len tx h) (hi : i ≤ len) (hr : h.1 4 = rdc kd pl (nI i) nu) : am_E M_Reader_readEnd [.ref 4, .ref 2] h none (am_set h 4 (if ltr len tx (sk len tx i) = 59 then rdc kd pl (nI (sk len tx i + 1)) nu else if kd = 0 then rdc 1 (nI (sk len tx i)) (nI (sk len tx i)) nu else rdc kd pl (nI (sk len tx i)) nu)) := by
  have hsk := sk_le (tx := tx) hi
  (try unfold am_E); unfold am_T
  repeat (first | refine rs [] rfl rfl rfl rfl ?_ | refine rk rfl rfl ?_ | refine rgoh [] rfl rfl ?_ | refine rgeta (hi := rfl) (kk := ?_) | refine rialda (hi := rfl) (kk := ?_))
  (first | refine rcvs rfl rfl rfl rfl rfl (by first | assumption | (simp (disch := omega) only [am_set_ne, am_set_eq]; first | assumption | rfl)) rfl (c_skipBlanks hT hi rfl hr) ?_ | refine rcvn rfl rfl rfl rfl rfl (by first | assumption | (simp (disch := omega) only [am_set_ne, am_set_eq]; first | assumption | rfl)) rfl (c_skipBlanks hT hi rfl hr) ?_)
  have hT1 := hT.set (a := 4) (c := rdc kd pl (nI (sk len tx i)) nu) (by omega)
  obtain ⟨t1, t2, t3⟩ := id hT1
  repeat (first | refine rs [] rfl rfl rfl rfl ?_ | refine rk rfl rfl ?_ | refine rgoh [] rfl rfl ?_ | refine rgeta (hi := rfl) (kk := ?_) | refine rialda (hi := rfl) (kk := ?_))
  (first | refine rcvs rfl rfl rfl rfl rfl (by first | assumption | (simp (disch := omega) only [am_set_ne, am_set_eq]; first | assumption | rfl)) rfl (c_letterAt hT1 rfl (by omega)) ?_ | refine rcvn rfl rfl rfl rfl rfl (by first | assumption | (simp (disch := omega) only [am_set_ne, am_set_eq]; first | assumption | rfl)) rfl (c_letterAt hT1 rfl (by omega)) ?_)
  repeat (first | refine rs [] rfl rfl rfl rfl ?_ | refine rk rfl rfl ?_ | refine rgoh [] rfl rfl ?_ | refine rgeta (hi := rfl) (kk := ?_) | refine rialda (hi := rfl) (kk := ?_))
  (first | refine rif rfl rfl (fun c1 => ?_) (fun c1 => ?_) | refine ric rfl rfl (fun c1 => ?_) (fun c1 => ?_))
  · repeat (first | refine rs [] rfl rfl rfl rfl ?_ | refine rk rfl rfl ?_ | refine rgoh [] rfl rfl ?_ | refine rgeta (hi := rfl) (kk := ?_) | refine rialda (hi := rfl) (kk := ?_))
    refine rret rfl rfl ?_
    rw [am_set_set, if_pos c1, nI_succ]
    exact ⟨rfl, rfl⟩
  · repeat (first | refine rs [] rfl rfl rfl rfl ?_ | refine rk rfl rfl ?_ | refine rgoh [] rfl rfl ?_ | refine rgeta (hi := rfl) (kk := ?_) | refine rialda (hi := rfl) (kk := ?_))
    (first | refine rcvs rfl rfl rfl rfl rfl (by first | assumption | (simp (disch := omega) only [am_set_ne, am_set_eq]; first | assumption | rfl)) rfl (c_blameR am_set_eq) ?_ | refine rcvn rfl rfl rfl rfl rfl (by first | assumption | (simp (disch := omega) only [am_set_ne, am_set_eq]; first | assumption | rfl)) rfl (c_blameR am_set_eq) ?_)
    refine rret rfl rfl ?_
    rw [am_set_set, if_neg c1]
    exact ⟨rfl, rfl⟩
theorem ltr_lt {i : Nat} {c : Int32} (h : ltr len tx i = c) (hc : c ≠ -1) : i < len := by
  unfold ltr at h
  split at h
  · assumption
  · exact absurd h.symm hc
theorem c_readEnd {o : (Nat × Nat) ⊕ Nat} (hT : cTx len tx h) (hr : rdS len pl o nu (h.1 4)) : am_T M_Reader_readEnd [.ref 4, .ref 2] h (fun r h' => ∃ c, r = none ∧ h' = am_set h 4 c ∧ rdS len pl (bnS len tx o 59) nu c) := by
  cases o with
  | inl e =>
    obtain ⟨k, j⟩ := e
    obtain ⟨q1, i, q2, q3⟩ := hr
    have hk : ¬ nI k = 0 := nI_ne0 q1.1 (by omega)
    have hsk := sk_le (tx := tx) q2
    refine am_R.imp (c_re hT q2 q3) ?_
    rintro r h' ⟨rfl, rfl⟩
    rw [if_neg hk]
    refine ⟨_, rfl, rfl, q1, ?_⟩
    by_cases c1 : ltr len tx (sk len tx i) = 59
    · have := ltr_lt c1 (by decide)
      exact ⟨sk len tx i + 1, by omega, by rw [if_pos c1]⟩
    · exact ⟨sk len tx i, by omega, by rw [if_neg c1]⟩
  | inr i =>
    obtain ⟨q2, q3⟩ := hr
    have hsk := sk_le (tx := tx) q2
    refine am_R.imp (c_re hT q2 q3) ?_
    rintro r h' ⟨rfl, rfl⟩
    rw [if_pos rfl]
    refine ⟨_, rfl, rfl, ?_⟩
    show rdS len pl (sgS len tx i 59) nu _
    unfold sgS
    by_cases c1 : ltr len tx (sk len tx i) = 59
    · have := ltr_lt c1 (by decide)
      rw [if_pos c1, if_pos c1]
      exact ⟨by omega, rfl⟩
    · rw [if_neg c1, if_neg c1]
      exact ⟨by omega, _, hsk.2, rfl⟩
end CNum
