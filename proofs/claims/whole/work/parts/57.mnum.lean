/-! the model's reading: signs and numbers -/
theorem sk_sk {len : Nat} {tx : Nat → Int32} {i : Nat} (h : i ≤ len) : sk len tx (sk len tx i) = sk len tx i := by
  obtain ⟨d, hd⟩ : ∃ d, d = len - i := ⟨_, rfl⟩
  induction d generalizing i with
  | zero =>
    rw [sk_end (i := i) (by omega), sk_end (by omega)]
  | succ d ih =>
    by_cases hb : tx i = 32
    · rw [sk_bl (by omega) hb]
      exact ih (by omega) (by omega)
    · rw [sk_no (by omega) hb, sk_no (by omega) hb]
theorem numS_sk {len : Nat} {tx : Nat → Int32} {i : Nat} {lo up : Int32} (h : i ≤ len) : numS len tx (sk len tx i) lo up = numS len tx i lo up := by
  unfold numS
  rw [sk_sk h]
section MNum
variable {fa ra rf rn rm N G fog P tr sp dm um sm em : Int32} {sd : Int64} {len i : Nat} {tx : Nat → Int32}
theorem w_here {h : am_H} (hl : len ≤ 200) (hi : i ≤ len) (hm : h.1 130 = mO (nI len) fa (nI i) rf rn rm N G fog P tr sp dm sd um sm em) (ht : h.1 131 = .inl (.int, 200, .inl tx)) : am_E M_Mo_here [.ref 130] h (some (.int (ltr len tx i))) h := by
  (try unfold am_E); unfold am_T
  repeat (first | refine rs [] rfl rfl rfl rfl ?_ | refine rk rfl rfl ?_ | refine rgoh [] rfl rfl ?_ | refine rgeta (hi := rfl) (kk := ?_) | refine rialda (hi := rfl) (kk := ?_))
  (first | refine rif rfl rfl (fun c1 => ?_) (fun c1 => ?_) | refine ric rfl rfl (fun c1 => ?_) (fun c1 => ?_))
  · have c1 := (nI_lt_iff (by omega) (by omega)).mp c1
    repeat (first | refine rs [] rfl rfl rfl rfl ?_ | refine rk rfl rfl ?_ | refine rgoh [] rfl rfl ?_ | refine rgeta (hi := rfl) (kk := ?_) | refine rialda (hi := rfl) (kk := ?_))
    refine rret rfl rfl ?_
    unfold ltr
    rw [if_neg c1]
    exact ⟨rfl, rfl⟩
  · have c1 : i < len := by
      rw [nI_leI (by omega) (by omega)] at c1
      omega
    repeat (first | refine rs [] rfl rfl rfl rfl ?_ | refine rk rfl rfl ?_ | refine rgoh [] rfl rfl ?_ | refine rgeta (hi := rfl) (kk := ?_) | refine rialda (hi := rfl) (kk := ?_))
    refine rret rfl rfl ?_
    unfold ltr
    rw [if_pos c1]
    exact ⟨rfl, rfl⟩
theorem w_skipI (hl : len ≤ 200) : ∀ (d i : Nat) (h : am_H), d = len - i → i ≤ len → h.1 130 = mO (nI len) fa (nI i) rf rn rm N G fog P tr sp dm sd um sm em → h.1 131 = .inl (.int, 200, .inl tx) → am_E M_Mo_skip [.ref 130] h none (am_set h 130 (mO (nI len) fa (nI (sk len tx i)) rf rn rm N G fog P tr sp dm sd um sm em))
  | 0, i, h, hd, hi, hm, ht => by
    (try unfold am_E); unfold am_T
    repeat (first | refine rs [] rfl rfl rfl rfl ?_ | refine rk rfl rfl ?_ | refine rgoh [] rfl rfl ?_ | refine rgeta (hi := rfl) (kk := ?_) | refine rialda (hi := rfl) (kk := ?_))
    (first | refine rcvs rfl rfl rfl rfl rfl (by first | assumption | (simp (disch := omega) only [am_set_ne, am_set_eq]; first | assumption | rfl)) rfl (w_here hl hi hm ht) ?_ | refine rcvn rfl rfl rfl rfl rfl (by first | assumption | (simp (disch := omega) only [am_set_ne, am_set_eq]; first | assumption | rfl)) rfl (w_here hl hi hm ht) ?_)
    repeat (first | refine rs [] rfl rfl rfl rfl ?_ | refine rk rfl rfl ?_ | refine rgoh [] rfl rfl ?_ | refine rgeta (hi := rfl) (kk := ?_) | refine rialda (hi := rfl) (kk := ?_))
    have e : ltr len tx i = -1 := by
      unfold ltr
      rw [if_neg (by omega)]
    rw [e]
    (first | refine rift rfl rfl ?_ | refine riff rfl rfl ?_ | refine rict rfl rfl ?_ | refine ricf rfl rfl ?_)
    refine rret rfl rfl ?_
    refine ⟨rfl, ?_⟩
    rw [sk_end (by omega), am_set_self hm]
  | d + 1, i, h, hd, hi, hm, ht => by
    (try unfold am_E); unfold am_T
    repeat (first | refine rs [] rfl rfl rfl rfl ?_ | refine rk rfl rfl ?_ | refine rgoh [] rfl rfl ?_ | refine rgeta (hi := rfl) (kk := ?_) | refine rialda (hi := rfl) (kk := ?_))
    (first | refine rcvs rfl rfl rfl rfl rfl (by first | assumption | (simp (disch := omega) only [am_set_ne, am_set_eq]; first | assumption | rfl)) rfl (w_here hl hi hm ht) ?_ | refine rcvn rfl rfl rfl rfl rfl (by first | assumption | (simp (disch := omega) only [am_set_ne, am_set_eq]; first | assumption | rfl)) rfl (w_here hl hi hm ht) ?_)
    repeat (first | refine rs [] rfl rfl rfl rfl ?_ | refine rk rfl rfl ?_ | refine rgoh [] rfl rfl ?_ | refine rgeta (hi := rfl) (kk := ?_) | refine rialda (hi := rfl) (kk := ?_))
    have e : ltr len tx i = tx i := by
      unfold ltr
      rw [if_pos (by omega)]
    rw [e]
    (first | refine rif rfl rfl (fun c1 => ?_) (fun c1 => ?_) | refine ric rfl rfl (fun c1 => ?_) (fun c1 => ?_))
    · repeat (first | refine rs [] rfl rfl rfl rfl ?_ | refine rk rfl rfl ?_ | refine rgoh [] rfl rfl ?_ | refine rgeta (hi := rfl) (kk := ?_) | refine rialda (hi := rfl) (kk := ?_))
      refine rputa (hi := rfl) (kk := ?_)
      repeat (first | refine rs [0] rfl rfl rfl rfl ?_ | refine rk rfl rfl ?_ | refine rgoh [0] rfl rfl ?_ | refine rgeta (hi := rfl) (kk := ?_) | refine rialda (hi := rfl) (kk := ?_))
      have ih := w_skipI hl d (i + 1) (am_set h 130 (mO (nI len) fa (nI (i + 1)) rf rn rm N G fog P tr sp dm sd um sm em)) (by omega) (by omega) am_set_eq (by rw [am_set_ne (by omega)]; exact ht)
      rw [am_set_set, nI_succ] at ih
      rw [sk_bl (by omega) c1]
      exact ih
    · refine rret rfl rfl ?_
      refine ⟨rfl, ?_⟩
      rw [sk_no (by omega) c1, am_set_self hm]
theorem w_skip {h : am_H} (hl : len ≤ 200) (hi : i ≤ len) (hm : h.1 130 = mO (nI len) fa (nI i) rf rn rm N G fog P tr sp dm sd um sm em) (ht : h.1 131 = .inl (.int, 200, .inl tx)) : am_E M_Mo_skip [.ref 130] h none (am_set h 130 (mO (nI len) fa (nI (sk len tx i)) rf rn rm N G fog P tr sp dm sd um sm em)) := w_skipI hl _ i h rfl hi hm ht
theorem w_fails {h : am_H} {n fed : Int32} (hm : h.1 130 = mO fed fa ra rf rn rm N G fog P tr sp dm sd um sm em) : am_E M_Mo_fails [.ref 130, .int n] h (some (.int 0)) (am_set h 130 (mO fed fa ra n rn rm N G fog P tr sp dm sd um sm em)) := by
  (try unfold am_E); unfold am_T
  repeat (first | refine rs [] rfl rfl rfl rfl ?_ | refine rk rfl rfl ?_ | refine rgoh [] rfl rfl ?_ | refine rgeta (hi := rfl) (kk := ?_) | refine rialda (hi := rfl) (kk := ?_))
  refine rputa (hi := rfl) (kk := ?_)
  repeat (first | refine rs [] rfl rfl rfl rfl ?_ | refine rk rfl rfl ?_ | refine rgoh [] rfl rfl ?_ | refine rgeta (hi := rfl) (kk := ?_) | refine rialda (hi := rfl) (kk := ?_))
  refine rret rfl rfl ?_
  exact ⟨rfl, rfl⟩
theorem w_sign {h : am_H} {c : Int32} (hl : len ≤ 200) (hi : i ≤ len) (hm : h.1 130 = mO (nI len) fa (nI i) rf rn rm N G fog P tr sp dm sd um sm em) (ht : h.1 131 = .inl (.int, 200, .inl tx)) : am_T M_Mo_sign [.ref 130, .int c] h (fun r h' => match sgS len tx i c with | .inl e => r = some (.int 0) ∧ h' = am_set h 130 (mO (nI len) fa (nI e.2) (nI e.1) rn rm N G fog P tr sp dm sd um sm em) | .inr j => r = some (.int 1) ∧ h' = am_set h 130 (mO (nI len) fa (nI j) rf rn rm N G fog P tr sp dm sd um sm em)) := by
  have hs := sk_le (tx := tx) hi
  unfold sgS
  (try unfold am_E); unfold am_T
  repeat (first | refine rs [] rfl rfl rfl rfl ?_ | refine rk rfl rfl ?_ | refine rgoh [] rfl rfl ?_ | refine rgeta (hi := rfl) (kk := ?_) | refine rialda (hi := rfl) (kk := ?_))
  (first | refine rcvs rfl rfl rfl rfl rfl (by first | assumption | (simp (disch := omega) only [am_set_ne, am_set_eq]; first | assumption | rfl)) rfl (w_skip hl hi hm ht) ?_ | refine rcvn rfl rfl rfl rfl rfl (by first | assumption | (simp (disch := omega) only [am_set_ne, am_set_eq]; first | assumption | rfl)) rfl (w_skip hl hi hm ht) ?_)
  repeat (first | refine rs [] rfl rfl rfl rfl ?_ | refine rk rfl rfl ?_ | refine rgoh [] rfl rfl ?_ | refine rgeta (hi := rfl) (kk := ?_) | refine rialda (hi := rfl) (kk := ?_))
  (first | refine rcvs rfl rfl rfl rfl rfl (by first | assumption | (simp (disch := omega) only [am_set_ne, am_set_eq]; first | assumption | rfl)) rfl (w_here hl hs.2 am_set_eq (by rw [am_set_ne (by omega)]; exact ht)) ?_ | refine rcvn rfl rfl rfl rfl rfl (by first | assumption | (simp (disch := omega) only [am_set_ne, am_set_eq]; first | assumption | rfl)) rfl (w_here hl hs.2 am_set_eq (by rw [am_set_ne (by omega)]; exact ht)) ?_)
  repeat (first | refine rs [] rfl rfl rfl rfl ?_ | refine rk rfl rfl ?_ | refine rgoh [] rfl rfl ?_ | refine rgeta (hi := rfl) (kk := ?_) | refine rialda (hi := rfl) (kk := ?_))
  (first | refine rif rfl rfl (fun c1 => ?_) (fun c1 => ?_) | refine ric rfl rfl (fun c1 => ?_) (fun c1 => ?_))
  · rw [if_pos c1]
    dsimp only
    repeat (first | refine rs [] rfl rfl rfl rfl ?_ | refine rk rfl rfl ?_ | refine rgoh [] rfl rfl ?_ | refine rgeta (hi := rfl) (kk := ?_) | refine rialda (hi := rfl) (kk := ?_))
    refine rret rfl rfl ⟨rfl, ?_⟩
    rw [nI_succ]
    exact am_set_set
  · rw [if_neg c1]
    dsimp only
    repeat (first | refine rs [] rfl rfl rfl rfl ?_ | refine rk rfl rfl ?_ | refine rgoh [] rfl rfl ?_ | refine rgeta (hi := rfl) (kk := ?_) | refine rialda (hi := rfl) (kk := ?_))
    (first | refine rcvs rfl rfl rfl rfl rfl (by first | assumption | (simp (disch := omega) only [am_set_ne, am_set_eq]; first | assumption | rfl)) rfl (w_fails am_set_eq) ?_ | refine rcvn rfl rfl rfl rfl rfl (by first | assumption | (simp (disch := omega) only [am_set_ne, am_set_eq]; first | assumption | rfl)) rfl (w_fails am_set_eq) ?_)
    refine rret rfl rfl ⟨rfl, ?_⟩
    exact am_set_set
set_option maxHeartbeats 1000000 in
theorem w_number {h : am_H} {lo up : Int32} (hl : len ≤ 200) (hi : i ≤ len) (hm : h.1 130 = mO (nI len) fa (nI i) rf rn rm N G fog P tr sp dm sd um sm em) (ht : h.1 131 = .inl (.int, 200, .inl tx)) : am_T M_Mo_number [.ref 130, .int lo, .int up] h (fun r h' => match numS len tx i lo up with | .inl e => r = some (.int 0) ∧ h' = am_set h 130 (mO (nI len) fa (nI e.2) (nI e.1) rn rm N G fog P tr sp dm sd um sm em) | .inr q => r = some (.int 1) ∧ h' = am_set h 130 (mO (nI len) fa (nI q.1) rf q.2 rm N G fog P tr sp dm sd um sm em)) := by
  have hs := sk_le (tx := tx) hi
  unfold numS
  (try unfold am_E); unfold am_T
  repeat (first | refine rs [] rfl rfl rfl rfl ?_ | refine rk rfl rfl ?_ | refine rgoh [] rfl rfl ?_ | refine rgeta (hi := rfl) (kk := ?_) | refine rialda (hi := rfl) (kk := ?_))
  (first | refine rcvs rfl rfl rfl rfl rfl (by first | assumption | (simp (disch := omega) only [am_set_ne, am_set_eq]; first | assumption | rfl)) rfl (w_skip hl hi hm ht) ?_ | refine rcvn rfl rfl rfl rfl rfl (by first | assumption | (simp (disch := omega) only [am_set_ne, am_set_eq]; first | assumption | rfl)) rfl (w_skip hl hi hm ht) ?_)
  repeat (first | refine rs [6] rfl rfl rfl rfl ?_ | refine rk rfl rfl ?_ | refine rgoh [6] rfl rfl ?_ | refine rgeta (hi := rfl) (kk := ?_) | refine rialda (hi := rfl) (kk := ?_))
  generalize eΦ : (fun r h' => match (if nd len tx (sk len tx i) = 0 then Sum.inl (1, sk len tx i) else if 3 < nd len tx (sk len tx i) ∨ val3 tx (sk len tx i) (nd len tx (sk len tx i)) < lo ∨ up < val3 tx (sk len tx i) (nd len tx (sk len tx i)) then Sum.inl (2, sk len tx i) else Sum.inr (sk len tx i + nd len tx (sk len tx i), val3 tx (sk len tx i) (nd len tx (sk len tx i))) : (Nat × Nat) ⊕ (Nat × Int32)) with | .inl e => r = some (Value.int 0) ∧ h' = am_set h 130 (mO (nI len) fa (nI e.2) (nI e.1) rn rm N G fog P tr sp dm sd um sm em) | .inr q => r = some (Value.int 1) ∧ h' = am_set h 130 (mO (nI len) fa (nI q.1) rf q.2 rm N G fog P tr sp dm sd um sm em)) = Φ
  generalize sk len tx i = j at *
  have hm' : (am_set h 130 (mO (nI len) fa (nI j) rf rn rm N G fog P tr sp dm sd um sm em)).1 130 = mO (nI len) fa (nI j) rf rn rm N G fog P tr sp dm sd um sm em := am_set_eq
  have ht' : (am_set h 130 (mO (nI len) fa (nI j) rf rn rm N G fog P tr sp dm sd um sm em)).1 131 = .inl (.int, 200, .inl tx) := by rw [am_set_ne (by omega)]; exact ht
  have hnl := nd_le (tx := tx) hs.2
  have tl : am_R M_Mo_number (45, [.ref 130, .int lo, .int up, .int (nI (nd len tx j)), .int (val3 tx j (nd len tx j))], []) (am_set h 130 (mO (nI len) fa (nI j) rf rn rm N G fog P tr sp dm sd um sm em)) Φ := by
    generalize nd len tx j = k at *
    generalize val3 tx j k = v at *
    by_cases k0 : k = 0
    · subst k0
      repeat (first | refine rs [] rfl rfl rfl rfl ?_ | refine rk rfl rfl ?_ | refine rgoh [] rfl rfl ?_ | refine rgeta (hi := rfl) (kk := ?_) | refine rialda (hi := rfl) (kk := ?_))
      (first | refine rift rfl rfl ?_ | refine riff rfl rfl ?_ | refine rict rfl rfl ?_ | refine ricf rfl rfl ?_)
      repeat (first | refine rs [] rfl rfl rfl rfl ?_ | refine rk rfl rfl ?_ | refine rgoh [] rfl rfl ?_ | refine rgeta (hi := rfl) (kk := ?_) | refine rialda (hi := rfl) (kk := ?_))
      (first | refine rcvs rfl rfl rfl rfl rfl (by first | assumption | (simp (disch := omega) only [am_set_ne, am_set_eq]; first | assumption | rfl)) rfl (w_fails hm') ?_ | refine rcvn rfl rfl rfl rfl rfl (by first | assumption | (simp (disch := omega) only [am_set_ne, am_set_eq]; first | assumption | rfl)) rfl (w_fails hm') ?_)
      refine rret rfl rfl ?_
      rw [← eΦ, if_pos rfl]
      exact ⟨rfl, am_set_set⟩
    · rw [← eΦ, if_neg k0]
      repeat (first | refine rs [] rfl rfl rfl rfl ?_ | refine rk rfl rfl ?_ | refine rgoh [] rfl rfl ?_ | refine rgeta (hi := rfl) (kk := ?_) | refine rialda (hi := rfl) (kk := ?_))
      (first | refine rif rfl rfl (fun c1 => ?_) (fun c1 => ?_) | refine ric rfl rfl (fun c1 => ?_) (fun c1 => ?_))
      · exact absurd c1 (nI_ne0 (by omega) (by omega))
      · repeat (first | refine rs [] rfl rfl rfl rfl ?_ | refine rk rfl rfl ?_ | refine rgoh [] rfl rfl ?_ | refine rgeta (hi := rfl) (kk := ?_) | refine rialda (hi := rfl) (kk := ?_))
        by_cases k3 : 3 < k
        · rw [if_pos (Or.inl k3)]
          (first | refine rif rfl rfl (fun c2 => ?_) (fun c2 => ?_) | refine ric rfl rfl (fun c2 => ?_) (fun c2 => ?_))
          · repeat (first | refine rs [] rfl rfl rfl rfl ?_ | refine rk rfl rfl ?_ | refine rgoh [] rfl rfl ?_ | refine rgeta (hi := rfl) (kk := ?_) | refine rialda (hi := rfl) (kk := ?_))
            (first | refine rcvs rfl rfl rfl rfl rfl (by first | assumption | (simp (disch := omega) only [am_set_ne, am_set_eq]; first | assumption | rfl)) rfl (w_fails hm') ?_ | refine rcvn rfl rfl rfl rfl rfl (by first | assumption | (simp (disch := omega) only [am_set_ne, am_set_eq]; first | assumption | rfl)) rfl (w_fails hm') ?_)
            refine rret rfl rfl ?_
            exact ⟨rfl, am_set_set⟩
          · rw [i3, nI_ltI (by omega) (by omega)] at c2
            exact absurd k3 c2
        · (first | refine rif rfl rfl (fun c2 => ?_) (fun c2 => ?_) | refine ric rfl rfl (fun c2 => ?_) (fun c2 => ?_))
          · rw [i3, nI_ltI (by omega) (by omega)] at c2
            exact absurd c2 k3
          · repeat (first | refine rs [] rfl rfl rfl rfl ?_ | refine rk rfl rfl ?_ | refine rgoh [] rfl rfl ?_ | refine rgeta (hi := rfl) (kk := ?_) | refine rialda (hi := rfl) (kk := ?_))
            refine rcss rfl rfl rfl rfl rfl (w_in) ?_
            by_cases d : v < lo ∨ up < v
            · rw [if_pos d, if_pos (Or.inr d)]
              (first | refine rift rfl rfl ?_ | refine riff rfl rfl ?_ | refine rict rfl rfl ?_ | refine ricf rfl rfl ?_)
              repeat (first | refine rs [] rfl rfl rfl rfl ?_ | refine rk rfl rfl ?_ | refine rgoh [] rfl rfl ?_ | refine rgeta (hi := rfl) (kk := ?_) | refine rialda (hi := rfl) (kk := ?_))
              (first | refine rcvs rfl rfl rfl rfl rfl (by first | assumption | (simp (disch := omega) only [am_set_ne, am_set_eq]; first | assumption | rfl)) rfl (w_fails hm') ?_ | refine rcvn rfl rfl rfl rfl rfl (by first | assumption | (simp (disch := omega) only [am_set_ne, am_set_eq]; first | assumption | rfl)) rfl (w_fails hm') ?_)
              refine rret rfl rfl ?_
              exact ⟨rfl, am_set_set⟩
            · rw [if_neg d, if_neg (by rintro (a | a); exact k3 a; exact d a)]
              (first | refine rift rfl rfl ?_ | refine riff rfl rfl ?_ | refine rict rfl rfl ?_ | refine ricf rfl rfl ?_)
              repeat (first | refine rs [] rfl rfl rfl rfl ?_ | refine rk rfl rfl ?_ | refine rgoh [] rfl rfl ?_ | refine rgeta (hi := rfl) (kk := ?_) | refine rialda (hi := rfl) (kk := ?_))
              refine rret rfl rfl ⟨rfl, ?_⟩
              rw [← nI_add, am_set_set]
              exact am_set_set
  have loop : ∀ d k, d = len - (j + k) → j + k ≤ len → nd len tx j = k + nd len tx (j + k) → am_R M_Mo_number (6, [.ref 130, .int lo, .int up, .int (nI k), .int (val3 tx j k)], []) (am_set h 130 (mO (nI len) fa (nI j) rf rn rm N G fog P tr sp dm sd um sm em)) Φ := by
    intro d
    induction d with
    | zero =>
      intro k hd hk hn
      have e : nd len tx (j + k) = 0 := nd_end (by omega)
      have en : nd len tx j = k := by omega
      rw [en] at tl
      repeat (first | refine rs [] rfl rfl rfl rfl ?_ | refine rk rfl rfl ?_ | refine rgoh [] rfl rfl ?_ | refine rgeta (hi := rfl) (kk := ?_) | refine rialda (hi := rfl) (kk := ?_))
      rw [nI_add]
      (first | refine rif rfl rfl (fun c1 => ?_) (fun c1 => ?_) | refine ric rfl rfl (fun c1 => ?_) (fun c1 => ?_))
      · exact tl
      · rw [nI_leI (by omega) (by omega)] at c1
        omega
    | succ d ih =>
      intro k hd hk hn
      repeat (first | refine rs [] rfl rfl rfl rfl ?_ | refine rk rfl rfl ?_ | refine rgoh [] rfl rfl ?_ | refine rgeta (hi := rfl) (kk := ?_) | refine rialda (hi := rfl) (kk := ?_))
      rw [nI_add]
      (first | refine rif rfl rfl (fun c1 => ?_) (fun c1 => ?_) | refine ric rfl rfl (fun c1 => ?_) (fun c1 => ?_))
      · rw [nI_leI (by omega) (by omega)] at c1
        omega
      · repeat (first | refine rs [] rfl rfl rfl rfl ?_ | refine rk rfl rfl ?_ | refine rgoh [] rfl rfl ?_ | refine rgeta (hi := rfl) (kk := ?_) | refine rialda (hi := rfl) (kk := ?_))
        refine rialda (hi := rfl) (hc := ht') (hik := nI_add j k) (kk := ?_)
        repeat (first | refine rs [] rfl rfl rfl rfl ?_ | refine rk rfl rfl ?_ | refine rgoh [] rfl rfl ?_ | refine rgeta (hi := rfl) (kk := ?_) | refine rialda (hi := rfl) (kk := ?_))
        refine rcss rfl rfl rfl rfl rfl (w_in) ?_
        by_cases f : fig (tx (j + k))
        · rw [if_neg (by rintro (a | a); exact f.1 a; exact f.2 a)]
          rw [nd_fig (by omega) f] at hn
          have ih := ih (k + 1) (by omega) (by omega) (by rw [← Nat.add_assoc]; omega)
          have ev : val3 tx j (k + 1) = if k < 3 then val3 tx j k * 10 + tx (j + k) - 48 else val3 tx j k := rfl
          rw [ev, nI_succ] at ih
          (first | refine rift rfl rfl ?_ | refine riff rfl rfl ?_ | refine rict rfl rfl ?_ | refine ricf rfl rfl ?_)
          repeat (first | refine rs [] rfl rfl rfl rfl ?_ | refine rk rfl rfl ?_ | refine rgoh [] rfl rfl ?_ | refine rgeta (hi := rfl) (kk := ?_) | refine rialda (hi := rfl) (kk := ?_))
          (first | refine rif rfl rfl (fun c2 => ?_) (fun c2 => ?_) | refine ric rfl rfl (fun c2 => ?_) (fun c2 => ?_))
          · rw [i3, nI_leI (by omega) (by omega)] at c2
            rw [if_neg (by omega)] at ih
            repeat (first | refine rs [6] rfl rfl rfl rfl ?_ | refine rk rfl rfl ?_ | refine rgoh [6] rfl rfl ?_ | refine rgeta (hi := rfl) (kk := ?_) | refine rialda (hi := rfl) (kk := ?_))
            exact ih
          · rw [i3, nI_leI (by omega) (by omega)] at c2
            rw [if_pos (by omega), Int32.mul_comm] at ih
            repeat (first | refine rs [] rfl rfl rfl rfl ?_ | refine rk rfl rfl ?_ | refine rgoh [] rfl rfl ?_ | refine rgeta (hi := rfl) (kk := ?_) | refine rialda (hi := rfl) (kk := ?_))
            refine rialda (hi := rfl) (hc := ht') (hik := nI_add j k) (kk := ?_)
            repeat (first | refine rs [6] rfl rfl rfl rfl ?_ | refine rk rfl rfl ?_ | refine rgoh [6] rfl rfl ?_ | refine rgeta (hi := rfl) (kk := ?_) | refine rialda (hi := rfl) (kk := ?_))
            exact ih
        · rw [if_pos (Classical.byContradiction (fun a => f ⟨fun b => a (Or.inl b), fun b => a (Or.inr b)⟩))]
          rw [nd_no (by omega) f] at hn
          have en : nd len tx j = k := by omega
          rw [en] at tl
          (first | refine rift rfl rfl ?_ | refine riff rfl rfl ?_ | refine rict rfl rfl ?_ | refine ricf rfl rfl ?_)
          exact tl
  exact loop _ 0 rfl (by omega) (by rw [Nat.zero_add]; rfl)
end MNum
