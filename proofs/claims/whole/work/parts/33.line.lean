/-! the class's call line -/
section TlLen
variable {len : Nat} {tx : Nat → Int32} {N : Int32}
theorem tlS_len : ∀ (f i : Nat) (ps : List Pn) {ps' : List Pn}, ps.length ≤ 8 → tlS len tx N f i ps = .inr ps' → ps'.length ≤ 8
  | 0, i, ps, ps', hp, e => by
    cases e
    exact hp
  | f + 1, i, ps, ps', hp, e => by
    unfold tlS at e
    split at e
    · split at e
      · cases e
      · rename_i c
        split at e
        · rename_i d
          split at e
          · cases e
          · refine tlS_len f _ _ ?_ e
            rw [List.length_append]
            rcases Nat.lt_or_ge ps.length 8 with g | g
            · simp only [List.length_cons, List.length_nil]; omega
            · exact absurd (Or.inr ⟨d, by omega⟩) c
        · cases e
    · cases e
      exact hp
theorem prS_wf {q : Int32 × Int32 × Int32 × List Pn} (e : prS len tx = .inr q) : (∃ n, q.1 = nI n ∧ n ≤ 8 ∧ (n = 0 → q.2.2.2 = []) ∧ (n = 0 ∨ 2 ≤ n)) ∧ q.2.2.2.length ≤ 8 := by
  unfold prS at e
  split at e
  · rename_i c
    split at e
    · split at e
      · cases e
      · rename_i q1 e1
        obtain ⟨b1, b2, b3, b4⟩ := stS_pos (by omega) e1
        split at e
        · cases e
        · rename_i ps e2
          cases e
          refine ⟨?_, tlS_len _ _ _ (by simp) e2⟩
          have h0 : ¬ q1.2.1 < 0 := fun a => b3 (Int32.lt_of_lt_of_le a (by decide))
          obtain ⟨m, hm, em⟩ := nI_of h0
          rw [em, show (2 : Int32) = nI 2 by decide, nI_ltI hm (by omega)] at b3
          rw [em, show (8 : Int32) = nI 8 by decide, nI_ltI (by omega) hm] at b4
          exact ⟨m, em, by omega, fun w => by omega, by omega⟩
    · cases e
  · cases e
    exact ⟨⟨0, by decide, by omega, fun _ => rfl, by omega⟩, by simp⟩
end TlLen
section CLineC
variable {h h' : am_H} {len N P rc bc : Nat} {fa G sd : Int32} {tx wa me rx rh bw bs : Nat → Int32} {S S' : Sc} {dd dd' : List Sc} {i0 i1 i0' i1' : Im}
theorem c_LtakeFrom {N0 G0 P0 N1 G1 P1 : Int32} {wb mb wc mc : Nat → Int32} (h11 : h.1 11 = .inr (4, [.int N0, .int G0, .int P0, .ref 12, .ref 13])) (h12 : h.1 12 = iar wb) (h13 : h.1 13 = iar mb) (h5 : h.1 5 = .inr (4, [.int N1, .int G1, .int P1, .ref 6, .ref 7])) (h6 : h.1 6 = iar wc) (h7 : h.1 7 = iar mc) : am_T M_Line_takeFrom [.ref 11, .ref 5] h (fun r h' => r = none ∧ am_fr 11 14 h h' ∧ h'.1 11 = .inr (4, [.int N1, .int G1, .int P1, .ref 12, .ref 13]) ∧ ∃ w' m', h'.1 12 = iar w' ∧ h'.1 13 = iar m' ∧ eqP 8 w' wc ∧ eqP 8 m' mc) := by
  (try unfold am_E); unfold am_T
  repeat (first | refine rs [] rfl rfl rfl rfl ?_ | refine rk rfl rfl ?_ | refine rgoh [] rfl rfl ?_ | refine rgeta (hi := rfl) (kk := ?_) | refine rialda (hi := rfl) (kk := ?_))
  refine rputa (hi := rfl) (kk := ?_)
  repeat (first | refine rs [] rfl rfl rfl rfl ?_ | refine rk rfl rfl ?_ | refine rgoh [] rfl rfl ?_ | refine rgeta (hi := rfl) (kk := ?_) | refine rialda (hi := rfl) (kk := ?_))
  refine rcpy (a := 12) (a0 := 6) (n := 8) (f := wc) (g := wb) (na := 8) (nb := 8) rfl (by simp (disch := omega) only [am_set_ne]; exact h6) (by simp (disch := omega) only [am_set_ne]; exact h12) (by omega) (by omega) i8 (by omega) (by omega) (by omega) (by decide) ?_
  repeat (first | refine rs [] rfl rfl rfl rfl ?_ | refine rk rfl rfl ?_ | refine rgoh [] rfl rfl ?_ | refine rgeta (hi := rfl) (kk := ?_) | refine rialda (hi := rfl) (kk := ?_))
  refine rcpy (a := 13) (a0 := 7) (n := 8) (f := mc) (g := mb) (na := 8) (nb := 8) rfl (by simp (disch := omega) only [am_set_ne]; exact h7) (by simp (disch := omega) only [am_set_ne]; exact h13) (by omega) (by omega) i8 (by omega) (by omega) (by omega) (by decide) ?_
  repeat (first | refine rs [] rfl rfl rfl rfl ?_ | refine rk rfl rfl ?_ | refine rgoh [] rfl rfl ?_ | refine rgeta (hi := rfl) (kk := ?_) | refine rialda (hi := rfl) (kk := ?_))
  refine rret rfl rfl ?_
  refine ⟨rfl, ?_, ?_, va_cpy wc wb 0 0 8, va_cpy mc mb 0 0 8, ?_, ?_, fun p hp => cpy8 hp, fun p hp => cpy8 hp⟩
  · exact fr_set (fr_set (fr_set (fr_set (fr_set fr_rf (by omega) (by omega)) (by omega) (by omega)) (by omega) (by omega)) (by omega) (by omega)) (by omega) (by omega)
  · simp (disch := omega) only [am_set_ne, am_set_eq]
    rfl
  · simp (disch := omega) only [am_set_ne, am_set_eq]
  · simp (disch := omega) only [am_set_ne, am_set_eq]
theorem cRep_head {fa' : Int32} {len' : Nat} {tx' : Nat → Int32} (R : cRep ⟨⟨len, tx⟩, fa, ⟨N, P, G, wa, me⟩, S, dd, ⟨rc, rx, rh⟩, ⟨bc, bw, bs⟩, sd, i0, i1⟩ h) (f : am_fr 1 11 h h') (t : pTop fa' h') (T : cTx len' tx' h') (J : pRj h') : cRep ⟨⟨len', tx'⟩, fa', ⟨N, P, G, wa, me⟩, S, dd, ⟨rc, rx, rh⟩, ⟨bc, bw, bs⟩, sd, i0, i1⟩ h' := by
  obtain ⟨x1, x2, x3, x4, x5, x6, ⟨tm, x7⟩, x8, x9, x10, x11, x12⟩ := R
  exact ⟨t, T, J, x4.fr f (by omega), x5.fr f (by omega), x6.fr f (by omega), ⟨tm, by rw [f.2 _ (by omega)]; exact x7⟩, x8.fr f (by omega), x9.fr f (by omega), x10.fr f (by omega), by rw [f.2 _ (by omega)]; exact x11, x12.fr f (by omega)⟩
def pnD : Pn := (0, 0, 0, 0, 0)
def scP (F : Int32) (ps : List Pn) : Sc := (fun p => (ps.getD p pnD).1, fun p => (ps.getD p pnD).2.2.2.1, fun p => bitv (ps.getD p pnD).2.2.2.2 0, fun p => bitv (ps.getD p pnD).2.2.2.2 1, F, 0, 0)
def o_line : Q → Int32 × Q
  | ⟨⟨len, tx⟩, fa, ⟨N, P, G, wa, me⟩, S, dd, ⟨rc, rx, rh⟩, ⟨bc, bw, bs⟩, sd, i0, i1⟩ => match prS len tx with
    | .inl e => (-10 - nI e.1, ⟨⟨0, tx⟩, nI e.2, ⟨N, P, G, wa, me⟩, S, dd, ⟨rc, rx, rh⟩, ⟨bc, bw, bs⟩, sd, i0, i1⟩)
    | .inr q => (nI q.2.2.2.length, ⟨⟨0, tx⟩, -1, ⟨q.1.toNatClampNeg, q.2.2.2.length, q.2.1, fun p => (q.2.2.2.getD p pnD).2.1, fun p => (q.2.2.2.getD p pnD).2.2.1⟩, scP q.2.2.1 q.2.2.2, [], ⟨0, rx, rh⟩, ⟨0, bw, bs⟩, sd, none, none⟩)
theorem v_lineF {k j : Nat} {i nu : Int32} {h1 : am_H} (R : cRep ⟨⟨len, tx⟩, fa, ⟨N, P, G, wa, me⟩, S, dd, ⟨rc, rx, rh⟩, ⟨bc, bw, bs⟩, sd, i0, i1⟩ h) (f : am_fr 4 11 h h1) (hk : 0 < k ∧ k < 100) (h4 : h1.1 4 = rdc (nI k) (nI j) i nu) (hw : pRw h1) : am_R M_Sp_line (5, [.ref 1, .null], []) h1 (fun r h' => r = some (.int (-10 - nI k)) ∧ cRep ⟨⟨0, tx⟩, nI j, ⟨N, P, G, wa, me⟩, S, dd, ⟨rc, rx, rh⟩, ⟨bc, bw, bs⟩, sd, i0, i1⟩ h' ∧ am_fr 1 130 h h') := by
  have hT : cTx len tx h := R.2.1
  obtain ⟨t1, t2, t3⟩ := hT.fr f (by omega)
  have x1 : h1.1 1 = .inr (9, [.ref 2, .ref 4, .ref 11, .ref 14, .ref 17, .ref 20, .ref 21, .ref 113, .ref 117, .ref 120, .ref 121, .int fa]) := by rw [f.2 _ (by omega)]; exact R.1
  have z4 := h4
  rw [rdc_eq] at z4
  have hk0 : ¬ nI k = 0 := nI_ne0 hk.1 (by omega)
  repeat (first | refine rs [] rfl rfl rfl rfl ?_ | refine rk rfl rfl ?_ | refine rgoh [] rfl rfl ?_ | refine rgeta (hi := rfl) (kk := ?_) | refine rialda (hi := rfl) (kk := ?_))
  refine rputa (hi := rfl) (kk := ?_)
  repeat (first | refine rs [] rfl rfl rfl rfl ?_ | refine rk rfl rfl ?_ | refine rgoh [] rfl rfl ?_ | refine rgeta (hi := rfl) (kk := ?_) | refine rialda (hi := rfl) (kk := ?_))
  (first | refine rif rfl rfl (fun c1 => ?_) (fun c1 => ?_) | refine ric rfl rfl (fun c1 => ?_) (fun c1 => ?_))
  · exact absurd c1 hk0
  · repeat (first | refine rs [] rfl rfl rfl rfl ?_ | refine rk rfl rfl ?_ | refine rgoh [] rfl rfl ?_ | refine rgeta (hi := rfl) (kk := ?_) | refine rialda (hi := rfl) (kk := ?_))
    refine rputa (hi := rfl) (kk := ?_)
    repeat (first | refine rs [] rfl rfl rfl rfl ?_ | refine rk rfl rfl ?_ | refine rgoh [] rfl rfl ?_ | refine rgeta (hi := rfl) (kk := ?_) | refine rialda (hi := rfl) (kk := ?_))
    refine rret rfl rfl ?_
    have fA : am_fr 1 11 h (am_set (am_set h1 2 (.inr (7, [.ref 3, .int (nI 0)]))) 1 (.inr (9, [.ref 2, .ref 4, .ref 11, .ref 14, .ref 17, .ref 20, .ref 21, .ref 113, .ref 117, .ref 120, .ref 121, .int (nI j)]))) := fr_set (fr_set (fr_wd f (by omega) (by omega)) (by omega) (by omega)) (by omega) (by omega)
    have fB : am_fr 1 3 h1 (am_set (am_set h1 2 (.inr (7, [.ref 3, .int (nI 0)]))) 1 (.inr (9, [.ref 2, .ref 4, .ref 11, .ref 14, .ref 17, .ref 20, .ref 21, .ref 113, .ref 117, .ref 120, .ref 121, .int (nI j)]))) := fr_set (fr_set fr_rf (by omega) (by omega)) (by omega) (by omega)
    have J : pRj h1 := ⟨⟨_, _, _, _, h4⟩, hw⟩
    refine ⟨rfl, cRep_head R fA am_set_eq ⟨by omega, ?_, ?_⟩ (J.fr fB (by omega)), fr_wd fA (by omega) (by omega)⟩
    · rw [am_set_ne (by omega)]; exact am_set_eq
    · rw [am_set_ne (by omega), am_set_ne (by omega)]; exact t3
end CLineC
