/-! the class's Witness -/
def cWt (rc : Nat) (rx rh : Nat → Int32) (h : am_H) : Prop := rc ≤ 8 ∧ ∃ (ss : Nat → Int32) (fd : Int32), h.1 113 = .inr (8, [.ref 114, .ref 115, .int (nI rc), .ref 116, .int fd]) ∧ h.1 114 = iar rx ∧ h.1 115 = .inl (.boolean, 8, .inl rh) ∧ h.1 116 = .inl (.int, 37, .inl ss)
/-- it holds the sets hl -/
def cWs (rc : Nat) (rx rh : Nat → Int32) (hl : List Int32) (h : am_H) : Prop := rc ≤ 8 ∧ hl.length ≤ 37 ∧ ∃ (ss : Nat → Int32), h.1 113 = .inr (8, [.ref 114, .ref 115, .int (nI rc), .ref 116, .int (nI hl.length)]) ∧ h.1 114 = iar rx ∧ h.1 115 = .inl (.boolean, 8, .inl rh) ∧ h.1 116 = .inl (.int, 37, .inl ss) ∧ ∀ k v, hl[k]? = some v → ss k = v
theorem cWs.wt {rc : Nat} {rx rh : Nat → Int32} {hl : List Int32} {h : am_H} (q : cWs rc rx rh hl h) : cWt rc rx rh h := by
  obtain ⟨q1, q2, ss, q3, q4, q5, q6, q7⟩ := q
  exact ⟨q1, ss, _, q3, q4, q5, q6⟩
theorem cWt.fr {rc lo hi : Nat} {rx rh : Nat → Int32} {h h' : am_H} (f : am_fr lo hi h h') (hd : 117 ≤ lo ∨ hi ≤ 113) (q : cWt rc rx rh h) : cWt rc rx rh h' := by
  obtain ⟨q1, ss, fd, q3, q4, q5, q6⟩ := q
  exact ⟨q1, ss, fd, by rw [f.2 _ (by omega)]; exact q3, by rw [f.2 _ (by omega)]; exact q4, by rw [f.2 _ (by omega)]; exact q5, by rw [f.2 _ (by omega)]; exact q6⟩
theorem c_Wadd {h : am_H} {rc : Nat} {rx rh : Nat → Int32} {x z : Int32} (hW : cWt rc rx rh h) (hl : rc < 8) : am_T M_Witness_add [.ref 113, .int x, .int z] h (fun r h' => r = some (.int 1) ∧ cWt (rc + 1) (upd rx rc x) (upd rh rc (z &&& 1)) h' ∧ am_fr 113 117 h h') := by
  obtain ⟨h1, ss, fd, h2, h3, h4, h5⟩ := hW
  (try unfold am_E); unfold am_T
  repeat (first | refine rs [] rfl rfl rfl rfl ?_ | refine rk rfl rfl ?_ | refine rgoh [] rfl rfl ?_ | refine rgeta (hi := rfl) (kk := ?_) | refine rialda (hi := rfl) (kk := ?_))
  (first | refine rif rfl rfl (fun c1 => ?_) (fun c1 => ?_) | refine ric rfl rfl (fun c1 => ?_) (fun c1 => ?_))
  · exact absurd c1 (nI_pos (by omega))
  · repeat (first | refine rs [] rfl rfl rfl rfl ?_ | refine rk rfl rfl ?_ | refine rgoh [] rfl rfl ?_ | refine rgeta (hi := rfl) (kk := ?_) | refine rialda (hi := rfl) (kk := ?_))
    (first | refine rif rfl rfl (fun c2 => ?_) (fun c2 => ?_) | refine ric rfl rfl (fun c2 => ?_) (fun c2 => ?_))
    · repeat (first | refine rs [] rfl rfl rfl rfl ?_ | refine rk rfl rfl ?_ | refine rgoh [] rfl rfl ?_ | refine rgeta (hi := rfl) (kk := ?_) | refine rialda (hi := rfl) (kk := ?_))
      refine riasta (hi := rfl) (kk := ?_)
      repeat (first | refine rs [] rfl rfl rfl rfl ?_ | refine rk rfl rfl ?_ | refine rgoh [] rfl rfl ?_ | refine rgeta (hi := rfl) (kk := ?_) | refine rialda (hi := rfl) (kk := ?_))
      refine rbast rfl (by simp (disch := omega) only [am_set_ne]; exact h4) rc (by omega) (by omega) rfl ?_
      repeat (first | refine rs [] rfl rfl rfl rfl ?_ | refine rk rfl rfl ?_ | refine rgoh [] rfl rfl ?_ | refine rgeta (hi := rfl) (kk := ?_) | refine rialda (hi := rfl) (kk := ?_))
      refine rputa (hi := rfl) (kk := ?_)
      repeat (first | refine rs [] rfl rfl rfl rfl ?_ | refine rk rfl rfl ?_ | refine rgoh [] rfl rfl ?_ | refine rgeta (hi := rfl) (kk := ?_) | refine rialda (hi := rfl) (kk := ?_))
      refine rret rfl rfl ?_
      refine ⟨rfl, ⟨by omega, ss, fd, ?_, ?_, ?_, ?_⟩, ?_⟩
      · rw [am_set_eq, ← nI_1]
        rfl
      · simp (disch := omega) only [am_set_ne, am_set_eq]
      · simp (disch := omega) only [am_set_ne, am_set_eq]
      · simp (disch := omega) only [am_set_ne, am_set_eq]
        exact h5
      · exact fr_set (fr_set (fr_set fr_rf (by omega) (by omega)) (by omega) (by omega)) (by omega) (by omega)
    · exfalso
      rw [i8, nI_ltI (by omega) (by omega)] at c2
      omega
theorem c_WaddF {h : am_H} {rc : Nat} {rx rh : Nat → Int32} {x z : Int32} (hW : cWt rc rx rh h) (hl : rc = 8) : am_E M_Witness_add [.ref 113, .int x, .int z] h (some (.int 0)) h := by
  obtain ⟨h1, ss, fd, h2, h3, h4, h5⟩ := hW
  (try unfold am_E); unfold am_T
  repeat (first | refine rs [] rfl rfl rfl rfl ?_ | refine rk rfl rfl ?_ | refine rgoh [] rfl rfl ?_ | refine rgeta (hi := rfl) (kk := ?_) | refine rialda (hi := rfl) (kk := ?_))
  (first | refine rif rfl rfl (fun c1 => ?_) (fun c1 => ?_) | refine ric rfl rfl (fun c1 => ?_) (fun c1 => ?_))
  · exact absurd c1 (nI_pos (by omega))
  · repeat (first | refine rs [] rfl rfl rfl rfl ?_ | refine rk rfl rfl ?_ | refine rgoh [] rfl rfl ?_ | refine rgeta (hi := rfl) (kk := ?_) | refine rialda (hi := rfl) (kk := ?_))
    (first | refine rif rfl rfl (fun c2 => ?_) (fun c2 => ?_) | refine ric rfl rfl (fun c2 => ?_) (fun c2 => ?_))
    · exfalso
      rw [i8, nI_ltI (by omega) (by omega)] at c2
      omega
    · repeat (first | refine rs [] rfl rfl rfl rfl ?_ | refine rk rfl rfl ?_ | refine rgoh [] rfl rfl ?_ | refine rgeta (hi := rfl) (kk := ?_) | refine rialda (hi := rfl) (kk := ?_))
      refine rret rfl rfl ?_
      exact ⟨rfl, rfl⟩
/-- all that ran is so -/
def fitsP (stops : Int32) (rc : Nat) (rx rh : Nat → Int32) : Prop := ∀ i, i < rc → (if bitv stops (rx i) = 1 then (1 : Int32) else 0) = rh i
theorem c_fits {h : am_H} {rc : Nat} {rx rh : Nat → Int32} {stops : Int32} (hW : cWt rc rx rh h) : am_T M_Witness_fits [.ref 113, .int stops] h (fun r h' => h' = h ∧ ((r = some (.int 1) ∧ fitsP stops rc rx rh) ∨ (r = some (.int 0) ∧ ¬ fitsP stops rc rx rh))) := by
  obtain ⟨h1, ss, fd, h2, h3, h4, h5⟩ := hW
  (try unfold am_E); unfold am_T
  repeat (first | refine rs [2] rfl rfl rfl rfl ?_ | refine rk rfl rfl ?_ | refine rgoh [2] rfl rfl ?_ | refine rgeta (hi := rfl) (kk := ?_) | refine rialda (hi := rfl) (kk := ?_))
  refine lup (P := fun i => ∀ x, x = nI i → (∀ k, k < i → (if bitv stops (rx k) = 1 then (1 : Int32) else 0) = rh k) → am_R M_Witness_fits (2, [.ref 113, .int stops, .int x], []) h _) rc ?_ ?_ 0 nI_0.symm (fun k hk => absurd hk (by omega))
  · rintro x rfl hq
    repeat (first | refine rs [] rfl rfl rfl rfl ?_ | refine rk rfl rfl ?_ | refine rgoh [] rfl rfl ?_ | refine rgeta (hi := rfl) (kk := ?_) | refine rialda (hi := rfl) (kk := ?_))
    (first | refine rif rfl rfl (fun c1 => ?_) (fun c1 => ?_) | refine ric rfl rfl (fun c1 => ?_) (fun c1 => ?_))
    · repeat (first | refine rs [] rfl rfl rfl rfl ?_ | refine rk rfl rfl ?_ | refine rgoh [] rfl rfl ?_ | refine rgeta (hi := rfl) (kk := ?_) | refine rialda (hi := rfl) (kk := ?_))
      refine rret rfl rfl ?_
      exact ⟨rfl, Or.inl ⟨rfl, hq⟩⟩
    · exact absurd (Int32.le_refl _) c1
  · rintro i hi ih x rfl hq
    have nx : (if bitv stops (rx i) = 1 then (1 : Int32) else 0) = rh i → am_R M_Witness_fits (2, [.ref 113, .int stops, .int (nI i + 1)], []) h (fun r h' => h' = h ∧ ((r = some (.int 1) ∧ fitsP stops rc rx rh) ∨ (r = some (.int 0) ∧ ¬ fitsP stops rc rx rh))) := by
      intro hz
      refine ih _ (nI_succ i).symm (fun k hk => ?_)
      rcases Nat.lt_or_ge k i with g | g
      · exact hq k g
      · rw [show k = i by omega]
        exact hz
    repeat (first | refine rs [] rfl rfl rfl rfl ?_ | refine rk rfl rfl ?_ | refine rgoh [] rfl rfl ?_ | refine rgeta (hi := rfl) (kk := ?_) | refine rialda (hi := rfl) (kk := ?_))
    (first | refine rif rfl rfl (fun c1 => ?_) (fun c1 => ?_) | refine ric rfl rfl (fun c1 => ?_) (fun c1 => ?_))
    · exact absurd hi ((nI_lt_iff (by omega) (by omega)).mp c1)
    · repeat (first | refine rs [] rfl rfl rfl rfl ?_ | refine rk rfl rfl ?_ | refine rgoh [] rfl rfl ?_ | refine rgeta (hi := rfl) (kk := ?_) | refine rialda (hi := rfl) (kk := ?_))
      refine rcss rfl rfl rfl rfl rfl (c_bit) ?_
      repeat (first | refine rs [] rfl rfl rfl rfl ?_ | refine rk rfl rfl ?_ | refine rgoh [] rfl rfl ?_ | refine rgeta (hi := rfl) (kk := ?_) | refine rialda (hi := rfl) (kk := ?_))
      (first | refine rif rfl rfl (fun c2 => ?_) (fun c2 => ?_) | refine ric rfl rfl (fun c2 => ?_) (fun c2 => ?_))
      · repeat (first | refine rs [] rfl rfl rfl rfl ?_ | refine rk rfl rfl ?_ | refine rgoh [] rfl rfl ?_ | refine rgeta (hi := rfl) (kk := ?_) | refine rialda (hi := rfl) (kk := ?_))
        refine rbald rfl h4 i (by omega) (by omega) rfl ?_
        (first | refine rif rfl rfl (fun c3 => ?_) (fun c3 => ?_) | refine ric rfl rfl (fun c3 => ?_) (fun c3 => ?_))
        · repeat (first | refine rs [2] rfl rfl rfl rfl ?_ | refine rk rfl rfl ?_ | refine rgoh [2] rfl rfl ?_ | refine rgeta (hi := rfl) (kk := ?_) | refine rialda (hi := rfl) (kk := ?_))
          exact nx (by rw [if_pos c2]; exact c3)
        · repeat (first | refine rs [] rfl rfl rfl rfl ?_ | refine rk rfl rfl ?_ | refine rgoh [] rfl rfl ?_ | refine rgeta (hi := rfl) (kk := ?_) | refine rialda (hi := rfl) (kk := ?_))
          refine rret rfl rfl ?_
          refine ⟨rfl, Or.inr ⟨rfl, fun z => c3 ?_⟩⟩
          have := z i hi
          rw [if_pos c2] at this
          exact this
      · repeat (first | refine rs [] rfl rfl rfl rfl ?_ | refine rk rfl rfl ?_ | refine rgoh [] rfl rfl ?_ | refine rgeta (hi := rfl) (kk := ?_) | refine rialda (hi := rfl) (kk := ?_))
        refine rbald rfl h4 i (by omega) (by omega) rfl ?_
        (first | refine rif rfl rfl (fun c3 => ?_) (fun c3 => ?_) | refine ric rfl rfl (fun c3 => ?_) (fun c3 => ?_))
        · repeat (first | refine rs [2] rfl rfl rfl rfl ?_ | refine rk rfl rfl ?_ | refine rgoh [2] rfl rfl ?_ | refine rgeta (hi := rfl) (kk := ?_) | refine rialda (hi := rfl) (kk := ?_))
          exact nx (by rw [if_neg c2]; exact c3)
        · repeat (first | refine rs [] rfl rfl rfl rfl ?_ | refine rk rfl rfl ?_ | refine rgoh [] rfl rfl ?_ | refine rgeta (hi := rfl) (kk := ?_) | refine rialda (hi := rfl) (kk := ?_))
          refine rret rfl rfl ?_
          refine ⟨rfl, Or.inr ⟨rfl, fun z => c3 ?_⟩⟩
          have := z i hi
          rw [if_neg c2] at this
          exact this
