/-! reading a text: what it says -/
def skp (len : Nat) (tx : Nat → Int32) : Nat → Nat → Nat
  | 0, i => i
  | n + 1, i => if tx i = 32 then skp len tx n (i + 1) else i
/-- behind blanks -/
def sk (len : Nat) (tx : Nat → Int32) (i : Nat) : Nat := skp len tx (len - i) i
theorem sk_end {len : Nat} {tx : Nat → Int32} {i : Nat} (h : len ≤ i) : sk len tx i = i := by
  unfold sk
  rw [show len - i = 0 by omega]
  rfl
theorem sk_bl {len : Nat} {tx : Nat → Int32} {i : Nat} (h : i < len) (hb : tx i = 32) : sk len tx i = sk len tx (i + 1) := by
  unfold sk
  rw [show len - i = (len - (i + 1)) + 1 by omega]
  show (if tx i = 32 then _ else _) = _
  rw [if_pos hb]
theorem sk_no {len : Nat} {tx : Nat → Int32} {i : Nat} (h : i < len) (hb : ¬ tx i = 32) : sk len tx i = i := by
  unfold sk
  rw [show len - i = (len - (i + 1)) + 1 by omega]
  show (if tx i = 32 then _ else _) = _
  rw [if_neg hb]
theorem sk_le {len : Nat} {tx : Nat → Int32} {i : Nat} (h : i ≤ len) : i ≤ sk len tx i ∧ sk len tx i ≤ len := by
  obtain ⟨d, hd⟩ : ∃ d, d = len - i := ⟨_, rfl⟩
  induction d generalizing i with
  | zero => rw [sk_end (by omega)]; omega
  | succ d ih =>
    by_cases hb : tx i = 32
    · rw [sk_bl (by omega) hb]
      have := ih (i := i + 1) (by omega) (by omega)
      omega
    · rw [sk_no (by omega) hb]
      omega
abbrev fig (c : Int32) : Prop := ¬ c < 48 ∧ ¬ 57 < c
def ndc (tx : Nat → Int32) : Nat → Nat → Nat
  | 0, _ => 0
  | n + 1, i => if fig (tx i) then ndc tx n (i + 1) + 1 else 0
/-- how many figures stand there -/
def nd (len : Nat) (tx : Nat → Int32) (i : Nat) : Nat := ndc tx (len - i) i
theorem nd_end {len : Nat} {tx : Nat → Int32} {i : Nat} (h : len ≤ i) : nd len tx i = 0 := by
  unfold nd
  rw [show len - i = 0 by omega]
  rfl
theorem nd_fig {len : Nat} {tx : Nat → Int32} {i : Nat} (h : i < len) (hb : fig (tx i)) : nd len tx i = nd len tx (i + 1) + 1 := by
  unfold nd
  rw [show len - i = (len - (i + 1)) + 1 by omega]
  show (if fig (tx i) then _ else _) = _
  rw [if_pos hb]
theorem nd_no {len : Nat} {tx : Nat → Int32} {i : Nat} (h : i < len) (hb : ¬ fig (tx i)) : nd len tx i = 0 := by
  unfold nd
  rw [show len - i = (len - (i + 1)) + 1 by omega]
  show (if fig (tx i) then _ else _) = _
  rw [if_neg hb]
theorem nd_le {len : Nat} {tx : Nat → Int32} {i : Nat} (h : i ≤ len) : i + nd len tx i ≤ len := by
  obtain ⟨d, hd⟩ : ∃ d, d = len - i := ⟨_, rfl⟩
  induction d generalizing i with
  | zero => rw [nd_end (by omega)]; omega
  | succ d ih =>
    by_cases hb : fig (tx i)
    · rw [nd_fig (by omega) hb]
      have := ih (i := i + 1) (by omega) (by omega)
      omega
    · rw [nd_no (by omega) hb]
      omega
/-- its first three figures -/
def val3 (tx : Nat → Int32) (i k : Nat) : Int32 := fo (fun q v => if q < 3 then v * 10 + tx (i + q) - 48 else v) k 0
/-- a fault's number and place, or what comes behind it and its value -/
def numS (len : Nat) (tx : Nat → Int32) (i : Nat) (lo hi : Int32) : (Nat × Nat) ⊕ (Nat × Int32) :=
  if nd len tx (sk len tx i) = 0 then .inl (1, sk len tx i)
  else if 3 < nd len tx (sk len tx i) ∨ val3 tx (sk len tx i) (nd len tx (sk len tx i)) < lo ∨ hi < val3 tx (sk len tx i) (nd len tx (sk len tx i)) then .inl (2, sk len tx i)
  else .inr (sk len tx i + nd len tx (sk len tx i), val3 tx (sk len tx i) (nd len tx (sk len tx i)))
def sgS (len : Nat) (tx : Nat → Int32) (i : Nat) (c : Int32) : (Nat × Nat) ⊕ Nat := if ltr len tx (sk len tx i) = c then .inr (sk len tx i + 1) else .inl (1, sk len tx i)
/-! the class's Reader -/
abbrev rdc (kd pl i nu : Int32) : am_C := .inr (5, [.ref 5, .ref 8, .int kd, .int pl, .int i, .int nu])
theorem cTx.fr {len lo hi : Nat} {tx : Nat → Int32} {h h' : am_H} (f : am_fr lo hi h h') (hd : 4 ≤ lo ∨ hi ≤ 2) (q : cTx len tx h) : cTx len tx h' := by
  obtain ⟨q1, q2, q3⟩ := q
  exact ⟨q1, by rw [f.2 _ (by omega)]; exact q2, by rw [f.2 _ (by omega)]; exact q3⟩
theorem cTx.set {len a : Nat} {tx : Nat → Int32} {h : am_H} {c : am_C} (ha : 4 ≤ a) (q : cTx len tx h) : cTx len tx (am_set h a c) := q.fr (lo := a) (hi := a + 1) (fr_set fr_rf (by omega) (by omega)) (by omega)
section CRead
variable {h : am_H} {len : Nat} {tx : Nat → Int32} {kd pl nu : Int32}
theorem c_blame0 {i k w : Int32} (hr : h.1 4 = rdc 0 pl i nu) : am_E M_Reader_blame [.ref 4, .int k, .int w] h none (am_set h 4 (rdc k w i nu)) := by
  (try unfold am_E); unfold am_T
  repeat (first | refine rs [] rfl rfl rfl rfl ?_ | refine rk rfl rfl ?_ | refine rgoh [] rfl rfl ?_ | refine rgeta (hi := rfl) (kk := ?_) | refine rialda (hi := rfl) (kk := ?_))
  (first | refine rift rfl rfl ?_ | refine riff rfl rfl ?_ | refine rict rfl rfl ?_ | refine ricf rfl rfl ?_)
  repeat (first | refine rs [] rfl rfl rfl rfl ?_ | refine rk rfl rfl ?_ | refine rgoh [] rfl rfl ?_ | refine rgeta (hi := rfl) (kk := ?_) | refine rialda (hi := rfl) (kk := ?_))
  refine rputa (hi := rfl) (kk := ?_)
  repeat (first | refine rs [] rfl rfl rfl rfl ?_ | refine rk rfl rfl ?_ | refine rgoh [] rfl rfl ?_ | refine rgeta (hi := rfl) (kk := ?_) | refine rialda (hi := rfl) (kk := ?_))
  refine rret rfl rfl ?_
  exact ⟨rfl, by rw [am_set_set]; rfl⟩
theorem c_blame1 {i k w : Int32} (hk : kd ≠ 0) (hr : h.1 4 = rdc kd pl i nu) : am_E M_Reader_blame [.ref 4, .int k, .int w] h none h := by
  (try unfold am_E); unfold am_T
  repeat (first | refine rs [] rfl rfl rfl rfl ?_ | refine rk rfl rfl ?_ | refine rgoh [] rfl rfl ?_ | refine rgeta (hi := rfl) (kk := ?_) | refine rialda (hi := rfl) (kk := ?_))
  (first | refine rif rfl rfl (fun c1 => ?_) (fun c1 => ?_) | refine ric rfl rfl (fun c1 => ?_) (fun c1 => ?_))
  · exact absurd c1 hk
  · refine rret rfl rfl ?_
    exact ⟨rfl, rfl⟩
theorem c_isFigure {c : Int32} : am_E M_Reader_isFigure [.int c] h (some (.int (if fig c then 1 else 0))) h := by
  (try unfold am_E); unfold am_T
  repeat (first | refine rs [] rfl rfl rfl rfl ?_ | refine rk rfl rfl ?_ | refine rgoh [] rfl rfl ?_ | refine rgeta (hi := rfl) (kk := ?_) | refine rialda (hi := rfl) (kk := ?_))
  (first | refine rif rfl rfl (fun c1 => ?_) (fun c1 => ?_) | refine ric rfl rfl (fun c1 => ?_) (fun c1 => ?_))
  · repeat (first | refine rs [] rfl rfl rfl rfl ?_ | refine rk rfl rfl ?_ | refine rgoh [] rfl rfl ?_ | refine rgeta (hi := rfl) (kk := ?_) | refine rialda (hi := rfl) (kk := ?_))
    refine rret rfl rfl ?_
    exact ⟨by rw [if_neg (fun q => q.1 c1)], rfl⟩
  · repeat (first | refine rs [] rfl rfl rfl rfl ?_ | refine rk rfl rfl ?_ | refine rgoh [] rfl rfl ?_ | refine rgeta (hi := rfl) (kk := ?_) | refine rialda (hi := rfl) (kk := ?_))
    (first | refine rif rfl rfl (fun c2 => ?_) (fun c2 => ?_) | refine ric rfl rfl (fun c2 => ?_) (fun c2 => ?_))
    · repeat (first | refine rs [] rfl rfl rfl rfl ?_ | refine rk rfl rfl ?_ | refine rgoh [] rfl rfl ?_ | refine rgeta (hi := rfl) (kk := ?_) | refine rialda (hi := rfl) (kk := ?_))
      refine rret rfl rfl ?_
      exact ⟨by rw [if_neg (fun q => q.2 c2)], rfl⟩
    · repeat (first | refine rs [] rfl rfl rfl rfl ?_ | refine rk rfl rfl ?_ | refine rgoh [] rfl rfl ?_ | refine rgeta (hi := rfl) (kk := ?_) | refine rialda (hi := rfl) (kk := ?_))
      refine rret rfl rfl ?_
      exact ⟨by rw [if_pos ⟨c1, c2⟩], rfl⟩
theorem c_skipBlanks {i : Nat} {x : Int32} (hT : cTx len tx h) (hi : i ≤ len) (hx : x = nI i) (hr : h.1 4 = rdc kd pl x nu) : am_E M_Reader_skipBlanks [.ref 4, .ref 2] h none (am_set h 4 (rdc kd pl (nI (sk len tx i)) nu)) := by
  subst hx
  (try unfold am_E); unfold am_T
  show am_R M_Reader_skipBlanks (0, [.ref 4, .ref 2], []) h _
  suffices hs : ∀ d i, d = len - i → i ≤ len → am_R M_Reader_skipBlanks (0, [.ref 4, .ref 2], []) (am_set h 4 (rdc kd pl (nI i) nu)) (fun r h' => r = none ∧ h' = am_set h 4 (rdc kd pl (nI (sk len tx i)) nu)) by
    have := hs _ i rfl hi
    rw [am_set_self hr] at this
    exact this
  intro d
  induction d with
  | zero =>
    intro i hd hi
    obtain ⟨t1, t2, t3⟩ := hT.set (a := 4) (c := rdc kd pl (nI i) nu) (by omega)
    repeat (first | refine rs [] rfl rfl rfl rfl ?_ | refine rk rfl rfl ?_ | refine rgoh [] rfl rfl ?_ | refine rgeta (hi := rfl) (kk := ?_) | refine rialda (hi := rfl) (kk := ?_))
    (first | refine rif rfl rfl (fun c1 => ?_) (fun c1 => ?_) | refine ric rfl rfl (fun c1 => ?_) (fun c1 => ?_))
    · refine rret rfl rfl ?_
      rw [sk_end (by omega)]
      exact ⟨rfl, rfl⟩
    · exfalso
      rw [nI_leI (by omega) (by omega)] at c1
      omega
  | succ d ih =>
    intro i hd hi
    have hT2 := hT.set (a := 4) (c := rdc kd pl (nI i) nu) (by omega)
    obtain ⟨t1, t2, t3⟩ := id hT2
    repeat (first | refine rs [] rfl rfl rfl rfl ?_ | refine rk rfl rfl ?_ | refine rgoh [] rfl rfl ?_ | refine rgeta (hi := rfl) (kk := ?_) | refine rialda (hi := rfl) (kk := ?_))
    (first | refine rif rfl rfl (fun c1 => ?_) (fun c1 => ?_) | refine ric rfl rfl (fun c1 => ?_) (fun c1 => ?_))
    · exfalso
      rw [nI_leI (by omega) (by omega)] at c1
      omega
    · repeat (first | refine rs [] rfl rfl rfl rfl ?_ | refine rk rfl rfl ?_ | refine rgoh [] rfl rfl ?_ | refine rgeta (hi := rfl) (kk := ?_) | refine rialda (hi := rfl) (kk := ?_))
      (first | refine rcvs rfl rfl rfl rfl rfl (by first | assumption | (simp (disch := omega) only [am_set_ne, am_set_eq]; first | assumption | rfl)) rfl (c_letterAt hT2 rfl (by omega)) ?_ | refine rcvn rfl rfl rfl rfl rfl (by first | assumption | (simp (disch := omega) only [am_set_ne, am_set_eq]; first | assumption | rfl)) rfl (c_letterAt hT2 rfl (by omega)) ?_)
      repeat (first | refine rs [] rfl rfl rfl rfl ?_ | refine rk rfl rfl ?_ | refine rgoh [] rfl rfl ?_ | refine rgeta (hi := rfl) (kk := ?_) | refine rialda (hi := rfl) (kk := ?_))
      have el : ltr len tx i = tx i := by
        unfold ltr
        rw [if_pos (by omega)]
      rw [el]
      (first | refine rif rfl rfl (fun c2 => ?_) (fun c2 => ?_) | refine ric rfl rfl (fun c2 => ?_) (fun c2 => ?_))
      · repeat (first | refine rs [0] rfl rfl rfl rfl ?_ | refine rk rfl rfl ?_ | refine rgoh [0] rfl rfl ?_ | refine rgeta (hi := rfl) (kk := ?_) | refine rialda (hi := rfl) (kk := ?_))
        rw [sk_bl (by omega) c2, am_set_set]
        have := ih (i + 1) (by omega) (by omega)
        rw [nI_succ] at this
        exact this
      · refine rret rfl rfl ?_
        rw [sk_no (by omega) c2]
        exact ⟨rfl, rfl⟩
/-- where reading stands: a fault, or the place -/
def rdS (len : Nat) (pl : Int32) (o : (Nat × Nat) ⊕ Nat) (nu : Int32) (c : am_C) : Prop := match o with
  | .inr i => i ≤ len ∧ c = rdc 0 pl (nI i) nu
  | .inl (k, j) => (0 < k ∧ k < 100) ∧ ∃ i, i ≤ len ∧ c = rdc (nI k) (nI j) (nI i) nu
def bnN (len : Nat) (tx : Nat → Int32) (o : (Nat × Nat) ⊕ Nat) (lo hi : Int32) : (Nat × Nat) ⊕ Nat := match o with
  | .inl e => .inl e
  | .inr i => (match numS len tx i lo hi with | .inl e => .inl e | .inr q => .inr q.1)
def bnS (len : Nat) (tx : Nat → Int32) (o : (Nat × Nat) ⊕ Nat) (c : Int32) : (Nat × Nat) ⊕ Nat := match o with
  | .inl e => .inl e
  | .inr i => sgS len tx i c
def bnB (o : (Nat × Nat) ⊕ Nat) (b : Bool) (k j : Nat) : (Nat × Nat) ⊕ Nat := match o, b with
  | .inr _, true => .inl (k, j)
  | o, _ => o
theorem rdS_raw {o : (Nat × Nat) ⊕ Nat} {c : am_C} (q : rdS len pl o nu c) : ∃ (kd pl' : Int32) (i : Nat), i ≤ len ∧ c = rdc kd pl' (nI i) nu ∧ ((∃ i, o = .inr i ∧ kd = 0 ∧ c = rdc 0 pl (nI i) nu) ∨ (∃ k j, o = .inl (k, j) ∧ (0 < k ∧ k < 100) ∧ kd = nI k ∧ pl' = nI j)) := by
  cases o with
  | inl e =>
    obtain ⟨k, j⟩ := e
    obtain ⟨q1, i, q2, q3⟩ := q
    exact ⟨nI k, nI j, i, q2, q3, Or.inr ⟨k, j, rfl, q1, rfl, rfl⟩⟩
  | inr i =>
    obtain ⟨q1, q2⟩ := q
    exact ⟨0, pl, i, q1, q2, Or.inl ⟨i, rfl, rfl, q2⟩⟩
/-- blame: only the first fault counts -/
theorem c_blame {o : (Nat × Nat) ⊕ Nat} {k w : Nat} {x y : Int32} (hx : x = nI k) (hy : y = nI w) (hk : 0 < k ∧ k < 100) (hr : rdS len pl o nu (h.1 4)) : am_T M_Reader_blame [.ref 4, .int x, .int y] h (fun r h' => r = none ∧ ∃ c, h' = am_set h 4 c ∧ rdS len pl (bnB o true k w) nu c) := by
  subst hx hy
  cases o with
  | inl e =>
    obtain ⟨k', j⟩ := e
    obtain ⟨q1, i, q2, q3⟩ := hr
    refine am_R.imp (c_blame1 (fun z => ?_) q3) ?_
    · exact nI_ne0 q1.1 (by omega) z
    · rintro r h' ⟨rfl, rfl⟩
      exact ⟨rfl, _, (am_set_self q3).symm, q1, i, q2, rfl⟩
  | inr i =>
    obtain ⟨q1, q2⟩ := hr
    refine am_R.imp (c_blame0 q2) ?_
    rintro r h' ⟨rfl, rfl⟩
    exact ⟨rfl, _, rfl, hk, i, q1, rfl⟩
end CRead
