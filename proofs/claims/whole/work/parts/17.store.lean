/-! the class's parts that store: what a part of the heap is, and that nothing else changes -/
abbrev Sc : Type := (Nat → Int32) × (Nat → Int32) × (Nat → Int32) × (Nat → Int32) × Int32 × Int32 × Int32
/-- only the cells lo .. hi less 1 have changed -/
def am_fr (lo hi : Nat) (h h' : am_H) : Prop := h'.2 = h.2 ∧ ∀ k, (k < lo ∨ hi ≤ k) → h'.1 k = h.1 k
theorem fr_rf {lo hi : Nat} {h : am_H} : am_fr lo hi h h := ⟨rfl, fun _ _ => rfl⟩
theorem fr_set {lo hi a : Nat} {h h1 : am_H} {c : am_C} (f : am_fr lo hi h h1) (h2 : lo ≤ a) (h3 : a < hi) : am_fr lo hi h (am_set h1 a c) := ⟨f.1, fun k hk => by rw [am_set_ne (by omega)]; exact f.2 k hk⟩
theorem fr_tr {lo hi lo1 hi1 : Nat} {h h1 h2 : am_H} (f : am_fr lo hi h h1) (g : am_fr lo1 hi1 h1 h2) (q1 : lo ≤ lo1) (q2 : hi1 ≤ hi) : am_fr lo hi h h2 := ⟨g.1.trans f.1, fun k hk => by rw [g.2 k (by omega), f.2 k hk]⟩
theorem fr_wd {lo hi lo1 hi1 : Nat} {h h1 : am_H} (g : am_fr lo1 hi1 h h1) (q1 : lo ≤ lo1) (q2 : hi1 ≤ hi) : am_fr lo hi h h1 := ⟨g.1, fun k hk => g.2 k (by omega)⟩
def cRaw (a : Nat) (h : am_H) : Prop := ∃ (wh mi : Nat → Int32) (fe fl fog tr sp : Int32), h.1 a = .inr (6, [.ref (a + 1), .ref (a + 2), .int fe, .int fl, .int fog, .int tr, .int sp]) ∧ h.1 (a + 1) = iar wh ∧ h.1 (a + 2) = iar mi
/-- the scene at a is S, as far as persons below P go -/
def cSc (P a : Nat) (S : Sc) (h : am_H) : Prop := ∃ (wh mi : Nat → Int32) (fe fl : Int32), h.1 a = .inr (6, [.ref (a + 1), .ref (a + 2), .int fe, .int fl, .int S.2.2.2.2.1, .int S.2.2.2.2.2.1, .int S.2.2.2.2.2.2]) ∧ h.1 (a + 1) = iar wh ∧ h.1 (a + 2) = iar mi ∧ ∀ p, p < P → wh p = S.1 p ∧ mi p = S.2.1 p ∧ bitv fe (nI p) = S.2.2.1 p ∧ bitv fl (nI p) = S.2.2.2.1 p
theorem cSc.raw {P a : Nat} {S : Sc} {h : am_H} (q : cSc P a S h) : cRaw a h := by
  obtain ⟨wh, mi, fe, fl, h1, h2, h3, -⟩ := q
  exact ⟨wh, mi, fe, fl, _, _, _, h1, h2, h3⟩
theorem cRaw.fr {a lo hi : Nat} {h h' : am_H} (f : am_fr lo hi h h') (hd : a + 3 ≤ lo ∨ hi ≤ a) (q : cRaw a h) : cRaw a h' := by
  obtain ⟨wh, mi, fe, fl, fog, tr, sp, h1, h2, h3⟩ := q
  exact ⟨wh, mi, fe, fl, fog, tr, sp, by rw [f.2 _ (by omega)]; exact h1, by rw [f.2 _ (by omega)]; exact h2, by rw [f.2 _ (by omega)]; exact h3⟩
theorem cSc.fr {P a lo hi : Nat} {S : Sc} {h h' : am_H} (f : am_fr lo hi h h') (hd : a + 3 ≤ lo ∨ hi ≤ a) (q : cSc P a S h) : cSc P a S h' := by
  obtain ⟨wh, mi, fe, fl, h1, h2, h3, h4⟩ := q
  exact ⟨wh, mi, fe, fl, by rw [f.2 _ (by omega)]; exact h1, by rw [f.2 _ (by omega)]; exact h2, by rw [f.2 _ (by omega)]; exact h3, h4⟩
theorem cpy8 {f g : Nat → Int32} {p : Nat} (hp : p < 8) : va_cpy f g 0 0 8 p = f p := by
  unfold va_cpy
  rw [if_pos (by omega)]
  congr 1
  omega
theorem i8 : (8 : Int32) = nI 8 := by decide
theorem c_takeFrom {P a b : Nat} {S : Sc} {h : am_H} (ha : cRaw a h) (hb : cSc P b S h) (hP : P ≤ 8) (hd : a + 3 ≤ b ∨ b + 3 ≤ a) (ha0 : 0 < a) (hb0 : 0 < b) : am_T M_Scene_takeFrom [.ref a, .ref b] h (fun r h' => r = none ∧ cSc P a S h' ∧ am_fr a (a + 3) h h') := by
  obtain ⟨wh, mi, fe, fl, fog, tr, sp, h1, h2, h3⟩ := ha
  obtain ⟨whb, mib, feb, flb, g1, g2, g3, g4⟩ := hb
  (try unfold am_E); unfold am_T
  repeat (first | refine rs [] rfl rfl rfl rfl ?_ | refine rk rfl rfl ?_ | refine rgoh [] rfl rfl ?_ | refine rgeta (hi := rfl) (kk := ?_) | refine rialda (hi := rfl) (kk := ?_))
  refine rcpy (a := a + 1) (a0 := b + 1) (n := 8) rfl g2 h2 (by omega) (by omega) i8 (by omega) (by omega) (by omega) (by decide) ?_
  repeat (first | refine rs [] rfl rfl rfl rfl ?_ | refine rk rfl rfl ?_ | refine rgoh [] rfl rfl ?_ | refine rgeta (hi := rfl) (kk := ?_) | refine rialda (hi := rfl) (kk := ?_))
  refine rcpy (a := a + 2) (a0 := b + 2) (n := 8) (f := mib) (g := mi) (na := 8) (nb := 8) rfl (by simp (disch := omega) only [am_set_ne]; exact g3) (by simp (disch := omega) only [am_set_ne]; exact h3) (by omega) (by omega) i8 (by omega) (by omega) (by omega) (by decide) ?_
  repeat (first | refine rs [] rfl rfl rfl rfl ?_ | refine rk rfl rfl ?_ | refine rgoh [] rfl rfl ?_ | refine rgeta (hi := rfl) (kk := ?_) | refine rialda (hi := rfl) (kk := ?_))
  refine rputa (hi := rfl) (kk := ?_)
  repeat (first | refine rs [] rfl rfl rfl rfl ?_ | refine rk rfl rfl ?_ | refine rgoh [] rfl rfl ?_ | refine rgeta (hi := rfl) (kk := ?_) | refine rialda (hi := rfl) (kk := ?_))
  refine rputa (hi := rfl) (kk := ?_)
  repeat (first | refine rs [] rfl rfl rfl rfl ?_ | refine rk rfl rfl ?_ | refine rgoh [] rfl rfl ?_ | refine rgeta (hi := rfl) (kk := ?_) | refine rialda (hi := rfl) (kk := ?_))
  refine rputa (hi := rfl) (kk := ?_)
  repeat (first | refine rs [] rfl rfl rfl rfl ?_ | refine rk rfl rfl ?_ | refine rgoh [] rfl rfl ?_ | refine rgeta (hi := rfl) (kk := ?_) | refine rialda (hi := rfl) (kk := ?_))
  refine rputa (hi := rfl) (kk := ?_)
  repeat (first | refine rs [] rfl rfl rfl rfl ?_ | refine rk rfl rfl ?_ | refine rgoh [] rfl rfl ?_ | refine rgeta (hi := rfl) (kk := ?_) | refine rialda (hi := rfl) (kk := ?_))
  refine rputa (hi := rfl) (kk := ?_)
  refine rret rfl rfl ?_
  refine ⟨rfl, ⟨va_cpy whb wh 0 0 8, va_cpy mib mi 0 0 8, feb, flb, ?_, ?_, ?_, fun p hp => ?_⟩, ?_⟩
  · simp (disch := omega) only [am_set_ne, am_set_eq]
    rfl
  · simp (disch := omega) only [am_set_ne, am_set_eq]
  · simp (disch := omega) only [am_set_ne, am_set_eq]
  · rw [cpy8 (by omega), cpy8 (by omega)]
    exact g4 p hp
  · exact fr_set (fr_set (fr_set (fr_set (fr_set (fr_set (fr_set fr_rf (by omega) (by omega)) (by omega) (by omega)) (by omega) (by omega)) (by omega) (by omega)) (by omega) (by omega)) (by omega) (by omega)) (by omega) (by omega)
/-! the latest deeds, in a ring -/
def cDd (P : Nat) (dd : List Sc) (h : am_H) : Prop := ∃ (fi : Nat) (f : Nat → Option Nat), fi < 30 ∧ dd.length ≤ 30 ∧ h.1 21 = .inr (1, [.ref 22, .int (nI fi), .int (nI dd.length)]) ∧ h.1 22 = .inl (.object "SpiteLine$Scene", 30, .inr (.inr (.inr (.inr f)))) ∧ (∀ i, i < 30 → f i = some (23 + 3 * i)) ∧ (∀ i, i < 30 → cRaw (23 + 3 * i) h) ∧ ∀ j S, dd[j]? = some S → cSc P (23 + 3 * ((fi + j) % 30)) S h
theorem cDd.fr {P lo hi : Nat} {dd : List Sc} {h h' : am_H} (f : am_fr lo hi h h') (hd : 113 ≤ lo ∨ hi ≤ 21) (q : cDd P dd h) : cDd P dd h' := by
  obtain ⟨fi, g, q1, q2, q3, q4, q5, q6, q7⟩ := q
  exact ⟨fi, g, q1, q2, by rw [f.2 _ (by omega)]; exact q3, by rw [f.2 _ (by omega)]; exact q4, q5, fun i hi => (q6 i hi).fr f (by omega), fun j S hS => (q7 j S hS).fr f (by omega)⟩
def dnote (dd : List Sc) (S : Sc) : List Sc := (if dd.length = 30 then dd.tail else dd) ++ [S]
theorem i30 : (30 : Int32) = nI 30 := by decide
theorem i1 : (1 : Int32) = nI 1 := by decide
theorem rem30 {n : Nat} (h : n < 2 ^ 31) : nI n - nI n / 30 * 30 = nI (n % 30) := by
  rw [i30]
  exact pk_rem h (by omega) (by omega)
set_option maxHeartbeats 1000000 in
theorem c_note {P : Nat} {S : Sc} {dd : List Sc} {h : am_H} (hD : cDd P dd h) (hb : cSc P 14 S h) (hP : P ≤ 8) : am_T M_Deeds_note [.ref 21, .ref 14] h (fun r h' => r = none ∧ cDd P (dnote dd S) h' ∧ am_fr 21 113 h h') := by
  obtain ⟨fi, f, q1, q2, q3, q4, q5, q6, q7⟩ := hD
  have hk : (fi + dd.length) % 30 < 30 := Nat.mod_lt _ (by omega)
  (try unfold am_E); unfold am_T
  repeat (first | refine rs [] rfl rfl rfl rfl ?_ | refine rk rfl rfl ?_ | refine rgoh [] rfl rfl ?_ | refine rgeta (hi := rfl) (kk := ?_) | refine rialda (hi := rfl) (kk := ?_))
  refine raald rfl q4 (Or.inl rfl) ((fi + dd.length) % 30) hk (by omega) (by rw [nI_add]; exact rem30 (by omega)) (q5 _ hk) ?_
  repeat (first | refine rs [] rfl rfl rfl rfl ?_ | refine rk rfl rfl ?_ | refine rgoh [] rfl rfl ?_ | refine rgeta (hi := rfl) (kk := ?_) | refine rialda (hi := rfl) (kk := ?_))
  obtain ⟨u1, u2, u3, u4, u5, u6, u7, hx, u8⟩ := q6 _ hk
  refine rcvt rfl rfl rfl rfl rfl hx rfl (c_takeFrom (q6 _ hk) hb hP (by omega) (by omega) (by omega)) ?_
  rintro r h1 ⟨rfl, g1, g2⟩
  have e21 : h1.1 21 = .inr (1, [.ref 22, .int (nI fi), .int (nI dd.length)]) := by rw [g2.2 _ (by omega)]; exact q3
  have e22 : h1.1 22 = .inl (.object "SpiteLine$Scene", 30, .inr (.inr (.inr (.inr f)))) := by rw [g2.2 _ (by omega)]; exact q4
  have e6 : ∀ i, i < 30 → cRaw (23 + 3 * i) h1 := by
    intro i hi
    by_cases e : i = (fi + dd.length) % 30
    · rw [e]
      exact g1.raw
    · exact (q6 i hi).fr g2 (by omega)
  have e7 : ∀ j S', dd[j]? = some S' → (fi + j) % 30 ≠ (fi + dd.length) % 30 → cSc P (23 + 3 * ((fi + j) % 30)) S' h1 := by
    intro j S' hj hne
    exact (q7 j S' hj).fr g2 (by omega)
  show am_R M_Deeds_note (12, _, []) h1 _
  repeat (first | refine rs [] rfl rfl rfl rfl ?_ | refine rk rfl rfl ?_ | refine rgoh [] rfl rfl ?_ | refine rgeta (hi := rfl) (kk := ?_) | refine rialda (hi := rfl) (kk := ?_))
  (first | refine rif rfl rfl (fun c1 => ?_) (fun c1 => ?_) | refine ric rfl rfl (fun c1 => ?_) (fun c1 => ?_))
  · -- full
    have hfull : dd.length = 30 := by
      rw [i30, nI_leI (by omega) (by omega)] at c1
      omega
    repeat (first | refine rs [] rfl rfl rfl rfl ?_ | refine rk rfl rfl ?_ | refine rgoh [] rfl rfl ?_ | refine rgeta (hi := rfl) (kk := ?_) | refine rialda (hi := rfl) (kk := ?_))
    refine rputa (hi := rfl) (kk := ?_)
    repeat (first | refine rs [] rfl rfl rfl rfl ?_ | refine rk rfl rfl ?_ | refine rgoh [] rfl rfl ?_ | refine rgeta (hi := rfl) (kk := ?_) | refine rialda (hi := rfl) (kk := ?_))
    refine rret rfl rfl ?_
    have fr2 : am_fr 21 113 h (am_set h1 21 (.inr (1, [.ref 22, .int (nI ((fi + 1) % 30)), .int (nI dd.length)]))) := fr_set (fr_wd g2 (by omega) (by omega)) (by omega) (by omega)
    have e1 : nI fi + 1 - (nI fi + 1) / 30 * 30 = nI ((fi + 1) % 30) := by
      rw [nI_1]
      exact rem30 (by omega)
    have e2 : ([Value.ref 22, .int (nI fi), .int (nI dd.length)].set 1 (.int (nI fi + 1 - (nI fi + 1) / 30 * 30))) = [Value.ref 22, .int (nI ((fi + 1) % 30)), .int (nI dd.length)] := by
      rw [e1]
      rfl
    refine ⟨rfl, ?_, ?_⟩
    · have hl : (dnote dd S).length = dd.length := by
        unfold dnote
        rw [if_pos hfull, List.length_append, List.length_tail, List.length_singleton]
        omega
      refine ⟨(fi + 1) % 30, f, Nat.mod_lt _ (by omega), by omega, ?_, ?_, q5, fun i hi => ?_, fun j S' hj => ?_⟩
      · rw [am_set_eq, hl]
        exact congrArg (fun z => Sum.inr (1, z)) e2
      · rw [am_set_ne (by omega)]
        exact e22
      · exact (e6 i hi).fr (fr_set (lo := 21) (hi := 22) fr_rf (by omega) (by omega)) (by omega)
      · have hjl : j < (dnote dd S).length := (List.getElem?_eq_some_iff.mp hj).1
        refine cSc.fr (lo := 21) (hi := 22) (h := h1) (fr_set fr_rf (by omega) (by omega)) (by omega) ?_
        unfold dnote at hj
        rw [if_pos hfull] at hj
        by_cases e : j = 29
        · subst e
          rw [List.getElem?_append_right (by rw [List.length_tail]; omega)] at hj
          rw [List.length_tail, hfull] at hj
          cases hj
          rw [show ((fi + 1) % 30 + 29) % 30 = (fi + dd.length) % 30 by omega]
          exact g1
        · rw [List.getElem?_append_left (by rw [List.length_tail]; omega), List.getElem?_tail] at hj
          have := e7 (j + 1) S' hj (by omega)
          rw [show ((fi + 1) % 30 + j) % 30 = (fi + (j + 1)) % 30 by omega]
          exact this
    · exact fr_set (fr_wd g2 (by omega) (by omega)) (by omega) (by omega)
  · have hnf : dd.length < 30 := by
      rw [i30, nI_leI (by omega) (by omega)] at c1
      omega
    repeat (first | refine rs [] rfl rfl rfl rfl ?_ | refine rk rfl rfl ?_ | refine rgoh [] rfl rfl ?_ | refine rgeta (hi := rfl) (kk := ?_) | refine rialda (hi := rfl) (kk := ?_))
    refine rputa (hi := rfl) (kk := ?_)
    repeat (first | refine rs [] rfl rfl rfl rfl ?_ | refine rk rfl rfl ?_ | refine rgoh [] rfl rfl ?_ | refine rgeta (hi := rfl) (kk := ?_) | refine rialda (hi := rfl) (kk := ?_))
    refine rret rfl rfl ?_
    have e2 : ([Value.ref 22, .int (nI fi), .int (nI dd.length)].set 2 (.int (nI dd.length + 1))) = [Value.ref 22, .int (nI fi), .int (nI (dd.length + 1))] := by
      rw [nI_1]
      rfl
    have hd : dnote dd S = dd ++ [S] := by
      unfold dnote
      rw [if_neg (by omega)]
    refine ⟨rfl, ?_, ?_⟩
    · rw [hd]
      refine ⟨fi, f, q1, by rw [List.length_append]; simp; omega, ?_, ?_, q5, fun i hi => ?_, fun j S' hj => ?_⟩
      · rw [am_set_eq, List.length_append]
        exact congrArg (fun z => Sum.inr (1, z)) e2
      · rw [am_set_ne (by omega)]
        exact e22
      · exact (e6 i hi).fr (fr_set (lo := 21) (hi := 22) fr_rf (by omega) (by omega)) (by omega)
      · refine cSc.fr (lo := 21) (hi := 22) (h := h1) (fr_set fr_rf (by omega) (by omega)) (by omega) ?_
        by_cases e : j < dd.length
        · rw [List.getElem?_append_left e] at hj
          exact e7 j S' hj (by omega)
        · rw [List.getElem?_append_right (by omega)] at hj
          have h0 : j - dd.length < 1 := (List.getElem?_eq_some_iff.mp hj).1
          rw [show j - dd.length = 0 by omega] at hj
          cases hj
          rw [show j = dd.length by omega]
          exact g1
    · exact fr_set (fr_wd g2 (by omega) (by omega)) (by omega) (by omega)
