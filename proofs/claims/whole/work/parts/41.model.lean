/-! the model's object, its small methods -/
abbrev mO (fed fa ra rf rn rm N G fog P tr sp dm : Int32) (sd : Int64) (um sm em : Int32) : am_C := .inr (10, [.ref 131, .int fed, .int fa, .int ra, .int rf, .int rn, .int rm, .ref 132, .ref 133, .int N, .int G, .int fog, .int P, .int tr, .int sp, .ref 134, .ref 135, .ref 136, .ref 137, .ref 138, .ref 139, .ref 140, .int dm, .ref 141, .long sd, .ref 142, .ref 143, .int um, .ref 144, .int sm, .ref 145, .int em, .ref 146, .ref 147, .ref 148])
section MSmall
variable {h : am_H} {fed fa ra rf rn rm N G fog P tr sp dm um sm em : Int32} {sd : Int64}
theorem w_in {v lo hi : Int32} : am_E M_Mo_in [.int v, .int lo, .int hi] h (some (.int (if v < lo ∨ hi < v then 0 else 1))) h := by
  (try unfold am_E); unfold am_T
  repeat (first | refine rs [] rfl rfl rfl rfl ?_ | refine rk rfl rfl ?_ | refine rgoh [] rfl rfl ?_ | refine rgeta (hi := rfl) (kk := ?_) | refine rialda (hi := rfl) (kk := ?_))
  (first | refine rif rfl rfl (fun c1 => ?_) (fun c1 => ?_) | refine ric rfl rfl (fun c1 => ?_) (fun c1 => ?_))
  · repeat (first | refine rs [] rfl rfl rfl rfl ?_ | refine rk rfl rfl ?_ | refine rgoh [] rfl rfl ?_ | refine rgeta (hi := rfl) (kk := ?_) | refine rialda (hi := rfl) (kk := ?_))
    refine rret rfl rfl ?_
    rw [if_pos (Or.inl c1)]
    exact ⟨rfl, rfl⟩
  · repeat (first | refine rs [] rfl rfl rfl rfl ?_ | refine rk rfl rfl ?_ | refine rgoh [] rfl rfl ?_ | refine rgeta (hi := rfl) (kk := ?_) | refine rialda (hi := rfl) (kk := ?_))
    (first | refine rif rfl rfl (fun c2 => ?_) (fun c2 => ?_) | refine ric rfl rfl (fun c2 => ?_) (fun c2 => ?_))
    · repeat (first | refine rs [] rfl rfl rfl rfl ?_ | refine rk rfl rfl ?_ | refine rgoh [] rfl rfl ?_ | refine rgeta (hi := rfl) (kk := ?_) | refine rialda (hi := rfl) (kk := ?_))
      refine rret rfl rfl ?_
      rw [if_pos (Or.inr c2)]
      exact ⟨rfl, rfl⟩
    · repeat (first | refine rs [] rfl rfl rfl rfl ?_ | refine rk rfl rfl ?_ | refine rgoh [] rfl rfl ?_ | refine rgeta (hi := rfl) (kk := ?_) | refine rialda (hi := rfl) (kk := ?_))
      refine rret rfl rfl ?_
      rw [if_neg (by rintro (a | a); exact c1 a; exact c2 a)]
      exact ⟨rfl, rfl⟩
theorem w_has {x k : Int32} : am_E M_Mo_has [.int x, .int k] h (some (.int (if bitv x k = 1 then 1 else 0))) h := by
  (try unfold am_E); unfold am_T
  repeat (first | refine rs [] rfl rfl rfl rfl ?_ | refine rk rfl rfl ?_ | refine rgoh [] rfl rfl ?_ | refine rgeta (hi := rfl) (kk := ?_) | refine rialda (hi := rfl) (kk := ?_))
  (first | refine rif rfl rfl (fun c1 => ?_) (fun c1 => ?_) | refine ric rfl rfl (fun c1 => ?_) (fun c1 => ?_))
  · repeat (first | refine rs [] rfl rfl rfl rfl ?_ | refine rk rfl rfl ?_ | refine rgoh [] rfl rfl ?_ | refine rgeta (hi := rfl) (kk := ?_) | refine rialda (hi := rfl) (kk := ?_))
    refine rret rfl rfl ?_
    rw [if_pos (show bitv x k = 1 from c1)]
    exact ⟨rfl, rfl⟩
  · repeat (first | refine rs [] rfl rfl rfl rfl ?_ | refine rk rfl rfl ?_ | refine rgoh [] rfl rfl ?_ | refine rgeta (hi := rfl) (kk := ?_) | refine rialda (hi := rfl) (kk := ?_))
    refine rret rfl rfl ?_
    rw [if_neg (show ¬ bitv x k = 1 from c1)]
    exact ⟨rfl, rfl⟩
theorem in_R {p : Int32} {n : Nat} (hn : n ≤ 8) : (if p < 0 ∨ nI n - 1 < p then (0 : Int32) else 1) = if inR p n then 1 else 0 := by
  by_cases c : p < 0
  · rw [if_pos (Or.inl c), if_neg (fun a => a.1 c)]
  · have e := nI_le1 (p := p) (n := n) (by omega) c
    by_cases d : p < nI n
    · rw [if_neg (by rintro (a | a); exact c a; exact absurd (e.mpr d) (Int32.not_le.mpr a)), if_pos ⟨c, d⟩]
    · rw [if_pos (Or.inr (Int32.not_le.mp (fun a => d (e.mp a)))), if_neg (fun a => d a.2)]
theorem w_isPerson {p : Int32} {n : Nat} (hn : n ≤ 8) (hm : h.1 130 = mO fed fa ra rf rn rm N G fog (nI n) tr sp dm sd um sm em) : am_E M_Mo_isPerson [.ref 130, .int p] h (some (.int (if inR p n then 1 else 0))) h := by
  (try unfold am_E); unfold am_T
  repeat (first | refine rs [] rfl rfl rfl rfl ?_ | refine rk rfl rfl ?_ | refine rgoh [] rfl rfl ?_ | refine rgeta (hi := rfl) (kk := ?_) | refine rialda (hi := rfl) (kk := ?_))
  refine rcss rfl rfl rfl rfl rfl (w_in) ?_
  rw [in_R hn]
  by_cases c : inR p n
  · rw [if_pos c]
    refine rret rfl rfl ?_
    exact ⟨rfl, rfl⟩
  · rw [if_neg c]
    refine rret rfl rfl ?_
    exact ⟨rfl, rfl⟩
theorem w_isStation {p : Int32} {n : Nat} (hn : n ≤ 8) (hm : h.1 130 = mO fed fa ra rf rn rm (nI n) G fog P tr sp dm sd um sm em) : am_E M_Mo_isStation [.ref 130, .int p] h (some (.int (if inR p n then 1 else 0))) h := by
  (try unfold am_E); unfold am_T
  repeat (first | refine rs [] rfl rfl rfl rfl ?_ | refine rk rfl rfl ?_ | refine rgoh [] rfl rfl ?_ | refine rgeta (hi := rfl) (kk := ?_) | refine rialda (hi := rfl) (kk := ?_))
  refine rcss rfl rfl rfl rfl rfl (w_in) ?_
  rw [in_R hn]
  by_cases c : inR p n
  · rw [if_pos c]
    refine rret rfl rfl ?_
    exact ⟨rfl, rfl⟩
  · rw [if_neg c]
    refine rret rfl rfl ?_
    exact ⟨rfl, rfl⟩
theorem w_shows {p : Int32} {k : Nat} {mi fe fl : Nat → Int32} (hp : p = nI k) (hk : k < 8) (hm : h.1 130 = mO fed fa ra rf rn rm N G fog P tr sp dm sd um sm em) (h7 : h.1 137 = iar mi) (h8 : h.1 138 = iar fe) (h9 : h.1 139 = iar fl) : am_E M_Mo_shows [.ref 130, .int p] h (some (.int (mi k + 2 * fe k + 3 * fl k))) h := by
  subst hp
  (try unfold am_E); unfold am_T
  repeat (first | refine rs [] rfl rfl rfl rfl ?_ | refine rk rfl rfl ?_ | refine rgoh [] rfl rfl ?_ | refine rgeta (hi := rfl) (kk := ?_) | refine rialda (hi := rfl) (kk := ?_))
  refine rret rfl rfl ?_
  exact ⟨rfl, rfl⟩
end MSmall
