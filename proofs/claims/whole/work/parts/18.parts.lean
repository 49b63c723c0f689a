/-! the class's parts: undoing, draws, the text, the book -/
set_option maxHeartbeats 1000000 in
theorem c_takeBack {P n : Nat} {S : Sc} {dd : List Sc} {h : am_H} {x : Int32} (hx : x = nI n) (hn1 : 1 ≤ n) (hn : n ≤ dd.length) (hS : dd[dd.length - n]? = some S) (hD : cDd P dd h) (hb : cRaw 14 h) (hP : P ≤ 8) : am_T M_Deeds_takeBack [.ref 21, .int x, .ref 14] h (fun r h' => r = some (.int 1) ∧ cDd P (dd.take (dd.length - n)) h' ∧ cSc P 14 S h' ∧ am_fr 14 113 h h' ∧ ∀ k, 17 ≤ k → k < 21 → h'.1 k = h.1 k) := by
  subst hx
  obtain ⟨fi, f, q1, q2, q3, q4, q5, q6, q7⟩ := hD
  have hk : (fi + (dd.length - n)) % 30 < 30 := Nat.mod_lt _ (by omega)
  have hsub : nI dd.length - nI n = nI (dd.length - n) := pk_sub hn
  (try unfold am_E); unfold am_T
  repeat (first | refine rs [] rfl rfl rfl rfl ?_ | refine rk rfl rfl ?_ | refine rgoh [] rfl rfl ?_ | refine rgeta (hi := rfl) (kk := ?_) | refine rialda (hi := rfl) (kk := ?_))
  (first | refine rif rfl rfl (fun c1 => ?_) (fun c1 => ?_) | refine ric rfl rfl (fun c1 => ?_) (fun c1 => ?_))
  · exfalso
    rw [i1, nI_ltI (by omega) (by omega)] at c1
    omega
  · repeat (first | refine rs [] rfl rfl rfl rfl ?_ | refine rk rfl rfl ?_ | refine rgoh [] rfl rfl ?_ | refine rgeta (hi := rfl) (kk := ?_) | refine rialda (hi := rfl) (kk := ?_))
    (first | refine rif rfl rfl (fun c2 => ?_) (fun c2 => ?_) | refine ric rfl rfl (fun c2 => ?_) (fun c2 => ?_))
    · repeat (first | refine rs [] rfl rfl rfl rfl ?_ | refine rk rfl rfl ?_ | refine rgoh [] rfl rfl ?_ | refine rgeta (hi := rfl) (kk := ?_) | refine rialda (hi := rfl) (kk := ?_))
      refine rputa (hi := rfl) (kk := ?_)
      repeat (first | refine rs [] rfl rfl rfl rfl ?_ | refine rk rfl rfl ?_ | refine rgoh [] rfl rfl ?_ | refine rgeta (hi := rfl) (kk := ?_) | refine rialda (hi := rfl) (kk := ?_))
      refine raald rfl (by simp (disch := omega) only [am_set_ne]; exact q4) (Or.inl rfl) ((fi + (dd.length - n)) % 30) hk (by omega) (by rw [hsub, nI_add]; exact rem30 (by omega)) (q5 _ hk) ?_
      have fr1 : am_fr 21 22 h (am_set h 21 (.inr (1, [Value.ref 22, .int (nI fi), .int (nI dd.length)].set 2 (.int (nI dd.length - nI n))))) := fr_set fr_rf (by omega) (by omega)
      obtain ⟨u1, u2, u3, u4, u5, u6, u7, hx, u8⟩ := id hb
      refine rcvt rfl rfl rfl rfl rfl (by rw [am_set_ne (by omega)]; exact hx) rfl (c_takeFrom (hb.fr fr1 (by omega)) ((q7 _ S hS).fr fr1 (by omega)) hP (by omega) (by omega) (by omega)) ?_
      rintro r h1 ⟨rfl, g1, g2⟩
      show am_R M_Deeds_takeBack (27, _, []) h1 _
      repeat (first | refine rs [] rfl rfl rfl rfl ?_ | refine rk rfl rfl ?_ | refine rgoh [] rfl rfl ?_ | refine rgeta (hi := rfl) (kk := ?_) | refine rialda (hi := rfl) (kk := ?_))
      refine rret rfl rfl ?_
      have fr2 : am_fr 14 113 h h1 := fr_tr (fr_wd fr1 (lo := 14) (hi := 113) (by omega) (by omega)) g2 (by omega) (by omega)
      refine ⟨rfl, ?_, g1, fr2, ?_⟩
      · have hl : (dd.take (dd.length - n)).length = dd.length - n := by rw [List.length_take]; omega
        refine ⟨fi, f, q1, by omega, ?_, ?_, q5, fun i hi => ?_, fun j S' hj => ?_⟩
        · rw [g2.2 _ (by omega), am_set_eq, hl, hsub]
          rfl
        · rw [g2.2 _ (by omega), am_set_ne (by omega)]
          exact q4
        · exact ((q6 i hi).fr fr1 (by omega)).fr g2 (by omega)
        · have hjl : j < (dd.take (dd.length - n)).length := (List.getElem?_eq_some_iff.mp hj).1
          rw [List.getElem?_take_of_lt (by omega)] at hj
          exact ((q7 j S' hj).fr fr1 (by omega)).fr g2 (by omega)
      · intro k k1 k2
        rw [g2.2 _ (by omega), am_set_ne (by omega)]
    · exfalso
      rw [nI_leI (by omega) (by omega)] at c2
      omega
theorem c_takeBackN {P n : Nat} {dd : List Sc} {h : am_H} {x : Int32} {v : Value} (hx : x = nI n) (hn31 : n < 2 ^ 31) (hn : dd.length < n) (hD : cDd P dd h) (hv : am_isL v = false) : am_E M_Deeds_takeBack [.ref 21, .int x, v] h (some (.int 0)) h := by
  subst hx
  obtain ⟨fi, f, q1, q2, q3, q4, q5, q6, q7⟩ := hD
  (try unfold am_E); unfold am_T
  repeat (first | refine rs [] rfl rfl rfl rfl ?_ | refine rk rfl rfl ?_ | refine rgoh [] rfl rfl ?_ | refine rgeta (hi := rfl) (kk := ?_) | refine rialda (hi := rfl) (kk := ?_))
  (first | refine rif rfl rfl (fun c1 => ?_) (fun c1 => ?_) | refine ric rfl rfl (fun c1 => ?_) (fun c1 => ?_))
  · repeat (first | refine rs [] rfl rfl rfl rfl ?_ | refine rk rfl rfl ?_ | refine rgoh [] rfl rfl ?_ | refine rgeta (hi := rfl) (kk := ?_) | refine rialda (hi := rfl) (kk := ?_))
    refine rret rfl rfl ?_
    exact ⟨rfl, rfl⟩
  · repeat (first | refine rs [] rfl rfl rfl rfl ?_ | refine rk rfl rfl ?_ | refine rgoh [] rfl rfl ?_ | refine rgeta (hi := rfl) (kk := ?_) | refine rialda (hi := rfl) (kk := ?_))
    (first | refine rif rfl rfl (fun c2 => ?_) (fun c2 => ?_) | refine ric rfl rfl (fun c2 => ?_) (fun c2 => ?_))
    · exfalso
      rw [nI_leI (by omega) (by omega)] at c2
      omega
    · repeat (first | refine rs [] rfl rfl rfl rfl ?_ | refine rk rfl rfl ?_ | refine rgoh [] rfl rfl ?_ | refine rgeta (hi := rfl) (kk := ?_) | refine rialda (hi := rfl) (kk := ?_))
      refine rret rfl rfl ?_
      exact ⟨rfl, rfl⟩
/-! draws -/
def lcg (sd : Int32) : Int32 := ((sd.toInt64 * 1103515245 + 12345) &&& 2147483647).toInt32
def drw (sd : Int32) (n : Int32) : Int32 := lcg sd / 65536 - lcg sd / 65536 / n * n
theorem c_next {h : am_H} {sd : Int32} {n : Nat} (h0 : 0 < n) (hn : n < 2 ^ 31) (hd : h.1 120 = .inr (2, [.int sd])) : am_E M_Draws_next [.ref 120, .int (nI n)] h (some (.int (drw sd (nI n)))) (am_set h 120 (.inr (2, [.int (lcg sd)]))) := by
  (try unfold am_E); unfold am_T
  repeat (first | refine rs [] rfl rfl rfl rfl ?_ | refine rk rfl rfl ?_ | refine rgoh [] rfl rfl ?_ | refine rgeta (hi := rfl) (kk := ?_) | refine rialda (hi := rfl) (kk := ?_))
  refine rputa (hi := rfl) (kk := ?_)
  repeat (first | refine rs [] rfl rfl rfl rfl ?_ | refine rk rfl rfl ?_ | refine rgoh [] rfl rfl ?_ | refine rgeta (hi := rfl) (kk := ?_) | refine rialda (hi := rfl) (kk := ?_))
  (first | refine rif rfl rfl (fun c1 => ?_) (fun c1 => ?_) | refine ric rfl rfl (fun c1 => ?_) (fun c1 => ?_))
  · exact absurd c1 (nI_nle h0 hn)
  · repeat (first | refine rs [] rfl rfl rfl rfl ?_ | refine rk rfl rfl ?_ | refine rgoh [] rfl rfl ?_ | refine rgeta (hi := rfl) (kk := ?_) | refine rialda (hi := rfl) (kk := ?_))
    refine rirem rfl (nI_ne0 h0 hn) ?_
    repeat (first | refine rs [] rfl rfl rfl rfl ?_ | refine rk rfl rfl ?_ | refine rgoh [] rfl rfl ?_ | refine rgeta (hi := rfl) (kk := ?_) | refine rialda (hi := rfl) (kk := ?_))
    refine rret rfl rfl ?_
    exact ⟨rfl, rfl⟩
/-! the text -/
def cTx (len : Nat) (tx : Nat → Int32) (h : am_H) : Prop := len ≤ 200 ∧ h.1 2 = .inr (7, [.ref 3, .int (nI len)]) ∧ h.1 3 = .inl (.int, 200, .inl tx)
theorem i200 : (200 : Int32) = nI 200 := by decide
theorem c_Tadd {h : am_H} {len : Nat} {tx : Nat → Int32} {c : Int32} (hT : cTx len tx h) (hl : len < 200) : am_E M_Text_add [.ref 2, .int c] h (some (.int 1)) (am_set (am_set h 3 (.inl (.int, 200, .inl (upd tx len c)))) 2 (.inr (7, [.ref 3, .int (nI (len + 1))]))) := by
  obtain ⟨h1, h2, h3⟩ := hT
  (try unfold am_E); unfold am_T
  repeat (first | refine rs [] rfl rfl rfl rfl ?_ | refine rk rfl rfl ?_ | refine rgoh [] rfl rfl ?_ | refine rgeta (hi := rfl) (kk := ?_) | refine rialda (hi := rfl) (kk := ?_))
  (first | refine rif rfl rfl (fun c1 => ?_) (fun c1 => ?_) | refine ric rfl rfl (fun c1 => ?_) (fun c1 => ?_))
  · exact absurd c1 (nI_pos (by omega))
  · repeat (first | refine rs [] rfl rfl rfl rfl ?_ | refine rk rfl rfl ?_ | refine rgoh [] rfl rfl ?_ | refine rgeta (hi := rfl) (kk := ?_) | refine rialda (hi := rfl) (kk := ?_))
    (first | refine rif rfl rfl (fun c2 => ?_) (fun c2 => ?_) | refine ric rfl rfl (fun c2 => ?_) (fun c2 => ?_))
    · repeat (first | refine rs [] rfl rfl rfl rfl ?_ | refine rk rfl rfl ?_ | refine rgoh [] rfl rfl ?_ | refine rgeta (hi := rfl) (kk := ?_) | refine rialda (hi := rfl) (kk := ?_))
      refine riasta (hi := rfl) (kk := ?_)
      repeat (first | refine rs [] rfl rfl rfl rfl ?_ | refine rk rfl rfl ?_ | refine rgoh [] rfl rfl ?_ | refine rgeta (hi := rfl) (kk := ?_) | refine rialda (hi := rfl) (kk := ?_))
      refine rputa (hi := rfl) (kk := ?_)
      repeat (first | refine rs [] rfl rfl rfl rfl ?_ | refine rk rfl rfl ?_ | refine rgoh [] rfl rfl ?_ | refine rgeta (hi := rfl) (kk := ?_) | refine rialda (hi := rfl) (kk := ?_))
      refine rret rfl rfl ?_
      refine ⟨rfl, ?_⟩
      rw [← nI_1]
      rfl
    · exfalso
      rw [i200, nI_ltI (by omega) (by omega)] at c2
      omega
theorem c_TaddF {h : am_H} {len : Nat} {tx : Nat → Int32} {c : Int32} (hT : cTx len tx h) (hl : len = 200) : am_E M_Text_add [.ref 2, .int c] h (some (.int 0)) h := by
  obtain ⟨h1, h2, h3⟩ := hT
  (try unfold am_E); unfold am_T
  repeat (first | refine rs [] rfl rfl rfl rfl ?_ | refine rk rfl rfl ?_ | refine rgoh [] rfl rfl ?_ | refine rgeta (hi := rfl) (kk := ?_) | refine rialda (hi := rfl) (kk := ?_))
  (first | refine rif rfl rfl (fun c1 => ?_) (fun c1 => ?_) | refine ric rfl rfl (fun c1 => ?_) (fun c1 => ?_))
  · exact absurd c1 (nI_pos (by omega))
  · repeat (first | refine rs [] rfl rfl rfl rfl ?_ | refine rk rfl rfl ?_ | refine rgoh [] rfl rfl ?_ | refine rgeta (hi := rfl) (kk := ?_) | refine rialda (hi := rfl) (kk := ?_))
    (first | refine rif rfl rfl (fun c2 => ?_) (fun c2 => ?_) | refine ric rfl rfl (fun c2 => ?_) (fun c2 => ?_))
    · exfalso
      rw [i200, nI_ltI (by omega) (by omega)] at c2
      omega
    · repeat (first | refine rs [] rfl rfl rfl rfl ?_ | refine rk rfl rfl ?_ | refine rgoh [] rfl rfl ?_ | refine rgeta (hi := rfl) (kk := ?_) | refine rialda (hi := rfl) (kk := ?_))
      refine rret rfl rfl ?_
      exact ⟨rfl, rfl⟩
/-- the letter at i, or NONE -/
def ltr (len : Nat) (tx : Nat → Int32) (i : Nat) : Int32 := if i < len then tx i else -1
theorem c_letterAt {h : am_H} {len i : Nat} {tx : Nat → Int32} {x : Int32} (hT : cTx len tx h) (hx : x = nI i) (hi : i < 2 ^ 31) : am_E M_Text_letterAt [.ref 2, .int x] h (some (.int (ltr len tx i))) h := by
  subst hx
  obtain ⟨h1, h2, h3⟩ := hT
  (try unfold am_E); unfold am_T
  repeat (first | refine rs [] rfl rfl rfl rfl ?_ | refine rk rfl rfl ?_ | refine rgoh [] rfl rfl ?_ | refine rgeta (hi := rfl) (kk := ?_) | refine rialda (hi := rfl) (kk := ?_))
  (first | refine rif rfl rfl (fun c1 => ?_) (fun c1 => ?_) | refine ric rfl rfl (fun c1 => ?_) (fun c1 => ?_))
  · exact absurd c1 (nI_pos (by omega))
  · repeat (first | refine rs [] rfl rfl rfl rfl ?_ | refine rk rfl rfl ?_ | refine rgoh [] rfl rfl ?_ | refine rgeta (hi := rfl) (kk := ?_) | refine rialda (hi := rfl) (kk := ?_))
    (first | refine rif rfl rfl (fun c2 => ?_) (fun c2 => ?_) | refine ric rfl rfl (fun c2 => ?_) (fun c2 => ?_))
    · repeat (first | refine rs [] rfl rfl rfl rfl ?_ | refine rk rfl rfl ?_ | refine rgoh [] rfl rfl ?_ | refine rgeta (hi := rfl) (kk := ?_) | refine rialda (hi := rfl) (kk := ?_))
      refine rret rfl rfl ?_
      refine ⟨?_, rfl⟩
      unfold ltr
      rw [if_neg ((nI_lt_iff (by omega) (by omega)).mp c2)]
    · have hlt : i < len := by
        rw [nI_leI (by omega) (by omega)] at c2
        omega
      repeat (first | refine rs [] rfl rfl rfl rfl ?_ | refine rk rfl rfl ?_ | refine rgoh [] rfl rfl ?_ | refine rgeta (hi := rfl) (kk := ?_) | refine rialda (hi := rfl) (kk := ?_))
      (first | refine rif rfl rfl (fun c3 => ?_) (fun c3 => ?_) | refine ric rfl rfl (fun c3 => ?_) (fun c3 => ?_))
      · exfalso
        rw [i200, nI_leI (by omega) (by omega)] at c3
        omega
      · repeat (first | refine rs [] rfl rfl rfl rfl ?_ | refine rk rfl rfl ?_ | refine rgoh [] rfl rfl ?_ | refine rgeta (hi := rfl) (kk := ?_) | refine rialda (hi := rfl) (kk := ?_))
        refine rret rfl rfl ?_
        refine ⟨?_, rfl⟩
        unfold ltr
        rw [if_pos hlt]
/-! the book -/
def cBk (bc : Nat) (bw bs : Nat → Int32) (h : am_H) : Prop := bc ≤ 20 ∧ h.1 117 = .inr (0, [.ref 118, .ref 119, .int (nI bc)]) ∧ h.1 118 = .inl (.int, 20, .inl bw) ∧ h.1 119 = .inl (.int, 20, .inl bs)
theorem i20 : (20 : Int32) = nI 20 := by decide
theorem c_Badd {h : am_H} {bc : Nat} {bw bs : Nat → Int32} {p x : Int32} (hB : cBk bc bw bs h) (hl : bc < 20) : am_E M_Book_add [.ref 117, .int p, .int x] h (some (.int 1)) (am_set (am_set (am_set h 118 (.inl (.int, 20, .inl (upd bw bc p)))) 119 (.inl (.int, 20, .inl (upd bs bc x)))) 117 (.inr (0, [.ref 118, .ref 119, .int (nI (bc + 1))]))) := by
  obtain ⟨h1, h2, h3, h4⟩ := hB
  (try unfold am_E); unfold am_T
  repeat (first | refine rs [] rfl rfl rfl rfl ?_ | refine rk rfl rfl ?_ | refine rgoh [] rfl rfl ?_ | refine rgeta (hi := rfl) (kk := ?_) | refine rialda (hi := rfl) (kk := ?_))
  (first | refine rif rfl rfl (fun c1 => ?_) (fun c1 => ?_) | refine ric rfl rfl (fun c1 => ?_) (fun c1 => ?_))
  · exact absurd c1 (nI_pos (by omega))
  · repeat (first | refine rs [] rfl rfl rfl rfl ?_ | refine rk rfl rfl ?_ | refine rgoh [] rfl rfl ?_ | refine rgeta (hi := rfl) (kk := ?_) | refine rialda (hi := rfl) (kk := ?_))
    (first | refine rif rfl rfl (fun c2 => ?_) (fun c2 => ?_) | refine ric rfl rfl (fun c2 => ?_) (fun c2 => ?_))
    · repeat (first | refine rs [] rfl rfl rfl rfl ?_ | refine rk rfl rfl ?_ | refine rgoh [] rfl rfl ?_ | refine rgeta (hi := rfl) (kk := ?_) | refine rialda (hi := rfl) (kk := ?_))
      refine riasta (hi := rfl) (kk := ?_)
      repeat (first | refine rs [] rfl rfl rfl rfl ?_ | refine rk rfl rfl ?_ | refine rgoh [] rfl rfl ?_ | refine rgeta (hi := rfl) (kk := ?_) | refine rialda (hi := rfl) (kk := ?_))
      refine riasta (hi := rfl) (kk := ?_)
      repeat (first | refine rs [] rfl rfl rfl rfl ?_ | refine rk rfl rfl ?_ | refine rgoh [] rfl rfl ?_ | refine rgeta (hi := rfl) (kk := ?_) | refine rialda (hi := rfl) (kk := ?_))
      refine rputa (hi := rfl) (kk := ?_)
      repeat (first | refine rs [] rfl rfl rfl rfl ?_ | refine rk rfl rfl ?_ | refine rgoh [] rfl rfl ?_ | refine rgeta (hi := rfl) (kk := ?_) | refine rialda (hi := rfl) (kk := ?_))
      refine rret rfl rfl ?_
      refine ⟨rfl, ?_⟩
      rw [← nI_1]
      rfl
    · exfalso
      rw [i20, nI_ltI (by omega) (by omega)] at c2
      omega
theorem c_BaddF {h : am_H} {bc : Nat} {bw bs : Nat → Int32} {p x : Int32} (hB : cBk bc bw bs h) (hl : bc = 20) : am_E M_Book_add [.ref 117, .int p, .int x] h (some (.int 0)) h := by
  obtain ⟨h1, h2, h3, h4⟩ := hB
  (try unfold am_E); unfold am_T
  repeat (first | refine rs [] rfl rfl rfl rfl ?_ | refine rk rfl rfl ?_ | refine rgoh [] rfl rfl ?_ | refine rgeta (hi := rfl) (kk := ?_) | refine rialda (hi := rfl) (kk := ?_))
  (first | refine rif rfl rfl (fun c1 => ?_) (fun c1 => ?_) | refine ric rfl rfl (fun c1 => ?_) (fun c1 => ?_))
  · exact absurd c1 (nI_pos (by omega))
  · repeat (first | refine rs [] rfl rfl rfl rfl ?_ | refine rk rfl rfl ?_ | refine rgoh [] rfl rfl ?_ | refine rgeta (hi := rfl) (kk := ?_) | refine rialda (hi := rfl) (kk := ?_))
    (first | refine rif rfl rfl (fun c2 => ?_) (fun c2 => ?_) | refine ric rfl rfl (fun c2 => ?_) (fun c2 => ?_))
    · exfalso
      rw [i20, nI_ltI (by omega) (by omega)] at c2
      omega
    · repeat (first | refine rs [] rfl rfl rfl rfl ?_ | refine rk rfl rfl ?_ | refine rgoh [] rfl rfl ?_ | refine rgeta (hi := rfl) (kk := ?_) | refine rialda (hi := rfl) (kk := ?_))
      refine rret rfl rfl ?_
      exact ⟨rfl, rfl⟩
/-- the first that is so, or NONE -/
def isFst (q : Nat → Prop) (n : Nat) (r : Int32) : Prop := (∃ i, i < n ∧ r = nI i ∧ q i ∧ ∀ k, k < i → ¬ q k) ∨ (r = -1 ∧ ∀ k, k < n → ¬ q k)
theorem isFst_eq {q : Nat → Prop} {n : Nat} {r r' : Int32} (h : isFst q n r) (h' : isFst q n r') : r = r' := by
  rcases h with ⟨i, a1, rfl, a3, a4⟩ | ⟨rfl, a2⟩ <;> rcases h' with ⟨j, b1, rfl, b3, b4⟩ | ⟨rfl, b2⟩
  · rcases Nat.lt_trichotomy i j with g | g | g
    · exact absurd a3 (b4 i g)
    · rw [g]
    · exact absurd b3 (a4 j g)
  · exact absurd a3 (b2 i a1)
  · exact absurd b3 (a2 j b1)
  · rfl
theorem c_firstWrong {h : am_H} {bc P : Nat} {bw bs : Nat → Int32} {wh : Nat → Int32} {mi : Nat} {fe fl fog tr sp : Int32} (hB : cBk bc bw bs h) (hP : P ≤ 8) (hbw : ∀ i, i < bc → ∃ k, k < P ∧ bw i = nI k) (hs : h.1 14 = .inr (6, [.ref 15, .ref mi, .int fe, .int fl, .int fog, .int tr, .int sp])) (hw : h.1 15 = iar wh) : am_T M_Book_firstWrong [.ref 117, .ref 14] h (fun r h' => h' = h ∧ ∃ v, r = some (.int v) ∧ isFst (fun i => wh (bw i).toNatClampNeg ≠ bs i) bc v) := by
  obtain ⟨h1, h2, h3, h4⟩ := hB
  (try unfold am_E); unfold am_T
  repeat (first | refine rs [2] rfl rfl rfl rfl ?_ | refine rk rfl rfl ?_ | refine rgoh [2] rfl rfl ?_ | refine rgeta (hi := rfl) (kk := ?_) | refine rialda (hi := rfl) (kk := ?_))
  refine lup (P := fun i => ∀ x, x = nI i → (∀ k, k < i → ¬ wh (bw k).toNatClampNeg ≠ bs k) → am_R M_Book_firstWrong (2, [.ref 117, .ref 14, .int x], []) h _) bc ?_ ?_ 0 nI_0.symm (fun k hk => absurd hk (by omega))
  · rintro x rfl hq
    repeat (first | refine rs [] rfl rfl rfl rfl ?_ | refine rk rfl rfl ?_ | refine rgoh [] rfl rfl ?_ | refine rgeta (hi := rfl) (kk := ?_) | refine rialda (hi := rfl) (kk := ?_))
    (first | refine rif rfl rfl (fun c1 => ?_) (fun c1 => ?_) | refine ric rfl rfl (fun c1 => ?_) (fun c1 => ?_))
    · repeat (first | refine rs [] rfl rfl rfl rfl ?_ | refine rk rfl rfl ?_ | refine rgoh [] rfl rfl ?_ | refine rgeta (hi := rfl) (kk := ?_) | refine rialda (hi := rfl) (kk := ?_))
      refine rret rfl rfl ?_
      exact ⟨rfl, _, rfl, Or.inr ⟨rfl, hq⟩⟩
    · exact absurd (Int32.le_refl _) c1
  · rintro i hi ih x rfl hq
    obtain ⟨k, hk, hbk⟩ := hbw i hi
    have hcl : (bw i).toNatClampNeg = k := by rw [hbk, nI_clamp (by omega)]
    repeat (first | refine rs [] rfl rfl rfl rfl ?_ | refine rk rfl rfl ?_ | refine rgoh [] rfl rfl ?_ | refine rgeta (hi := rfl) (kk := ?_) | refine rialda (hi := rfl) (kk := ?_))
    (first | refine rif rfl rfl (fun c1 => ?_) (fun c1 => ?_) | refine ric rfl rfl (fun c1 => ?_) (fun c1 => ?_))
    · exact absurd hi ((nI_lt_iff (by omega) (by omega)).mp c1)
    · repeat (first | refine rs [] rfl rfl rfl rfl ?_ | refine rk rfl rfl ?_ | refine rgoh [] rfl rfl ?_ | refine rgeta (hi := rfl) (kk := ?_) | refine rialda (hi := rfl) (kk := ?_))
      (first | refine rif rfl rfl (fun c2 => ?_) (fun c2 => ?_) | refine ric rfl rfl (fun c2 => ?_) (fun c2 => ?_))
      · repeat (first | refine rs [2] rfl rfl rfl rfl ?_ | refine rk rfl rfl ?_ | refine rgoh [2] rfl rfl ?_ | refine rgeta (hi := rfl) (kk := ?_) | refine rialda (hi := rfl) (kk := ?_))
        refine ih _ (nI_succ i).symm (fun k' hk' => ?_)
        rcases Nat.lt_or_ge k' i with g | g
        · exact hq k' g
        · rw [show k' = i by omega, hcl]
          exact fun z => z c2
      · repeat (first | refine rs [] rfl rfl rfl rfl ?_ | refine rk rfl rfl ?_ | refine rgoh [] rfl rfl ?_ | refine rgeta (hi := rfl) (kk := ?_) | refine rialda (hi := rfl) (kk := ?_))
        refine rret rfl rfl ?_
        refine ⟨rfl, _, rfl, Or.inl ⟨i, hi, rfl, ?_, hq⟩⟩
        show wh (bw i).toNatClampNeg ≠ bs i
        rw [hcl]
        exact c2
