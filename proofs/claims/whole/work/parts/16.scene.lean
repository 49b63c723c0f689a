/-! the class's Scene -/
def shw (hope : Int32) (mi : Nat → Int32) (fe fl : Int32) (p : Nat) : Int32 := (if bitv hope (nI p) = 1 then 9 else mi p) + 2 * bitv fe (nI p) + 3 * bitv fl (nI p)
/-- whom the guard takes to wait: where -/
def awv (hope G fog fe fl : Int32) (mi f : Nat → Int32) (P : Nat) : Int32 := fo (fun p s => if shw hope mi fe fl p < G + fog then s else s ||| sh1 (f p)) P 0
def stn (hope G fog fe fl : Int32) (mi f : Nat → Int32) (N P : Nat) : Int32 := (sh1 (nI N) - 1) &&& (awv hope G fog fe fl mi f P ^^^ (-1))
def loF (P : Nat) (wa me : Nat → Int32) (x : Int32) (p : Nat) (f : Nat → Int32) : Nat → Int32 := if f p = -1 ∧ wa p = x ∧ ¬ (inR (me p) P ∧ f (me p).toNatClampNeg = x) then upd f p x else f
def tiF (wa : Nat → Int32) (x : Int32) (p : Nat) (f : Nat → Int32) : Nat → Int32 := if f p = x ∧ x < wa p then upd f p (-1) else f
def emF (N : Nat) (p : Nat) (f : Nat → Int32) : Nat → Int32 := if f p = -1 then upd f p (nI N - 1) else f
def stF (P : Nat) (wa me : Nat → Int32) (halts : Int32) (x : Nat) (f : Nat → Int32) : Nat → Int32 := if bitv halts (nI x) = 1 then fo (tiF wa (nI x)) P (fo (loF P wa me (nI x)) P f) else f
def rtF (N P : Nat) (wa me : Nat → Int32) (halts : Int32) (f : Nat → Int32) : Nat → Int32 := fo (emF N) P (fo (stF P wa me halts) N f)
def scW (a w mi l lw lm mt N P : Nat) (G fe fl fog tr sp : Int32) (mif wa me : Nat → Int32) (h : am_H) (f : Nat → Int32) : Prop :=
  h.1 a = .inr (6, [.ref w, .ref mi, .int fe, .int fl, .int fog, .int tr, .int sp]) ∧ h.1 w = iar f ∧ h.1 mi = iar mif ∧ h.1 l = .inr (4, [.int (nI N), .int G, .int (nI P), .ref lw, .ref lm]) ∧ h.1 lw = iar wa ∧ h.1 mt = iar me ∧ (w ≠ a ∧ w ≠ mi ∧ w ≠ l ∧ w ≠ lw ∧ w ≠ mt ∧ w ≠ 0) ∧ N ≤ 8 ∧ P ≤ 8
section CScene
variable {h : am_H} {a w mi l lw lm mt N P : Nat} {G fe fl fog tr sp : Int32} {mif wa me f : Nat → Int32}
theorem scW_set {g : Nat → Int32} (H : scW a w mi l lw lm mt N P G fe fl fog tr sp mif wa me h f) : scW a w mi l lw lm mt N P G fe fl fog tr sp mif wa me (am_set h w (iar g)) g := by
  obtain ⟨h1, h2, h3, h4, h5, h6, ⟨n1, n2, n3, n4, n5, n6⟩, h7, h8⟩ := H
  exact ⟨by rw [am_set_ne (Ne.symm n1)]; exact h1, am_set_eq, by rw [am_set_ne (Ne.symm n2)]; exact h3, by rw [am_set_ne (Ne.symm n3)]; exact h4, by rw [am_set_ne (Ne.symm n4)]; exact h5, by rw [am_set_ne (Ne.symm n5)]; exact h6, ⟨n1, n2, n3, n4, n5, n6⟩, h7, h8⟩
theorem c_shows {p hope : Int32} {k : Nat} (hp : p = nI k) (hk : k < 8) (h1 : h.1 a = .inr (6, [.ref w, .ref mi, .int fe, .int fl, .int fog, .int tr, .int sp])) (h3 : h.1 mi = iar mif) : am_E M_Scene_shows [.ref a, .int p, .int hope] h (some (.int (shw hope mif fe fl k))) h := by
  subst hp
  (try unfold am_E); unfold am_T
  repeat (first | refine rs [] rfl rfl rfl rfl ?_ | refine rk rfl rfl ?_ | refine rgoh [] rfl rfl ?_ | refine rgeta (hi := rfl) (kk := ?_) | refine rialda (hi := rfl) (kk := ?_))
  refine rcss rfl rfl rfl rfl rfl (c_bit) ?_
  repeat (first | refine rs [] rfl rfl rfl rfl ?_ | refine rk rfl rfl ?_ | refine rgoh [] rfl rfl ?_ | refine rgeta (hi := rfl) (kk := ?_) | refine rialda (hi := rfl) (kk := ?_))
  (first | refine rif rfl rfl (fun c1 => ?_) (fun c1 => ?_) | refine ric rfl rfl (fun c1 => ?_) (fun c1 => ?_))
  · repeat (first | refine rs [] rfl rfl rfl rfl ?_ | refine rk rfl rfl ?_ | refine rgoh [] rfl rfl ?_ | refine rgeta (hi := rfl) (kk := ?_) | refine rialda (hi := rfl) (kk := ?_))
    refine rcss rfl rfl rfl rfl rfl (c_bit) ?_
    repeat (first | refine rs [] rfl rfl rfl rfl ?_ | refine rk rfl rfl ?_ | refine rgoh [] rfl rfl ?_ | refine rgeta (hi := rfl) (kk := ?_) | refine rialda (hi := rfl) (kk := ?_))
    refine rcss rfl rfl rfl rfl rfl (c_bit) ?_
    repeat (first | refine rs [] rfl rfl rfl rfl ?_ | refine rk rfl rfl ?_ | refine rgoh [] rfl rfl ?_ | refine rgeta (hi := rfl) (kk := ?_) | refine rialda (hi := rfl) (kk := ?_))
    refine rret rfl rfl ?_
    refine ⟨?_, rfl⟩
    unfold shw
    rw [if_pos c1]
  · repeat (first | refine rs [] rfl rfl rfl rfl ?_ | refine rk rfl rfl ?_ | refine rgoh [] rfl rfl ?_ | refine rgeta (hi := rfl) (kk := ?_) | refine rialda (hi := rfl) (kk := ?_))
    refine rcss rfl rfl rfl rfl rfl (c_bit) ?_
    repeat (first | refine rs [] rfl rfl rfl rfl ?_ | refine rk rfl rfl ?_ | refine rgoh [] rfl rfl ?_ | refine rgeta (hi := rfl) (kk := ?_) | refine rialda (hi := rfl) (kk := ?_))
    refine rcss rfl rfl rfl rfl rfl (c_bit) ?_
    repeat (first | refine rs [] rfl rfl rfl rfl ?_ | refine rk rfl rfl ?_ | refine rgoh [] rfl rfl ?_ | refine rgeta (hi := rfl) (kk := ?_) | refine rialda (hi := rfl) (kk := ?_))
    refine rret rfl rfl ?_
    refine ⟨?_, rfl⟩
    unfold shw
    rw [if_neg c1]
theorem c_alarm {lP : Int32} (h1 : h.1 a = .inr (6, [.ref w, .ref mi, .int fe, .int fl, .int fog, .int tr, .int sp])) (h4 : h.1 l = .inr (4, [.int (nI N), .int G, .int lP, .ref lw, .ref lm])) : am_E M_Scene_alarm [.ref a, .ref l] h (some (.int (G + fog))) h := by
  (try unfold am_E); unfold am_T
  repeat (first | refine rs [] rfl rfl rfl rfl ?_ | refine rk rfl rfl ?_ | refine rgoh [] rfl rfl ?_ | refine rgeta (hi := rfl) (kk := ?_) | refine rialda (hi := rfl) (kk := ?_))
  refine rret rfl rfl ?_
  exact ⟨rfl, rfl⟩
theorem c_awaited {hope : Int32} (H : scW a w mi l lw lm mt N P G fe fl fog tr sp mif wa me h f) : am_E M_Scene_awaited [.ref a, .ref l, .int hope] h (some (.int (awv hope G fog fe fl mif f P))) h := by
  obtain ⟨h1, h2, h3, h4, h5, h6, -, h7, h8⟩ := H
  (try unfold am_E); unfold am_T
  repeat (first | refine rs [4] rfl rfl rfl rfl ?_ | refine rk rfl rfl ?_ | refine rgoh [4] rfl rfl ?_ | refine rgeta (hi := rfl) (kk := ?_) | refine rialda (hi := rfl) (kk := ?_))
  refine lup (P := fun i => ∀ x, x = nI i → am_R M_Scene_awaited (4, [.ref a, .ref l, .int hope, .int (fo (fun p s => if shw hope mif fe fl p < G + fog then s else s ||| sh1 (f p)) i 0), .int x], []) h _) P ?_ ?_ 0 nI_0.symm
  · rintro x rfl
    repeat (first | refine rs [] rfl rfl rfl rfl ?_ | refine rk rfl rfl ?_ | refine rgoh [] rfl rfl ?_ | refine rgeta (hi := rfl) (kk := ?_) | refine rialda (hi := rfl) (kk := ?_))
    (first | refine rif rfl rfl (fun c1 => ?_) (fun c1 => ?_) | refine ric rfl rfl (fun c1 => ?_) (fun c1 => ?_))
    · repeat (first | refine rs [] rfl rfl rfl rfl ?_ | refine rk rfl rfl ?_ | refine rgoh [] rfl rfl ?_ | refine rgeta (hi := rfl) (kk := ?_) | refine rialda (hi := rfl) (kk := ?_))
      refine rret rfl rfl ?_
      exact ⟨rfl, rfl⟩
    · exact absurd (Int32.le_refl _) c1
  · rintro i hi ih x rfl
    repeat (first | refine rs [] rfl rfl rfl rfl ?_ | refine rk rfl rfl ?_ | refine rgoh [] rfl rfl ?_ | refine rgeta (hi := rfl) (kk := ?_) | refine rialda (hi := rfl) (kk := ?_))
    (first | refine rif rfl rfl (fun c1 => ?_) (fun c1 => ?_) | refine ric rfl rfl (fun c1 => ?_) (fun c1 => ?_))
    · exact absurd hi ((nI_lt_iff (by omega) (by omega)).mp c1)
    · repeat (first | refine rs [] rfl rfl rfl rfl ?_ | refine rk rfl rfl ?_ | refine rgoh [] rfl rfl ?_ | refine rgeta (hi := rfl) (kk := ?_) | refine rialda (hi := rfl) (kk := ?_))
      (first | refine rcvs rfl rfl rfl rfl rfl (by first | assumption | (simp (disch := omega) only [am_set_ne, am_set_eq]; first | assumption | rfl)) rfl (c_shows rfl (by omega) h1 h3) ?_ | refine rcvn rfl rfl rfl rfl rfl (by first | assumption | (simp (disch := omega) only [am_set_ne, am_set_eq]; first | assumption | rfl)) rfl (c_shows rfl (by omega) h1 h3) ?_)
      repeat (first | refine rs [] rfl rfl rfl rfl ?_ | refine rk rfl rfl ?_ | refine rgoh [] rfl rfl ?_ | refine rgeta (hi := rfl) (kk := ?_) | refine rialda (hi := rfl) (kk := ?_))
      (first | refine rcvs rfl rfl rfl rfl rfl (by first | assumption | (simp (disch := omega) only [am_set_ne, am_set_eq]; first | assumption | rfl)) rfl (c_alarm h1 h4) ?_ | refine rcvn rfl rfl rfl rfl rfl (by first | assumption | (simp (disch := omega) only [am_set_ne, am_set_eq]; first | assumption | rfl)) rfl (c_alarm h1 h4) ?_)
      (first | refine rif rfl rfl (fun c2 => ?_) (fun c2 => ?_) | refine ric rfl rfl (fun c2 => ?_) (fun c2 => ?_))
      · repeat (first | refine rs [4] rfl rfl rfl rfl ?_ | refine rk rfl rfl ?_ | refine rgoh [4] rfl rfl ?_ | refine rgeta (hi := rfl) (kk := ?_) | refine rialda (hi := rfl) (kk := ?_))
        have := ih _ (nI_succ i).symm
        rw [fo_succ, if_pos c2] at this
        exact this
      · repeat (first | refine rs [4] rfl rfl rfl rfl ?_ | refine rk rfl rfl ?_ | refine rgoh [4] rfl rfl ?_ | refine rgeta (hi := rfl) (kk := ?_) | refine rialda (hi := rfl) (kk := ?_))
        have := ih _ (nI_succ i).symm
        rw [fo_succ, if_neg c2] at this
        exact this
theorem c_stopsOfNext {hope : Int32} (H : scW a w mi l lw lm mt N P G fe fl fog tr sp mif wa me h f) : am_E M_Scene_stopsOfNext [.ref a, .ref l, .int hope] h (some (.int (stn hope G fog fe fl mif f N P))) h := by
  obtain ⟨h1, h2, h3, h4, h5, h6, -, h7, h8⟩ := id H
  (try unfold am_E); unfold am_T
  repeat (first | refine rs [] rfl rfl rfl rfl ?_ | refine rk rfl rfl ?_ | refine rgoh [] rfl rfl ?_ | refine rgeta (hi := rfl) (kk := ?_) | refine rialda (hi := rfl) (kk := ?_))
  (first | refine rcvs rfl rfl rfl rfl rfl (by first | assumption | (simp (disch := omega) only [am_set_ne, am_set_eq]; first | assumption | rfl)) rfl (c_allStations h4) ?_ | refine rcvn rfl rfl rfl rfl rfl (by first | assumption | (simp (disch := omega) only [am_set_ne, am_set_eq]; first | assumption | rfl)) rfl (c_allStations h4) ?_)
  repeat (first | refine rs [] rfl rfl rfl rfl ?_ | refine rk rfl rfl ?_ | refine rgoh [] rfl rfl ?_ | refine rgeta (hi := rfl) (kk := ?_) | refine rialda (hi := rfl) (kk := ?_))
  (first | refine rcvs rfl rfl rfl rfl rfl (by first | assumption | (simp (disch := omega) only [am_set_ne, am_set_eq]; first | assumption | rfl)) rfl (c_awaited H) ?_ | refine rcvn rfl rfl rfl rfl rfl (by first | assumption | (simp (disch := omega) only [am_set_ne, am_set_eq]; first | assumption | rfl)) rfl (c_awaited H) ?_)
  repeat (first | refine rs [] rfl rfl rfl rfl ?_ | refine rk rfl rfl ?_ | refine rgoh [] rfl rfl ?_ | refine rgeta (hi := rfl) (kk := ?_) | refine rialda (hi := rfl) (kk := ?_))
  refine rret rfl rfl ?_
  exact ⟨rfl, rfl⟩
theorem c_hasArrived {p : Int32} {k : Nat} (hp : p = nI k) (hk : k < 8) (H : scW a w mi l lw lm mt N P G fe fl fog tr sp mif wa me h f) : am_E M_Scene_hasArrived [.ref a, .ref l, .int p] h (some (.int (if f k = wa k then 1 else 0))) h := by
  obtain ⟨h1, h2, h3, h4, h5, h6, -, h7, h8⟩ := id H
  (try unfold am_E); unfold am_T
  repeat (first | refine rs [] rfl rfl rfl rfl ?_ | refine rk rfl rfl ?_ | refine rgoh [] rfl rfl ?_ | refine rgeta (hi := rfl) (kk := ?_) | refine rialda (hi := rfl) (kk := ?_))
  (first | refine rif rfl rfl (fun c1 => ?_) (fun c1 => ?_) | refine ric rfl rfl (fun c1 => ?_) (fun c1 => ?_))
  · repeat (first | refine rs [] rfl rfl rfl rfl ?_ | refine rk rfl rfl ?_ | refine rgoh [] rfl rfl ?_ | refine rgeta (hi := rfl) (kk := ?_) | refine rialda (hi := rfl) (kk := ?_))
    refine rret rfl rfl ?_
    exact ⟨by rw [if_pos c1], rfl⟩
  · repeat (first | refine rs [] rfl rfl rfl rfl ?_ | refine rk rfl rfl ?_ | refine rgoh [] rfl rfl ?_ | refine rgeta (hi := rfl) (kk := ?_) | refine rialda (hi := rfl) (kk := ?_))
    refine rret rfl rfl ?_
    exact ⟨by rw [if_neg c1], rfl⟩
def arv (f wa : Nat → Int32) (P : Nat) : Int32 := fo (fun p s => if f p = wa p then s ||| sh1 (nI p) else s) P 0
theorem c_arrived (H : scW a w mi l lw lm mt N P G fe fl fog tr sp mif wa me h f) : am_E M_Scene_arrived [.ref a, .ref l] h (some (.int (arv f wa P))) h := by
  obtain ⟨h1, h2, h3, h4, h5, h6, -, h7, h8⟩ := id H
  (try unfold am_E); unfold am_T
  repeat (first | refine rs [4] rfl rfl rfl rfl ?_ | refine rk rfl rfl ?_ | refine rgoh [4] rfl rfl ?_ | refine rgeta (hi := rfl) (kk := ?_) | refine rialda (hi := rfl) (kk := ?_))
  refine lup (P := fun i => ∀ x, x = nI i → am_R M_Scene_arrived (4, [.ref a, .ref l, .int (fo (fun p s => if f p = wa p then s ||| sh1 (nI p) else s) i 0), .int x], []) h _) P ?_ ?_ 0 nI_0.symm
  · rintro x rfl
    repeat (first | refine rs [] rfl rfl rfl rfl ?_ | refine rk rfl rfl ?_ | refine rgoh [] rfl rfl ?_ | refine rgeta (hi := rfl) (kk := ?_) | refine rialda (hi := rfl) (kk := ?_))
    (first | refine rif rfl rfl (fun c1 => ?_) (fun c1 => ?_) | refine ric rfl rfl (fun c1 => ?_) (fun c1 => ?_))
    · repeat (first | refine rs [] rfl rfl rfl rfl ?_ | refine rk rfl rfl ?_ | refine rgoh [] rfl rfl ?_ | refine rgeta (hi := rfl) (kk := ?_) | refine rialda (hi := rfl) (kk := ?_))
      refine rret rfl rfl ?_
      exact ⟨rfl, rfl⟩
    · exact absurd (Int32.le_refl _) c1
  · rintro i hi ih x rfl
    repeat (first | refine rs [] rfl rfl rfl rfl ?_ | refine rk rfl rfl ?_ | refine rgoh [] rfl rfl ?_ | refine rgeta (hi := rfl) (kk := ?_) | refine rialda (hi := rfl) (kk := ?_))
    (first | refine rif rfl rfl (fun c1 => ?_) (fun c1 => ?_) | refine ric rfl rfl (fun c1 => ?_) (fun c1 => ?_))
    · exact absurd hi ((nI_lt_iff (by omega) (by omega)).mp c1)
    · repeat (first | refine rs [] rfl rfl rfl rfl ?_ | refine rk rfl rfl ?_ | refine rgoh [] rfl rfl ?_ | refine rgeta (hi := rfl) (kk := ?_) | refine rialda (hi := rfl) (kk := ?_))
      (first | refine rcvs rfl rfl rfl rfl rfl (by first | assumption | (simp (disch := omega) only [am_set_ne, am_set_eq]; first | assumption | rfl)) rfl (c_hasArrived rfl (by omega) H) ?_ | refine rcvn rfl rfl rfl rfl rfl (by first | assumption | (simp (disch := omega) only [am_set_ne, am_set_eq]; first | assumption | rfl)) rfl (c_hasArrived rfl (by omega) H) ?_)
      have := ih _ (nI_succ i).symm
      rw [fo_succ] at this
      by_cases c2 : f i = wa i
      · rw [if_pos c2] at this ⊢
        (first | refine rift rfl rfl ?_ | refine riff rfl rfl ?_ | refine rict rfl rfl ?_ | refine ricf rfl rfl ?_)
        repeat (first | refine rs [4] rfl rfl rfl rfl ?_ | refine rk rfl rfl ?_ | refine rgoh [4] rfl rfl ?_ | refine rgeta (hi := rfl) (kk := ?_) | refine rialda (hi := rfl) (kk := ?_))
        exact this
      · rw [if_neg c2] at this ⊢
        (first | refine rift rfl rfl ?_ | refine riff rfl rfl ?_ | refine rict rfl rfl ?_ | refine ricf rfl rfl ?_)
        repeat (first | refine rs [4] rfl rfl rfl rfl ?_ | refine rk rfl rfl ?_ | refine rgoh [4] rfl rfl ?_ | refine rgeta (hi := rfl) (kk := ?_) | refine rialda (hi := rfl) (kk := ?_))
        exact this
def sta (f : Nat → Int32) (x : Int32) (P : Nat) : Int32 := fo (fun p s => if f p = x then s ||| sh1 (nI p) else s) P 0
theorem c_standing {x0 : Int32} (H : scW a w mi l lw lm mt N P G fe fl fog tr sp mif wa me h f) : am_E M_Scene_standing [.ref a, .ref l, .int x0] h (some (.int (sta f x0 P))) h := by
  obtain ⟨h1, h2, h3, h4, h5, h6, -, h7, h8⟩ := id H
  (try unfold am_E); unfold am_T
  repeat (first | refine rs [4] rfl rfl rfl rfl ?_ | refine rk rfl rfl ?_ | refine rgoh [4] rfl rfl ?_ | refine rgeta (hi := rfl) (kk := ?_) | refine rialda (hi := rfl) (kk := ?_))
  refine lup (P := fun i => ∀ x, x = nI i → am_R M_Scene_standing (4, [.ref a, .ref l, .int x0, .int (fo (fun p s => if f p = x0 then s ||| sh1 (nI p) else s) i 0), .int x], []) h _) P ?_ ?_ 0 nI_0.symm
  · rintro x rfl
    repeat (first | refine rs [] rfl rfl rfl rfl ?_ | refine rk rfl rfl ?_ | refine rgoh [] rfl rfl ?_ | refine rgeta (hi := rfl) (kk := ?_) | refine rialda (hi := rfl) (kk := ?_))
    (first | refine rif rfl rfl (fun c1 => ?_) (fun c1 => ?_) | refine ric rfl rfl (fun c1 => ?_) (fun c1 => ?_))
    · repeat (first | refine rs [] rfl rfl rfl rfl ?_ | refine rk rfl rfl ?_ | refine rgoh [] rfl rfl ?_ | refine rgeta (hi := rfl) (kk := ?_) | refine rialda (hi := rfl) (kk := ?_))
      refine rret rfl rfl ?_
      exact ⟨rfl, rfl⟩
    · exact absurd (Int32.le_refl _) c1
  · rintro i hi ih x rfl
    repeat (first | refine rs [] rfl rfl rfl rfl ?_ | refine rk rfl rfl ?_ | refine rgoh [] rfl rfl ?_ | refine rgeta (hi := rfl) (kk := ?_) | refine rialda (hi := rfl) (kk := ?_))
    (first | refine rif rfl rfl (fun c1 => ?_) (fun c1 => ?_) | refine ric rfl rfl (fun c1 => ?_) (fun c1 => ?_))
    · exact absurd hi ((nI_lt_iff (by omega) (by omega)).mp c1)
    · repeat (first | refine rs [] rfl rfl rfl rfl ?_ | refine rk rfl rfl ?_ | refine rgoh [] rfl rfl ?_ | refine rgeta (hi := rfl) (kk := ?_) | refine rialda (hi := rfl) (kk := ?_))
      have := ih _ (nI_succ i).symm
      rw [fo_succ] at this
      (first | refine rif rfl rfl (fun c2 => ?_) (fun c2 => ?_) | refine ric rfl rfl (fun c2 => ?_) (fun c2 => ?_))
      · repeat (first | refine rs [4] rfl rfl rfl rfl ?_ | refine rk rfl rfl ?_ | refine rgoh [4] rfl rfl ?_ | refine rgeta (hi := rfl) (kk := ?_) | refine rialda (hi := rfl) (kk := ?_))
        rw [if_pos c2] at this
        exact this
      · repeat (first | refine rs [4] rfl rfl rfl rfl ?_ | refine rk rfl rfl ?_ | refine rgoh [4] rfl rfl ?_ | refine rgeta (hi := rfl) (kk := ?_) | refine rialda (hi := rfl) (kk := ?_))
        rw [if_neg c2] at this
        exact this
def mxI (x y : Int32) : Int32 := if x < y then y else x
def mos (f : Nat → Int32) (x : Int32) (mif : Nat → Int32) (fe fl : Int32) (P : Nat) : Int32 := fo (fun p s => if f p = x then mxI s (shw 0 mif fe fl p) else s) P 0
theorem c_mostShown {x0 : Int32} (H : scW a w mi l lw lm mt N P G fe fl fog tr sp mif wa me h f) : am_E M_Scene_mostShown [.ref a, .ref l, .int x0] h (some (.int (mos f x0 mif fe fl P))) h := by
  obtain ⟨h1, h2, h3, h4, h5, h6, -, h7, h8⟩ := id H
  (try unfold am_E); unfold am_T
  repeat (first | refine rs [4] rfl rfl rfl rfl ?_ | refine rk rfl rfl ?_ | refine rgoh [4] rfl rfl ?_ | refine rgeta (hi := rfl) (kk := ?_) | refine rialda (hi := rfl) (kk := ?_))
  refine lup (P := fun i => ∀ x, x = nI i → am_R M_Scene_mostShown (4, [.ref a, .ref l, .int x0, .int (fo (fun p s => if f p = x0 then mxI s (shw 0 mif fe fl p) else s) i 0), .int x], []) h _) P ?_ ?_ 0 nI_0.symm
  · rintro x rfl
    repeat (first | refine rs [] rfl rfl rfl rfl ?_ | refine rk rfl rfl ?_ | refine rgoh [] rfl rfl ?_ | refine rgeta (hi := rfl) (kk := ?_) | refine rialda (hi := rfl) (kk := ?_))
    (first | refine rif rfl rfl (fun c1 => ?_) (fun c1 => ?_) | refine ric rfl rfl (fun c1 => ?_) (fun c1 => ?_))
    · repeat (first | refine rs [] rfl rfl rfl rfl ?_ | refine rk rfl rfl ?_ | refine rgoh [] rfl rfl ?_ | refine rgeta (hi := rfl) (kk := ?_) | refine rialda (hi := rfl) (kk := ?_))
      refine rret rfl rfl ?_
      exact ⟨rfl, rfl⟩
    · exact absurd (Int32.le_refl _) c1
  · rintro i hi ih x rfl
    repeat (first | refine rs [] rfl rfl rfl rfl ?_ | refine rk rfl rfl ?_ | refine rgoh [] rfl rfl ?_ | refine rgeta (hi := rfl) (kk := ?_) | refine rialda (hi := rfl) (kk := ?_))
    (first | refine rif rfl rfl (fun c1 => ?_) (fun c1 => ?_) | refine ric rfl rfl (fun c1 => ?_) (fun c1 => ?_))
    · exact absurd hi ((nI_lt_iff (by omega) (by omega)).mp c1)
    · repeat (first | refine rs [] rfl rfl rfl rfl ?_ | refine rk rfl rfl ?_ | refine rgoh [] rfl rfl ?_ | refine rgeta (hi := rfl) (kk := ?_) | refine rialda (hi := rfl) (kk := ?_))
      have := ih _ (nI_succ i).symm
      rw [fo_succ] at this
      (first | refine rif rfl rfl (fun c2 => ?_) (fun c2 => ?_) | refine ric rfl rfl (fun c2 => ?_) (fun c2 => ?_))
      · repeat (first | refine rs [4] rfl rfl rfl rfl ?_ | refine rk rfl rfl ?_ | refine rgoh [4] rfl rfl ?_ | refine rgeta (hi := rfl) (kk := ?_) | refine rialda (hi := rfl) (kk := ?_))
        (first | refine rcvs rfl rfl rfl rfl rfl (by first | assumption | (simp (disch := omega) only [am_set_ne, am_set_eq]; first | assumption | rfl)) rfl (c_shows rfl (by omega) h1 h3) ?_ | refine rcvn rfl rfl rfl rfl rfl (by first | assumption | (simp (disch := omega) only [am_set_ne, am_set_eq]; first | assumption | rfl)) rfl (c_shows rfl (by omega) h1 h3) ?_)
        repeat (first | refine rs [4] rfl rfl rfl rfl ?_ | refine rk rfl rfl ?_ | refine rgoh [4] rfl rfl ?_ | refine rgeta (hi := rfl) (kk := ?_) | refine rialda (hi := rfl) (kk := ?_))
        rw [if_pos c2] at this
        exact this
      · repeat (first | refine rs [4] rfl rfl rfl rfl ?_ | refine rk rfl rfl ?_ | refine rgoh [4] rfl rfl ?_ | refine rgeta (hi := rfl) (kk := ?_) | refine rialda (hi := rfl) (kk := ?_))
        rw [if_neg c2] at this
        exact this
theorem c_letOut {x0 : Int32} (H : scW a w mi l lw lm mt N P G fe fl fog tr sp mif wa me h f) : am_E M_Scene_letOut [.ref a, .ref l, .ref mt, .int x0] h none (am_set h w (iar (fo (loF P wa me x0) P f))) := by
  (try unfold am_E); unfold am_T
  repeat (first | refine rs [2] rfl rfl rfl rfl ?_ | refine rk rfl rfl ?_ | refine rgoh [2] rfl rfl ?_ | refine rgeta (hi := rfl) (kk := ?_) | refine rialda (hi := rfl) (kk := ?_))
  rw [← am_set_self H.2.1]
  refine lup (P := fun i => ∀ x, x = nI i → ∀ v5 v6, am_R M_Scene_letOut (2, [.ref a, .ref l, .ref mt, .int x0, .int x, v5, v6], []) (am_set h w (iar (fo (loF P wa me x0) i f))) _) P ?_ ?_ 0 nI_0.symm _ _
  · rintro x rfl v5 v6
    obtain ⟨h1, h2, h3, h4, h5, h6, -, h7, h8⟩ := scW_set (g := fo (loF P wa me x0) P f) H
    repeat (first | refine rs [] rfl rfl rfl rfl ?_ | refine rk rfl rfl ?_ | refine rgoh [] rfl rfl ?_ | refine rgeta (hi := rfl) (kk := ?_) | refine rialda (hi := rfl) (kk := ?_))
    (first | refine rif rfl rfl (fun c1 => ?_) (fun c1 => ?_) | refine ric rfl rfl (fun c1 => ?_) (fun c1 => ?_))
    · repeat (first | refine rs [] rfl rfl rfl rfl ?_ | refine rk rfl rfl ?_ | refine rgoh [] rfl rfl ?_ | refine rgeta (hi := rfl) (kk := ?_) | refine rialda (hi := rfl) (kk := ?_))
      refine rret rfl rfl ?_
      exact ⟨rfl, by rw [am_set_self H.2.1]⟩
    · exact absurd (Int32.le_refl _) c1
  · rintro i hi ih x rfl v5 v6
    obtain ⟨h1, h2, h3, h4, h5, h6, ⟨-, -, -, -, -, hw0⟩, h7, h8⟩ := scW_set (g := fo (loF P wa me x0) i f) H
    have ih := ih _ (nI_succ i).symm
    rw [fo_succ] at ih
    generalize hg : fo (loF P wa me x0) i f = g at *
    repeat (first | refine rs [] rfl rfl rfl rfl ?_ | refine rk rfl rfl ?_ | refine rgoh [] rfl rfl ?_ | refine rgeta (hi := rfl) (kk := ?_) | refine rialda (hi := rfl) (kk := ?_))
    (first | refine rif rfl rfl (fun c1 => ?_) (fun c1 => ?_) | refine ric rfl rfl (fun c1 => ?_) (fun c1 => ?_))
    · exact absurd hi ((nI_lt_iff (by omega) (by omega)).mp c1)
    · repeat (first | refine rs [] rfl rfl rfl rfl ?_ | refine rk rfl rfl ?_ | refine rgoh [] rfl rfl ?_ | refine rgeta (hi := rfl) (kk := ?_) | refine rialda (hi := rfl) (kk := ?_))
      (first | refine rif rfl rfl (fun c2 => ?_) (fun c2 => ?_) | refine ric rfl rfl (fun c2 => ?_) (fun c2 => ?_))
      · repeat (first | refine rs [] rfl rfl rfl rfl ?_ | refine rk rfl rfl ?_ | refine rgoh [] rfl rfl ?_ | refine rgeta (hi := rfl) (kk := ?_) | refine rialda (hi := rfl) (kk := ?_))
        (first | refine rif rfl rfl (fun c3 => ?_) (fun c3 => ?_) | refine ric rfl rfl (fun c3 => ?_) (fun c3 => ?_))
        · repeat (first | refine rs [] rfl rfl rfl rfl ?_ | refine rk rfl rfl ?_ | refine rgoh [] rfl rfl ?_ | refine rgeta (hi := rfl) (kk := ?_) | refine rialda (hi := rfl) (kk := ?_))
          (first | refine rcvs rfl rfl rfl rfl rfl (by first | assumption | (simp (disch := omega) only [am_set_ne, am_set_eq]; first | assumption | rfl)) rfl (c_hasPerson h8 h4) ?_ | refine rcvn rfl rfl rfl rfl rfl (by first | assumption | (simp (disch := omega) only [am_set_ne, am_set_eq]; first | assumption | rfl)) rfl (c_hasPerson h8 h4) ?_)
          by_cases c4 : inR (me i) P
          · rw [if_pos c4]
            obtain ⟨k, hk, hme⟩ := inR_of c4 (by omega)
            (first | refine rift rfl rfl ?_ | refine riff rfl rfl ?_ | refine rict rfl rfl ?_ | refine ricf rfl rfl ?_)
            repeat (first | refine rs [] rfl rfl rfl rfl ?_ | refine rk rfl rfl ?_ | refine rgoh [] rfl rfl ?_ | refine rgeta (hi := rfl) (kk := ?_) | refine rialda (hi := rfl) (kk := ?_))
            (first | refine rif rfl rfl (fun c6 => ?_) (fun c6 => ?_) | refine ric rfl rfl (fun c6 => ?_) (fun c6 => ?_))
            · repeat (first | refine rs [] rfl rfl rfl rfl ?_ | refine rk rfl rfl ?_ | refine rgoh [] rfl rfl ?_ | refine rgeta (hi := rfl) (kk := ?_) | refine rialda (hi := rfl) (kk := ?_))
              (first | refine rift rfl rfl ?_ | refine riff rfl rfl ?_ | refine rict rfl rfl ?_ | refine ricf rfl rfl ?_)
              repeat (first | refine rs [2] rfl rfl rfl rfl ?_ | refine rk rfl rfl ?_ | refine rgoh [2] rfl rfl ?_ | refine rgeta (hi := rfl) (kk := ?_) | refine rialda (hi := rfl) (kk := ?_))
              have e1 : loF P wa me x0 i g = g := by
                unfold loF
                rw [if_neg]
                rintro ⟨q1, q2, q3⟩
                apply q3
                refine ⟨c4, ?_⟩
                rw [hme, nI_clamp (by omega)]
                exact c6
              rw [e1] at ih
              exact ih _ _
            · repeat (first | refine rs [] rfl rfl rfl rfl ?_ | refine rk rfl rfl ?_ | refine rgoh [] rfl rfl ?_ | refine rgeta (hi := rfl) (kk := ?_) | refine rialda (hi := rfl) (kk := ?_))
              (first | refine rift rfl rfl ?_ | refine riff rfl rfl ?_ | refine rict rfl rfl ?_ | refine ricf rfl rfl ?_)
              repeat (first | refine rs [] rfl rfl rfl rfl ?_ | refine rk rfl rfl ?_ | refine rgoh [] rfl rfl ?_ | refine rgeta (hi := rfl) (kk := ?_) | refine rialda (hi := rfl) (kk := ?_))
              refine riasta (hi := rfl) (kk := ?_)
              repeat (first | refine rs [2] rfl rfl rfl rfl ?_ | refine rk rfl rfl ?_ | refine rgoh [2] rfl rfl ?_ | refine rgeta (hi := rfl) (kk := ?_) | refine rialda (hi := rfl) (kk := ?_))
              have e1 : loF P wa me x0 i g = upd g i x0 := by
                unfold loF
                rw [if_pos]
                refine ⟨c2, c3, ?_⟩
                rintro ⟨q1, q2⟩
                apply c6
                rw [hme, nI_clamp (by omega)] at q2
                exact q2
              rw [e1] at ih
              rw [am_set_set]
              exact ih _ _
          · rw [if_neg c4]
            (first | refine rift rfl rfl ?_ | refine riff rfl rfl ?_ | refine rict rfl rfl ?_ | refine ricf rfl rfl ?_)
            repeat (first | refine rs [] rfl rfl rfl rfl ?_ | refine rk rfl rfl ?_ | refine rgoh [] rfl rfl ?_ | refine rgeta (hi := rfl) (kk := ?_) | refine rialda (hi := rfl) (kk := ?_))
            (first | refine rift rfl rfl ?_ | refine riff rfl rfl ?_ | refine rict rfl rfl ?_ | refine ricf rfl rfl ?_)
            repeat (first | refine rs [] rfl rfl rfl rfl ?_ | refine rk rfl rfl ?_ | refine rgoh [] rfl rfl ?_ | refine rgeta (hi := rfl) (kk := ?_) | refine rialda (hi := rfl) (kk := ?_))
            refine riasta (hi := rfl) (kk := ?_)
            repeat (first | refine rs [2] rfl rfl rfl rfl ?_ | refine rk rfl rfl ?_ | refine rgoh [2] rfl rfl ?_ | refine rgeta (hi := rfl) (kk := ?_) | refine rialda (hi := rfl) (kk := ?_))
            have e1 : loF P wa me x0 i g = upd g i x0 := by
              unfold loF
              rw [if_pos]
              exact ⟨c2, c3, fun q => c4 q.1⟩
            rw [e1] at ih
            rw [am_set_set]
            exact ih _ _
        · repeat (first | refine rs [2] rfl rfl rfl rfl ?_ | refine rk rfl rfl ?_ | refine rgoh [2] rfl rfl ?_ | refine rgeta (hi := rfl) (kk := ?_) | refine rialda (hi := rfl) (kk := ?_))
          have e1 : loF P wa me x0 i g = g := by
            unfold loF
            rw [if_neg]
            exact fun q => c3 q.2.1
          rw [e1] at ih
          exact ih _ _
      · repeat (first | refine rs [2] rfl rfl rfl rfl ?_ | refine rk rfl rfl ?_ | refine rgoh [2] rfl rfl ?_ | refine rgeta (hi := rfl) (kk := ?_) | refine rialda (hi := rfl) (kk := ?_))
        have e1 : loF P wa me x0 i g = g := by
          unfold loF
          rw [if_neg]
          exact fun q => c2 q.1
        rw [e1] at ih
        exact ih _ _
theorem c_takeIn {x0 : Int32} (H : scW a w mi l lw lm mt N P G fe fl fog tr sp mif wa me h f) : am_E M_Scene_takeIn [.ref a, .ref l, .int x0] h none (am_set h w (iar (fo (tiF wa x0) P f))) := by
  (try unfold am_E); unfold am_T
  repeat (first | refine rs [2] rfl rfl rfl rfl ?_ | refine rk rfl rfl ?_ | refine rgoh [2] rfl rfl ?_ | refine rgeta (hi := rfl) (kk := ?_) | refine rialda (hi := rfl) (kk := ?_))
  rw [← am_set_self H.2.1]
  refine lup (P := fun i => ∀ x, x = nI i → am_R M_Scene_takeIn (2, [.ref a, .ref l, .int x0, .int x], []) (am_set h w (iar (fo (tiF wa x0) i f))) _) P ?_ ?_ 0 nI_0.symm
  · rintro x rfl
    obtain ⟨h1, h2, h3, h4, h5, h6, -, h7, h8⟩ := scW_set (g := fo (tiF wa x0) P f) H
    repeat (first | refine rs [] rfl rfl rfl rfl ?_ | refine rk rfl rfl ?_ | refine rgoh [] rfl rfl ?_ | refine rgeta (hi := rfl) (kk := ?_) | refine rialda (hi := rfl) (kk := ?_))
    (first | refine rif rfl rfl (fun c1 => ?_) (fun c1 => ?_) | refine ric rfl rfl (fun c1 => ?_) (fun c1 => ?_))
    · repeat (first | refine rs [] rfl rfl rfl rfl ?_ | refine rk rfl rfl ?_ | refine rgoh [] rfl rfl ?_ | refine rgeta (hi := rfl) (kk := ?_) | refine rialda (hi := rfl) (kk := ?_))
      refine rret rfl rfl ?_
      exact ⟨rfl, by rw [am_set_self H.2.1]⟩
    · exact absurd (Int32.le_refl _) c1
  · rintro i hi ih x rfl
    obtain ⟨h1, h2, h3, h4, h5, h6, ⟨-, -, -, -, -, hw0⟩, h7, h8⟩ := scW_set (g := fo (tiF wa x0) i f) H
    have ih := ih _ (nI_succ i).symm
    rw [fo_succ] at ih
    generalize hg : fo (tiF wa x0) i f = g at *
    repeat (first | refine rs [] rfl rfl rfl rfl ?_ | refine rk rfl rfl ?_ | refine rgoh [] rfl rfl ?_ | refine rgeta (hi := rfl) (kk := ?_) | refine rialda (hi := rfl) (kk := ?_))
    (first | refine rif rfl rfl (fun c1 => ?_) (fun c1 => ?_) | refine ric rfl rfl (fun c1 => ?_) (fun c1 => ?_))
    · exact absurd hi ((nI_lt_iff (by omega) (by omega)).mp c1)
    · repeat (first | refine rs [] rfl rfl rfl rfl ?_ | refine rk rfl rfl ?_ | refine rgoh [] rfl rfl ?_ | refine rgeta (hi := rfl) (kk := ?_) | refine rialda (hi := rfl) (kk := ?_))
      (first | refine rif rfl rfl (fun c2 => ?_) (fun c2 => ?_) | refine ric rfl rfl (fun c2 => ?_) (fun c2 => ?_))
      · repeat (first | refine rs [] rfl rfl rfl rfl ?_ | refine rk rfl rfl ?_ | refine rgoh [] rfl rfl ?_ | refine rgeta (hi := rfl) (kk := ?_) | refine rialda (hi := rfl) (kk := ?_))
        (first | refine rif rfl rfl (fun c3 => ?_) (fun c3 => ?_) | refine ric rfl rfl (fun c3 => ?_) (fun c3 => ?_))
        · repeat (first | refine rs [2] rfl rfl rfl rfl ?_ | refine rk rfl rfl ?_ | refine rgoh [2] rfl rfl ?_ | refine rgeta (hi := rfl) (kk := ?_) | refine rialda (hi := rfl) (kk := ?_))
          have e1 : tiF wa x0 i g = g := by
            unfold tiF
            rw [if_neg]
            exact fun q => Int32.not_lt.mpr c3 q.2
          rw [e1] at ih
          exact ih
        · repeat (first | refine rs [] rfl rfl rfl rfl ?_ | refine rk rfl rfl ?_ | refine rgoh [] rfl rfl ?_ | refine rgeta (hi := rfl) (kk := ?_) | refine rialda (hi := rfl) (kk := ?_))
          refine riasta (hi := rfl) (kk := ?_)
          repeat (first | refine rs [2] rfl rfl rfl rfl ?_ | refine rk rfl rfl ?_ | refine rgoh [2] rfl rfl ?_ | refine rgeta (hi := rfl) (kk := ?_) | refine rialda (hi := rfl) (kk := ?_))
          have e1 : tiF wa x0 i g = upd g i (-1) := by
            unfold tiF
            rw [if_pos]
            exact ⟨c2, Int32.not_le.mp c3⟩
          rw [e1] at ih
          rw [am_set_set]
          exact ih
      · repeat (first | refine rs [2] rfl rfl rfl rfl ?_ | refine rk rfl rfl ?_ | refine rgoh [2] rfl rfl ?_ | refine rgeta (hi := rfl) (kk := ?_) | refine rialda (hi := rfl) (kk := ?_))
        have e1 : tiF wa x0 i g = g := by
          unfold tiF
          rw [if_neg]
          exact fun q => c2 q.1
        rw [e1] at ih
        exact ih
theorem c_emptyAtLast (H : scW a w mi l lw lm mt N P G fe fl fog tr sp mif wa me h f) : am_E M_Scene_emptyAtLast [.ref a, .ref l] h none (am_set h w (iar (fo (emF N) P f))) := by
  (try unfold am_E); unfold am_T
  repeat (first | refine rs [2] rfl rfl rfl rfl ?_ | refine rk rfl rfl ?_ | refine rgoh [2] rfl rfl ?_ | refine rgeta (hi := rfl) (kk := ?_) | refine rialda (hi := rfl) (kk := ?_))
  rw [← am_set_self H.2.1]
  refine lup (P := fun i => ∀ x, x = nI i → am_R M_Scene_emptyAtLast (2, [.ref a, .ref l, .int x], []) (am_set h w (iar (fo (emF N) i f))) _) P ?_ ?_ 0 nI_0.symm
  · rintro x rfl
    obtain ⟨h1, h2, h3, h4, h5, h6, -, h7, h8⟩ := scW_set (g := fo (emF N) P f) H
    repeat (first | refine rs [] rfl rfl rfl rfl ?_ | refine rk rfl rfl ?_ | refine rgoh [] rfl rfl ?_ | refine rgeta (hi := rfl) (kk := ?_) | refine rialda (hi := rfl) (kk := ?_))
    (first | refine rif rfl rfl (fun c1 => ?_) (fun c1 => ?_) | refine ric rfl rfl (fun c1 => ?_) (fun c1 => ?_))
    · repeat (first | refine rs [] rfl rfl rfl rfl ?_ | refine rk rfl rfl ?_ | refine rgoh [] rfl rfl ?_ | refine rgeta (hi := rfl) (kk := ?_) | refine rialda (hi := rfl) (kk := ?_))
      refine rret rfl rfl ?_
      exact ⟨rfl, by rw [am_set_self H.2.1]⟩
    · exact absurd (Int32.le_refl _) c1
  · rintro i hi ih x rfl
    obtain ⟨h1, h2, h3, h4, h5, h6, ⟨-, -, -, -, -, hw0⟩, h7, h8⟩ := scW_set (g := fo (emF N) i f) H
    have ih := ih _ (nI_succ i).symm
    rw [fo_succ] at ih
    generalize hg : fo (emF N) i f = g at *
    repeat (first | refine rs [] rfl rfl rfl rfl ?_ | refine rk rfl rfl ?_ | refine rgoh [] rfl rfl ?_ | refine rgeta (hi := rfl) (kk := ?_) | refine rialda (hi := rfl) (kk := ?_))
    (first | refine rif rfl rfl (fun c1 => ?_) (fun c1 => ?_) | refine ric rfl rfl (fun c1 => ?_) (fun c1 => ?_))
    · exact absurd hi ((nI_lt_iff (by omega) (by omega)).mp c1)
    · repeat (first | refine rs [] rfl rfl rfl rfl ?_ | refine rk rfl rfl ?_ | refine rgoh [] rfl rfl ?_ | refine rgeta (hi := rfl) (kk := ?_) | refine rialda (hi := rfl) (kk := ?_))
      (first | refine rif rfl rfl (fun c2 => ?_) (fun c2 => ?_) | refine ric rfl rfl (fun c2 => ?_) (fun c2 => ?_))
      · repeat (first | refine rs [] rfl rfl rfl rfl ?_ | refine rk rfl rfl ?_ | refine rgoh [] rfl rfl ?_ | refine rgeta (hi := rfl) (kk := ?_) | refine rialda (hi := rfl) (kk := ?_))
        refine riasta (hi := rfl) (kk := ?_)
        repeat (first | refine rs [2] rfl rfl rfl rfl ?_ | refine rk rfl rfl ?_ | refine rgoh [2] rfl rfl ?_ | refine rgeta (hi := rfl) (kk := ?_) | refine rialda (hi := rfl) (kk := ?_))
        have e1 : emF N i g = upd g i (nI N - 1) := by
          unfold emF
          rw [if_pos c2]
        rw [e1] at ih
        rw [am_set_set]
        exact ih
      · repeat (first | refine rs [2] rfl rfl rfl rfl ?_ | refine rk rfl rfl ?_ | refine rgoh [2] rfl rfl ?_ | refine rgeta (hi := rfl) (kk := ?_) | refine rialda (hi := rfl) (kk := ?_))
        have e1 : emF N i g = g := by
          unfold emF
          rw [if_neg c2]
        rw [e1] at ih
        exact ih
theorem c_runTrain {shut : Int32} (H : scW a w mi l lw lm mt N P G fe fl fog tr sp mif wa me h f) : am_E M_Scene_runTrain [.ref a, .ref l, .ref mt, .int shut] h none (am_set (am_set h w (iar (rtF N P wa me (stn 0 G fog fe fl mif f N P &&& (shut ^^^ (-1))) f))) a (.inr (6, [.ref w, .ref mi, .int fe, .int fl, .int fog, .int (tr + 1), .int (stn 0 G fog fe fl mif f N P &&& (shut ^^^ (-1)))]))) := by
  obtain ⟨h1, h2, h3, h4, h5, h6, -, h7, h8⟩ := id H
  (try unfold am_E); unfold am_T
  repeat (first | refine rs [11] rfl rfl rfl rfl ?_ | refine rk rfl rfl ?_ | refine rgoh [11] rfl rfl ?_ | refine rgeta (hi := rfl) (kk := ?_) | refine rialda (hi := rfl) (kk := ?_))
  (first | refine rcvs rfl rfl rfl rfl rfl (by first | assumption | (simp (disch := omega) only [am_set_ne, am_set_eq]; first | assumption | rfl)) rfl (c_stopsOfNext H) ?_ | refine rcvn rfl rfl rfl rfl rfl (by first | assumption | (simp (disch := omega) only [am_set_ne, am_set_eq]; first | assumption | rfl)) rfl (c_stopsOfNext H) ?_)
  repeat (first | refine rs [11] rfl rfl rfl rfl ?_ | refine rk rfl rfl ?_ | refine rgoh [11] rfl rfl ?_ | refine rgeta (hi := rfl) (kk := ?_) | refine rialda (hi := rfl) (kk := ?_))
  generalize stn 0 G fog fe fl mif f N P &&& (shut ^^^ (-1)) = halts
  rw [← am_set_self H.2.1]
  refine lup (P := fun i => ∀ x, x = nI i → am_R M_Scene_runTrain (11, [.ref a, .ref l, .ref mt, .int shut, .int halts, .int x], []) (am_set h w (iar (fo (stF P wa me halts) i f))) _) N ?_ ?_ 0 nI_0.symm
  · rintro x rfl
    have H2 := scW_set (g := fo (stF P wa me halts) N f) H
    obtain ⟨h1, h2, h3, h4, h5, h6, ⟨hwa, -⟩, h7, h8⟩ := id H2
    repeat (first | refine rs [] rfl rfl rfl rfl ?_ | refine rk rfl rfl ?_ | refine rgoh [] rfl rfl ?_ | refine rgeta (hi := rfl) (kk := ?_) | refine rialda (hi := rfl) (kk := ?_))
    (first | refine rif rfl rfl (fun c1 => ?_) (fun c1 => ?_) | refine ric rfl rfl (fun c1 => ?_) (fun c1 => ?_))
    · repeat (first | refine rs [] rfl rfl rfl rfl ?_ | refine rk rfl rfl ?_ | refine rgoh [] rfl rfl ?_ | refine rgeta (hi := rfl) (kk := ?_) | refine rialda (hi := rfl) (kk := ?_))
      (first | refine rcvs rfl rfl rfl rfl rfl (by first | assumption | (simp (disch := omega) only [am_set_ne, am_set_eq]; first | assumption | rfl)) rfl (c_emptyAtLast H2) ?_ | refine rcvn rfl rfl rfl rfl rfl (by first | assumption | (simp (disch := omega) only [am_set_ne, am_set_eq]; first | assumption | rfl)) rfl (c_emptyAtLast H2) ?_)
      rw [am_set_set]
      have H3 := scW_set (g := fo (emF N) P (fo (stF P wa me halts) N f)) H
      obtain ⟨h1, h2, h3, h4, h5, h6, -, h7, h8⟩ := id H3
      repeat (first | refine rs [] rfl rfl rfl rfl ?_ | refine rk rfl rfl ?_ | refine rgoh [] rfl rfl ?_ | refine rgeta (hi := rfl) (kk := ?_) | refine rialda (hi := rfl) (kk := ?_))
      refine rputa (hi := rfl) (kk := ?_)
      repeat (first | refine rs [] rfl rfl rfl rfl ?_ | refine rk rfl rfl ?_ | refine rgoh [] rfl rfl ?_ | refine rgeta (hi := rfl) (kk := ?_) | refine rialda (hi := rfl) (kk := ?_))
      refine rputa (hi := rfl) (kk := ?_)
      refine rret rfl rfl ?_
      refine ⟨rfl, ?_⟩
      rw [am_set_set, am_set_self H.2.1]
      rfl
    · exact absurd (Int32.le_refl _) c1
  · rintro i hi ih x rfl
    have H2 := scW_set (g := fo (stF P wa me halts) i f) H
    obtain ⟨h1, h2, h3, h4, h5, h6, -, h7, h8⟩ := id H2
    have ih := ih _ (nI_succ i).symm
    rw [fo_succ] at ih
    repeat (first | refine rs [] rfl rfl rfl rfl ?_ | refine rk rfl rfl ?_ | refine rgoh [] rfl rfl ?_ | refine rgeta (hi := rfl) (kk := ?_) | refine rialda (hi := rfl) (kk := ?_))
    (first | refine rif rfl rfl (fun c1 => ?_) (fun c1 => ?_) | refine ric rfl rfl (fun c1 => ?_) (fun c1 => ?_))
    · exact absurd hi ((nI_lt_iff (by omega) (by omega)).mp c1)
    · repeat (first | refine rs [] rfl rfl rfl rfl ?_ | refine rk rfl rfl ?_ | refine rgoh [] rfl rfl ?_ | refine rgeta (hi := rfl) (kk := ?_) | refine rialda (hi := rfl) (kk := ?_))
      refine rcss rfl rfl rfl rfl rfl (c_bit) ?_
      repeat (first | refine rs [] rfl rfl rfl rfl ?_ | refine rk rfl rfl ?_ | refine rgoh [] rfl rfl ?_ | refine rgeta (hi := rfl) (kk := ?_) | refine rialda (hi := rfl) (kk := ?_))
      (first | refine rif rfl rfl (fun c2 => ?_) (fun c2 => ?_) | refine ric rfl rfl (fun c2 => ?_) (fun c2 => ?_))
      · repeat (first | refine rs [] rfl rfl rfl rfl ?_ | refine rk rfl rfl ?_ | refine rgoh [] rfl rfl ?_ | refine rgeta (hi := rfl) (kk := ?_) | refine rialda (hi := rfl) (kk := ?_))
        (first | refine rcvs rfl rfl rfl rfl rfl (by first | assumption | (simp (disch := omega) only [am_set_ne, am_set_eq]; first | assumption | rfl)) rfl (c_letOut H2) ?_ | refine rcvn rfl rfl rfl rfl rfl (by first | assumption | (simp (disch := omega) only [am_set_ne, am_set_eq]; first | assumption | rfl)) rfl (c_letOut H2) ?_)
        rw [am_set_set]
        have H3 := scW_set (g := fo (loF P wa me (nI i)) P (fo (stF P wa me halts) i f)) H
        obtain ⟨h1, h2, h3, h4, h5, h6, -, h7, h8⟩ := id H3
        repeat (first | refine rs [] rfl rfl rfl rfl ?_ | refine rk rfl rfl ?_ | refine rgoh [] rfl rfl ?_ | refine rgeta (hi := rfl) (kk := ?_) | refine rialda (hi := rfl) (kk := ?_))
        (first | refine rcvs rfl rfl rfl rfl rfl (by first | assumption | (simp (disch := omega) only [am_set_ne, am_set_eq]; first | assumption | rfl)) rfl (c_takeIn H3) ?_ | refine rcvn rfl rfl rfl rfl rfl (by first | assumption | (simp (disch := omega) only [am_set_ne, am_set_eq]; first | assumption | rfl)) rfl (c_takeIn H3) ?_)
        rw [am_set_set]
        repeat (first | refine rs [11] rfl rfl rfl rfl ?_ | refine rk rfl rfl ?_ | refine rgoh [11] rfl rfl ?_ | refine rgeta (hi := rfl) (kk := ?_) | refine rialda (hi := rfl) (kk := ?_))
        have e1 : stF P wa me halts i (fo (stF P wa me halts) i f) = fo (tiF wa (nI i)) P (fo (loF P wa me (nI i)) P (fo (stF P wa me halts) i f)) := by
          unfold stF
          rw [if_pos c2]
        rw [e1] at ih
        exact ih
      · repeat (first | refine rs [11] rfl rfl rfl rfl ?_ | refine rk rfl rfl ?_ | refine rgoh [11] rfl rfl ?_ | refine rgeta (hi := rfl) (kk := ?_) | refine rialda (hi := rfl) (kk := ?_))
        have e1 : stF P wa me halts i (fo (stF P wa me halts) i f) = fo (stF P wa me halts) i f := by
          generalize fo (stF P wa me halts) i f = g
          unfold stF
          rw [if_neg c2]
        rw [e1] at ih
        exact ih
end CScene
