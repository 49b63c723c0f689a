/-! what a scene says, read off its parts alone -/
def shA (hope : Int32) (S : Sc) (p : Nat) : Int32 := (if bitv hope (nI p) = 1 then 9 else S.2.1 p) + 2 * S.2.2.1 p + 3 * S.2.2.2.1 p
def awA (hope G : Int32) (P : Nat) (S : Sc) : Int32 := fo (fun p s => if shA hope S p < G + S.2.2.2.2.1 then s else s ||| sh1 (S.1 p)) P 0
def stA (hope G : Int32) (N P : Nat) (S : Sc) : Int32 := (sh1 (nI N) - 1) &&& (awA hope G P S ^^^ (-1))
def moA (x : Int32) (P : Nat) (S : Sc) : Int32 := fo (fun p s => if S.1 p = x then mxI s (shA 0 S p) else s) P 0
def rnA (N P : Nat) (G : Int32) (wa me : Nat → Int32) (shut : Int32) (S : Sc) : Sc := (rtF N P wa me (stA 0 G N P S &&& (shut ^^^ (-1))) S.1, S.2.1, S.2.2.1, S.2.2.2.1, S.2.2.2.2.1, S.2.2.2.2.2.1 + 1, stA 0 G N P S &&& (shut ^^^ (-1)))
/-- alike for all persons below P -/
def eqP (P : Nat) (f g : Nat → Int32) : Prop := ∀ p, p < P → f p = g p
theorem eqP_upd {P k : Nat} {f g : Nat → Int32} {v : Int32} (q : eqP P f g) : eqP P (upd f k v) (upd g k v) := by
  intro p hp
  unfold upd
  split
  · rfl
  · exact q p hp
theorem fo_eqP {P n : Nat} {F F' : Nat → (Nat → Int32) → (Nat → Int32)} (hF : ∀ p f g, p < n → eqP P f g → eqP P (F p f) (F' p g)) {f g : Nat → Int32} (q : eqP P f g) : eqP P (fo F n f) (fo F' n g) := by
  induction n with
  | zero => exact q
  | succ n ih => exact hF n _ _ (by omega) (ih (fun p f g hp => hF p f g (by omega)))
section Congr
variable {P : Nat} {wa wa' me me' : Nat → Int32}
theorem loF_eqP {x : Int32} (hw : eqP P wa wa') (hm : eqP P me me') (hP : P ≤ 8) (p : Nat) (f g : Nat → Int32) (hp : p < P) (q : eqP P f g) : eqP P (loF P wa me x p f) (loF P wa' me' x p g) := by
  unfold loF
  rw [q p hp, hw p hp, hm p hp]
  have e : (inR (me' p) P ∧ f (me' p).toNatClampNeg = x) ↔ (inR (me' p) P ∧ g (me' p).toNatClampNeg = x) := by
    refine and_congr_right (fun a => ?_)
    obtain ⟨k, hk, ek⟩ := inR_of a (by omega)
    rw [ek, nI_clamp (by omega), q k hk]
  by_cases c : g p = -1 ∧ wa' p = x ∧ ¬ (inR (me' p) P ∧ g (me' p).toNatClampNeg = x)
  · rw [if_pos c, if_pos ⟨c.1, c.2.1, fun a => c.2.2 (e.mp a)⟩]
    exact eqP_upd q
  · rw [if_neg c, if_neg (fun a => c ⟨a.1, a.2.1, fun b => a.2.2 (e.mpr b)⟩)]
    exact q
theorem tiF_eqP {x : Int32} (hw : eqP P wa wa') (p : Nat) (f g : Nat → Int32) (hp : p < P) (q : eqP P f g) : eqP P (tiF wa x p f) (tiF wa' x p g) := by
  unfold tiF
  rw [q p hp, hw p hp]
  split
  · exact eqP_upd q
  · exact q
theorem emF_eqP {N : Nat} (p : Nat) (f g : Nat → Int32) (hp : p < P) (q : eqP P f g) : eqP P (emF N p f) (emF N p g) := by
  unfold emF
  rw [q p hp]
  split
  · exact eqP_upd q
  · exact q
theorem rtF_eqP {N : Nat} {halts : Int32} {f g : Nat → Int32} (hw : eqP P wa wa') (hm : eqP P me me') (hP : P ≤ 8) (q : eqP P f g) : eqP P (rtF N P wa me halts f) (rtF N P wa' me' halts g) := by
  unfold rtF
  refine fo_eqP (fun p f g hp q => emF_eqP p f g hp q) (fo_eqP (fun p f g _ q => ?_) q)
  unfold stF
  split
  · exact fo_eqP (fun p f g hp q => tiF_eqP hw p f g hp q) (fo_eqP (fun p f g hp q => loF_eqP hw hm hP p f g hp q) q)
  · exact q
theorem arv_eqP {f g : Nat → Int32} (hw : eqP P wa wa') (q : eqP P f g) : arv f wa P = arv g wa' P := by
  unfold arv
  refine fo_congr (fun p b hp => ?_)
  rw [q p hp, hw p hp]
theorem sta_eqP {f g : Nat → Int32} {x : Int32} (q : eqP P f g) : sta f x P = sta g x P := by
  unfold sta
  refine fo_congr (fun p b hp => ?_)
  rw [q p hp]
end Congr
/-- the line at 11 -/
def cLn (N P : Nat) (G : Int32) (wa me : Nat → Int32) (h : am_H) : Prop := N ≤ 8 ∧ P ≤ 8 ∧ ∃ waC meC, h.1 11 = .inr (4, [.int (nI N), .int G, .int (nI P), .ref 12, .ref 13]) ∧ h.1 12 = iar waC ∧ h.1 13 = iar meC ∧ eqP P waC wa ∧ eqP P meC me
theorem cLn.fr {N P lo hi : Nat} {G : Int32} {wa me : Nat → Int32} {h h' : am_H} (f : am_fr lo hi h h') (hd : 14 ≤ lo ∨ hi ≤ 11) (q : cLn N P G wa me h) : cLn N P G wa me h' := by
  obtain ⟨q1, q2, waC, meC, q3, q4, q5, q6, q7⟩ := q
  exact ⟨q1, q2, waC, meC, by rw [f.2 _ (by omega)]; exact q3, by rw [f.2 _ (by omega)]; exact q4, by rw [f.2 _ (by omega)]; exact q5, q6, q7⟩
section CAbs
variable {h : am_H} {N P a mt : Nat} {G : Int32} {wa me : Nat → Int32} {S : Sc}
theorem shw_A {hope fe fl : Int32} {mi : Nat → Int32} {p : Nat} (h2 : mi p = S.2.1 p) (h3 : bitv fe (nI p) = S.2.2.1 p) (h4 : bitv fl (nI p) = S.2.2.2.1 p) : shw hope mi fe fl p = shA hope S p := by
  unfold shw shA
  rw [h2, h3, h4]
theorem awv_A {hope fe fl : Int32} {mi wh : Nat → Int32} (hq : ∀ p, p < P → wh p = S.1 p ∧ mi p = S.2.1 p ∧ bitv fe (nI p) = S.2.2.1 p ∧ bitv fl (nI p) = S.2.2.2.1 p) : awv hope G S.2.2.2.2.1 fe fl mi wh P = awA hope G P S := by
  unfold awv awA
  refine fo_congr (fun p b hp => ?_)
  obtain ⟨q1, q2, q3, q4⟩ := hq p hp
  rw [shw_A q2 q3 q4, q1]
theorem stn_A {hope fe fl : Int32} {mi wh : Nat → Int32} (hq : ∀ p, p < P → wh p = S.1 p ∧ mi p = S.2.1 p ∧ bitv fe (nI p) = S.2.2.1 p ∧ bitv fl (nI p) = S.2.2.2.1 p) : stn hope G S.2.2.2.2.1 fe fl mi wh N P = stA hope G N P S := by
  unfold stn stA
  rw [awv_A hq]
/-- a scene at a over the line at 11, met by the array at mt -/
theorem to_scW {meC : Nat → Int32} (hL : cLn N P G wa me h) (hS : cSc P a S h) (ha : 14 ≤ a) (hm : h.1 mt = iar meC) (hmt : mt ≠ a + 1) : ∃ waC wh mi fe fl, scW a (a + 1) (a + 2) 11 12 13 mt N P G fe fl S.2.2.2.2.1 S.2.2.2.2.2.1 S.2.2.2.2.2.2 mi waC meC h wh ∧ eqP P waC wa ∧ (∀ p, p < P → wh p = S.1 p ∧ mi p = S.2.1 p ∧ bitv fe (nI p) = S.2.2.1 p ∧ bitv fl (nI p) = S.2.2.2.1 p) := by
  obtain ⟨q1, q2, waC, meC', q3, q4, q5, q6, q7⟩ := hL
  obtain ⟨wh, mi, fe, fl, s1, s2, s3, s4⟩ := hS
  exact ⟨waC, wh, mi, fe, fl, ⟨s1, s2, s3, q3, q4, hm, ⟨by omega, by omega, by omega, by omega, by omega, by omega⟩, q1, q2⟩, q6, s4⟩
theorem cLn_me (hL : cLn N P G wa me h) : ∃ meC, h.1 13 = iar meC ∧ eqP P meC me := by
  obtain ⟨q1, q2, waC, meC', q3, q4, q5, q6, q7⟩ := hL
  exact ⟨meC', q5, q7⟩
theorem a_awaited {hope : Int32} (hL : cLn N P G wa me h) (hS : cSc P a S h) (ha : 14 ≤ a) : am_E M_Scene_awaited [.ref a, .ref 11, .int hope] h (some (.int (awA hope G P S))) h := by
  obtain ⟨meC, hm, -⟩ := cLn_me hL
  obtain ⟨waC, wh, mi, fe, fl, H, e1, e2⟩ := to_scW hL hS ha hm (by omega)
  rw [← awv_A e2]
  exact c_awaited H
theorem a_stops {hope : Int32} (hL : cLn N P G wa me h) (hS : cSc P a S h) (ha : 14 ≤ a) : am_E M_Scene_stopsOfNext [.ref a, .ref 11, .int hope] h (some (.int (stA hope G N P S))) h := by
  obtain ⟨meC, hm, -⟩ := cLn_me hL
  obtain ⟨waC, wh, mi, fe, fl, H, e1, e2⟩ := to_scW hL hS ha hm (by omega)
  rw [← stn_A e2]
  exact c_stopsOfNext H
theorem a_hasArrived {p : Int32} {k : Nat} (hp : p = nI k) (hk : k < P) (hL : cLn N P G wa me h) (hS : cSc P a S h) (ha : 14 ≤ a) : am_E M_Scene_hasArrived [.ref a, .ref 11, .int p] h (some (.int (if S.1 k = wa k then 1 else 0))) h := by
  obtain ⟨meC, hm, -⟩ := cLn_me hL
  obtain ⟨waC, wh, mi, fe, fl, H, e1, e2⟩ := to_scW hL hS ha hm (by omega)
  rw [← (e2 k hk).1, ← e1 k hk]
  exact c_hasArrived hp (by have := hL.2.1; omega) H
theorem a_arrived (hL : cLn N P G wa me h) (hS : cSc P a S h) (ha : 14 ≤ a) : am_E M_Scene_arrived [.ref a, .ref 11] h (some (.int (arv S.1 wa P))) h := by
  obtain ⟨meC, hm, -⟩ := cLn_me hL
  obtain ⟨waC, wh, mi, fe, fl, H, e1, e2⟩ := to_scW hL hS ha hm (by omega)
  rw [← arv_eqP e1 (fun p hp => (e2 p hp).1)]
  exact c_arrived H
theorem a_standing {x : Int32} (hL : cLn N P G wa me h) (hS : cSc P a S h) (ha : 14 ≤ a) : am_E M_Scene_standing [.ref a, .ref 11, .int x] h (some (.int (sta S.1 x P))) h := by
  obtain ⟨meC, hm, -⟩ := cLn_me hL
  obtain ⟨waC, wh, mi, fe, fl, H, e1, e2⟩ := to_scW hL hS ha hm (by omega)
  rw [← sta_eqP (fun p hp => (e2 p hp).1)]
  exact c_standing H
theorem a_mostShown {x : Int32} (hL : cLn N P G wa me h) (hS : cSc P a S h) (ha : 14 ≤ a) : am_E M_Scene_mostShown [.ref a, .ref 11, .int x] h (some (.int (moA x P S))) h := by
  obtain ⟨meC, hm, -⟩ := cLn_me hL
  obtain ⟨waC, wh, mi, fe, fl, H, e1, e2⟩ := to_scW hL hS ha hm (by omega)
  have e : mos wh x mi fe fl P = moA x P S := by
    unfold mos moA
    refine fo_congr (fun p b hp => ?_)
    obtain ⟨q1, q2, q3, q4⟩ := e2 p hp
    rw [shw_A q2 q3 q4, q1]
  rw [← e]
  exact c_mostShown H
theorem a_shows {p hope : Int32} {k : Nat} (hp : p = nI k) (hk : k < P) (hP : P ≤ 8) (hS : cSc P a S h) : am_E M_Scene_shows [.ref a, .int p, .int hope] h (some (.int (shA hope S k))) h := by
  obtain ⟨wh, mi, fe, fl, s1, s2, s3, s4⟩ := hS
  obtain ⟨q1, q2, q3, q4⟩ := s4 k hk
  rw [← shw_A q2 q3 q4]
  exact c_shows hp (by omega) s1 s3
theorem a_alarm (hL : cLn N P G wa me h) (hS : cSc P a S h) (ha : 14 ≤ a) : am_E M_Scene_alarm [.ref a, .ref 11] h (some (.int (G + S.2.2.2.2.1))) h := by
  obtain ⟨meC, hm, -⟩ := cLn_me hL
  obtain ⟨waC, wh, mi, fe, fl, H, e1, e2⟩ := to_scW hL hS ha hm (by omega)
  exact c_alarm H.1 H.2.2.2.1
theorem a_run {shut : Int32} {meC me1 : Nat → Int32} (hL : cLn N P G wa me h) (hS : cSc P a S h) (ha : 14 ≤ a) (hm : h.1 mt = iar meC) (hmt : mt ≠ a + 1) (hme : eqP P meC me1) : am_T M_Scene_runTrain [.ref a, .ref 11, .ref mt, .int shut] h (fun r h' => r = none ∧ cSc P a (rnA N P G wa me1 shut S) h' ∧ am_fr a (a + 3) h h') := by
  have hP := hL.2.1
  obtain ⟨waC, wh, mi, fe, fl, H, e1, e2⟩ := to_scW hL hS ha hm hmt
  refine am_R.imp (c_runTrain (shut := shut) H) ?_
  rintro r h' ⟨rfl, rfl⟩
  refine ⟨rfl, ?_, fr_set (fr_set fr_rf (by omega) (by omega)) (by omega) (by omega)⟩
  rw [stn_A e2]
  refine ⟨rtF N P waC meC (stA 0 G N P S &&& (shut ^^^ (-1))) wh, mi, fe, fl, am_set_eq, ?_, ?_, ?_⟩
  · rw [am_set_ne (by omega)]
    exact am_set_eq
  · rw [am_set_ne (by omega), am_set_ne (by omega)]
    exact H.2.2.1
  · intro p hp
    obtain ⟨q1, q2, q3, q4⟩ := e2 p hp
    exact ⟨rtF_eqP e1 hme hP (fun p hp => (e2 p hp).1) p hp, q2, q3, q4⟩
end CAbs
