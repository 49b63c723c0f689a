/-! the model's train -/
/-- getting out, as the model has it: aboard is -2 -/
def goF (wa me : Nat → Int32) (x al : Int32) (p : Nat) (g : Nat → Int32) : Nat → Int32 := if g p = -2 ∧ (¬ al = 0 ∨ (wa p = x ∧ ¬ (¬ me p = -1 ∧ g (me p).toNatClampNeg = x))) then upd g p x else g
def boF (wa : Nat → Int32) (stood x : Int32) (p : Nat) (g : Nat → Int32) : Nat → Int32 := upd g p (if bitv stood (nI p) = 1 ∧ x < wa p then -2 else g p)
/-- the class's places and the model's -/
def rlA (N P : Nat) (f g : Nat → Int32) : Prop := ∀ p, p < P → (f p = -1 ∧ g p = -2) ∨ ∃ k, k < N ∧ f p = nI k ∧ g p = nI k
theorem nI_m1 {k : Nat} (hk : k < 32) : ¬ nI k = -1 := (by decide : ∀ k, k < 32 → ¬ nI k = -1) k hk
theorem nI_m2 {k : Nat} (hk : k < 32) : ¬ nI k = -2 := (by decide : ∀ k, k < 32 → ¬ nI k = -2) k hk
section MPure
variable {N P i : Nat} {wa me f g : Nat → Int32}
theorem rlA.ab (hN : N ≤ 8) (r : rlA N P f g) {p : Nat} (hp : p < P) : f p = -1 ↔ g p = -2 := by
  rcases r p hp with ⟨a, b⟩ | ⟨k, hk, a, b⟩
  · exact ⟨fun _ => b, fun _ => a⟩
  · rw [a, b]
    exact ⟨fun c => absurd c (nI_m1 (by omega)), fun c => absurd c (nI_m2 (by omega))⟩
theorem rlA.st (r : rlA N P f g) {p : Nat} (hp : p < P) (hi : i < 32) : f p = nI i ↔ g p = nI i := by
  rcases r p hp with ⟨a, b⟩ | ⟨k, hk, a, b⟩
  · rw [a, b]
    exact ⟨fun c => absurd c.symm (nI_m1 hi), fun c => absurd c.symm (nI_m2 hi)⟩
  · rw [a, b]
theorem rlA.up (r : rlA N P f g) {p : Nat} (hi : i < N) : rlA N P (upd f p (nI i)) (upd g p (nI i)) := by
  intro q hq
  by_cases e : q = p
  · rw [e, pk_us, pk_us]
    exact Or.inr ⟨i, hi, rfl, rfl⟩
  · rw [pk_un e, pk_un e]
    exact r q hq
theorem rlA.lo (hN : N ≤ 8) (hme : ∀ p, p < P → me p = -1 ∨ ∃ k, k < P ∧ me p = nI k) (hP : P ≤ 8) (hi : i < N) : ∀ n, n ≤ P → rlA N P f g → rlA N P (fo (loF P wa me (nI i)) n f) (fo (goF wa me (nI i) 0) n g)
  | 0, _, r => r
  | n + 1, hn, r => by
    have r1 := rlA.lo hN hme hP hi n (by omega) r
    rw [fo_succ, fo_succ]
    generalize fo (loF P wa me (nI i)) n f = f1 at *
    generalize fo (goF wa me (nI i) 0) n g = g1 at *
    unfold loF goF
    have e1 := r1.ab hN (p := n) (by omega)
    have e2 : (inR (me n) P ∧ f1 (me n).toNatClampNeg = nI i) ↔ (¬ me n = -1 ∧ g1 (me n).toNatClampNeg = nI i) := by
      rcases hme n (by omega) with a | ⟨k, hk, a⟩
      · rw [a]
        constructor
        · rintro ⟨b, -⟩
          exact absurd (show (-1 : Int32) < 0 by decide) b.1
        · rintro ⟨b, -⟩
          exact absurd rfl b
      · rw [a, nI_clamp (by omega), r1.st hk (by omega)]
        constructor
        · rintro ⟨-, b⟩
          exact ⟨nI_m1 (by omega), b⟩
        · rintro ⟨-, b⟩
          exact ⟨inR_nI hk (by omega), b⟩
    by_cases c : f1 n = -1 ∧ wa n = nI i ∧ ¬ (inR (me n) P ∧ f1 (me n).toNatClampNeg = nI i)
    · rw [if_pos c, if_pos ⟨e1.mp c.1, Or.inr ⟨c.2.1, fun a => c.2.2 (e2.mpr a)⟩⟩]
      exact r1.up hi
    · rw [if_neg c, if_neg]
      · exact r1
      · rintro ⟨a, b | b⟩
        · exact b rfl
        · exact c ⟨e1.mpr a, b.1, fun d => b.2 (e2.mp d)⟩
theorem loF_pt {x : Int32} {p : Nat} : ∀ n, fo (loF P wa me x) n f p = f p ∨ (fo (loF P wa me x) n f p = x ∧ wa p = x ∧ f p = -1)
  | 0 => Or.inl rfl
  | n + 1 => by
    have ih := loF_pt (x := x) (p := p) n
    rw [fo_succ]
    generalize fo (loF P wa me x) n f = f1 at *
    unfold loF
    split
    · rename_i c
      by_cases e : p = n
      · subst e
        rw [pk_us]
        rcases ih with a | a
        · exact Or.inr ⟨rfl, c.2.1, a ▸ c.1⟩
        · exact Or.inr ⟨rfl, a.2⟩
      · rw [pk_un e]
        exact ih
    · exact ih
theorem fo_upd {c : Nat → Int32 → Int32} {p : Nat} : ∀ n, fo (fun p f => upd f p (c p (f p))) n f p = if p < n then c p (f p) else f p
  | 0 => rfl
  | n + 1 => by
    have ih := fo_upd (c := c) (p := p) n
    rw [fo_succ]
    by_cases e : p = n
    · subst e
      rw [pk_us, if_pos (by omega), ih, if_neg (by omega)]
    · rw [pk_un e, ih]
      by_cases d : p < n
      · rw [if_pos d, if_pos (by omega)]
      · rw [if_neg d, if_neg (by omega)]
theorem upd_self {p : Nat} : upd f p (f p) = f := by
  funext q
  by_cases e : q = p
  · rw [e, pk_us]
  · rw [pk_un e]
theorem tiF_pt {x : Int32} {n p : Nat} : fo (tiF wa x) n f p = if p < n then (if f p = x ∧ x < wa p then -1 else f p) else f p := by
  rw [← fo_upd (c := fun p v => if v = x ∧ x < wa p then -1 else v)]
  refine congrFun ?_ p
  refine fo_congr (fun q b _ => ?_)
  unfold tiF
  split
  · rfl
  · rw [upd_self]
theorem boF_pt {stood x : Int32} {n p : Nat} : fo (boF wa stood x) n g p = if p < n then (if bitv stood (nI p) = 1 ∧ x < wa p then -2 else g p) else g p := by
  rw [← fo_upd (c := fun p v => if bitv stood (nI p) = 1 ∧ x < wa p then -2 else v)]
  rfl
theorem emF_pt {n p : Nat} : fo (emF N) n f p = if p < n then (if f p = -1 then nI N - 1 else f p) else f p := by
  rw [← fo_upd (c := fun p v => if v = -1 then nI N - 1 else v)]
  refine congrFun ?_ p
  refine fo_congr (fun q b _ => ?_)
  unfold emF
  split
  · rfl
  · rw [upd_self]
theorem goF_pt {x : Int32} {n p : Nat} : fo (goF wa me x 1) n g p = if p < n then (if g p = -2 then x else g p) else g p := by
  rw [← fo_upd (c := fun p v => if v = -2 then x else v)]
  refine congrFun ?_ p
  refine fo_congr (fun q b _ => ?_)
  unfold goF
  by_cases c : b q = -2
  · rw [if_pos c, if_pos ⟨c, Or.inl (by decide)⟩]
  · rw [if_neg c, if_neg (fun a => c a.1), upd_self]
theorem rlA.bo {stood : Int32} (hN : N ≤ 8) (hme : ∀ p, p < P → me p = -1 ∨ ∃ k, k < P ∧ me p = nI k) (hP : P ≤ 8) (hi : i < N) (hs : ∀ p, p < P → (bitv stood (nI p) = 1 ↔ f p = nI i)) (r : rlA N P f g) : rlA N P (fo (tiF wa (nI i)) P (fo (loF P wa me (nI i)) P f)) (fo (boF wa stood (nI i)) P (fo (goF wa me (nI i) 0) P g)) := by
  have r1 := rlA.lo (wa := wa) hN hme hP hi P (Nat.le_refl _) r
  intro p hp
  rw [tiF_pt, boF_pt, if_pos hp, if_pos hp]
  by_cases c : bitv stood (nI p) = 1 ∧ nI i < wa p
  · rw [if_pos c]
    left
    refine ⟨if_pos ⟨?_, c.2⟩, rfl⟩
    rcases loF_pt (P := P) (wa := wa) (me := me) (f := f) (x := nI i) (p := p) P with a | a
    · rw [a]
      exact (hs p hp).mp c.1
    · exact a.1
  · rw [if_neg c, if_neg]
    · exact r1 p hp
    · rintro ⟨a, b⟩
      rcases loF_pt (P := P) (wa := wa) (me := me) (f := f) (x := nI i) (p := p) P with d | d
      · exact c ⟨(hs p hp).mpr (d ▸ a), b⟩
      · rw [d.2.1] at b
        exact Int32.lt_irrefl b
theorem stF_pos {halts : Int32} {j p : Nat} (hij : i < j) (hj : j < 32) : stF P wa me halts i f p = nI j ↔ f p = nI j := by
  have ne : ¬ nI i = nI j := by rw [nI_eq (by omega) (by omega)]; omega
  unfold stF
  split
  · rw [tiF_pt]
    have e : fo (loF P wa me (nI i)) P f p = nI j ↔ f p = nI j := by
      rcases loF_pt (P := P) (wa := wa) (me := me) (f := f) (x := nI i) (p := p) P with a | a
      · rw [a]
      · rw [a.1, a.2.2]
        exact ⟨fun c => absurd c ne, fun c => absurd c.symm (nI_m1 hj)⟩
    split
    · split
      · rename_i c
        rw [← e, c.1]
        exact ⟨fun c => absurd c.symm (nI_m1 hj), fun c => absurd c ne⟩
      · exact e
    · exact e
  · exact Iff.rfl
end MPure
section MRun
variable {h : am_H} {fed fa ra rf rn rm G fog tr sp dm um sm em : Int32} {sd : Int64} {N P : Nat} {wh wa me mi fe fl g : Nat → Int32}
set_option maxHeartbeats 1000000 in
theorem w_getOut {x0 al : Int32} (hP : P ≤ 8) (hme : ∀ p, p < P → me p = -1 ∨ ∃ k, k < P ∧ me p = nI k) (hm : h.1 130 = mO fed fa ra rf rn rm (nI N) G fog (nI P) tr sp dm sd um sm em) (h4 : h.1 134 = iar g) (h5 : h.1 135 = iar wa) (h6 : h.1 136 = iar me) : am_E M_Mo_getOut [.ref 130, .int x0, .int al] h none (am_set h 134 (iar (fo (goF wa me x0 al) P g))) := by
  (try unfold am_E); unfold am_T
  repeat (first | refine rs [2] rfl rfl rfl rfl ?_ | refine rk rfl rfl ?_ | refine rgoh [2] rfl rfl ?_ | refine rgeta (hi := rfl) (kk := ?_) | refine rialda (hi := rfl) (kk := ?_))
  rw [← am_set_self h4]
  refine lup (P := fun i => ∀ x v4, x = nI i → am_R M_Mo_getOut (2, [.ref 130, .int x0, .int al, .int x, v4], []) (am_set h 134 (iar (fo (goF wa me x0 al) i g))) _) P ?_ ?_ 0 _ nI_0.symm
  · rintro x v4 rfl
    repeat (first | refine rs [] rfl rfl rfl rfl ?_ | refine rk rfl rfl ?_ | refine rgoh [] rfl rfl ?_ | refine rgeta (hi := rfl) (kk := ?_) | refine rialda (hi := rfl) (kk := ?_))
    (first | refine rif rfl rfl (fun c1 => ?_) (fun c1 => ?_) | refine ric rfl rfl (fun c1 => ?_) (fun c1 => ?_))
    · refine rret rfl rfl ?_
      exact ⟨rfl, by rw [am_set_self h4]⟩
    · exact absurd (Int32.le_refl _) c1
  · rintro i hi ih x v4 rfl
    have ih := fun v4 => ih _ v4 (nI_succ i).symm
    rw [fo_succ] at ih
    generalize fo (goF wa me x0 al) i g = g1 at *
    have tl : ∀ v v4, (¬ v = 0 ↔ (¬ me i = -1 ∧ g1 (me i).toNatClampNeg = x0)) → am_R M_Mo_getOut (24, [.ref 130, .int x0, .int al, .int (nI i), v4], [.int v]) (am_set h 134 (iar g1)) (fun r' h' => r' = none ∧ h' = am_set (am_set h 134 (iar g)) 134 (iar (fo (goF wa me x0 al) P g))) := by
      intro v v4 hv
      repeat (first | refine rs [] rfl rfl rfl rfl ?_ | refine rk rfl rfl ?_ | refine rgoh [] rfl rfl ?_ | refine rgeta (hi := rfl) (kk := ?_) | refine rialda (hi := rfl) (kk := ?_))
      (first | refine rif rfl rfl (fun c2 => ?_) (fun c2 => ?_) | refine ric rfl rfl (fun c2 => ?_) (fun c2 => ?_))
      · have st : goF wa me x0 al i g1 = upd g1 i x0 → am_R M_Mo_getOut (41, [.ref 130, .int x0, .int al, .int (nI i), .int v], []) (am_set h 134 (iar g1)) (fun r' h' => r' = none ∧ h' = am_set (am_set h 134 (iar g)) 134 (iar (fo (goF wa me x0 al) P g))) := by
          intro e
          repeat (first | refine rs [] rfl rfl rfl rfl ?_ | refine rk rfl rfl ?_ | refine rgoh [] rfl rfl ?_ | refine rgeta (hi := rfl) (kk := ?_) | refine rialda (hi := rfl) (kk := ?_))
          refine riasta (hi := rfl) (hc := am_set_eq) (kk := ?_)
          rw [am_set_set]
          repeat (first | refine rs [2] rfl rfl rfl rfl ?_ | refine rk rfl rfl ?_ | refine rgoh [2] rfl rfl ?_ | refine rgeta (hi := rfl) (kk := ?_) | refine rialda (hi := rfl) (kk := ?_))
          rw [← e]
          exact ih _
        repeat (first | refine rs [] rfl rfl rfl rfl ?_ | refine rk rfl rfl ?_ | refine rgoh [] rfl rfl ?_ | refine rgeta (hi := rfl) (kk := ?_) | refine rialda (hi := rfl) (kk := ?_))
        (first | refine rif rfl rfl (fun c3 => ?_) (fun c3 => ?_) | refine ric rfl rfl (fun c3 => ?_) (fun c3 => ?_))
        · repeat (first | refine rs [] rfl rfl rfl rfl ?_ | refine rk rfl rfl ?_ | refine rgoh [] rfl rfl ?_ | refine rgeta (hi := rfl) (kk := ?_) | refine rialda (hi := rfl) (kk := ?_))
          (first | refine rif rfl rfl (fun c4 => ?_) (fun c4 => ?_) | refine ric rfl rfl (fun c4 => ?_) (fun c4 => ?_))
          · repeat (first | refine rs [] rfl rfl rfl rfl ?_ | refine rk rfl rfl ?_ | refine rgoh [] rfl rfl ?_ | refine rgeta (hi := rfl) (kk := ?_) | refine rialda (hi := rfl) (kk := ?_))
            (first | refine rif rfl rfl (fun c5 => ?_) (fun c5 => ?_) | refine ric rfl rfl (fun c5 => ?_) (fun c5 => ?_))
            · refine st ?_
              unfold goF
              exact if_pos ⟨c2, Or.inr ⟨c4, fun a => hv.mpr a c5⟩⟩
            · repeat (first | refine rs [2] rfl rfl rfl rfl ?_ | refine rk rfl rfl ?_ | refine rgoh [2] rfl rfl ?_ | refine rgeta (hi := rfl) (kk := ?_) | refine rialda (hi := rfl) (kk := ?_))
              have e : goF wa me x0 al i g1 = g1 := by
                unfold goF
                refine if_neg ?_
                rintro ⟨a, b | b⟩
                · exact b c3
                · exact b.2 (hv.mp c5)
              rw [e] at ih
              exact ih _
          · repeat (first | refine rs [2] rfl rfl rfl rfl ?_ | refine rk rfl rfl ?_ | refine rgoh [2] rfl rfl ?_ | refine rgeta (hi := rfl) (kk := ?_) | refine rialda (hi := rfl) (kk := ?_))
            have e : goF wa me x0 al i g1 = g1 := by
              unfold goF
              refine if_neg ?_
              rintro ⟨a, b | b⟩
              · exact b c3
              · exact c4 b.1
            rw [e] at ih
            exact ih _
        · refine st ?_
          unfold goF
          exact if_pos ⟨c2, Or.inl c3⟩
      · repeat (first | refine rs [2] rfl rfl rfl rfl ?_ | refine rk rfl rfl ?_ | refine rgoh [2] rfl rfl ?_ | refine rgeta (hi := rfl) (kk := ?_) | refine rialda (hi := rfl) (kk := ?_))
        have e : goF wa me x0 al i g1 = g1 := by
          unfold goF
          exact if_neg (fun a => c2 a.1)
        rw [e] at ih
        exact ih _
    repeat (first | refine rs [] rfl rfl rfl rfl ?_ | refine rk rfl rfl ?_ | refine rgoh [] rfl rfl ?_ | refine rgeta (hi := rfl) (kk := ?_) | refine rialda (hi := rfl) (kk := ?_))
    (first | refine rif rfl rfl (fun c1 => ?_) (fun c1 => ?_) | refine ric rfl rfl (fun c1 => ?_) (fun c1 => ?_))
    · exact absurd hi ((nI_lt_iff (by omega) (by omega)).mp c1)
    · repeat (first | refine rs [] rfl rfl rfl rfl ?_ | refine rk rfl rfl ?_ | refine rgoh [] rfl rfl ?_ | refine rgeta (hi := rfl) (kk := ?_) | refine rialda (hi := rfl) (kk := ?_))
      (first | refine rif rfl rfl (fun c2 => ?_) (fun c2 => ?_) | refine ric rfl rfl (fun c2 => ?_) (fun c2 => ?_))
      · repeat (first | refine rs [24] rfl rfl rfl rfl ?_ | refine rk rfl rfl ?_ | refine rgoh [24] rfl rfl ?_ | refine rgeta (hi := rfl) (kk := ?_) | refine rialda (hi := rfl) (kk := ?_))
        refine tl _ _ ⟨fun a => absurd rfl a, fun a => absurd c2 a.1⟩
      · rcases hme i hi with e | ⟨k, hk, e⟩
        · exact absurd e c2
        · repeat (first | refine rs [] rfl rfl rfl rfl ?_ | refine rk rfl rfl ?_ | refine rgoh [] rfl rfl ?_ | refine rgeta (hi := rfl) (kk := ?_) | refine rialda (hi := rfl) (kk := ?_))
          (first | refine rif rfl rfl (fun c3 => ?_) (fun c3 => ?_) | refine ric rfl rfl (fun c3 => ?_) (fun c3 => ?_))
          · repeat (first | refine rs [24] rfl rfl rfl rfl ?_ | refine rk rfl rfl ?_ | refine rgoh [24] rfl rfl ?_ | refine rgeta (hi := rfl) (kk := ?_) | refine rialda (hi := rfl) (kk := ?_))
            refine tl _ _ ⟨fun _ => ⟨c2, ?_⟩, fun _ => by decide⟩
            rw [e, nI_clamp (by omega)]
            exact c3
          · repeat (first | refine rs [24] rfl rfl rfl rfl ?_ | refine rk rfl rfl ?_ | refine rgoh [24] rfl rfl ?_ | refine rgeta (hi := rfl) (kk := ?_) | refine rialda (hi := rfl) (kk := ?_))
            refine tl _ _ ⟨fun a => absurd rfl a, fun a => absurd ?_ c3⟩
            have := a.2
            rw [e, nI_clamp (by omega)] at this
            exact this
end MRun
