/-! the model's scene: who is awaited, who has arrived -/
def shM (mi fe fl : Nat → Int32) (p : Nat) : Int32 := mi p + 2 * fe p + 3 * fl p
/-- somebody below n seems to wait at x -/
def awP (wh sh : Nat → Int32) (lim x : Int32) (n : Nat) : Prop := ∃ p, p < n ∧ wh p = x ∧ ¬ sh p < lim
theorem awP_0 {wh sh : Nat → Int32} {lim x : Int32} : ¬ awP wh sh lim x 0 := by
  rintro ⟨p, hp, -⟩
  omega
theorem awP_s {wh sh : Nat → Int32} {lim x : Int32} {n : Nat} : awP wh sh lim x (n + 1) ↔ awP wh sh lim x n ∨ (wh n = x ∧ ¬ sh n < lim) := by
  constructor
  · rintro ⟨p, hp, a⟩
    rcases Nat.lt_or_ge p n with g | g
    · exact Or.inl ⟨p, g, a⟩
    · rw [show p = n by omega] at a
      exact Or.inr a
  · rintro (⟨p, hp, a⟩ | a)
    · exact ⟨p, by omega, a⟩
    · exact ⟨n, by omega, a⟩
section MScene
variable {h : am_H} {fed fa ra rf rn rm G fog tr sp dm um sm em : Int32} {sd : Int64} {N P : Nat} {wh wa me mi fe fl : Nat → Int32}
theorem w_isAwaited {x0 : Int32} (hP : P ≤ 8) (hm : h.1 130 = mO fed fa ra rf rn rm (nI N) G fog (nI P) tr sp dm sd um sm em) (h4 : h.1 134 = iar wh) (h7 : h.1 137 = iar mi) (h8 : h.1 138 = iar fe) (h9 : h.1 139 = iar fl) : am_T M_Mo_isAwaited [.ref 130, .int x0] h (fun r h' => h' = h ∧ ∃ v, r = some (.int v) ∧ (v = 1 ∧ awP wh (shM mi fe fl) (G + fog) x0 P ∨ v = 0 ∧ ¬ awP wh (shM mi fe fl) (G + fog) x0 P)) := by
  (try unfold am_E); unfold am_T
  repeat (first | refine rs [4] rfl rfl rfl rfl ?_ | refine rk rfl rfl ?_ | refine rgoh [4] rfl rfl ?_ | refine rgeta (hi := rfl) (kk := ?_) | refine rialda (hi := rfl) (kk := ?_))
  refine lup (P := fun i => ∀ x v, x = nI i → (v = 1 ∧ awP wh (shM mi fe fl) (G + fog) x0 i ∨ v = 0 ∧ ¬ awP wh (shM mi fe fl) (G + fog) x0 i) → am_R M_Mo_isAwaited (4, [.ref 130, .int x0, .int v, .int x], []) h _) P ?_ ?_ 0 0 nI_0.symm (Or.inr ⟨rfl, awP_0⟩)
  · rintro x v rfl hv
    repeat (first | refine rs [] rfl rfl rfl rfl ?_ | refine rk rfl rfl ?_ | refine rgoh [] rfl rfl ?_ | refine rgeta (hi := rfl) (kk := ?_) | refine rialda (hi := rfl) (kk := ?_))
    (first | refine rif rfl rfl (fun c1 => ?_) (fun c1 => ?_) | refine ric rfl rfl (fun c1 => ?_) (fun c1 => ?_))
    · repeat (first | refine rs [] rfl rfl rfl rfl ?_ | refine rk rfl rfl ?_ | refine rgoh [] rfl rfl ?_ | refine rgeta (hi := rfl) (kk := ?_) | refine rialda (hi := rfl) (kk := ?_))
      refine rretz rfl rfl (by rcases hv with ⟨a, -⟩ | ⟨a, -⟩; exact Or.inr a; exact Or.inl a) ?_
      exact ⟨rfl, v, rfl, hv⟩
    · exact absurd (Int32.le_refl _) c1
  · rintro i hi ih x v rfl hv
    have ih1 := ih _ 1 (nI_succ i).symm
    have ih0 := ih _ 0 (nI_succ i).symm
    repeat (first | refine rs [] rfl rfl rfl rfl ?_ | refine rk rfl rfl ?_ | refine rgoh [] rfl rfl ?_ | refine rgeta (hi := rfl) (kk := ?_) | refine rialda (hi := rfl) (kk := ?_))
    (first | refine rif rfl rfl (fun c1 => ?_) (fun c1 => ?_) | refine ric rfl rfl (fun c1 => ?_) (fun c1 => ?_))
    · exact absurd hi ((nI_lt_iff (by omega) (by omega)).mp c1)
    · repeat (first | refine rs [] rfl rfl rfl rfl ?_ | refine rk rfl rfl ?_ | refine rgoh [] rfl rfl ?_ | refine rgeta (hi := rfl) (kk := ?_) | refine rialda (hi := rfl) (kk := ?_))
      (first | refine rif rfl rfl (fun c2 => ?_) (fun c2 => ?_) | refine ric rfl rfl (fun c2 => ?_) (fun c2 => ?_))
      · have nv : ¬ awP wh (shM mi fe fl) (G + fog) x0 i := by
          rcases hv with ⟨a, b⟩ | ⟨a, b⟩
          · rw [a] at c2
            exact absurd c2 (by decide)
          · exact b
        repeat (first | refine rs [] rfl rfl rfl rfl ?_ | refine rk rfl rfl ?_ | refine rgoh [] rfl rfl ?_ | refine rgeta (hi := rfl) (kk := ?_) | refine rialda (hi := rfl) (kk := ?_))
        (first | refine rif rfl rfl (fun c3 => ?_) (fun c3 => ?_) | refine ric rfl rfl (fun c3 => ?_) (fun c3 => ?_))
        · repeat (first | refine rs [] rfl rfl rfl rfl ?_ | refine rk rfl rfl ?_ | refine rgoh [] rfl rfl ?_ | refine rgeta (hi := rfl) (kk := ?_) | refine rialda (hi := rfl) (kk := ?_))
          (first | refine rcvs rfl rfl rfl rfl rfl (by first | assumption | (simp (disch := omega) only [am_set_ne, am_set_eq]; first | assumption | rfl)) rfl (w_shows rfl (by omega) hm h7 h8 h9) ?_ | refine rcvn rfl rfl rfl rfl rfl (by first | assumption | (simp (disch := omega) only [am_set_ne, am_set_eq]; first | assumption | rfl)) rfl (w_shows rfl (by omega) hm h7 h8 h9) ?_)
          repeat (first | refine rs [] rfl rfl rfl rfl ?_ | refine rk rfl rfl ?_ | refine rgoh [] rfl rfl ?_ | refine rgeta (hi := rfl) (kk := ?_) | refine rialda (hi := rfl) (kk := ?_))
          (first | refine rif rfl rfl (fun c4 => ?_) (fun c4 => ?_) | refine ric rfl rfl (fun c4 => ?_) (fun c4 => ?_))
          · repeat (first | refine rs [4] rfl rfl rfl rfl ?_ | refine rk rfl rfl ?_ | refine rgoh [4] rfl rfl ?_ | refine rgeta (hi := rfl) (kk := ?_) | refine rialda (hi := rfl) (kk := ?_))
            refine ih0 (Or.inr ⟨rfl, fun a => ?_⟩)
            rcases awP_s.mp a with a | a
            · exact nv a
            · exact a.2 c4
          · repeat (first | refine rs [4] rfl rfl rfl rfl ?_ | refine rk rfl rfl ?_ | refine rgoh [4] rfl rfl ?_ | refine rgeta (hi := rfl) (kk := ?_) | refine rialda (hi := rfl) (kk := ?_))
            exact ih1 (Or.inl ⟨rfl, awP_s.mpr (Or.inr ⟨c3, c4⟩)⟩)
        · repeat (first | refine rs [4] rfl rfl rfl rfl ?_ | refine rk rfl rfl ?_ | refine rgoh [4] rfl rfl ?_ | refine rgeta (hi := rfl) (kk := ?_) | refine rialda (hi := rfl) (kk := ?_))
          refine ih0 (Or.inr ⟨rfl, fun a => ?_⟩)
          rcases awP_s.mp a with a | a
          · exact nv a
          · exact c3 a.1
      · repeat (first | refine rs [4] rfl rfl rfl rfl ?_ | refine rk rfl rfl ?_ | refine rgoh [4] rfl rfl ?_ | refine rgeta (hi := rfl) (kk := ?_) | refine rialda (hi := rfl) (kk := ?_))
        refine ih1 (Or.inl ⟨rfl, awP_s.mpr (Or.inl ?_)⟩)
        rcases hv with ⟨a, b⟩ | ⟨a, -⟩
        · exact b
        · exact absurd a c2
theorem or_if {c : Prop} {d : Decidable c} {s y : Int32} : s ||| (if c then y else 0) = if c then s ||| y else s := by
  by_cases q : c
  · rw [if_pos q, if_pos q]
  · rw [if_neg q, if_neg q]
    exact Int32.or_zero
theorem w_awaitedSet (hN : N ≤ 8) (hP : P ≤ 8) (hm : h.1 130 = mO fed fa ra rf rn rm (nI N) G fog (nI P) tr sp dm sd um sm em) (h4 : h.1 134 = iar wh) (h7 : h.1 137 = iar mi) (h8 : h.1 138 = iar fe) (h9 : h.1 139 = iar fl) : am_T M_Mo_awaitedSet [.ref 130] h (fun r h' => h' = h ∧ ∃ v, r = some (.int v) ∧ ∀ j, j < 32 → (bt v j = true ↔ j < N ∧ awP wh (shM mi fe fl) (G + fog) (nI j) P)) := by
  (try unfold am_E); unfold am_T
  repeat (first | refine rs [4] rfl rfl rfl rfl ?_ | refine rk rfl rfl ?_ | refine rgoh [4] rfl rfl ?_ | refine rgeta (hi := rfl) (kk := ?_) | refine rialda (hi := rfl) (kk := ?_))
  refine lup (P := fun i => ∀ x v, x = nI i → (∀ j, j < 32 → (bt v j = true ↔ j < i ∧ awP wh (shM mi fe fl) (G + fog) (nI j) P)) → am_R M_Mo_awaitedSet (4, [.ref 130, .int v, .int x], []) h _) N ?_ ?_ 0 0 nI_0.symm (fun j hj => by rw [b_0]; simp)
  · rintro x v rfl hv
    repeat (first | refine rs [] rfl rfl rfl rfl ?_ | refine rk rfl rfl ?_ | refine rgoh [] rfl rfl ?_ | refine rgeta (hi := rfl) (kk := ?_) | refine rialda (hi := rfl) (kk := ?_))
    (first | refine rif rfl rfl (fun c1 => ?_) (fun c1 => ?_) | refine ric rfl rfl (fun c1 => ?_) (fun c1 => ?_))
    · repeat (first | refine rs [] rfl rfl rfl rfl ?_ | refine rk rfl rfl ?_ | refine rgoh [] rfl rfl ?_ | refine rgeta (hi := rfl) (kk := ?_) | refine rialda (hi := rfl) (kk := ?_))
      refine rret rfl rfl ?_
      exact ⟨rfl, v, rfl, hv⟩
    · exact absurd (Int32.le_refl _) c1
  · rintro i hi ih x v rfl hv
    have ih := fun v => ih _ v (nI_succ i).symm
    repeat (first | refine rs [] rfl rfl rfl rfl ?_ | refine rk rfl rfl ?_ | refine rgoh [] rfl rfl ?_ | refine rgeta (hi := rfl) (kk := ?_) | refine rialda (hi := rfl) (kk := ?_))
    (first | refine rif rfl rfl (fun c1 => ?_) (fun c1 => ?_) | refine ric rfl rfl (fun c1 => ?_) (fun c1 => ?_))
    · exact absurd hi ((nI_lt_iff (by omega) (by omega)).mp c1)
    · repeat (first | refine rs [] rfl rfl rfl rfl ?_ | refine rk rfl rfl ?_ | refine rgoh [] rfl rfl ?_ | refine rgeta (hi := rfl) (kk := ?_) | refine rialda (hi := rfl) (kk := ?_))
      refine rcvt rfl rfl rfl rfl rfl hm rfl (w_isAwaited hP hm h4 h7 h8 h9) ?_
      rintro r h' ⟨rfl, w, rfl, hw⟩
      show am_R M_Mo_awaitedSet (12, _, [.int w, .int v]) _ _
      (first | refine rif rfl rfl (fun c2 => ?_) (fun c2 => ?_) | refine ric rfl rfl (fun c2 => ?_) (fun c2 => ?_))
      · repeat (first | refine rs [4] rfl rfl rfl rfl ?_ | refine rk rfl rfl ?_ | refine rgoh [4] rfl rfl ?_ | refine rgeta (hi := rfl) (kk := ?_) | refine rialda (hi := rfl) (kk := ?_))
        refine ih _ (fun j hj => ?_)
        show bt (v ||| 0) j = true ↔ _
        rw [Int32.or_zero, hv j hj]
        have nw : ¬ awP wh (shM mi fe fl) (G + fog) (nI i) P := by
          rcases hw with ⟨a, b⟩ | ⟨a, b⟩
          · rw [a] at c2
            exact absurd c2 (by decide)
          · exact b
        constructor
        · rintro ⟨a, b⟩
          exact ⟨by omega, b⟩
        · rintro ⟨a, b⟩
          refine ⟨?_, b⟩
          rcases Nat.lt_or_ge j i with g | g
          · exact g
          · exact absurd (show awP wh (shM mi fe fl) (G + fog) (nI i) P by rw [show i = j by omega]; exact b) nw
      · repeat (first | refine rs [4] rfl rfl rfl rfl ?_ | refine rk rfl rfl ?_ | refine rgoh [4] rfl rfl ?_ | refine rgeta (hi := rfl) (kk := ?_) | refine rialda (hi := rfl) (kk := ?_))
        refine ih _ (fun j hj => ?_)
        show bt (v ||| sh1 (nI i)) j = true ↔ _
        rw [b_or, bt_sh1 (by omega) hj, Bool.or_eq_true, hv j hj, decide_eq_true_iff]
        have nw : awP wh (shM mi fe fl) (G + fog) (nI i) P := by
          rcases hw with ⟨a, b⟩ | ⟨a, b⟩
          · exact b
          · exact absurd a c2
        constructor
        · rintro (⟨a, b⟩ | rfl)
          · exact ⟨by omega, b⟩
          · exact ⟨by omega, nw⟩
        · rintro ⟨a, b⟩
          rcases Nat.lt_or_ge j i with g | g
          · exact Or.inl ⟨g, b⟩
          · exact Or.inr (by omega)
theorem w_arrivedSet (hP : P ≤ 8) (hm : h.1 130 = mO fed fa ra rf rn rm (nI N) G fog (nI P) tr sp dm sd um sm em) (h4 : h.1 134 = iar wh) (h5 : h.1 135 = iar wa) : am_E M_Mo_arrivedSet [.ref 130] h (some (.int (arv wh wa P))) h := by
  (try unfold am_E); unfold am_T
  repeat (first | refine rs [4] rfl rfl rfl rfl ?_ | refine rk rfl rfl ?_ | refine rgoh [4] rfl rfl ?_ | refine rgeta (hi := rfl) (kk := ?_) | refine rialda (hi := rfl) (kk := ?_))
  refine lup (P := fun i => ∀ x, x = nI i → am_R M_Mo_arrivedSet (4, [.ref 130, .int (fo (fun p s => if wh p = wa p then s ||| sh1 (nI p) else s) i 0), .int x], []) h _) P ?_ ?_ 0 nI_0.symm
  · rintro x rfl
    repeat (first | refine rs [] rfl rfl rfl rfl ?_ | refine rk rfl rfl ?_ | refine rgoh [] rfl rfl ?_ | refine rgeta (hi := rfl) (kk := ?_) | refine rialda (hi := rfl) (kk := ?_))
    (first | refine rif rfl rfl (fun c1 => ?_) (fun c1 => ?_) | refine ric rfl rfl (fun c1 => ?_) (fun c1 => ?_))
    · repeat (first | refine rs [] rfl rfl rfl rfl ?_ | refine rk rfl rfl ?_ | refine rgoh [] rfl rfl ?_ | refine rgeta (hi := rfl) (kk := ?_) | refine rialda (hi := rfl) (kk := ?_))
      refine rret rfl rfl ?_
      exact ⟨rfl, rfl⟩
    · exact absurd (Int32.le_refl _) c1
  · rintro i hi ih x rfl
    have := ih _ (nI_succ i).symm
    rw [fo_succ] at this
    repeat (first | refine rs [] rfl rfl rfl rfl ?_ | refine rk rfl rfl ?_ | refine rgoh [] rfl rfl ?_ | refine rgeta (hi := rfl) (kk := ?_) | refine rialda (hi := rfl) (kk := ?_))
    (first | refine rif rfl rfl (fun c1 => ?_) (fun c1 => ?_) | refine ric rfl rfl (fun c1 => ?_) (fun c1 => ?_))
    · exact absurd hi ((nI_lt_iff (by omega) (by omega)).mp c1)
    · repeat (first | refine rs [] rfl rfl rfl rfl ?_ | refine rk rfl rfl ?_ | refine rgoh [] rfl rfl ?_ | refine rgeta (hi := rfl) (kk := ?_) | refine rialda (hi := rfl) (kk := ?_))
      (first | refine rif rfl rfl (fun c2 => ?_) (fun c2 => ?_) | refine ric rfl rfl (fun c2 => ?_) (fun c2 => ?_))
      · rw [if_pos c2] at this
        repeat (first | refine rs [4] rfl rfl rfl rfl ?_ | refine rk rfl rfl ?_ | refine rgoh [4] rfl rfl ?_ | refine rgeta (hi := rfl) (kk := ?_) | refine rialda (hi := rfl) (kk := ?_))
        exact this
      · rw [if_neg c2] at this
        repeat (first | refine rs [4] rfl rfl rfl rfl ?_ | refine rk rfl rfl ?_ | refine rgoh [4] rfl rfl ?_ | refine rgeta (hi := rfl) (kk := ?_) | refine rialda (hi := rfl) (kk := ?_))
        rw [Int32.or_zero]
        exact this
end MScene
/-- bits of whom the guard takes to wait -/
theorem awA_bt {hope G : Int32} {N : Nat} {S : Sc} (hN : N ≤ 8) : ∀ n, (∀ p, p < n → ∃ k, k < N ∧ S.1 p = nI k) → ∀ j, j < 32 → (bt (awA hope G n S) j = true ↔ awP S.1 (shA hope S) (G + S.2.2.2.2.1) (nI j) n)
  | 0, _, j, _ => by
    show bt 0 j = true ↔ _
    rw [b_0]
    constructor
    · intro a
      cases a
    · exact fun a => absurd a awP_0
  | n + 1, hS, j, hj => by
    have ih := awA_bt (hope := hope) (G := G) hN n (fun p hp => hS p (by omega)) j hj
    obtain ⟨k, hk, ek⟩ := hS n (by omega)
    show bt (if shA hope S n < G + S.2.2.2.2.1 then awA hope G n S else awA hope G n S ||| sh1 (S.1 n)) j = true ↔ _
    rw [awP_s]
    by_cases c : shA hope S n < G + S.2.2.2.2.1
    · rw [if_pos c, ih]
      constructor
      · exact Or.inl
      · rintro (a | a)
        · exact a
        · exact absurd c a.2
    · rw [if_neg c, ek, b_or, bt_sh1 (by omega) hj, Bool.or_eq_true, ih, decide_eq_true_iff]
      refine or_congr Iff.rfl ?_
      rw [nI_eq (by omega) (by omega)]
      constructor
      · rintro rfl
        exact ⟨rfl, c⟩
      · rintro ⟨rfl, -⟩
        rfl
theorem bt_ext {x y : Int32} (h : ∀ j, j < 32 → (bt x j = true ↔ bt y j = true)) : x = y := b_ext (fun i hi => by rw [Bool.eq_iff_iff]; exact h i hi)
/-- all stations' bits -/
theorem bt_all : ∀ n, n ≤ 8 → ∀ j, j < 32 → bt (sh1 (nI n) - 1) j = decide (j < n) := by decide +kernel
theorem stA_bt {hope G : Int32} {N P : Nat} {S : Sc} (hN : N ≤ 8) (hS : ∀ p, p < P → ∃ k, k < N ∧ S.1 p = nI k) {j : Nat} (hj : j < 32) : bt (stA hope G N P S) j = true ↔ j < N ∧ ¬ awP S.1 (shA hope S) (G + S.2.2.2.2.1) (nI j) P := by
  unfold stA
  rw [b_and, bt_all N hN j hj, b_xor, b_m1 j hj, Bool.and_eq_true, decide_eq_true_iff, ← awA_bt hN P hS j hj]
  cases bt (awA hope G P S) j <;> simp
theorem awP_congr {wh wh' sh sh' : Nat → Int32} {lim x : Int32} {n : Nat} (e : ∀ p, p < n → wh p = wh' p ∧ sh p = sh' p) : awP wh sh lim x n ↔ awP wh' sh' lim x n := by
  constructor
  · rintro ⟨p, hp, a, b⟩
    exact ⟨p, hp, (e p hp).1 ▸ a, (e p hp).2 ▸ b⟩
  · rintro ⟨p, hp, a, b⟩
    exact ⟨p, hp, (e p hp).1 ▸ a, (e p hp).2 ▸ b⟩
