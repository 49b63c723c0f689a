/-! HOW RUNS ARE SHOWN: a rule a step, a rule a call -/
def am_R (M : am_M) (F : am_F) (h : am_H) (Φ : Option Value → am_H → Prop) : Prop := ∃ f r h', am_run f M F h = some (r, h') ∧ Φ r h'
/-- a call of K with the arguments As -/
def am_T (K : am_M) (As : List Value) (h : am_H) (Φ : Option Value → am_H → Prop) : Prop := am_R K (0, am_entry K As, []) h Φ
/-- it answers r and leaves h1 -/
def am_E (K : am_M) (As : List Value) (h : am_H) (r : Option Value) (h1 : am_H) : Prop := am_T K As h (fun r' h' => r' = r ∧ h' = h1)
theorem am_run_succ : ∀ (f : Nat) {M : am_M} {F : am_F} {h : am_H} {q : Option Value × am_H}, am_run f M F h = some q → am_run (f + 1) M F h = some q
  | 0, _, _, _, _, e => by cases e
  | f + 1, M, F, h, q, e => by
    rw [am_run] at e ⊢
    split at e
    · split at e
      · rename_i F1 h1 e1
        exact am_run_succ f e
      · cases e
    · split at e
      · split at e
        · rename_i r1 h1 e1
          rw [am_run_succ f e1]
          exact am_run_succ f e
        · cases e
      · cases e
    · exact e
theorem am_run_le {f g : Nat} (hfg : f ≤ g) {M : am_M} {F : am_F} {h : am_H} {q : Option Value × am_H} (e : am_run f M F h = some q) : am_run g M F h = some q := by
  induction hfg with
  | refl => exact e
  | step _ ih => exact am_run_succ _ ih
theorem am_R.imp {M : am_M} {F : am_F} {h : am_H} {Φ Ψ : Option Value → am_H → Prop} (k : am_R M F h Φ) (hi : ∀ r h', Φ r h' → Ψ r h') : am_R M F h Ψ := by
  obtain ⟨f, r, h', e, q⟩ := k
  exact ⟨f, r, h', e, hi r h' q⟩
def am_hdq : List Nat → Nat → Bool
  | [], _ => false
  | x :: l, n => (match Nat.beq x n with | true => true | false => am_hdq l n)
theorem am_R_step {M : am_M} {F F' : am_F} {h h' : am_H} {Φ : Option Value → am_H → Prop} (hk : am_kind (am_ins M F.1) = 0) (e : am_step (am_ins M F.1) F.1 F.2.1 F.2.2 h = some (F', h')) (k : am_R M F' h' Φ) : am_R M F h Φ := by
  obtain ⟨f, r, h2, e2, q⟩ := k
  refine ⟨f + 1, r, h2, ?_, q⟩
  rw [am_run, hk]
  try dsimp only
  rw [e]
  exact e2
/-- a step; hd: where to stand still -/
def am_pl : Instr → Bool
  | .ifCond _ _ => false
  | .if_icmp _ _ => false
  | .tableswitch _ _ _ _ => false
  | .lookupswitch _ _ => false
  | .iconst _ => false
  | .bipush _ => false
  | .sipush _ => false
  | .ldc _ => false
  | .ldc2_w _ => false
  | .goto _ => false
  | _ => true
def am_isk : Instr → Bool
  | .iconst _ => true
  | .bipush _ => true
  | .sipush _ => true
  | .ldc _ => true
  | .ldc2_w _ => true
  | _ => false
theorem rs (hd : List Nat) {M : am_M} {j : Nat} {ls st : List Value} {F' : am_F} {h h' : am_H} {Φ : Option Value → am_H → Prop} (_hh : am_hdq hd j = false) (_hp : am_pl (am_ins M j).1 = true) (hk : am_kind (am_ins M j) = 0) (e : am_step (am_ins M j) j ls st h = some (F', h')) (k : am_R M F' h' Φ) : am_R M (j, ls, st) h Φ := am_R_step hk e k
/-- a constant -/
theorem rk {M : am_M} {j len a b : Nat} {ins : Instr} {v : Value} {sw : List (Int32 × Nat)} {ls st : List Value} {h : am_H} {Φ : Option Value → am_H → Prop} (hi : am_ins M j = (ins, len, a, b, v, sw)) (hk : am_isk ins = true) (k : am_R M (j + 1, ls, v :: st) h Φ) : am_R M (j, ls, st) h Φ := by
  refine am_R_step (F' := (j + 1, ls, v :: st)) (h' := h) ?_ ?_ k
  · rw [hi]
    cases ins <;> first | rfl | cases hk
  · rw [hi]
    cases ins <;> first | rfl | cases hk
theorem rgo {M : am_M} {j len t : Nat} {o : Int} {z : Nat × Value × List (Int32 × Nat)} {ls st : List Value} {h : am_H} {Φ : Option Value → am_H → Prop} (hi : am_ins M j = (.goto o, len, t, z)) (k : am_R M (t, ls, st) h Φ) : am_R M (j, ls, st) h Φ := by
  refine am_R_step (F' := (t, ls, st)) (h' := h) ?_ ?_ k
  · rw [hi]; rfl
  · rw [hi]; rfl
/-- a jump, but not from where to stand still -/
theorem rgoh (hd : List Nat) {M : am_M} {j len t : Nat} {o : Int} {z : Nat × Value × List (Int32 × Nat)} {ls st : List Value} {h : am_H} {Φ : Option Value → am_H → Prop} (_hh : am_hdq hd j = false) (hi : am_ins M j = (.goto o, len, t, z)) (k : am_R M (t, ls, st) h Φ) : am_R M (j, ls, st) h Φ := rgo hi k
theorem rif {M : am_M} {j len t : Nat} {cd : ClassFile.Cond} {o : Int} {z : Nat × Value × List (Int32 × Nat)} {ls st : List Value} {h : am_H} {Φ : Option Value → am_H → Prop} {c : Prop} {dc : Decidable c} {x y : Nat} {v : Int32} (hi : am_ins M j = (.ifCond cd o, len, t, z)) (hc : am_cmp cd v 0 t (j + 1) = @ite Nat c dc x y) (kt : c → am_R M (x, ls, st) h Φ) (kf : ¬ c → am_R M (y, ls, st) h Φ) : am_R M (j, ls, .int v :: st) h Φ := by
  refine am_R_step (F' := (am_cmp cd v 0 t (j + 1), ls, st)) (h' := h) (by rw [hi]; rfl) (by rw [hi]; rfl) ?_
  rw [hc]
  by_cases q : c
  · rw [if_pos q]
    exact kt q
  · rw [if_neg q]
    exact kf q
theorem ric {M : am_M} {j len t : Nat} {cd : ClassFile.Cond} {o : Int} {z : Nat × Value × List (Int32 × Nat)} {ls st : List Value} {h : am_H} {Φ : Option Value → am_H → Prop} {c : Prop} {dc : Decidable c} {x y : Nat} {v w : Int32} (hi : am_ins M j = (.if_icmp cd o, len, t, z)) (hc : am_cmp cd v w t (j + 1) = @ite Nat c dc x y) (kt : c → am_R M (x, ls, st) h Φ) (kf : ¬ c → am_R M (y, ls, st) h Φ) : am_R M (j, ls, .int w :: .int v :: st) h Φ := by
  refine am_R_step (F' := (am_cmp cd v w t (j + 1), ls, st)) (h' := h) (by rw [hi]; rfl) (by rw [hi]; rfl) ?_
  rw [hc]
  by_cases q : c
  · rw [if_pos q]
    exact kt q
  · rw [if_neg q]
    exact kf q
/-! branches on constants -/
theorem rift {M : am_M} {j len t : Nat} {cd : ClassFile.Cond} {o : Int} {z : Nat × Value × List (Int32 × Nat)} {ls st : List Value} {h : am_H} {Φ : Option Value → am_H → Prop} {v : Int32} (hi : am_ins M j = (.ifCond cd o, len, t, z)) (hc : am_cmp cd v 0 t (j + 1) = t) (k : am_R M (t, ls, st) h Φ) : am_R M (j, ls, .int v :: st) h Φ := by
  refine am_R_step (F' := (am_cmp cd v 0 t (j + 1), ls, st)) (h' := h) (by rw [hi]; rfl) (by rw [hi]; rfl) ?_
  rw [hc]
  exact k
theorem riff {M : am_M} {j len t : Nat} {cd : ClassFile.Cond} {o : Int} {z : Nat × Value × List (Int32 × Nat)} {ls st : List Value} {h : am_H} {Φ : Option Value → am_H → Prop} {v : Int32} (hi : am_ins M j = (.ifCond cd o, len, t, z)) (hc : am_cmp cd v 0 t (j + 1) = (j + 1)) (k : am_R M ((j + 1), ls, st) h Φ) : am_R M (j, ls, .int v :: st) h Φ := by
  refine am_R_step (F' := (am_cmp cd v 0 t (j + 1), ls, st)) (h' := h) (by rw [hi]; rfl) (by rw [hi]; rfl) ?_
  rw [hc]
  exact k
theorem rict {M : am_M} {j len t : Nat} {cd : ClassFile.Cond} {o : Int} {z : Nat × Value × List (Int32 × Nat)} {ls st : List Value} {h : am_H} {Φ : Option Value → am_H → Prop} {v w : Int32} (hi : am_ins M j = (.if_icmp cd o, len, t, z)) (hc : am_cmp cd v w t (j + 1) = t) (k : am_R M (t, ls, st) h Φ) : am_R M (j, ls, .int w :: .int v :: st) h Φ := by
  refine am_R_step (F' := (am_cmp cd v w t (j + 1), ls, st)) (h' := h) (by rw [hi]; rfl) (by rw [hi]; rfl) ?_
  rw [hc]
  exact k
theorem ricf {M : am_M} {j len t : Nat} {cd : ClassFile.Cond} {o : Int} {z : Nat × Value × List (Int32 × Nat)} {ls st : List Value} {h : am_H} {Φ : Option Value → am_H → Prop} {v w : Int32} (hi : am_ins M j = (.if_icmp cd o, len, t, z)) (hc : am_cmp cd v w t (j + 1) = (j + 1)) (k : am_R M ((j + 1), ls, st) h Φ) : am_R M (j, ls, .int w :: .int v :: st) h Φ := by
  refine am_R_step (F' := (am_cmp cd v w t (j + 1), ls, st)) (h' := h) (by rw [hi]; rfl) (by rw [hi]; rfl) ?_
  rw [hc]
  exact k
/-- a switch -/
theorem rsw {M : am_M} {j len d b : Nat} {ins : Instr} {vv : Value} {sw : List (Int32 × Nat)} {ls st : List Value} {h : am_H} {Φ : Option Value → am_H → Prop} {x : Int32} (hi : am_ins M j = (ins, len, d, b, vv, sw)) (hk : (match ins with | .tableswitch _ _ _ _ => true | .lookupswitch _ _ => true | _ => false) = true) (k : am_R M (am_sw x d sw, ls, st) h Φ) : am_R M (j, ls, .int x :: st) h Φ := by
  refine am_R_step (F' := (am_sw x d sw, ls, st)) (h' := h) ?_ ?_ k
  · rw [hi]
    cases ins <;> first | rfl | cases hk
  · rw [hi]
    cases ins <;> first | rfl | cases hk
/-- a branch -/
theorem rbr {M : am_M} {j : Nat} {c : Prop} {dc : Decidable c} {x y : Nat} {ls st ls' st' : List Value} {h h' : am_H} {Φ : Option Value → am_H → Prop} (hk : am_kind (am_ins M j) = 0) (e : am_step (am_ins M j) j ls st h = some ((@ite Nat c dc x y, ls', st'), h')) (kt : c → am_R M (x, ls', st') h' Φ) (kf : ¬ c → am_R M (y, ls', st') h' Φ) : am_R M (j, ls, st) h Φ := by
  refine am_R_step hk e ?_
  by_cases hc : c
  · rw [if_pos hc]
    exact kt hc
  · rw [if_neg hc]
    exact kf hc
theorem rret {M : am_M} {j : Nat} {ls st : List Value} {h : am_H} {Φ : Option Value → am_H → Prop} {r : Option Value} (hk : am_kind (am_ins M j) = 2) (e : am_ret (am_ins M j) M st = some r) (k : Φ r h) : am_R M (j, ls, st) h Φ := by
  refine ⟨1, r, h, ?_, k⟩
  rw [am_run]
  dsimp only
  rw [hk]
  try dsimp only
  rw [e]
  rfl
theorem rretz {M : am_M} {j : Nat} {ls : List Value} {h : am_H} {Φ : Option Value → am_H → Prop} {v : Int32} {z : Nat × Nat × Nat × Value × List (Int32 × Nat)} (hi : am_ins M j = (.ireturn, z)) (hb : M.2.2.2.1 = some .boolean) (hv : v = 0 ∨ v = 1) (k : Φ (some (.int v)) h) : am_R M (j, ls, [.int v]) h Φ := by
  refine rret (by rw [hi]; rfl) (r := some (.int v)) ?_ k
  rw [hi]
  unfold am_ret
  dsimp only
  rw [hb]
  dsimp only
  rw [if_pos hv]
theorem am_R_call {M K : am_M} {j : Nat} {ls st As rest : List Value} {h : am_H} {Φ : Option Value → am_H → Prop} (hk : am_kind (am_ins M j) = 1) (hK : am_tab (am_ins M j).2.2.1 = K) (hA : (st.take (am_ins M j).2.2.2.1).reverse = As) (hr : st.drop (am_ins M j).2.2.2.1 = rest) (hok : am_callok (am_ins M j) K st h = true)
    (c : am_T K As h (fun r h1 => am_R M (j + 1, ls, r.toList ++ rest) h1 Φ)) : am_R M (j, ls, st) h Φ := by
  subst hK hA hr
  obtain ⟨f, r, h1, e1, g, r2, h2, e2, q⟩ := c
  refine ⟨max f g + 1, r2, h2, ?_, q⟩
  rw [am_run]
  dsimp only
  rw [hk]
  try dsimp only
  rw [hok]
  dsimp only
  rw [am_run_le (Nat.le_max_left f g) e1]
  exact am_run_le (Nat.le_max_right f g) e2
/-- what a call needs beside its receiver -/
def am_cok (I : am_I) (K : am_M) (st : List Value) : Bool := decide (((st.drop I.2.2.2.1).map fun v => v.category).sum ≤ 8) && ((st.take I.2.2.2.1).all (fun v => !am_isL v) && (decide (I.2.2.2.1 ≤ K.2.2.1) && decide ((st.take I.2.2.2.1).length = I.2.2.2.1)))
/-- a call of a method of the object at b0 -/
theorem rcv {M K : am_M} {j b0 ci : Nat} {fs : List Value} {ls st As rest : List Value} {h : am_H} {Φ : Option Value → am_H → Prop} (hk : am_kind (am_ins M j) = 1) (hK : am_tab (am_ins M j).2.2.1 = K) (hA : (st.take (am_ins M j).2.2.2.1).reverse = .ref b0 :: As) (hr : st.drop (am_ins M j).2.2.2.1 = rest) (hok : am_cok (am_ins M j) K st = true) (hc : h.1 b0 = .inr (ci, fs)) (hci : ci = K.2.2.2.2.1)
    (c : am_T K (.ref b0 :: As) h (fun r h1 => am_R M (j + 1, ls, r.toList ++ rest) h1 Φ)) : am_R M (j, ls, st) h Φ := by
  refine am_R_call hk hK hA hr ?_ c
  unfold am_callok
  rw [Bool.and_eq_true]
  refine ⟨?_, hok⟩
  rw [hA]
  unfold am_rcv
  split
  · dsimp only
    rw [hc]
    simp [hci]
  · rfl
  · rfl
/-- a call of a static method, or of a constructor -/
theorem rcs {M K : am_M} {j : Nat} {ls st As rest : List Value} {h : am_H} {Φ : Option Value → am_H → Prop} (hk : am_kind (am_ins M j) = 1) (hK : am_tab (am_ins M j).2.2.1 = K) (hA : (st.take (am_ins M j).2.2.2.1).reverse = As) (hr : st.drop (am_ins M j).2.2.2.1 = rest) (hok : am_callok (am_ins M j) K st h = true)
    (c : am_T K As h (fun r h1 => am_R M (j + 1, ls, r.toList ++ rest) h1 Φ)) : am_R M (j, ls, st) h Φ := am_R_call hk hK hA hr hok c
/-- with an exact contract -/
theorem rcve {M K : am_M} {j b0 ci : Nat} {fs : List Value} {ls st As rest : List Value} {h h1 : am_H} {r : Option Value} {Φ : Option Value → am_H → Prop} (hk : am_kind (am_ins M j) = 1) (hK : am_tab (am_ins M j).2.2.1 = K) (hA : (st.take (am_ins M j).2.2.2.1).reverse = .ref b0 :: As) (hr : st.drop (am_ins M j).2.2.2.1 = rest) (hok : am_cok (am_ins M j) K st = true) (hc : h.1 b0 = .inr (ci, fs)) (hci : ci = K.2.2.2.2.1)
    (c : am_E K (.ref b0 :: As) h r h1) (kk : am_R M (j + 1, ls, r.toList ++ rest) h1 Φ) : am_R M (j, ls, st) h Φ := by
  refine rcv hk hK hA hr hok hc hci (am_R.imp c ?_)
  rintro r' h' ⟨rfl, rfl⟩
  exact kk
theorem rcse {M K : am_M} {j : Nat} {ls st As rest : List Value} {h h1 : am_H} {r : Option Value} {Φ : Option Value → am_H → Prop} (hk : am_kind (am_ins M j) = 1) (hK : am_tab (am_ins M j).2.2.1 = K) (hA : (st.take (am_ins M j).2.2.2.1).reverse = As) (hr : st.drop (am_ins M j).2.2.2.1 = rest) (hok : am_callok (am_ins M j) K st h = true)
    (c : am_E K As h r h1) (kk : am_R M (j + 1, ls, r.toList ++ rest) h1 Φ) : am_R M (j, ls, st) h Φ := by
  refine rcs hk hK hA hr hok (am_R.imp c ?_)
  rintro r' h' ⟨rfl, rfl⟩
  exact kk
theorem rcvs {M K : am_M} {j b0 ci : Nat} {fs : List Value} {ls st As rest : List Value} {h h1 : am_H} {v : Value} {Φ : Option Value → am_H → Prop} (hk : am_kind (am_ins M j) = 1) (hK : am_tab (am_ins M j).2.2.1 = K) (hA : (st.take (am_ins M j).2.2.2.1).reverse = .ref b0 :: As) (hr : st.drop (am_ins M j).2.2.2.1 = rest) (hok : am_cok (am_ins M j) K st = true) (hc : h.1 b0 = .inr (ci, fs)) (hci : ci = K.2.2.2.2.1)
    (c : am_E K (.ref b0 :: As) h (some v) h1) (kk : am_R M (j + 1, ls, v :: rest) h1 Φ) : am_R M (j, ls, st) h Φ := rcve hk hK hA hr hok hc hci c kk
theorem rcvn {M K : am_M} {j b0 ci : Nat} {fs : List Value} {ls st As rest : List Value} {h h1 : am_H} {Φ : Option Value → am_H → Prop} (hk : am_kind (am_ins M j) = 1) (hK : am_tab (am_ins M j).2.2.1 = K) (hA : (st.take (am_ins M j).2.2.2.1).reverse = .ref b0 :: As) (hr : st.drop (am_ins M j).2.2.2.1 = rest) (hok : am_cok (am_ins M j) K st = true) (hc : h.1 b0 = .inr (ci, fs)) (hci : ci = K.2.2.2.2.1)
    (c : am_E K (.ref b0 :: As) h none h1) (kk : am_R M (j + 1, ls, rest) h1 Φ) : am_R M (j, ls, st) h Φ := rcve hk hK hA hr hok hc hci c kk
theorem rcss {M K : am_M} {j : Nat} {ls st As rest : List Value} {h h1 : am_H} {v : Value} {Φ : Option Value → am_H → Prop} (hk : am_kind (am_ins M j) = 1) (hK : am_tab (am_ins M j).2.2.1 = K) (hA : (st.take (am_ins M j).2.2.2.1).reverse = As) (hr : st.drop (am_ins M j).2.2.2.1 = rest) (hok : am_callok (am_ins M j) K st h = true)
    (c : am_E K As h (some v) h1) (kk : am_R M (j + 1, ls, v :: rest) h1 Φ) : am_R M (j, ls, st) h Φ := rcse hk hK hA hr hok c kk
/-- with a contract that says what holds behind it -/
theorem rcvt {M K : am_M} {j b0 ci : Nat} {fs : List Value} {ls st As rest : List Value} {h : am_H} {Ψ Φ : Option Value → am_H → Prop} (hk : am_kind (am_ins M j) = 1) (hK : am_tab (am_ins M j).2.2.1 = K) (hA : (st.take (am_ins M j).2.2.2.1).reverse = .ref b0 :: As) (hr : st.drop (am_ins M j).2.2.2.1 = rest) (hok : am_cok (am_ins M j) K st = true) (hc : h.1 b0 = .inr (ci, fs)) (hci : ci = K.2.2.2.2.1)
    (c : am_T K (.ref b0 :: As) h Ψ) (kk : ∀ r h1, Ψ r h1 → am_R M (j + 1, ls, r.toList ++ rest) h1 Φ) : am_R M (j, ls, st) h Φ := rcv hk hK hA hr hok hc hci (am_R.imp c kk)
/-! the heap -/
theorem am_set_eq {h : am_H} {a : Nat} {c : am_C} : (am_set h a c).1 a = c := by
  show (if a = a then c else h.1 a) = c
  rw [if_pos rfl]
theorem am_set_ne {h : am_H} {a k : Nat} {c : am_C} (hk : k ≠ a) : (am_set h a c).1 k = h.1 k := by
  show (if k = a then c else h.1 k) = h.1 k
  rw [if_neg hk]
section RH
variable {M : am_M} {j : Nat} {ls st : List Value} {h : am_H} {Φ : Option Value → am_H → Prop}
theorem rget {n len ci k : Nat} {z : Value × List (Int32 × Nat)} {a : Nat} {fs : List Value} {v : Value} (hi : am_ins M j = (.getfield n, len, ci, k, z)) (hc : h.1 a = .inr (ci, fs)) (hv : fs[k]? = some v) (kk : am_R M (j + 1, ls, v :: st) h Φ) : am_R M (j, ls, .ref a :: st) h Φ := by
  refine am_R_step (by rw [hi]; rfl) ?_ kk
  rw [hi]
  simp only [am_step, am_r1, am_obj, hc, if_true, hv]
theorem rput {n len ci k : Nat} {z : Value × List (Int32 × Nat)} {a : Nat} {fs : List Value} {v : Value} (hi : am_ins M j = (.putfield n, len, ci, k, z)) (hc : h.1 a = .inr (ci, fs)) (hl : k < fs.length) (hf : am_fit (am_fty ci k) v = true) (kk : am_R M (j + 1, ls, st) (am_set h a (.inr (ci, fs.set k v))) Φ) : am_R M (j, ls, v :: .ref a :: st) h Φ := by
  refine am_R_step (by rw [hi]; rfl) ?_ kk
  rw [hi]
  simp only [am_step, am_obj, hc, if_true]
  rw [if_pos ⟨hl, hf⟩]
theorem riald {z : Nat × Nat × Nat × Value × List (Int32 × Nat)} {a n : Nat} {f : Nat → Int32} {i : Int32} (hi : am_ins M j = (.iaload, z)) (hc : h.1 a = .inl (.int, n, .inl f)) (k : Nat) (hk : k < n) (hn : n < 2 ^ 31) (hik : i = nI k) (kk : am_R M (j + 1, ls, .int (f k) :: st) h Φ) : am_R M (j, ls, .int i :: .ref a :: st) h Φ := by
  subst hik
  have hin := vp_in_nI hk hn
  rw [← nI_clamp (n := k) (by omega)] at kk
  refine am_R_step (by rw [hi]; rfl) ?_ kk
  rw [hi]
  simp only [am_step, am_ari, hc]
  rw [if_neg hin]
theorem riast {z : Nat × Nat × Nat × Value × List (Int32 × Nat)} {a n : Nat} {f : Nat → Int32} {i x : Int32} (hi : am_ins M j = (.iastore, z)) (hc : h.1 a = .inl (.int, n, .inl f)) (ha : a ≠ 0) (k : Nat) (hk : k < n) (hn : n < 2 ^ 31) (hik : i = nI k) (kk : am_R M (j + 1, ls, st) (am_set h a (.inl (.int, n, .inl (upd f k x)))) Φ) : am_R M (j, ls, .int x :: .int i :: .ref a :: st) h Φ := by
  subst hik
  have hin := vp_in_nI hk hn
  rw [← nI_clamp (n := k) (by omega)] at kk
  refine am_R_step (by rw [hi]; rfl) ?_ kk
  rw [hi]
  simp only [am_step, am_ari, hc]
  rw [if_neg (fun q => q.elim ha hin)]
theorem rbald {z : Nat × Nat × Nat × Value × List (Int32 × Nat)} {a n : Nat} {f : Nat → Int32} {i : Int32} (hi : am_ins M j = (.baload, z)) (hc : h.1 a = .inl (.boolean, n, .inl f)) (k : Nat) (hk : k < n) (hn : n < 2 ^ 31) (hik : i = nI k) (kk : am_R M (j + 1, ls, .int (f k) :: st) h Φ) : am_R M (j, ls, .int i :: .ref a :: st) h Φ := by
  subst hik
  have hin := vp_in_nI hk hn
  rw [← nI_clamp (n := k) (by omega)] at kk
  refine am_R_step (by rw [hi]; rfl) ?_ kk
  rw [hi]
  simp only [am_step, am_arz, hc]
  rw [if_neg hin]
theorem rbast {z : Nat × Nat × Nat × Value × List (Int32 × Nat)} {a n : Nat} {f : Nat → Int32} {i x : Int32} (hi : am_ins M j = (.bastore, z)) (hc : h.1 a = .inl (.boolean, n, .inl f)) (k : Nat) (hk : k < n) (hn : n < 2 ^ 31) (hik : i = nI k) (kk : am_R M (j + 1, ls, st) (am_set h a (.inl (.boolean, n, .inl (upd f k (x &&& 1))))) Φ) : am_R M (j, ls, .int x :: .int i :: .ref a :: st) h Φ := by
  subst hik
  have hin := vp_in_nI hk hn
  rw [← nI_clamp (n := k) (by omega)] at kk
  refine am_R_step (by rw [hi]; rfl) ?_ kk
  rw [hi]
  simp only [am_step, am_arz, hc]
  rw [if_neg hin]
theorem rlald {z : Nat × Nat × Nat × Value × List (Int32 × Nat)} {a n : Nat} {f : Nat → Int64} {i : Int32} (hi : am_ins M j = (.laload, z)) (hc : h.1 a = .inl (.long, n, .inr (.inl f))) (k : Nat) (hk : k < n) (hn : n < 2 ^ 31) (hik : i = nI k) (kk : am_R M (j + 1, ls, .long (f k) :: st) h Φ) : am_R M (j, ls, .int i :: .ref a :: st) h Φ := by
  subst hik
  have hin := vp_in_nI hk hn
  rw [← nI_clamp (n := k) (by omega)] at kk
  refine am_R_step (by rw [hi]; rfl) ?_ kk
  rw [hi]
  simp only [am_step, am_arl, hc]
  rw [if_neg hin]
theorem rlast {z : Nat × Nat × Nat × Value × List (Int32 × Nat)} {a n : Nat} {f : Nat → Int64} {i : Int32} {x : Int64} (hi : am_ins M j = (.lastore, z)) (hc : h.1 a = .inl (.long, n, .inr (.inl f))) (k : Nat) (hk : k < n) (hn : n < 2 ^ 31) (hik : i = nI k) (kk : am_R M (j + 1, ls, st) (am_set h a (.inl (.long, n, .inr (.inl (vp_updL f k x))))) Φ) : am_R M (j, ls, .long x :: .int i :: .ref a :: st) h Φ := by
  subst hik
  have hin := vp_in_nI hk hn
  rw [← nI_clamp (n := k) (by omega)] at kk
  refine am_R_step (by rw [hi]; rfl) ?_ kk
  rw [hi]
  simp only [am_step, am_arl, hc]
  rw [if_neg hin]
theorem raald {z : Nat × Nat × Nat × Value × List (Int32 × Nat)} {a n y : Nat} {C : String} {f : Nat → Option Nat} {i : Int32} (hi : am_ins M j = (.aaload, z)) (hc : h.1 a = .inl (.object C, n, .inr (.inr (.inr (.inr f))))) (hC : C = "SpiteLine$Scene" ∨ C = "SpiteLine$Image") (k : Nat) (hk : k < n) (hn : n < 2 ^ 31) (hik : i = nI k) (hy : f k = some y) (kk : am_R M (j + 1, ls, .ref y :: st) h Φ) : am_R M (j, ls, .int i :: .ref a :: st) h Φ := by
  subst hik
  have hin := vp_in_nI hk hn
  rw [← nI_clamp (n := k) (by omega)] at hy
  refine am_R_step (by rw [hi]; rfl) ?_ kk
  rw [hi]
  simp only [am_step, am_arq, hc, am_oc]
  rcases hC with rfl | rfl
  · rw [if_pos rfl, if_neg hin]
    try dsimp only
    rw [hy]
  · rw [if_neg (by decide), if_pos rfl, if_neg hin]
    try dsimp only
    rw [hy]
/-- System.arraycopy of a whole row -/
theorem rcpy {n0 len bb : Nat} {zz : Value × List (Int32 × Nat)} {a a0 n na nb : Nat} {f g : Nat → Int32} {z : Int32} (hi : am_ins M j = (.invokestatic n0, len, 1001, bb, zz)) (hc0 : h.1 a0 = .inl (.int, na, .inl f)) (hc1 : h.1 a = .inl (.int, nb, .inl g)) (h0 : a0 ≠ 0) (h1 : a ≠ 0) (hz : z = nI n) (hn : n < 2 ^ 31) (hna : n ≤ na) (hnb : n ≤ nb) (hs : (st.map fun v => v.category).sum ≤ 8)
    (kk : am_R M (j + 1, ls, st) (am_set h a (.inl (.int, nb, .inl (va_cpy f g 0 0 n)))) Φ) : am_R M (j, ls, .int z :: .int 0 :: .ref a :: .int 0 :: .ref a0 :: st) h Φ := by
  subst hz
  refine am_R_step (by rw [hi]; rfl) ?_ kk
  rw [hi]
  simp only [am_step, if_true, am_ari, hc0, hc1]
  have z0 : (0 : Int32).toNatClampNeg = 0 := by decide
  rw [if_neg, z0, nI_clamp hn]
  rw [z0, nI_clamp hn]
  rintro (q | q | q | q | q | q | q | q)
  · exact h0 q
  · exact h1 q
  · exact absurd q (by decide)
  · exact absurd q (by decide)
  · exact nI_pos hn q
  · omega
  · omega
  · omega
theorem rirem {z : Nat × Nat × Nat × Value × List (Int32 × Nat)} {x y : Int32} (hi : am_ins M j = (.irem, z)) (hne : ¬ y = 0) (kk : am_R M (j + 1, ls, .int (x - x / y * y) :: st) h Φ) : am_R M (j, ls, .int y :: .int x :: st) h Φ := by
  refine am_R_step (by rw [hi]; rfl) ?_ kk
  rw [hi]
  simp only [am_step, am_i2]
  rw [if_neg hne]
theorem rlrem {z : Nat × Nat × Nat × Value × List (Int32 × Nat)} {x y : Int64} (hi : am_ins M j = (.lrem, z)) (hne : ¬ y = 0) (kk : am_R M (j + 1, ls, .long (x - x / y * y) :: st) h Φ) : am_R M (j, ls, .long y :: .long x :: st) h Φ := by
  refine am_R_step (by rw [hi]; rfl) ?_ kk
  rw [hi]
  simp only [am_step, am_l2]
  rw [if_neg hne]
/-! the same, looking for what is known -/
theorem rgeta {n len ci k : Nat} {z : Value × List (Int32 × Nat)} {a : Nat} {fs : List Value} {v : Value} (hi : am_ins M j = (.getfield n, len, ci, k, z)) (hc : h.1 a = .inr (ci, fs) := by first | assumption | (simp (disch := omega) only [am_set_ne, am_set_eq]; first | assumption | rfl)) (hv : fs[k]? = some v := by rfl) (kk : am_R M (j + 1, ls, v :: st) h Φ) : am_R M (j, ls, .ref a :: st) h Φ := rget hi hc hv kk
theorem rputa {n len ci k : Nat} {z : Value × List (Int32 × Nat)} {a : Nat} {fs : List Value} {v : Value} (hi : am_ins M j = (.putfield n, len, ci, k, z)) (hc : h.1 a = .inr (ci, fs) := by first | assumption | (simp (disch := omega) only [am_set_ne, am_set_eq]; first | assumption | rfl)) (hl : Nat.blt k fs.length = true := by rfl) (hf : am_fit (am_fty ci k) v = true := by rfl) (kk : am_R M (j + 1, ls, st) (am_set h a (.inr (ci, fs.set k v))) Φ) : am_R M (j, ls, v :: .ref a :: st) h Φ := rput hi hc (Nat.le_of_ble_eq_true hl) hf kk
theorem rialda {z : Nat × Nat × Nat × Value × List (Int32 × Nat)} {a n : Nat} {f : Nat → Int32} {i : Int32} {k : Nat} (hi : am_ins M j = (.iaload, z)) (hc : h.1 a = .inl (.int, n, .inl f) := by first | assumption | (simp (disch := omega) only [am_set_ne, am_set_eq]; first | assumption | rfl)) (hik : i = nI k := by first | assumption | rfl) (hk : k < n := by omega) (hn : n < 2 ^ 31 := by omega) (kk : am_R M (j + 1, ls, .int (f k) :: st) h Φ) : am_R M (j, ls, .int i :: .ref a :: st) h Φ := riald hi hc k hk hn hik kk
theorem riasta {z : Nat × Nat × Nat × Value × List (Int32 × Nat)} {a n : Nat} {f : Nat → Int32} {i x : Int32} {k : Nat} (hi : am_ins M j = (.iastore, z)) (hc : h.1 a = .inl (.int, n, .inl f) := by first | assumption | (simp (disch := omega) only [am_set_ne, am_set_eq]; first | assumption | rfl)) (ha : a ≠ 0 := by omega) (hik : i = nI k := by first | assumption | rfl) (hk : k < n := by omega) (hn : n < 2 ^ 31 := by omega) (kk : am_R M (j + 1, ls, st) (am_set h a (.inl (.int, n, .inl (upd f k x)))) Φ) : am_R M (j, ls, .int x :: .int i :: .ref a :: st) h Φ := riast hi hc ha k hk hn hik kk
end RH
/-- a loop that counts up -/
theorem lup {P : Nat → Prop} (n : Nat) (hn : P n) (hs : ∀ i, i < n → P (i + 1) → P i) : P 0 := by
  have key : ∀ k, k ≤ n → P (n - k) := by
    intro k
    induction k with
    | zero => intro _; exact hn
    | succ k ih =>
      intro hk
      have := hs (n - (k + 1)) (by omega)
      rw [show n - (k + 1) + 1 = n - k by omega] at this
      exact this (ih (by omega))
  have := key n (Nat.le_refl n)
  rwa [Nat.sub_self] at this
