/-! how the abstract cells lie in the machine's heap -/
def am_ad (b base : Nat) : Nat → Nat
  | 0 => b
  | k + 1 => base + k
def am_cv (b base : Nat) : Value → Value
  | .ref a => .ref (am_ad b base a)
  | v => v
def am_cc (b base : Nat) (aC : FieldType → ClassId) : am_C → va_E
  | .inl (ty, n, .inl f) => .inl (aC ty, n, .inl f)
  | .inl (ty, n, .inr (.inl f)) => .inl (aC ty, n, .inr (.inl f))
  | .inl (ty, n, .inr (.inr (.inl f))) => .inl (aC ty, n, .inr (.inr (.inl f)))
  | .inl (ty, n, .inr (.inr (.inr (.inl f)))) => .inl (aC ty, n, .inr (.inr (.inr (.inl f))))
  | .inl (ty, n, .inr (.inr (.inr (.inr f)))) => .inl (aC ty, n, .inr (.inr (.inr (.inr (fun j => (f j).map (am_ad b base))))))
  | .inr (ci, fs) => .inr (ci, fs.map (am_cv b base))
def am_ws (b base : Nat) (aC : FieldType → ClassId) (h : am_H) : va_W := (List.range h.2.1).map (fun k => (base + k, am_cc b base aC (h.1 (k + 1))))
def am_tys (aC : FieldType → ClassId) : List (ClassId × FieldType) := [(aC .int, .int), (aC .boolean, .boolean), (aC .long, .long), (aC (.object "SpiteLine$Scene"), .object "SpiteLine$Scene"), (aC (.object "SpiteLine$Image"), .object "SpiteLine$Image")]
def am_lp (b base : Nat) (ls : List Value) : List (Nat × Value) := (List.range ls.length).filterMap (fun k => if ls.getD k .null = .null then none else some (k, am_cv b base (ls.getD k .null)))
def am_A (base : Nat) : Nat → Prop := fun q => base ≤ q
def am_rel (b base : Nat) (aC : FieldType → ClassId) (D : va_G) (h : am_H) (H : Heap) : Prop := va_P D am_cl (am_ws b base aC h) H ∧ ∀ k, h.2.1 < k → h.1 k = am_dead
def am_scr (L : Nat) (xs : Nat → Int32) (h : am_H) : Prop := h.1 0 = am_dead ∨ h.1 0 = .inl (.int, L, .inl xs)
def am_st (b base : Nat) (aC : FieldType → ClassId) (D : va_G) (L : Nat) (xs : Nat → Int32) (nL : Nat) (s : State) (h : am_H) (H : Heap) (locs : List Loc) (ls : List Value) (LS : Array Slot) : Prop :=
  am_rel b base aC D h H ∧ am_scr L xs h ∧ va_S (am_A base) s.heap H locs ∧ lv_has LS ls.length (am_lp b base ls) ∧ ls.length = nL
section AML
variable {b base L : Nat} {xs : Nat → Int32} {aC : FieldType → ClassId} {D : va_G}
theorem am_cv_int (x : Int32) : am_cv b base (.int x) = .int x := rfl
theorem am_cv_long (x : Int64) : am_cv b base (.long x) = .long x := rfl
theorem am_cv_cat (v : Value) : (am_cv b base v).category = v.category := by cases v <;> rfl
theorem am_cv_sum (st : List Value) : ((st.map (am_cv b base)).map fun v => v.category).sum = (st.map fun v => v.category).sum := by
  rw [List.map_map]
  congr 1
  apply List.map_congr_left
  intro v _
  exact am_cv_cat v
theorem am_isL_cat {v : Value} (h : am_isL v = false) : v.category = 1 := by cases v <;> simp_all [am_isL, Value.category]
theorem am_lp_mem {ls : List Value} {q : Nat × Value} : q ∈ am_lp b base ls ↔ q.1 < ls.length ∧ ls.getD q.1 .null ≠ .null ∧ q.2 = am_cv b base (ls.getD q.1 .null) := by
  unfold am_lp
  rw [List.mem_filterMap]
  constructor
  · rintro ⟨k, hk, e⟩
    split at e
    · cases e
    · rename_i hn
      cases e
      exact ⟨List.mem_range.mp hk, hn, rfl⟩
  · rintro ⟨h1, h2, h3⟩
    refine ⟨q.1, List.mem_range.mpr h1, ?_⟩
    rw [if_neg h2, ← h3]
theorem am_lp_at {ls : List Value} {LS : Array Slot} {n k : Nat} {v : Value} (h : lv_has LS n (am_lp b base ls)) (e : ls.getD k .null = v) (hv : v ≠ .null) : LS[k]? = some (.val (am_cv b base v)) := by
  have hk : k < ls.length := by
    rcases Nat.lt_or_ge k ls.length with q | q
    · exact q
    · rw [List.getD_eq_getElem?_getD, List.getElem?_eq_none q] at e
      exact absurd e.symm hv
  subst e
  exact h.2.2 (k, _) (am_lp_mem.mpr ⟨hk, hv, rfl⟩)
theorem am_lp_set1 {ls : List Value} {LS : Array Slot} {a : Nat} {v : Value} (h : lv_has LS ls.length ((a, am_cv b base v) :: (am_lp b base ls).filter (fun q => !(q.1 == a) && !(q.1 + 1 == a && q.2.category == 2)))) (ha : a < ls.length) (hl : am_isL (ls.getD (a - 1) .null) = false) : lv_has LS (ls.set a v).length (am_lp b base (ls.set a v)) := by
  refine ⟨by rw [List.length_set]; exact h.1, h.2.1, fun q hq => ?_⟩
  obtain ⟨h1, h2, h3⟩ := am_lp_mem.mp hq
  rw [List.length_set] at h1
  apply h.2.2
  by_cases e : q.1 = a
  · refine List.mem_cons.mpr (Or.inl ?_)
    rw [e] at h3
    rw [List.getD_eq_getElem?_getD, List.getElem?_set_self ha] at h3
    exact Prod.ext e h3
  · refine List.mem_cons.mpr (Or.inr ?_)
    rw [List.getD_eq_getElem?_getD, List.getElem?_set_ne (Ne.symm e), ← List.getD_eq_getElem?_getD] at h2 h3
    refine List.mem_filter.mpr ⟨am_lp_mem.mpr ⟨h1, h2, h3⟩, ?_⟩
    by_cases e2 : q.1 + 1 = a
    · have : q.1 = a - 1 := by omega
      rw [← this] at hl
      have hc : q.2.category = 1 := by rw [h3, am_cv_cat]; exact am_isL_cat hl
      simp [e, hc]
    · simp [e, e2]
theorem am_lp_set2 {ls : List Value} {LS : Array Slot} {a : Nat} {v : Value} (h : lv_has LS ls.length ((a, am_cv b base v) :: (am_lp b base ls).filter (fun q => !(q.1 == a) && (!(q.1 == a + 1) && !(q.1 + 1 == a && q.2.category == 2))))) (ha : a + 1 < ls.length) (hl : am_isL (ls.getD (a - 1) .null) = false) : lv_has LS ((ls.set a v).set (a + 1) .null).length (am_lp b base ((ls.set a v).set (a + 1) .null)) := by
  refine ⟨by rw [List.length_set, List.length_set]; exact h.1, h.2.1, fun q hq => ?_⟩
  obtain ⟨h1, h2, h3⟩ := am_lp_mem.mp hq
  rw [List.length_set, List.length_set] at h1
  apply h.2.2
  by_cases e1 : q.1 = a + 1
  · rw [e1, List.getD_eq_getElem?_getD, List.getElem?_set_self (by rw [List.length_set]; exact ha)] at h2
    exact absurd rfl h2
  rw [List.getD_eq_getElem?_getD, List.getElem?_set_ne (Ne.symm e1)] at h2 h3
  by_cases e : q.1 = a
  · refine List.mem_cons.mpr (Or.inl ?_)
    rw [e] at h3
    rw [List.getElem?_set_self (by omega)] at h3
    exact Prod.ext e h3
  · refine List.mem_cons.mpr (Or.inr ?_)
    rw [List.getElem?_set_ne (Ne.symm e), ← List.getD_eq_getElem?_getD] at h2 h3
    refine List.mem_filter.mpr ⟨am_lp_mem.mpr ⟨h1, h2, h3⟩, ?_⟩
    by_cases e2 : q.1 + 1 = a
    · have : q.1 = a - 1 := by omega
      rw [← this] at hl
      have hc : q.2.category = 1 := by rw [h3, am_cv_cat]; exact am_isL_cat hl
      simp [e, e1, hc]
    · simp [e, e1, e2]
/-! the stack's top, the cells' kinds -/
theorem am_i1_some {α : Type} {st : List Value} {k : Int32 → List Value → Option α} {o : α} (h : am_i1 st k = some o) : ∃ x r, st = .int x :: r ∧ k x r = some o := by
  unfold am_i1 at h
  split at h
  · exact ⟨_, _, rfl, h⟩
  · cases h
theorem am_i2_some {α : Type} {st : List Value} {k : Int32 → Int32 → List Value → Option α} {o : α} (h : am_i2 st k = some o) : ∃ x y r, st = .int y :: .int x :: r ∧ k x y r = some o := by
  unfold am_i2 at h
  split at h
  · exact ⟨_, _, _, rfl, h⟩
  · cases h
theorem am_l1_some {α : Type} {st : List Value} {k : Int64 → List Value → Option α} {o : α} (h : am_l1 st k = some o) : ∃ x r, st = .long x :: r ∧ k x r = some o := by
  unfold am_l1 at h
  split at h
  · exact ⟨_, _, rfl, h⟩
  · cases h
theorem am_l2_some {α : Type} {st : List Value} {k : Int64 → Int64 → List Value → Option α} {o : α} (h : am_l2 st k = some o) : ∃ x y r, st = .long y :: .long x :: r ∧ k x y r = some o := by
  unfold am_l2 at h
  split at h
  · exact ⟨_, _, _, rfl, h⟩
  · cases h
theorem am_r1_some {α : Type} {st : List Value} {k : Nat → List Value → Option α} {o : α} (h : am_r1 st k = some o) : ∃ a r, st = .ref a :: r ∧ k a r = some o := by
  unfold am_r1 at h
  split at h
  · exact ⟨_, _, rfl, h⟩
  · cases h
theorem am_obj_some {α : Type} {c : am_C} {ci : Nat} {k : List Value → Option α} {o : α} (h : am_obj c ci k = some o) : ∃ fs, c = .inr (ci, fs) ∧ k fs = some o := by
  unfold am_obj at h
  split at h
  · split at h
    · rename_i e
      subst e
      exact ⟨_, rfl, h⟩
    · cases h
  · cases h
theorem am_ari_some {α : Type} {c : am_C} {k : Nat → (Nat → Int32) → Option α} {o : α} (h : am_ari c k = some o) : ∃ n f, c = .inl (.int, n, .inl f) ∧ k n f = some o := by
  unfold am_ari at h
  split at h
  · exact ⟨_, _, rfl, h⟩
  · cases h
theorem am_arz_some {α : Type} {c : am_C} {k : Nat → (Nat → Int32) → Option α} {o : α} (h : am_arz c k = some o) : ∃ n f, c = .inl (.boolean, n, .inl f) ∧ k n f = some o := by
  unfold am_arz at h
  split at h
  · exact ⟨_, _, rfl, h⟩
  · cases h
theorem am_arl_some {α : Type} {c : am_C} {k : Nat → (Nat → Int64) → Option α} {o : α} (h : am_arl c k = some o) : ∃ n f, c = .inl (.long, n, .inr (.inl f)) ∧ k n f = some o := by
  unfold am_arl at h
  split at h
  · exact ⟨_, _, rfl, h⟩
  · cases h
theorem am_arq_some {α : Type} {c : am_C} {k : String → Nat → (Nat → Option Nat) → Option α} {o : α} (h : am_arq c k = some o) : ∃ C n f, c = .inl (.object C, n, .inr (.inr (.inr (.inr f)))) ∧ k C n f = some o := by
  unfold am_arq at h
  split at h
  · exact ⟨_, _, _, rfl, h⟩
  · cases h
theorem am_oc_some {α : Type} {C : String} {k : Nat → Option α} {o : α} (h : am_oc C k = some o) : (C = "SpiteLine$Scene" ∧ k 6 = some o) ∨ (C = "SpiteLine$Image" ∧ k 3 = some o) := by
  unfold am_oc at h
  split at h
  · exact Or.inl ⟨by assumption, h⟩
  · split at h
    · exact Or.inr ⟨by assumption, h⟩
    · cases h
/-! the world as a list: one cell, one cell changed, one cell more -/
theorem am_ws_at {h : am_H} {k : Nat} (hk : k < h.2.1) : (am_ws b base aC h)[k]? = some (base + k, am_cc b base aC (h.1 (k + 1))) := by
  unfold am_ws
  rw [List.getElem?_map, List.getElem?_range hk]
  rfl
theorem am_ws_len (h : am_H) : (am_ws b base aC h).length = h.2.1 := by simp [am_ws]
theorem am_ws_D (h : am_H) : va_D (am_A base) (am_ws b base aC h) := by
  have key : ∀ (i : Nat) (p : Nat × va_E), (am_ws b base aC h)[i]? = some p → p.1 = base + i := by
    intro i p hp
    have hi : i < h.2.1 := by rw [← am_ws_len (b := b) (base := base) (aC := aC) h]; exact (List.getElem?_eq_some_iff.mp hp).1
    rw [am_ws_at hi] at hp
    cases hp
    rfl
  refine ⟨fun i j p q hi hj e => ?_, fun k q hk => ?_⟩
  · rw [key i p hi, key j q hj] at e
    omega
  · show base ≤ q.1
    rw [key k q hk]
    omega
theorem am_ws_set {h : am_H} {k : Nat} (c : am_C) (hk : k < h.2.1) : (am_ws b base aC h).set k (base + k, am_cc b base aC c) = am_ws b base aC (am_set h (k + 1) c) := by
  apply List.ext_getElem?
  intro i
  by_cases hi : i < h.2.1
  · rw [am_ws_at (h := am_set h (k + 1) c) (show i < (am_set h (k + 1) c).2.1 from hi)]
    by_cases e : i = k
    · subst e
      rw [List.getElem?_set_self (by rw [am_ws_len]; exact hi)]
      simp [am_set]
    · rw [List.getElem?_set_ne (Ne.symm e), am_ws_at hi]
      simp [am_set, e]
  · rw [List.getElem?_eq_none (by rw [List.length_set, am_ws_len]; omega), List.getElem?_eq_none (by rw [am_ws_len]; show h.2.1 ≤ i; omega)]
theorem am_ws_push {h : am_H} (c : am_C) (w : Nat) : am_ws b base aC h ++ [(base + h.2.1, am_cc b base aC c)] = am_ws b base aC (am_push h c w) := by
  apply List.ext_getElem?
  intro i
  by_cases hi : i < h.2.1
  · rw [am_ws_at (h := am_push h c w) (show i < h.2.1 + 1 by omega), List.getElem?_append_left (by rw [am_ws_len]; exact hi), am_ws_at hi]
    have : ¬ i = h.2.1 := by omega
    simp [am_push, this]
  · by_cases e : i = h.2.1
    · subst e
      rw [am_ws_at (h := am_push h c w) (show h.2.1 < h.2.1 + 1 by omega), List.getElem?_append_right (by rw [am_ws_len]; exact Nat.le_refl _), am_ws_len]
      simp [am_push]
    · rw [List.getElem?_eq_none (by rw [List.length_append, am_ws_len, List.length_singleton]; omega), List.getElem?_eq_none (by rw [am_ws_len]; show h.2.1 + 1 ≤ i; omega)]
/-- a live place that isn't the script -/
theorem am_live {h : am_H} {H : Heap} {a : Nat} (hR : am_rel b base aC D h H) (h0 : a ≠ 0) (hd : h.1 a ≠ am_dead) : ∃ k, a = k + 1 ∧ k < h.2.1 := by
  obtain ⟨k, rfl⟩ : ∃ k, a = k + 1 := ⟨a - 1, by omega⟩
  refine ⟨k, rfl, ?_⟩
  rcases Nat.lt_or_ge k h.2.1 with q | q
  · exact q
  · exact absurd (hR.2 (k + 1) (by omega)) hd
theorem am_rel_set {h : am_H} {H H1 : Heap} {k : Nat} (c : am_C) (hR : am_rel b base aC D h H) (hk : k < h.2.1) (hP : va_P D am_cl ((am_ws b base aC h).set k (base + k, am_cc b base aC c)) H1) : am_rel b base aC D (am_set h (k + 1) c) H1 := by
  rw [am_ws_set c hk] at hP
  refine ⟨hP, fun q hq => ?_⟩
  have hq' : h.2.1 < q := hq
  show (if q = k + 1 then c else h.1 q) = am_dead
  rw [if_neg (by omega)]
  exact hR.2 q hq'
theorem am_rel_push {h : am_H} {H H1 : Heap} (c : am_C) (w : Nat) (hR : am_rel b base aC D h H) (hP : va_P D am_cl (am_ws b base aC h ++ [(base + h.2.1, am_cc b base aC c)]) H1) : am_rel b base aC D (am_push h c w) H1 := by
  rw [am_ws_push c w] at hP
  refine ⟨hP, fun q hq => ?_⟩
  have hq' : h.2.1 + 1 < q := hq
  show (if q = h.2.1 + 1 then c else h.1 q) = am_dead
  rw [if_neg (by omega)]
  exact hR.2 q (by omega)
theorem am_scr_set {h : am_H} {k : Nat} (c : am_C) (hS : am_scr L xs h) : am_scr L xs (am_set h (k + 1) c) := by
  have : (am_set h (k + 1) c).1 0 = h.1 0 := by
    show (if 0 = k + 1 then c else h.1 0) = h.1 0
    rw [if_neg (by omega)]
  unfold am_scr
  rw [this]
  exact hS
theorem am_scr_push {h : am_H} (c : am_C) (w : Nat) (hS : am_scr L xs h) : am_scr L xs (am_push h c w) := by
  have : (am_push h c w).1 0 = h.1 0 := by
    show (if 0 = h.2.1 + 1 then c else h.1 0) = h.1 0
    rw [if_neg (by omega)]
  unfold am_scr
  rw [this]
  exact hS
theorem am_place {h : am_H} {H : Heap} {a : Nat} (hR : am_rel b base aC D h H) (hS : am_scr L xs h) (h1 : h.1 a ≠ am_dead) (h2 : h.1 a ≠ .inl (.int, L, .inl xs)) : ∃ k, a = k + 1 ∧ k < h.2.1 := by
  by_cases h0 : a = 0
  · subst h0
    rcases hS with q | q
    · exact absurd q h1
    · exact absurd q h2
  · exact am_live hR h0 h1
theorem am_place_obj {h : am_H} {H : Heap} {a ci : Nat} {fs : List Value} (hR : am_rel b base aC D h H) (hS : am_scr L xs h) (hc : h.1 a = .inr (ci, fs)) (hci : ci < 1000) : ∃ k, a = k + 1 ∧ k < h.2.1 := by
  refine am_place hR hS ?_ ?_
  · rw [hc]
    intro q
    have := (Prod.mk.inj (Sum.inr.inj q)).1
    omega
  · rw [hc]
    intro q
    cases q
theorem am_fit_ok {ty : FieldType} {v : Value} (h : am_fit ty v = true) : narrow ty (am_cv b base v) = am_cv b base v ∧ fits ty (am_cv b base v) = true := by
  unfold am_fit at h
  split at h
  · exact ⟨rfl, rfl⟩
  · exact ⟨rfl, rfl⟩
  · rename_i x
    simp only [Bool.or_eq_true, beq_iff_eq] at h
    rcases h with rfl | rfl <;> exact ⟨rfl, rfl⟩
  · exact ⟨rfl, rfl⟩
  · exact ⟨rfl, rfl⟩
  · cases h
end AML
section AMW
variable {p : Program} {l : Launch} {e : Env} {R : Room} {s : State} {m : MethodId} {args : Array Value} {below : List Frame} {meth : Method} {c : Code} {H : Heap} {locs : List Loc} {cells slots : Nat} {Q : State → Prop}
theorem am_fin0 {n w : Nat} {g g' : JFrame} (k : W p l e R s m args below meth c H locs (cells + (n - n)) (slots + (w - w)) Q g) (hg : g = g') : W p l e R s m args below meth c H locs cells slots Q g' := by
  subst hg
  rw [Nat.sub_self, Nat.sub_self] at k
  exact k
theorem am_size {g : JFrame} (kk : H.size ≤ s.heap.size + cells → W p l e R s m args below meth c H locs cells slots Q g) : W p l e R s m args below meth c H locs cells slots Q g :=
  fun T hT X => kk (by rw [← hT]; exact X.heapSize) T hT X
end AMW
