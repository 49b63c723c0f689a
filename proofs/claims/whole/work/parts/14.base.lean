/-! words of the specification -/
def bitv (x k : Int32) : Int32 := (x >>> (k &&& 31)) &&& 1
def sh1 (k : Int32) : Int32 := 1 <<< (k &&& 31)
/-- for p = 0 .. n less 1 -/
def fo {α : Type} (f : Nat → α → α) : Nat → α → α
  | 0, a => a
  | n + 1, a => f n (fo f n a)
theorem fo_succ {α : Type} (f : Nat → α → α) (n : Nat) (a : α) : fo f (n + 1) a = f n (fo f n a) := rfl
theorem fo_congr {α : Type} {f g : Nat → α → α} {n : Nat} {a : α} (h : ∀ p b, p < n → f p b = g p b) : fo f n a = fo g n a := by
  induction n with
  | zero => rfl
  | succ n ih =>
    rw [fo_succ, fo_succ, ih (fun p b hp => h p b (by omega)), h n _ (by omega)]
/-- within 0 .. n less 1 -/
abbrev inR (p : Int32) (n : Nat) : Prop := ¬ p < 0 ∧ p < nI n
theorem inR_of {p : Int32} {n : Nat} (h : inR p n) (hn : n < 2 ^ 31) : ∃ k, k < n ∧ p = nI k := by
  obtain ⟨k, hk, rfl⟩ := nI_of h.1
  exact ⟨k, (nI_ltI hk hn).mp h.2, rfl⟩
theorem inR_nI {k n : Nat} (hk : k < n) (hn : n < 2 ^ 31) : inR (nI k) n := ⟨nI_pos (by omega), nI_lt hk hn⟩
theorem nI_le1 {p : Int32} {n : Nat} (hn : n < 2 ^ 31) (h0 : ¬ p < 0) : p ≤ nI n - 1 ↔ p < nI n := by
  obtain ⟨k, hk, rfl⟩ := nI_of h0
  rw [nI_ltI hk hn, Int32.le_iff_toInt_le]
  cases n with
  | zero =>
    have : (nI 0 - 1).toInt = -1 := by decide
    rw [this, nI_toInt hk]
    omega
  | succ n =>
    rw [nI_pred, nI_toInt hk, nI_toInt (by omega)]
    omega
theorem am_set_self {h : am_H} {a : Nat} {c : am_C} (hc : h.1 a = c) : am_set h a c = h := by
  unfold am_set
  refine Prod.ext ?_ rfl
  funext k
  by_cases hk : k = a
  · subst hk
    simp [hc]
  · simp [hk]
theorem am_set_set {h : am_H} {a : Nat} {c d : am_C} : am_set (am_set h a c) a d = am_set h a d := by
  unfold am_set
  refine Prod.ext ?_ rfl
  funext k
  by_cases hk : k = a <;> simp [hk]
theorem am_set_comm {h : am_H} {a b : Nat} {c d : am_C} (hab : a ≠ b) : am_set (am_set h a c) b d = am_set (am_set h b d) a c := by
  unfold am_set
  refine Prod.ext ?_ rfl
  funext k
  by_cases hk : k = a
  · subst hk
    simp [hab]
  · simp [hk]
abbrev iar (f : Nat → Int32) : am_C := .inl (.int, 8, .inl f)
theorem nI_lt_iff {i n : Nat} (hi : i < 2 ^ 31) (hn : n < 2 ^ 31) : nI n ≤ nI i ↔ ¬ i < n := by
  rw [nI_leI hn hi]
  omega
