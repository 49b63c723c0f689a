/-! what every call keeps -/
section Wf
variable {len N P rc bc : Nat} {fa G sd : Int32} {tx wa me rx rh bw bs : Nat → Int32} {S S' : Sc} {dd dd' : List Sc} {i0 i1 : Im}
theorem wf_dd (h : ∀ z, z ∈ dd → wfS N P z) (hS : wfS N P S) : ∀ z, z ∈ dnote dd S → wfS N P z := by
  intro z hz
  unfold dnote at hz
  rw [List.mem_append, List.mem_singleton] at hz
  rcases hz with a | a
  · split at a
    · exact h z (List.mem_of_mem_tail a)
    · exact h z a
  · rw [a]
    exact hS
theorem wf_feed {c : Int32} (W : wfQ ⟨⟨len, tx⟩, fa, ⟨N, P, G, wa, me⟩, S, dd, ⟨rc, rx, rh⟩, ⟨bc, bw, bs⟩, sd, i0, i1⟩) : wfQ (o_feed c ⟨⟨len, tx⟩, fa, ⟨N, P, G, wa, me⟩, S, dd, ⟨rc, rx, rh⟩, ⟨bc, bw, bs⟩, sd, i0, i1⟩).2 := by
  unfold o_feed
  dsimp only
  split
  · exact W
  · split
    · exact W
    · exact W
theorem wf_seed {v : Int32} (W : wfQ ⟨⟨len, tx⟩, fa, ⟨N, P, G, wa, me⟩, S, dd, ⟨rc, rx, rh⟩, ⟨bc, bw, bs⟩, sd, i0, i1⟩) : wfQ (o_seed v ⟨⟨len, tx⟩, fa, ⟨N, P, G, wa, me⟩, S, dd, ⟨rc, rx, rh⟩, ⟨bc, bw, bs⟩, sd, i0, i1⟩).2 := by
  unfold o_seed
  dsimp only
  split
  · exact W
  · rename_i c
    obtain ⟨w1, w2, w3, w4, w5, w6, w7, w8, w9, w10, w11⟩ := id W
    exact ⟨w1, w2, w3, w4, w5, w6, w7, w8, c, w10, w11⟩
theorem wf_tear (W : wfQ ⟨⟨len, tx⟩, fa, ⟨N, P, G, wa, me⟩, S, dd, ⟨rc, rx, rh⟩, ⟨bc, bw, bs⟩, sd, i0, i1⟩) : wfQ (o_tear ⟨⟨len, tx⟩, fa, ⟨N, P, G, wa, me⟩, S, dd, ⟨rc, rx, rh⟩, ⟨bc, bw, bs⟩, sd, i0, i1⟩).2 := by
  obtain ⟨w1, w2, w3, w4, w5, w6, w7, w8, w9, w10, w11⟩ := id W
  exact ⟨w1, w2, w3, w4, w5, w6, fun i hi => absurd hi (Nat.not_lt_zero i), fun i hi => absurd hi (Nat.not_lt_zero i), w9, w10, w11⟩
theorem wf_ran {x z : Int32} (W : wfQ ⟨⟨len, tx⟩, fa, ⟨N, P, G, wa, me⟩, S, dd, ⟨rc, rx, rh⟩, ⟨bc, bw, bs⟩, sd, i0, i1⟩) : wfQ (o_ran x z ⟨⟨len, tx⟩, fa, ⟨N, P, G, wa, me⟩, S, dd, ⟨rc, rx, rh⟩, ⟨bc, bw, bs⟩, sd, i0, i1⟩).2 := by
  unfold o_ran
  dsimp only
  split
  · rename_i c
    split
    · exact W
    · obtain ⟨w1, w2, w3, w4, w5, w6, w7, w8, w9, w10, w11⟩ := id W
      refine ⟨w1, w2, w3, w4, w5, w6, fun i hi => ?_, w8, w9, w10, w11⟩
      by_cases e : i = rc
      · rw [e, pk_us]
        exact inR_of c (by omega)
      · rw [pk_un e]
        exact w7 i (by omega)
  · exact W
theorem wf_write {p x : Int32} (W : wfQ ⟨⟨len, tx⟩, fa, ⟨N, P, G, wa, me⟩, S, dd, ⟨rc, rx, rh⟩, ⟨bc, bw, bs⟩, sd, i0, i1⟩) : wfQ (o_write p x ⟨⟨len, tx⟩, fa, ⟨N, P, G, wa, me⟩, S, dd, ⟨rc, rx, rh⟩, ⟨bc, bw, bs⟩, sd, i0, i1⟩).2 := by
  unfold o_write
  dsimp only
  split
  · rename_i c
    split
    · exact W
    · obtain ⟨w1, w2, w3, w4, w5, w6, w7, w8, w9, w10, w11⟩ := id W
      refine ⟨w1, w2, w3, w4, w5, w6, w7, fun i hi => ?_, w9, w10, w11⟩
      by_cases e : i = bc
      · rw [e, pk_us]
        exact inR_of c.1 (by omega)
      · rw [pk_un e]
        exact w8 i (by omega)
  · exact W
theorem wf_mien {p v : Int32} (W : wfQ ⟨⟨len, tx⟩, fa, ⟨N, P, G, wa, me⟩, S, dd, ⟨rc, rx, rh⟩, ⟨bc, bw, bs⟩, sd, i0, i1⟩) : wfQ (o_mien p v ⟨⟨len, tx⟩, fa, ⟨N, P, G, wa, me⟩, S, dd, ⟨rc, rx, rh⟩, ⟨bc, bw, bs⟩, sd, i0, i1⟩).2 := by
  unfold o_mien
  dsimp only
  split
  · split
    · exact W
    · obtain ⟨w1, w2, w3, w4, w5, w6, w7, w8, w9, w10, w11⟩ := id W
      exact ⟨w1, w2, w3, w4, w5, wf_dd w6 w5, w7, w8, w9, w10, w11⟩
  · exact W
theorem wf_feet {p z : Int32} (W : wfQ ⟨⟨len, tx⟩, fa, ⟨N, P, G, wa, me⟩, S, dd, ⟨rc, rx, rh⟩, ⟨bc, bw, bs⟩, sd, i0, i1⟩) : wfQ (o_feet p z ⟨⟨len, tx⟩, fa, ⟨N, P, G, wa, me⟩, S, dd, ⟨rc, rx, rh⟩, ⟨bc, bw, bs⟩, sd, i0, i1⟩).2 := by
  unfold o_feet
  dsimp only
  split
  · obtain ⟨w1, w2, w3, w4, w5, w6, w7, w8, w9, w10, w11⟩ := id W
    exact ⟨w1, w2, w3, w4, w5, wf_dd w6 w5, w7, w8, w9, w10, w11⟩
  · exact W
theorem wf_flowers {p z : Int32} (W : wfQ ⟨⟨len, tx⟩, fa, ⟨N, P, G, wa, me⟩, S, dd, ⟨rc, rx, rh⟩, ⟨bc, bw, bs⟩, sd, i0, i1⟩) : wfQ (o_flowers p z ⟨⟨len, tx⟩, fa, ⟨N, P, G, wa, me⟩, S, dd, ⟨rc, rx, rh⟩, ⟨bc, bw, bs⟩, sd, i0, i1⟩).2 := by
  unfold o_flowers
  dsimp only
  split
  · obtain ⟨w1, w2, w3, w4, w5, w6, w7, w8, w9, w10, w11⟩ := id W
    exact ⟨w1, w2, w3, w4, w5, wf_dd w6 w5, w7, w8, w9, w10, w11⟩
  · exact W
theorem wf_walk {p x : Int32} (W : wfQ ⟨⟨len, tx⟩, fa, ⟨N, P, G, wa, me⟩, S, dd, ⟨rc, rx, rh⟩, ⟨bc, bw, bs⟩, sd, i0, i1⟩) : wfQ (o_walk p x ⟨⟨len, tx⟩, fa, ⟨N, P, G, wa, me⟩, S, dd, ⟨rc, rx, rh⟩, ⟨bc, bw, bs⟩, sd, i0, i1⟩).2 := by
  unfold o_walk
  dsimp only
  split
  · rename_i c
    obtain ⟨w1, w2, w3, w4, w5, w6, w7, w8, w9, w10, w11⟩ := id W
    refine ⟨w1, w2, w3, w4, fun p' hp => ?_, wf_dd w6 w5, w7, w8, w9, w10, w11⟩
    by_cases e : p' = p.toNatClampNeg
    · show ∃ k, k < N ∧ upd S.1 p.toNatClampNeg x p' = nI k
      rw [e, pk_us]
      exact inR_of c.2 (by omega)
    · show ∃ k, k < N ∧ upd S.1 p.toNatClampNeg x p' = nI k
      rw [pk_un e]
      exact w5 p' hp
  · exact W
theorem wf_fog {v : Int32} (W : wfQ ⟨⟨len, tx⟩, fa, ⟨N, P, G, wa, me⟩, S, dd, ⟨rc, rx, rh⟩, ⟨bc, bw, bs⟩, sd, i0, i1⟩) : wfQ (o_fog v ⟨⟨len, tx⟩, fa, ⟨N, P, G, wa, me⟩, S, dd, ⟨rc, rx, rh⟩, ⟨bc, bw, bs⟩, sd, i0, i1⟩).2 := by
  unfold o_fog
  dsimp only
  split
  · exact W
  · split
    · exact W
    · obtain ⟨w1, w2, w3, w4, w5, w6, w7, w8, w9, w10, w11⟩ := id W
      exact ⟨w1, w2, w3, w4, w5, wf_dd w6 w5, w7, w8, w9, w10, w11⟩
theorem wf_trd (hN0 : 1 ≤ N) (hS : wfS N P S) (hd : ∀ z, z ∈ dd → wfS N P z) (i : Nat) : ∀ z, z ∈ (trA N P G wa me i (S, dd)).2 → wfS N P z := by
  induction i with
  | zero => exact hd
  | succ i ih => exact wf_dd ih (wfS_tr hN0 hS i)
theorem wf_train {n : Int32} (W : wfQ ⟨⟨len, tx⟩, fa, ⟨N, P, G, wa, me⟩, S, dd, ⟨rc, rx, rh⟩, ⟨bc, bw, bs⟩, sd, i0, i1⟩) : wfQ (o_train n ⟨⟨len, tx⟩, fa, ⟨N, P, G, wa, me⟩, S, dd, ⟨rc, rx, rh⟩, ⟨bc, bw, bs⟩, sd, i0, i1⟩).2 := by
  unfold o_train
  dsimp only
  split
  · rename_i c
    obtain ⟨m, -, -, -, hN⟩ := rfA_0 c
    obtain ⟨w1, w2, w3, w4, w5, w6, w7, w8, w9, w10, w11⟩ := id W
    exact ⟨w1, w2, w3, w4, wfS_tr (by omega) w5 _, wf_trd (by omega) w5 w6 _, w7, w8, w9, w10, w11⟩
  · exact W
theorem wf_drd (hN0 : 1 ≤ N) (hS : wfS N P S) (hs : ¬ sd < 0) (hd : ∀ z, z ∈ dd → wfS N P z) (i : Nat) : ∀ z, z ∈ (drA N P G wa me i (S, dd, sd)).2.1 → wfS N P z := by
  induction i with
  | zero => exact hd
  | succ i ih => exact wf_dd ih (wfS_dr hN0 hS hs i).1
theorem wf_drift {n : Int32} (W : wfQ ⟨⟨len, tx⟩, fa, ⟨N, P, G, wa, me⟩, S, dd, ⟨rc, rx, rh⟩, ⟨bc, bw, bs⟩, sd, i0, i1⟩) : wfQ (o_drift n ⟨⟨len, tx⟩, fa, ⟨N, P, G, wa, me⟩, S, dd, ⟨rc, rx, rh⟩, ⟨bc, bw, bs⟩, sd, i0, i1⟩).2 := by
  unfold o_drift
  dsimp only
  split
  · rename_i c
    obtain ⟨m, -, -, -, hN⟩ := rfA_0 c
    obtain ⟨w1, w2, w3, w4, w5, w6, w7, w8, w9, w10, w11⟩ := id W
    have a := wfS_dr (G := G) (wa := wa) (me := me) (dd := dd) (by omega) w5 w9 n.toNatClampNeg
    have b := wf_drd (G := G) (wa := wa) (me := me) (dd := dd) (by omega) w5 w9 w6 n.toNatClampNeg
    generalize drA N P G wa me n.toNatClampNeg (S, dd, sd) = z at *
    exact ⟨w1, w2, w3, w4, a.1, b, w7, w8, a.2, w10, w11⟩
  · exact W
theorem wf_undo {n : Int32} (W : wfQ ⟨⟨len, tx⟩, fa, ⟨N, P, G, wa, me⟩, S, dd, ⟨rc, rx, rh⟩, ⟨bc, bw, bs⟩, sd, i0, i1⟩) : wfQ (o_undo n ⟨⟨len, tx⟩, fa, ⟨N, P, G, wa, me⟩, S, dd, ⟨rc, rx, rh⟩, ⟨bc, bw, bs⟩, sd, i0, i1⟩).2 := by
  unfold o_undo
  dsimp only
  split
  · exact W
  · split
    · exact W
    · obtain ⟨w1, w2, w3, w4, w5, w6, w7, w8, w9, w10, w11⟩ := id W
      refine ⟨w1, w2, w3, w4, ?_, fun z hz => w6 z (List.mem_of_mem_take hz), w7, w8, w9, w10, w11⟩
      rw [List.getD_eq_getElem?_getD]
      cases e : dd[dd.length - n.toNatClampNeg]? with
      | none => exact w5
      | some z => exact w6 z (List.mem_of_getElem? e)
theorem wf_keep {i : Int32} (W : wfQ ⟨⟨len, tx⟩, fa, ⟨N, P, G, wa, me⟩, S, dd, ⟨rc, rx, rh⟩, ⟨bc, bw, bs⟩, sd, i0, i1⟩) : wfQ (o_keep i ⟨⟨len, tx⟩, fa, ⟨N, P, G, wa, me⟩, S, dd, ⟨rc, rx, rh⟩, ⟨bc, bw, bs⟩, sd, i0, i1⟩).2 := by
  unfold o_keep
  dsimp only
  obtain ⟨w1, w2, w3, w4, w5, w6, w7, w8, w9, w10, w11⟩ := id W
  have e : wfI N P (some (S, sd)) := by
    intro z hz
    cases hz
    exact ⟨w5, w9⟩
  split
  · exact ⟨w1, w2, w3, w4, w5, fun z hz => by simp at hz, w7, w8, w9, e, w11⟩
  · split
    · exact ⟨w1, w2, w3, w4, w5, fun z hz => by simp at hz, w7, w8, w9, w10, e⟩
    · exact W
theorem wf_gb {o : Im} (ho : wfI N P o) (W : wfQ ⟨⟨len, tx⟩, fa, ⟨N, P, G, wa, me⟩, S, dd, ⟨rc, rx, rh⟩, ⟨bc, bw, bs⟩, sd, i0, i1⟩) : wfQ (gbA o ⟨⟨len, tx⟩, fa, ⟨N, P, G, wa, me⟩, S, dd, ⟨rc, rx, rh⟩, ⟨bc, bw, bs⟩, sd, i0, i1⟩).2 := by
  cases o with
  | none => exact W
  | some z =>
    obtain ⟨w1, w2, w3, w4, w5, w6, w7, w8, w9, w10, w11⟩ := id W
    exact ⟨w1, w2, w3, w4, (ho z rfl).1, fun y hz => absurd (show y ∈ ([] : List Sc) from hz) List.not_mem_nil, w7, w8, (ho z rfl).2, w10, w11⟩
theorem wf_goBack {i : Int32} (W : wfQ ⟨⟨len, tx⟩, fa, ⟨N, P, G, wa, me⟩, S, dd, ⟨rc, rx, rh⟩, ⟨bc, bw, bs⟩, sd, i0, i1⟩) : wfQ (o_goBack i ⟨⟨len, tx⟩, fa, ⟨N, P, G, wa, me⟩, S, dd, ⟨rc, rx, rh⟩, ⟨bc, bw, bs⟩, sd, i0, i1⟩).2 := by
  unfold o_goBack
  dsimp only
  obtain ⟨w1, w2, w3, w4, w5, w6, w7, w8, w9, w10, w11⟩ := id W
  split
  · exact wf_gb w10 W
  · split
    · exact wf_gb w11 W
    · exact W
theorem wf_line (W : wfQ ⟨⟨len, tx⟩, fa, ⟨N, P, G, wa, me⟩, S, dd, ⟨rc, rx, rh⟩, ⟨bc, bw, bs⟩, sd, i0, i1⟩) : wfQ (o_line ⟨⟨len, tx⟩, fa, ⟨N, P, G, wa, me⟩, S, dd, ⟨rc, rx, rh⟩, ⟨bc, bw, bs⟩, sd, i0, i1⟩).2 := by
  unfold o_line
  dsimp only
  cases ep : prS len tx with
  | inl e => exact W
  | inr z =>
    obtain ⟨w1, w2, w3, w4, w5, w6, w7, w8, w9, w10, w11⟩ := id W
    obtain ⟨⟨n, en, n8, n0, n2⟩, hps⟩ := prS_wf ep
    have hok := prS_ok ep
    obtain ⟨q1, q2, q3, ps⟩ := z
    dsimp only at en n0 hps hok ⊢
    subst en
    rw [nI_clamp (by omega)]
    refine ⟨fun a => by rw [n0 a]; rfl, n8, hps, fun p hp => ?_, fun p hp => ?_, fun z hz => by simp at hz, fun i hi => absurd hi (Nat.not_lt_zero i), fun i hi => absurd hi (Nat.not_lt_zero i), w9, fun z hz => (by cases hz), fun z hz => (by cases hz)⟩
    · have := (hok p _ (getD_at hp)).2.1
      rcases this with a | a
      · exact Or.inl a
      · right
        obtain ⟨k, hk, ek⟩ := inR_of ⟨a.1, a.2⟩ (by omega)
        exact ⟨k, by omega, ek⟩
    · have := (hok p _ (getD_at hp)).1
      show ∃ k, k < n ∧ (ps.getD p pnD).1 = nI k
      refine inR_of ⟨this.1, ?_⟩ (by omega)
      exact (nI_le1 (by omega) this.1).mp (Int32.not_lt.mp this.2)
end Wf
