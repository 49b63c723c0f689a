/-! the law: its loop and its start -/
section LawLoop
variable {h : am_H} {L : Nat} {xs : Nat → Int32} {Φ : Option Value → am_H → Prop}
theorem rlen {M : am_M} {j : Nat} {ls st : List Value} {z : Nat × Nat × Nat × Value × List (Int32 × Nat)} (hi : am_ins M j = (.arraylength, z)) (hc : h.1 0 = .inl (.int, L, .inl xs)) (kk : am_R M (j + 1, ls, .int (nI L) :: st) h Φ) : am_R M (j, ls, .ref 0 :: st) h Φ := by
  refine am_R_step (F' := (j + 1, ls, .int (nI L) :: st)) (h' := h) (by rw [hi]; rfl) ?_ kk
  rw [hi]
  simp only [am_step, am_ari, hc]
  rfl
theorem law_lt {i : Nat} (hL : L ≤ 192) (hi : i ≤ 300) : nI L - 3 < nI i ↔ L < i + 3 := by
  rw [i3, Int32.lt_iff_toInt_lt, pk_sub_toInt (by omega) (by omega), nI_toInt (by omega)]
  omega
set_option maxHeartbeats 1000000 in
theorem law_loop (hL : L ≤ 192) (z : Nat × Nat) : ∀ (d i : Nat) (q : Q) (h : am_H), L < i + d → i ≤ L + 3 → lwI L xs z q h → am_R M_L_law (10, [.ref 0, .ref 1, .ref 130, .int (nI i)], []) h (fun r h' => r = some (.int 1) ∧ h'.2 = z)
  | d, i, q, h, hd, hi, I => by
    obtain ⟨-, -, -, hs, hz⟩ := id I
    refine rs [] rfl rfl rfl rfl ?_
    refine rs [] rfl rfl rfl rfl ?_
    refine rlen rfl hs ?_
    refine rk rfl rfl ?_
    refine rs [] rfl rfl rfl rfl ?_
    (first | refine rif rfl rfl (fun c1 => ?_) (fun c1 => ?_) | refine ric rfl rfl (fun c1 => ?_) (fun c1 => ?_))
    · refine rk rfl rfl ?_
      refine rret rfl rfl ?_
      exact ⟨rfl, hz⟩
    · rw [law_lt hL (by omega)] at c1
      match d, hd with
      | 0, hd => exfalso; omega
      | d + 1, hd =>
        have tl : ∀ q h', lwI L xs h.2 q h' → am_R M_L_law (603, [.ref 0, .ref 1, .ref 130, .int (nI i)], []) h' (fun r h' => r = some (.int 1) ∧ h'.2 = z) := by
          intro q h' I'
          rw [hz] at I'
          repeat (first | refine rs [10] rfl rfl rfl rfl ?_ | refine rk rfl rfl ?_ | refine rgoh [10] rfl rfl ?_ | refine rgeta (hi := rfl) (kk := ?_) | refine rialda (hi := rfl) (kk := ?_))
          have := law_loop hL z d (i + 3) q h' (by omega) (by omega) I'
          rw [← nI_add, ← i3] at this
          exact this
        have I : lwI L xs h.2 q h := by rw [hz]; exact I
        obtain ⟨⟨len, tx⟩, fa, ⟨N, P, G, wa, me⟩, S, dd, ⟨rc, rx, rh⟩, ⟨bc, bw, bs⟩, sd, i0, i1⟩ := q
        repeat (first | refine rs [] rfl rfl rfl rfl ?_ | refine rk rfl rfl ?_ | refine rgoh [] rfl rfl ?_ | refine rgeta (hi := rfl) (kk := ?_) | refine rialda (hi := rfl) (kk := ?_))
        refine rsw rfl rfl ?_
        refine swc (fun _ => lw_feed hL (by omega) I tl) (fun _ => ?_)
        refine swc (fun _ => lw_line hL (by omega) I tl) (fun _ => ?_)
        refine swc (fun _ => lw_fault hL (by omega) I tl) (fun _ => ?_)
        refine swc (fun _ => lw_told hL (by omega) I tl) (fun _ => ?_)
        refine swc (fun _ => lw_person hL (by omega) I tl) (fun _ => ?_)
        refine swc (fun _ => lw_station hL (by omega) I tl) (fun _ => ?_)
        refine swc (fun _ => lw_mien hL (by omega) I tl) (fun _ => ?_)
        refine swc (fun _ => lw_feet hL (by omega) I tl) (fun _ => ?_)
        refine swc (fun _ => lw_flowers hL (by omega) I tl) (fun _ => ?_)
        refine swc (fun _ => lw_walk hL (by omega) I tl) (fun _ => ?_)
        refine swc (fun _ => lw_fog hL (by omega) I tl) (fun _ => ?_)
        refine swc (fun _ => lw_train hL (by omega) I tl) (fun _ => ?_)
        refine swc (fun _ => lw_drift hL (by omega) I tl) (fun _ => ?_)
        refine swc (fun _ => lw_undo hL (by omega) I tl) (fun _ => ?_)
        refine swc (fun _ => lw_stops hL (by omega) I tl) (fun _ => ?_)
        refine swc (fun _ => lw_calm hL (by omega) I tl) (fun _ => ?_)
        refine swc (fun _ => lw_journey hL (by omega) I tl) (fun _ => ?_)
        refine swc (fun _ => lw_never hL (by omega) I tl) (fun _ => ?_)
        refine swc (fun _ => lw_cut hL (by omega) I tl) (fun _ => ?_)
        refine swc (fun _ => lw_aunts hL (by omega) I tl) (fun _ => ?_)
        refine swc (fun _ => lw_chance hL (by omega) I tl) (fun _ => ?_)
        refine swc (fun _ => lw_ran hL (by omega) I tl) (fun _ => ?_)
        refine swc (fun _ => lw_hoped hL (by omega) I tl) (fun _ => ?_)
        refine swc (fun _ => lw_sure hL (by omega) I tl) (fun _ => ?_)
        refine swc (fun _ => lw_look hL (by omega) I tl) (fun _ => ?_)
        refine swc (fun _ => lw_write hL (by omega) I tl) (fun _ => ?_)
        refine swc (fun _ => lw_judge hL (by omega) I tl) (fun _ => ?_)
        refine swc (fun _ => lw_tear hL (by omega) I tl) (fun _ => ?_)
        refine swc (fun _ => lw_seed hL (by omega) I tl) (fun _ => ?_)
        refine swc (fun _ => lw_keep hL (by omega) I tl) (fun _ => ?_)
        refine swc (fun _ => lw_goBack hL (by omega) I tl) (fun _ => ?_)
        exact tl _ h I
/-- where the law begins: the script alone -/
def lwS (L : Nat) (xs : Nat → Int32) : am_H := (fun k => if k = 0 then .inl (.int, L, .inl xs) else am_dead, 0, 0)
theorem cRep.hp {q : Q} {z : Nat × Nat} (R : cRep q h) : cRep q (h.1, z) := by
  obtain ⟨⟨len, tx⟩, fa, ⟨N, P, G, wa, me⟩, S, dd, ⟨rc, rx, rh⟩, ⟨bc, bw, bs⟩, sd, i0, i1⟩ := q
  exact R
theorem wf_q0 : wfQ q0 := ⟨fun _ => rfl, by decide, by decide, fun p hp => absurd hp (Nat.not_lt_zero p), fun p hp => absurd hp (Nat.not_lt_zero p), fun z hz => absurd hz List.not_mem_nil, fun i hi => absurd hi (Nat.not_lt_zero i), fun i hi => absurd hi (Nat.not_lt_zero i), by decide, fun z hz => (by cases hz), fun z hz => (by cases hz)⟩
set_option maxHeartbeats 1000000 in
theorem law_start (hL : L ≤ 192) : am_R M_L_law (0, am_entry M_L_law [.ref 0], []) (lwS L xs) (fun r h' => r = some (.int 1) ∧ h'.2.1 = 148 ∧ h'.2.2 ≤ 10000) := by
  refine rnew (n1 := 1) rfl rfl rfl df9 (fun h1 n1 w1 c1 f1 => ?_)
  have w1 : h1.2.2 = 12 := w1
  refine rs [] rfl rfl rfl rfl ?_
  refine rcs rfl rfl rfl rfl rfl (am_R.imp (n_Sp n1 c1) ?_)
  rintro r h2 ⟨rfl, n2, w2, R2, s2⟩
  show am_R M_L_law (3, [.ref 0, .null, .null, .null], [.ref 1]) _ _
  refine rs [] rfl rfl rfl rfl ?_
  refine rnew (n1 := 130) rfl n2 rfl df10 (fun h3 n3 w3 c3 f3 => ?_)
  have w3 : h3.2.2 = h2.2.2 + 35 := w3
  refine rs [] rfl rfl rfl rfl ?_
  refine rcs rfl rfl rfl rfl rfl (am_R.imp (n_Mo n3 c3) ?_)
  rintro r h4 ⟨rfl, n4, w4, e0, e1, e2, e3, e4, e5, e6, e7, e8, e9, e10, e11, e12, e13, e14, e15, e16, e17, e18, f4⟩
  show am_R M_L_law (7, [.ref 0, .ref 1, .null, .null], [.ref 130]) _ _
  repeat (first | refine rs [10] rfl rfl rfl rfl ?_ | refine rk rfl rfl ?_ | refine rgoh [10] rfl rfl ?_ | refine rgeta (hi := rfl) (kk := ?_) | refine rialda (hi := rfl) (kk := ?_))
  have s4 : h4.1 0 = .inl (.int, L, .inl xs) := (f4 0 (by decide)).trans ((f3 0 (by decide)).trans (s2.trans (f1 0 (by decide))))
  have fr : am_fr 130 1000000 h2 (h4.1, h2.2) := ⟨rfl, fun k hk => (f4 k (by omega)).trans (f3 k (by omega))⟩
  have R4 : cRep q0 h4 := (R2.fr fr).hp (z := h4.2)
  have T4 : mRep q0 h4 := ⟨0, 0, 0, 0, 0, e0, ⟨by decide, e1⟩, ⟨⟨_, e2⟩, _, e3⟩, ⟨by decide, by decide, _, _, e5, e6, fun p hp => absurd hp (Nat.not_lt_zero p), fun p hp => absurd hp (Nat.not_lt_zero p)⟩, ⟨_, _, _, _, e4, e7, e8, e9, fun p hp => absurd hp (Nat.not_lt_zero p)⟩, ⟨by decide, _, e10, fun j S hj => absurd hj (by simp)⟩, ⟨_, e11⟩, ⟨by decide, e12, e13⟩, ⟨_, e14⟩, ⟨by decide, _, e15, fun i hi => absurd hi (Nat.not_lt_zero i)⟩, ⟨_, _, _, e16, e17, e18, rfl, rfl⟩⟩
  refine am_R.imp (law_loop hL h4.2 (L + 1) 0 q0 h4 (by omega) (by omega) ⟨R4, T4, wf_q0, s4, rfl⟩) ?_
  rintro r h5 ⟨rfl, e⟩
  exact ⟨rfl, by rw [e]; exact n4, by rw [e]; omega⟩
end LawLoop
