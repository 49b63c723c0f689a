/-! the class's Witness: the sets that fit -/
theorem scW.fr {a w mi l lw lm mt N P lo hi : Nat} {G fe fl fog tr sp : Int32} {mif wa me f : Nat → Int32} {h h' : am_H} (g : am_fr lo hi h h') (hd : ∀ k, k = a ∨ k = w ∨ k = mi ∨ k = l ∨ k = lw ∨ k = mt → k < lo ∨ hi ≤ k) (H : scW a w mi l lw lm mt N P G fe fl fog tr sp mif wa me h f) : scW a w mi l lw lm mt N P G fe fl fog tr sp mif wa me h' f := by
  obtain ⟨h1, h2, h3, h4, h5, h6, h7, h8, h9⟩ := H
  exact ⟨by rw [g.2 _ (hd a (by simp))]; exact h1, by rw [g.2 _ (hd w (by simp))]; exact h2, by rw [g.2 _ (hd mi (by simp))]; exact h3, by rw [g.2 _ (hd l (by simp))]; exact h4, by rw [g.2 _ (hd lw (by simp))]; exact h5, by rw [g.2 _ (hd mt (by simp))]; exact h6, h7, h8, h9⟩
/-- the scene now, with its line -/
abbrev nowW (N P : Nat) (G fe fl fog tr sp : Int32) (mif wa me : Nat → Int32) (h : am_H) (f : Nat → Int32) : Prop := scW 14 15 16 11 12 13 13 N P G fe fl fog tr sp mif wa me h f
theorem nowW.fr {N P lo hi : Nat} {G fe fl fog tr sp : Int32} {mif wa me f : Nat → Int32} {h h' : am_H} (g : am_fr lo hi h h') (hd : 17 ≤ lo ∨ hi ≤ 11) (H : nowW N P G fe fl fog tr sp mif wa me h f) : nowW N P G fe fl fog tr sp mif wa me h' f := scW.fr g (fun k hk => by omega) H
noncomputable def hst (ok : Int32 → Prop) (hl : List Int32) (c : Int32) : List Int32 := @ite _ (ok c) (Classical.propDecidable _) (hl ++ [c]) hl
theorem hst_pos {ok : Int32 → Prop} {hl : List Int32} {c : Int32} (h : ok c) : hst ok hl c = hl ++ [c] := by
  unfold hst
  rw [if_pos h]
theorem hst_neg {ok : Int32 → Prop} {hl : List Int32} {c : Int32} (h : ¬ ok c) : hst ok hl c = hl := by
  unfold hst
  rw [if_neg h]
theorem hst_len {ok : Int32 → Prop} {hl : List Int32} {c : Int32} : (hst ok hl c).length ≤ hl.length + 1 := by
  by_cases h : ok c
  · rw [hst_pos h, List.length_append]
    simp
  · rw [hst_neg h]
    omega
theorem i37 : (37 : Int32) = nI 37 := by decide
section CFind
variable {h : am_H} {N P rc : Nat} {G fe fl fog tr sp : Int32} {mif wa me f rx rh : Nat → Int32}
theorem c_tryHopeful {hl : List Int32} {c : Int32} {ok : Int32 → Prop} (hok : ok = fun c => fitsP (stn c G fog fe fl mif f N P) rc rx rh) (hW : cWs rc rx rh hl h) (hlen : hl.length < 37) (H : nowW N P G fe fl fog tr sp mif wa me h f) : am_T M_Witness_tryHopeful [.ref 113, .ref 11, .ref 14, .int c] h (fun r h' => r = none ∧ cWs rc rx rh (hst ok hl c) h' ∧ am_fr 113 117 h h') := by
  obtain ⟨q1, q2, ss, q3, q4, q5, q6, q7⟩ := id hW
  obtain ⟨h1, h2, h3, h4, h5, h6, -, h7, h8⟩ := id H
  (try unfold am_E); unfold am_T
  repeat (first | refine rs [] rfl rfl rfl rfl ?_ | refine rk rfl rfl ?_ | refine rgoh [] rfl rfl ?_ | refine rgeta (hi := rfl) (kk := ?_) | refine rialda (hi := rfl) (kk := ?_))
  (first | refine rif rfl rfl (fun c1 => ?_) (fun c1 => ?_) | refine ric rfl rfl (fun c1 => ?_) (fun c1 => ?_))
  · exfalso
    rw [i37, nI_leI (by omega) (by omega)] at c1
    omega
  · repeat (first | refine rs [] rfl rfl rfl rfl ?_ | refine rk rfl rfl ?_ | refine rgoh [] rfl rfl ?_ | refine rgeta (hi := rfl) (kk := ?_) | refine rialda (hi := rfl) (kk := ?_))
    (first | refine rcvs rfl rfl rfl rfl rfl (by first | assumption | (simp (disch := omega) only [am_set_ne, am_set_eq]; first | assumption | rfl)) rfl (c_stopsOfNext H) ?_ | refine rcvn rfl rfl rfl rfl rfl (by first | assumption | (simp (disch := omega) only [am_set_ne, am_set_eq]; first | assumption | rfl)) rfl (c_stopsOfNext H) ?_)
    refine rcvt rfl rfl rfl rfl rfl (by first | assumption | (simp (disch := omega) only [am_set_ne, am_set_eq]; first | assumption | rfl)) rfl (c_fits hW.wt) ?_
    rintro r h' ⟨rfl, hr⟩
    rcases hr with ⟨rfl, hr⟩ | ⟨rfl, hr⟩
    · have hr : ok c := by rw [hok]; exact hr
      show am_R M_Witness_tryHopeful (10, _, [.int 1]) h' _
      (first | refine rift rfl rfl ?_ | refine riff rfl rfl ?_ | refine rict rfl rfl ?_ | refine ricf rfl rfl ?_)
      repeat (first | refine rs [] rfl rfl rfl rfl ?_ | refine rk rfl rfl ?_ | refine rgoh [] rfl rfl ?_ | refine rgeta (hi := rfl) (kk := ?_) | refine rialda (hi := rfl) (kk := ?_))
      refine riasta (hi := rfl) (kk := ?_)
      repeat (first | refine rs [] rfl rfl rfl rfl ?_ | refine rk rfl rfl ?_ | refine rgoh [] rfl rfl ?_ | refine rgeta (hi := rfl) (kk := ?_) | refine rialda (hi := rfl) (kk := ?_))
      refine rputa (hi := rfl) (kk := ?_)
      repeat (first | refine rs [] rfl rfl rfl rfl ?_ | refine rk rfl rfl ?_ | refine rgoh [] rfl rfl ?_ | refine rgeta (hi := rfl) (kk := ?_) | refine rialda (hi := rfl) (kk := ?_))
      refine rret rfl rfl ?_
      rw [hst_pos hr]
      refine ⟨rfl, ⟨q1, by rw [List.length_append]; simp; omega, upd ss hl.length c, ?_, ?_, ?_, ?_, fun k v hk => ?_⟩, ?_⟩
      · rw [am_set_eq, List.length_append]
        rw [show hl.length + [c].length = hl.length + 1 from rfl, ← nI_1]
        rfl
      · simp (disch := omega) only [am_set_ne]
        exact q4
      · simp (disch := omega) only [am_set_ne]
        exact q5
      · simp (disch := omega) only [am_set_ne, am_set_eq]
      · rcases Nat.lt_or_ge k hl.length with g | g
        · rw [List.getElem?_append_left g] at hk
          rw [pk_un (by omega)]
          exact q7 k v hk
        · rw [List.getElem?_append_right g] at hk
          have h0 : k - hl.length < 1 := (List.getElem?_eq_some_iff.mp hk).1
          rw [show k - hl.length = 0 by omega] at hk
          cases hk
          rw [show k = hl.length by omega]
          exact pk_us
      · exact fr_set (fr_set fr_rf (by omega) (by omega)) (by omega) (by omega)
    · have hr : ¬ ok c := by rw [hok]; exact hr
      show am_R M_Witness_tryHopeful (10, _, [.int 0]) h' _
      (first | refine rift rfl rfl ?_ | refine riff rfl rfl ?_ | refine rict rfl rfl ?_ | refine ricf rfl rfl ?_)
      repeat (first | refine rs [] rfl rfl rfl rfl ?_ | refine rk rfl rfl ?_ | refine rgoh [] rfl rfl ?_ | refine rgeta (hi := rfl) (kk := ?_) | refine rialda (hi := rfl) (kk := ?_))
      refine rret rfl rfl ?_
      rw [hst_neg hr]
      exact ⟨rfl, hW, fr_rf⟩
/-- the sets of persons, fewest first, then rising, that fit -/
noncomputable def hop1 (ok : Int32 → Prop) (P : Nat) : List Int32 := fo (fun p l => hst ok l (sh1 (nI p))) P (hst ok [] 0)
noncomputable def hop2 (ok : Int32 → Prop) (P : Nat) : List Int32 := fo (fun p l => fo (fun q l => hst ok l (sh1 (nI p) ||| sh1 (nI q))) p l) P (hop1 ok P)
def tri : Nat → Nat
  | 0 => 0
  | n + 1 => tri n + n
theorem tri_mono {a b : Nat} (h : a ≤ b) : tri a ≤ tri b := by
  induction h with
  | refl => exact Nat.le_refl _
  | step _ ih => exact Nat.le_trans ih (Nat.le_add_right _ _)
theorem tri8 {a : Nat} (h : a ≤ 8) : tri a ≤ 28 := Nat.le_trans (tri_mono h) (by decide)
theorem fo_len {F : Nat → List Int32 → List Int32} (hF : ∀ p l, (F p l).length ≤ l.length + 1) (n : Nat) (l : List Int32) : (fo F n l).length ≤ l.length + n := by
  induction n with
  | zero => exact Nat.le_refl _
  | succ n ih =>
    rw [fo_succ]
    have := hF n (fo F n l)
    omega
theorem hop1_len (ok : Int32 → Prop) (i P : Nat) : (fo (fun p l => hst ok l (sh1 (nI p))) i (hst ok [] 0)).length ≤ 1 + i := by
  have h1 := fo_len (F := fun p l => hst ok l (sh1 (nI p))) (fun p l => hst_len) i (hst ok [] 0)
  have h2 : (hst ok [] 0).length ≤ 1 := hst_len
  omega
theorem hop2_len (ok : Int32 → Prop) (i P : Nat) : (fo (fun p l => fo (fun q l => hst ok l (sh1 (nI p) ||| sh1 (nI q))) p l) i (hop1 ok P)).length ≤ 1 + P + tri i := by
  induction i with
  | zero =>
    have := hop1_len ok P P
    exact this
  | succ i ih =>
    rw [fo_succ]
    have := fo_len (F := fun q l => hst ok l (sh1 (nI i) ||| sh1 (nI q))) (fun p l => hst_len) i (fo (fun p l => fo (fun q l => hst ok l (sh1 (nI p) ||| sh1 (nI q))) p l) i (hop1 ok P))
    show _ ≤ 1 + P + (tri i + i)
    omega
set_option maxHeartbeats 1000000 in
theorem c_find {ok : Int32 → Prop} (hok : ok = fun c => fitsP (stn c G fog fe fl mif f N P) rc rx rh) (hW : cWt rc rx rh h) (H : nowW N P G fe fl fog tr sp mif wa me h f) : am_T M_Witness_find [.ref 113, .ref 11, .ref 14] h (fun r h' => r = some (.int (nI (hop2 ok P).length)) ∧ cWs rc rx rh (hop2 ok P) h' ∧ am_fr 113 117 h h') := by
  have hP : P ≤ 8 := H.2.2.2.2.2.2.2.2
  obtain ⟨q1, ss, fd, q3, q4, q5, q6⟩ := hW
  (try unfold am_E); unfold am_T
  repeat (first | refine rs [] rfl rfl rfl rfl ?_ | refine rk rfl rfl ?_ | refine rgoh [] rfl rfl ?_ | refine rgeta (hi := rfl) (kk := ?_) | refine rialda (hi := rfl) (kk := ?_))
  refine rputa (hi := rfl) (kk := ?_)
  have hW0 : cWs rc rx rh [] (am_set h 113 (.inr (8, [Value.ref 114, .ref 115, .int (nI rc), .ref 116, .int fd].set 4 (.int 0)))) := by
    refine ⟨q1, by simp, ss, am_set_eq, ?_, ?_, ?_, fun k v hk => by simp at hk⟩
    · rw [am_set_ne (by omega)]; exact q4
    · rw [am_set_ne (by omega)]; exact q5
    · rw [am_set_ne (by omega)]; exact q6
  have F0 : am_fr 113 117 h (am_set h 113 (.inr (8, [Value.ref 114, .ref 115, .int (nI rc), .ref 116, .int fd].set 4 (.int 0)))) := fr_set fr_rf (by omega) (by omega)
  generalize am_set h 113 (.inr (8, [Value.ref 114, .ref 115, .int (nI rc), .ref 116, .int fd].set 4 (.int 0))) = h0 at *
  have hx0 : ∃ z, h0.1 113 = .inr (8, z) := by obtain ⟨-, -, s0, e, -⟩ := hW0; exact ⟨_, e⟩
  obtain ⟨z0, hx0⟩ := hx0
  repeat (first | refine rs [10] rfl rfl rfl rfl ?_ | refine rk rfl rfl ?_ | refine rgoh [10] rfl rfl ?_ | refine rgeta (hi := rfl) (kk := ?_) | refine rialda (hi := rfl) (kk := ?_))
  refine rcvt rfl rfl rfl rfl rfl hx0 rfl (c_tryHopeful hok hW0 (by simp) (H.fr F0 (by omega))) ?_
  rintro r h1 ⟨rfl, hW1, F1⟩
  have F1 := fr_tr F0 F1 (Nat.le_refl _) (Nat.le_refl _)
  show am_R M_Witness_find (8, _, []) h1 _
  repeat (first | refine rs [10] rfl rfl rfl rfl ?_ | refine rk rfl rfl ?_ | refine rgoh [10] rfl rfl ?_ | refine rgeta (hi := rfl) (kk := ?_) | refine rialda (hi := rfl) (kk := ?_))
  suffices hs : ∀ x, x = nI 0 → ∀ h1, cWs rc rx rh (fo (fun p l => hst ok l (sh1 (nI p))) 0 (hst ok [] 0)) h1 → am_fr 113 117 h h1 → am_R M_Witness_find (10, [.ref 113, .ref 11, .ref 14, .int x, .null], []) h1 _ from hs 0 nI_0.symm h1 hW1 F1
  refine lup (P := fun i => ∀ x, x = nI i → ∀ h1, cWs rc rx rh (fo (fun p l => hst ok l (sh1 (nI p))) i (hst ok [] 0)) h1 → am_fr 113 117 h h1 → am_R M_Witness_find (10, [.ref 113, .ref 11, .ref 14, .int x, .null], []) h1 _) P ?_ ?_
  · rintro x rfl h1 hW1 F1
    obtain ⟨h1', h2, h3, h4, h5, h6, -⟩ := H.fr F1 (by omega)
    repeat (first | refine rs [] rfl rfl rfl rfl ?_ | refine rk rfl rfl ?_ | refine rgoh [] rfl rfl ?_ | refine rgeta (hi := rfl) (kk := ?_) | refine rialda (hi := rfl) (kk := ?_))
    (first | refine rif rfl rfl (fun c1 => ?_) (fun c1 => ?_) | refine ric rfl rfl (fun c1 => ?_) (fun c1 => ?_))
    · clear c1
      repeat (first | refine rs [25] rfl rfl rfl rfl ?_ | refine rk rfl rfl ?_ | refine rgoh [25] rfl rfl ?_ | refine rgeta (hi := rfl) (kk := ?_) | refine rialda (hi := rfl) (kk := ?_))
      suffices hs : ∀ i, i ≤ P → (P = 0 → i = 0) → ∀ x, (x = nI i ∨ (x = 1 ∧ i = 0 ∧ P = 0)) → ∀ v4 h1, cWs rc rx rh (fo (fun p l => fo (fun q l => hst ok l (sh1 (nI p) ||| sh1 (nI q))) p l) i (hop1 ok P)) h1 → am_fr 113 117 h h1 → am_R M_Witness_find (25, [.ref 113, .ref 11, .ref 14, .int x, v4], []) h1 _ by
        by_cases hp : P = 0
        · exact hs 0 (by omega) (fun _ => rfl) 1 (Or.inr ⟨rfl, rfl, hp⟩) _ h1 hW1 F1
        · exact hs 1 (by omega) (fun q => absurd q hp) 1 (Or.inl i1) _ h1 hW1 F1
      intro i hi
      obtain ⟨d, hd⟩ : ∃ d, d = P - i := ⟨_, rfl⟩
      induction d generalizing i with
      | zero =>
        obtain rfl : i = P := by omega
        intro hp0 x hx v4 h1 hW1 F1
        obtain ⟨h1', h2, h3, h4, h5, h6, -⟩ := H.fr F1 (by omega)
        obtain ⟨w1, w2, w3, w4, w5⟩ := id hW1
        repeat (first | refine rs [] rfl rfl rfl rfl ?_ | refine rk rfl rfl ?_ | refine rgoh [] rfl rfl ?_ | refine rgeta (hi := rfl) (kk := ?_) | refine rialda (hi := rfl) (kk := ?_))
        (first | refine rif rfl rfl (fun c1 => ?_) (fun c1 => ?_) | refine ric rfl rfl (fun c1 => ?_) (fun c1 => ?_))
        · repeat (first | refine rs [] rfl rfl rfl rfl ?_ | refine rk rfl rfl ?_ | refine rgoh [] rfl rfl ?_ | refine rgeta (hi := rfl) (kk := ?_) | refine rialda (hi := rfl) (kk := ?_))
          refine rret rfl rfl ?_
          exact ⟨rfl, hW1, F1⟩
        · exfalso
          apply c1
          rcases hx with rfl | ⟨rfl, -, rfl⟩
          · exact Int32.le_refl _
          · decide
      | succ d ih =>
        intro hp0 x hx v4 h1 hW1 F1
        obtain rfl : x = nI i := by
          rcases hx with q | ⟨-, q1, q2⟩
          · exact q
          · omega
        obtain ⟨h1', h2, h3, h4, h5, h6, -⟩ := H.fr F1 (by omega)
        repeat (first | refine rs [] rfl rfl rfl rfl ?_ | refine rk rfl rfl ?_ | refine rgoh [] rfl rfl ?_ | refine rgeta (hi := rfl) (kk := ?_) | refine rialda (hi := rfl) (kk := ?_))
        (first | refine rif rfl rfl (fun c1 => ?_) (fun c1 => ?_) | refine ric rfl rfl (fun c1 => ?_) (fun c1 => ?_))
        · exfalso
          rw [nI_leI (by omega) (by omega)] at c1
          omega
        · repeat (first | refine rs [31] rfl rfl rfl rfl ?_ | refine rk rfl rfl ?_ | refine rgoh [31] rfl rfl ?_ | refine rgeta (hi := rfl) (kk := ?_) | refine rialda (hi := rfl) (kk := ?_))
          suffices hs : ∀ y, y = nI 0 → ∀ h1, cWs rc rx rh (fo (fun q l => hst ok l (sh1 (nI i) ||| sh1 (nI q))) 0 (fo (fun p l => fo (fun q l => hst ok l (sh1 (nI p) ||| sh1 (nI q))) p l) i (hop1 ok P))) h1 → am_fr 113 117 h h1 → am_R M_Witness_find (31, [.ref 113, .ref 11, .ref 14, .int (nI i), .int y], []) h1 _ from hs 0 nI_0.symm h1 hW1 F1
          refine lup (P := fun q0 => ∀ y, y = nI q0 → ∀ h1, cWs rc rx rh (fo (fun q l => hst ok l (sh1 (nI i) ||| sh1 (nI q))) q0 (fo (fun p l => fo (fun q l => hst ok l (sh1 (nI p) ||| sh1 (nI q))) p l) i (hop1 ok P))) h1 → am_fr 113 117 h h1 → am_R M_Witness_find (31, [.ref 113, .ref 11, .ref 14, .int (nI i), .int y], []) h1 _) i ?_ ?_
          · rintro y rfl h1 hW1 F1
            repeat (first | refine rs [] rfl rfl rfl rfl ?_ | refine rk rfl rfl ?_ | refine rgoh [] rfl rfl ?_ | refine rgeta (hi := rfl) (kk := ?_) | refine rialda (hi := rfl) (kk := ?_))
            (first | refine rif rfl rfl (fun c2 => ?_) (fun c2 => ?_) | refine ric rfl rfl (fun c2 => ?_) (fun c2 => ?_))
            · repeat (first | refine rs [25] rfl rfl rfl rfl ?_ | refine rk rfl rfl ?_ | refine rgoh [25] rfl rfl ?_ | refine rgeta (hi := rfl) (kk := ?_) | refine rialda (hi := rfl) (kk := ?_))
              refine ih (i + 1) (by omega) (by omega) (fun q => by omega) _ (Or.inl (nI_succ i).symm) _ h1 ?_ F1
              exact hW1
            · exact absurd (Int32.le_refl _) c2
          · rintro q0 hq0 ihq y rfl h1 hW1 F1
            repeat (first | refine rs [] rfl rfl rfl rfl ?_ | refine rk rfl rfl ?_ | refine rgoh [] rfl rfl ?_ | refine rgeta (hi := rfl) (kk := ?_) | refine rialda (hi := rfl) (kk := ?_))
            (first | refine rif rfl rfl (fun c2 => ?_) (fun c2 => ?_) | refine ric rfl rfl (fun c2 => ?_) (fun c2 => ?_))
            · exfalso
              rw [nI_leI (by omega) (by omega)] at c2
              omega
            · repeat (first | refine rs [] rfl rfl rfl rfl ?_ | refine rk rfl rfl ?_ | refine rgoh [] rfl rfl ?_ | refine rgeta (hi := rfl) (kk := ?_) | refine rialda (hi := rfl) (kk := ?_))
              obtain ⟨w1, w2, w3, w4, w5⟩ := id hW1
              have hl1 := hop2_len ok i P
              have hl2 := fo_len (F := fun q l => hst ok l (sh1 (nI i) ||| sh1 (nI q))) (fun p l => hst_len) q0 (fo (fun p l => fo (fun q l => hst ok l (sh1 (nI p) ||| sh1 (nI q))) p l) i (hop1 ok P))
              have hl3 := tri8 (a := i + 1) (by omega)
              have hl4 : tri (i + 1) = tri i + i := rfl
              refine rcvt rfl rfl rfl rfl rfl w4 rfl (c_tryHopeful hok hW1 (by omega) (H.fr F1 (by omega))) ?_
              rintro r h2 ⟨rfl, hW2, F2⟩
              have F2 := fr_tr F1 F2 (Nat.le_refl _) (Nat.le_refl _)
              show am_R M_Witness_find (45, _, []) h2 _
              repeat (first | refine rs [31] rfl rfl rfl rfl ?_ | refine rk rfl rfl ?_ | refine rgoh [31] rfl rfl ?_ | refine rgeta (hi := rfl) (kk := ?_) | refine rialda (hi := rfl) (kk := ?_))
              exact ihq _ (nI_succ q0).symm h2 hW2 F2
    · exact absurd (Int32.le_refl _) c1
  · rintro i hi ih x rfl h1 hW1 F1
    obtain ⟨h1', h2, h3, h4, h5, h6, -⟩ := H.fr F1 (by omega)
    repeat (first | refine rs [] rfl rfl rfl rfl ?_ | refine rk rfl rfl ?_ | refine rgoh [] rfl rfl ?_ | refine rgeta (hi := rfl) (kk := ?_) | refine rialda (hi := rfl) (kk := ?_))
    (first | refine rif rfl rfl (fun c1 => ?_) (fun c1 => ?_) | refine ric rfl rfl (fun c1 => ?_) (fun c1 => ?_))
    · exact absurd hi ((nI_lt_iff (by omega) (by omega)).mp c1)
    · repeat (first | refine rs [] rfl rfl rfl rfl ?_ | refine rk rfl rfl ?_ | refine rgoh [] rfl rfl ?_ | refine rgeta (hi := rfl) (kk := ?_) | refine rialda (hi := rfl) (kk := ?_))
      obtain ⟨w1, w2, w3, w4, w5⟩ := id hW1
      have hl1 := hop1_len ok i P
      refine rcvt rfl rfl rfl rfl rfl w4 rfl (c_tryHopeful hok hW1 (by omega) (H.fr F1 (by omega))) ?_
      rintro r h2 ⟨rfl, hW2, F2⟩
      have F2 := fr_tr F1 F2 (Nat.le_refl _) (Nat.le_refl _)
      show am_R M_Witness_find (21, _, []) h2 _
      repeat (first | refine rs [10] rfl rfl rfl rfl ?_ | refine rk rfl rfl ?_ | refine rgoh [10] rfl rfl ?_ | refine rgeta (hi := rfl) (kk := ?_) | refine rialda (hi := rfl) (kk := ?_))
      exact ih _ (nI_succ i).symm h2 hW2 F2
def wth (hl : List Int32) (p : Int32) : Int32 := fo (fun i w => w + bitv (hl.getD i 0) p) hl.length 0
theorem c_greatestPart {hl : List Int32} {p : Int32} (hW : cWs rc rx rh hl h) : am_E M_Witness_greatestPart [.ref 113, .int p] h (some (.int (mxI (wth hl p) (nI hl.length - wth hl p)))) h := by
  obtain ⟨q1, q2, ss, q3, q4, q5, q6, q7⟩ := hW
  (try unfold am_E); unfold am_T
  repeat (first | refine rs [4] rfl rfl rfl rfl ?_ | refine rk rfl rfl ?_ | refine rgoh [4] rfl rfl ?_ | refine rgeta (hi := rfl) (kk := ?_) | refine rialda (hi := rfl) (kk := ?_))
  refine lup (P := fun i => ∀ x, x = nI i → am_R M_Witness_greatestPart (4, [.ref 113, .int p, .int (fo (fun i w => w + bitv (hl.getD i 0) p) i 0), .int x], []) h _) hl.length ?_ ?_ 0 nI_0.symm
  · rintro x rfl
    repeat (first | refine rs [] rfl rfl rfl rfl ?_ | refine rk rfl rfl ?_ | refine rgoh [] rfl rfl ?_ | refine rgeta (hi := rfl) (kk := ?_) | refine rialda (hi := rfl) (kk := ?_))
    (first | refine rif rfl rfl (fun c1 => ?_) (fun c1 => ?_) | refine ric rfl rfl (fun c1 => ?_) (fun c1 => ?_))
    · repeat (first | refine rs [] rfl rfl rfl rfl ?_ | refine rk rfl rfl ?_ | refine rgoh [] rfl rfl ?_ | refine rgeta (hi := rfl) (kk := ?_) | refine rialda (hi := rfl) (kk := ?_))
      refine rret rfl rfl ?_
      exact ⟨rfl, rfl⟩
    · exact absurd (Int32.le_refl _) c1
  · rintro i hi ih x rfl
    repeat (first | refine rs [] rfl rfl rfl rfl ?_ | refine rk rfl rfl ?_ | refine rgoh [] rfl rfl ?_ | refine rgeta (hi := rfl) (kk := ?_) | refine rialda (hi := rfl) (kk := ?_))
    (first | refine rif rfl rfl (fun c1 => ?_) (fun c1 => ?_) | refine ric rfl rfl (fun c1 => ?_) (fun c1 => ?_))
    · exact absurd hi ((nI_lt_iff (by omega) (by omega)).mp c1)
    · repeat (first | refine rs [] rfl rfl rfl rfl ?_ | refine rk rfl rfl ?_ | refine rgoh [] rfl rfl ?_ | refine rgeta (hi := rfl) (kk := ?_) | refine rialda (hi := rfl) (kk := ?_))
      refine rcss rfl rfl rfl rfl rfl (c_bit) ?_
      repeat (first | refine rs [4] rfl rfl rfl rfl ?_ | refine rk rfl rfl ?_ | refine rgoh [4] rfl rfl ?_ | refine rgeta (hi := rfl) (kk := ?_) | refine rialda (hi := rfl) (kk := ?_))
      have := ih _ (nI_succ i).symm
      rw [fo_succ] at this
      have e : ss i = hl.getD i 0 := by
        rw [q7 i hl[i] (List.getElem?_eq_getElem hi), List.getD_eq_getElem?_getD, List.getElem?_eq_getElem hi]
        rfl
      rw [e]
      exact this
end CFind
