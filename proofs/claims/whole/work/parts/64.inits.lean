/-! the constructors of the class -/
theorem ne_gt {k x : Nat} (h : x < k) : k ≠ x := by omega
theorem n_Image {h : am_H} {a : Nat} (hn : h.2.1 = a) (hc : h.1 a = .inr (3, [.null, .int 0, .int 0])) (ha : 0 < a) : am_T M_Image_init [.ref a] h (fun r h' => r = none ∧ h'.2.1 = a + 3 ∧ h'.2.2 = h.2.2 + 23 ∧ h'.1 a = .inr (3, [.ref (a + 1), .int 0, .int 0]) ∧ h'.1 (a + 1) = .inr (6, [.ref (a + 2), .ref (a + 3), .int 0, .int 0, .int 0, .int 0, .int 0]) ∧ h'.1 (a + 2) = iar (fun _ => 0) ∧ h'.1 (a + 3) = iar (fun _ => 0) ∧ ∀ k, (k < a ∨ a + 3 < k) → h'.1 k = h.1 k) := by
  (try unfold am_E); unfold am_T
  refine rs [] rfl rfl rfl rfl ?_
  refine rs [] rfl rfl rfl rfl ?_
  refine rs [] rfl rfl rfl rfl ?_
  refine rnew (n1 := a + 1) rfl hn rfl df6 (fun h1 n1 w1 c1 f1 => ?_)
  refine rs [] rfl rfl rfl rfl ?_
  refine rcs rfl rfl rfl rfl rfl (am_R.imp (n_Scene n1 c1 (by omega)) ?_)
  rintro r h2 ⟨rfl, n2, w2, s1, s2, s3, f2⟩
  show am_R M_Image_init (6, [.ref a], [.ref (a + 1), .ref a]) _ _
  refine rpt (fs' := [.ref (a + 1), .int 0, .int 0]) rfl ((f2 _ (by omega)).trans ((f1 _ (by omega)).trans hc)) rfl rfl rfl (fun h3 n3 w3 c3 f3 => ?_)
  refine rs [] rfl rfl rfl rfl ?_
  refine rk rfl rfl ?_
  refine rpt (fs' := [.ref (a + 1), .int 0, .int 0]) rfl c3 rfl rfl rfl (fun h4 n4 w4 c4 f4 => ?_)
  refine rs [] rfl rfl rfl rfl ?_
  refine rk rfl rfl ?_
  refine rpt (fs' := [.ref (a + 1), .int 0, .int 0]) rfl c4 rfl rfl rfl (fun h5 n5 w5 c5 f5 => ?_)
  refine rret rfl rfl ⟨rfl, ?_⟩
  have w1 : h1.2.2 = h.2.2 + 7 := w1
  exact ⟨n5.trans (n4.trans (n3.trans n2)), by omega, c5, (f5 _ (by omega)).trans ((f4 _ (by omega)).trans ((f3 _ (by omega)).trans s1)), (f5 _ (by omega)).trans ((f4 _ (by omega)).trans ((f3 _ (by omega)).trans s2)), (f5 _ (by omega)).trans ((f4 _ (by omega)).trans ((f3 _ (by omega)).trans s3)), fun k hk => (f5 k (by omega)).trans ((f4 k (by omega)).trans ((f3 k (by omega)).trans ((f2 k (by omega)).trans (f1 k (by omega)))))⟩
set_option maxHeartbeats 1000000 in
theorem n_Deeds {h : am_H} (hn : h.2.1 = 21) (hc : h.1 21 = .inr (1, [.null, .int 0, .int 0])) : am_T M_Deeds_init [.ref 21] h (fun r h' => r = none ∧ h'.2.1 = 112 ∧ h'.2.2 = h.2.2 + 720 ∧ h'.1 21 = .inr (1, [.ref 22, .int 0, .int 0]) ∧ (∃ f, h'.1 22 = .inl (.object "SpiteLine$Scene", 30, .inr (.inr (.inr (.inr f)))) ∧ ∀ i, i < 30 → f i = some (23 + 3 * i)) ∧ (∀ i, i < 30 → cRaw (23 + 3 * i) h') ∧ ∀ k, k < 21 → h'.1 k = h.1 k) := by
  (try unfold am_E); unfold am_T
  refine rs [] rfl rfl rfl rfl ?_
  refine rs [] rfl rfl rfl rfl ?_
  refine rs [] rfl rfl rfl rfl ?_
  refine rk rfl rfl ?_
  refine rnaa (m := 30) (n1 := 22) (C := "SpiteLine$Scene") rfl rfl (by decide) (by decide) hn rfl (fun h1 n1 w1 c1 f1 => ?_)
  refine rpt (fs' := [.ref 22, .int 0, .int 0]) rfl ((f1 _ (by decide)).trans hc) rfl rfl rfl (fun h2 n2 w2 c2 f2 => ?_)
  refine rs [] rfl rfl rfl rfl ?_
  refine rk rfl rfl ?_
  refine rpt (fs' := [.ref 22, .int 0, .int 0]) rfl c2 rfl rfl rfl (fun h3 n3 w3 c3 f3 => ?_)
  refine rs [] rfl rfl rfl rfl ?_
  refine rk rfl rfl ?_
  refine rpt (fs' := [.ref 22, .int 0, .int 0]) rfl c3 rfl rfl rfl (fun h4 n4 w4 c4 f4 => ?_)
  repeat (first | refine rs [14] rfl rfl rfl rfl ?_ | refine rk rfl rfl ?_ | refine rgoh [14] rfl rfl ?_ | refine rgeta (hi := rfl) (kk := ?_) | refine rialda (hi := rfl) (kk := ?_))
  have d4 : h4.1 22 = .inl (.object "SpiteLine$Scene", 30, .inr (.inr (.inr (.inr (fun _ => none))))) := (f4 _ (by decide)).trans ((f3 _ (by decide)).trans ((f2 _ (by decide)).trans c1))
  have e4 : ∀ k, k < 21 → h4.1 k = h.1 k := fun k hk => (f4 k (by omega)).trans ((f3 k (by omega)).trans ((f2 k (by omega)).trans (f1 k (by omega))))
  have m4 : h4.2.1 = 22 := n4.trans (n3.trans (n2.trans n1))
  have v4 : h4.2.2 = h.2.2 + 30 := by omega
  clear f1 f2 f3 f4 c1 c2 c3 n1 n2 n3 n4 w1 w2 w3 w4
  refine lup (P := fun i => ∀ x g f, x = nI i → g.2.1 = 22 + 3 * i → g.2.2 = h.2.2 + 30 + 23 * i → g.1 21 = .inr (1, [.ref 22, .int 0, .int 0]) → g.1 22 = .inl (.object "SpiteLine$Scene", 30, .inr (.inr (.inr (.inr f)))) → (∀ j, j < i → f j = some (23 + 3 * j)) → (∀ j, j < i → cRaw (23 + 3 * j) g) → (∀ k, k < 21 → g.1 k = h.1 k) → am_R M_Deeds_init (14, [.ref 21, .int x], []) g _) 30 ?_ ?_ 0 h4 _ nI_0.symm m4 v4 c4 d4 (fun j hj => by omega) (fun j hj => by omega) e4
  · rintro x g f rfl n0 w0 c0 d0 q1 q2 q3
    repeat (first | refine rs [] rfl rfl rfl rfl ?_ | refine rk rfl rfl ?_ | refine rgoh [] rfl rfl ?_ | refine rgeta (hi := rfl) (kk := ?_) | refine rialda (hi := rfl) (kk := ?_))
    (first | refine rift rfl rfl ?_ | refine riff rfl rfl ?_ | refine rict rfl rfl ?_ | refine ricf rfl rfl ?_)
    refine rret rfl rfl ⟨rfl, ?_⟩
    exact ⟨n0, w0, c0, ⟨f, d0, q1⟩, q2, q3⟩
  · rintro i hi ih x g f rfl n0 w0 c0 d0 q1 q2 q3
    repeat (first | refine rs [] rfl rfl rfl rfl ?_ | refine rk rfl rfl ?_ | refine rgoh [] rfl rfl ?_ | refine rgeta (hi := rfl) (kk := ?_) | refine rialda (hi := rfl) (kk := ?_))
    (first | refine rif rfl rfl (fun b1 => ?_) (fun b1 => ?_) | refine ric rfl rfl (fun b1 => ?_) (fun b1 => ?_))
    · rw [i30] at b1
      exact absurd hi ((nI_lt_iff (by omega) (by omega)).mp b1)
    · refine rs [] rfl rfl rfl rfl ?_
      refine rgeta (hi := rfl) (kk := ?_)
      refine rs [] rfl rfl rfl rfl ?_
      refine rnew (n1 := 23 + 3 * i) rfl n0 (by omega) df6 (fun h1 n1 w1 c1 f1 => ?_)
      refine rs [] rfl rfl rfl rfl ?_
      refine rcs rfl rfl rfl rfl rfl (am_R.imp (n_Scene n1 c1 (by omega)) ?_)
      rintro r h2 ⟨rfl, n2, w2, s1, s2, s3, f2⟩
      show am_R M_Deeds_init (23, [.ref 21, .int (nI i)], [.ref (23 + 3 * i), .int (nI i), .ref 22]) _ _
      have d2 : h2.1 22 = .inl (.object "SpiteLine$Scene", 30, .inr (.inr (.inr (.inr f)))) := (f2 _ (by omega)).trans ((f1 _ (by omega)).trans d0)
      refine rao (k := i) rfl d2 (Or.inl ⟨rfl, rfl⟩) s1 rfl hi (by omega) (fun h3 n3 w3 c3 f3 => ?_)
      repeat (first | refine rs [14] rfl rfl rfl rfl ?_ | refine rk rfl rfl ?_ | refine rgoh [14] rfl rfl ?_ | refine rgeta (hi := rfl) (kk := ?_) | refine rialda (hi := rfl) (kk := ?_))
      have w1 : h1.2.2 = g.2.2 + 7 := w1
      refine ih _ h3 _ (nI_succ i).symm (by omega) (by omega) ((f3 _ (by omega)).trans ((f2 _ (by omega)).trans ((f1 _ (by omega)).trans c0))) c3 (fun j hj => ?_) (fun j hj => ?_) (fun k hk => (f3 k (by omega)).trans ((f2 k (by omega)).trans ((f1 k (by omega)).trans (q3 k hk))))
      · rcases Nat.lt_or_ge j i with u | u
        · rw [va_up_ne _ _ (by omega)]
          exact q1 j u
        · rw [show j = i by omega]
          exact va_up_self _ _ _
      · rcases Nat.lt_or_ge j i with u | u
        · obtain ⟨a1, a2, a3, a4, a5, a6, a7, b1, b2, b3⟩ := q2 j u
          exact ⟨a1, a2, a3, a4, a5, a6, a7, (f3 _ (by omega)).trans ((f2 _ (by omega)).trans ((f1 _ (by omega)).trans b1)), (f3 _ (by omega)).trans ((f2 _ (by omega)).trans ((f1 _ (by omega)).trans b2)), (f3 _ (by omega)).trans ((f2 _ (by omega)).trans ((f1 _ (by omega)).trans b3))⟩
        · rw [show j = i by omega]
          exact ⟨_, _, _, _, _, _, _, (f3 _ (by omega)).trans s1, (f3 _ (by omega)).trans s2, (f3 _ (by omega)).trans s3⟩
set_option maxHeartbeats 1000000 in
theorem n_Reader {h : am_H} (hn : h.2.1 = 4) (hc : h.1 4 = .inr (5, [.null, .null, .int 0, .int 0, .int 0, .int 0])) : am_T M_Reader_init [.ref 4] h (fun r h' => r = none ∧ h'.2.1 = 10 ∧ h'.2.2 = h.2.2 + 44 ∧ h'.1 4 = rdc 0 (-1) 0 0 ∧ pRw h' ∧ ∀ k, k < 4 → h'.1 k = h.1 k) := by
  (try unfold am_E); unfold am_T
  refine rs [] rfl rfl rfl rfl ?_
  refine rs [] rfl rfl rfl rfl ?_
  refine rs [] rfl rfl rfl rfl ?_
  refine rnew (n1 := 5) rfl hn rfl df4 (fun h1 n1 w1 c1 f1 => ?_)
  have w1 : h1.2.2 = _ + 5 := w1
  refine rs [] rfl rfl rfl rfl ?_
  refine rcs rfl rfl rfl rfl rfl (am_R.imp (n_Line n1 c1 (by decide)) ?_)
  rintro r h2 ⟨rfl, n2, w2, s1, s2, s3, f2⟩
  show am_R M_Reader_init (6, [.ref 4], [.ref 5, .ref 4]) _ _
  refine rpt (fs' := [.ref 5, .null, .int 0, .int 0, .int 0, .int 0]) rfl ((f2 _ (by decide)).trans ((f1 _ (by decide)).trans (hc))) rfl rfl rfl (fun h3 n3 w3 c3 f3 => ?_)
  have m3 := n3.trans n2
  refine rs [] rfl rfl rfl rfl ?_
  refine rnew (n1 := 8) rfl m3 rfl df6 (fun h4 n4 w4 c4 f4 => ?_)
  have w4 : h4.2.2 = _ + 7 := w4
  refine rs [] rfl rfl rfl rfl ?_
  refine rcs rfl rfl rfl rfl rfl (am_R.imp (n_Scene n4 c4 (by decide)) ?_)
  rintro r h5 ⟨rfl, n5, w5, s4, s5, s6, f5⟩
  show am_R M_Reader_init (11, [.ref 4], [.ref 8, .ref 4]) _ _
  refine rpt (fs' := [.ref 5, .ref 8, .int 0, .int 0, .int 0, .int 0]) rfl ((f5 _ (by decide)).trans ((f4 _ (by decide)).trans (c3))) rfl rfl rfl (fun h6 n6 w6 c6 f6 => ?_)
  have m6 := n6.trans n5
  refine rs [] rfl rfl rfl rfl ?_
  refine rk rfl rfl ?_
  refine rpt (fs' := [.ref 5, .ref 8, .int 0, .int 0, .int 0, .int 0]) rfl (c6) rfl rfl rfl (fun h7 n7 w7 c7 f7 => ?_)
  have m7 := n7.trans m6
  refine rs [] rfl rfl rfl rfl ?_
  refine rk rfl rfl ?_
  refine rpt (fs' := [.ref 5, .ref 8, .int 0, .int (-1), .int 0, .int 0]) rfl (c7) rfl rfl rfl (fun h8 n8 w8 c8 f8 => ?_)
  have m8 := n8.trans m7
  refine rs [] rfl rfl rfl rfl ?_
  refine rk rfl rfl ?_
  refine rpt (fs' := [.ref 5, .ref 8, .int 0, .int (-1), .int 0, .int 0]) rfl (c8) rfl rfl rfl (fun h9 n9 w9 c9 f9 => ?_)
  have m9 := n9.trans m8
  refine rs [] rfl rfl rfl rfl ?_
  refine rk rfl rfl ?_
  refine rpt (fs' := [.ref 5, .ref 8, .int 0, .int (-1), .int 0, .int 0]) rfl (c9) rfl rfl rfl (fun h10 n10 w10 c10 f10 => ?_)
  have m10 := n10.trans m9
  refine rret rfl rfl ⟨rfl, ?_⟩
  exact ⟨m10, by omega, c10, ⟨_, _, _, _, _, _, _, _, _, _, _, _, (f10 _ (by decide)).trans ((f9 _ (by decide)).trans ((f8 _ (by decide)).trans ((f7 _ (by decide)).trans ((f6 _ (by decide)).trans ((f5 _ (by decide)).trans ((f4 _ (by decide)).trans ((f3 _ (by decide)).trans (s1)))))))), (f10 _ (by decide)).trans ((f9 _ (by decide)).trans ((f8 _ (by decide)).trans ((f7 _ (by decide)).trans ((f6 _ (by decide)).trans ((f5 _ (by decide)).trans ((f4 _ (by decide)).trans ((f3 _ (by decide)).trans (s2)))))))), (f10 _ (by decide)).trans ((f9 _ (by decide)).trans ((f8 _ (by decide)).trans ((f7 _ (by decide)).trans ((f6 _ (by decide)).trans ((f5 _ (by decide)).trans ((f4 _ (by decide)).trans ((f3 _ (by decide)).trans (s3)))))))), (f10 _ (by decide)).trans ((f9 _ (by decide)).trans ((f8 _ (by decide)).trans ((f7 _ (by decide)).trans ((f6 _ (by decide)).trans (s4))))), (f10 _ (by decide)).trans ((f9 _ (by decide)).trans ((f8 _ (by decide)).trans ((f7 _ (by decide)).trans ((f6 _ (by decide)).trans (s5))))), (f10 _ (by decide)).trans ((f9 _ (by decide)).trans ((f8 _ (by decide)).trans ((f7 _ (by decide)).trans ((f6 _ (by decide)).trans (s6)))))⟩, fun k hk => (f10 k (ne_lt hk (by decide))).trans ((f9 k (ne_lt hk (by decide))).trans ((f8 k (ne_lt hk (by decide))).trans ((f7 k (ne_lt hk (by decide))).trans ((f6 k (ne_lt hk (by decide))).trans ((f5 k (Or.inl (Nat.lt_of_lt_of_le hk (by decide)))).trans ((f4 k (ne_lt hk (by decide))).trans ((f3 k (ne_lt hk (by decide))).trans ((f2 k (Or.inl (Nat.lt_of_lt_of_le hk (by decide)))).trans ((f1 k (ne_lt hk (by decide))).trans (rfl))))))))))⟩
/-- the state of a new object -/
def q0 : Q := ⟨⟨0, fun _ => 0⟩, -1, ⟨0, 0, 0, fun _ => 0, fun _ => 0⟩, (fun _ => 0, fun _ => 0, fun _ => 0, fun _ => 0, 0, 0, 0), [], ⟨0, fun _ => 0, fun _ => 0⟩, ⟨0, fun _ => 0, fun _ => 0⟩, 0, none, none⟩
set_option maxHeartbeats 4000000 in
theorem n_Sp {h : am_H} (hn : h.2.1 = 1) (hc : h.1 1 = .inr (9, [.null, .null, .null, .null, .null, .null, .null, .null, .null, .null, .null, .int 0])) : am_T M_Sp_init [.ref 1] h (fun r h' => r = none ∧ h'.2.1 = 129 ∧ h'.2.2 ≤ h.2.2 + 2000 ∧ cRep q0 h' ∧ h'.1 0 = h.1 0) := by
  (try unfold am_E); unfold am_T
  refine rs [] rfl rfl rfl rfl ?_
  refine rs [] rfl rfl rfl rfl ?_
  refine rs [] rfl rfl rfl rfl ?_
  refine rnew (n1 := 2) rfl hn rfl df7 (fun h1 n1 w1 c1 f1 => ?_)
  have w1 : h1.2.2 = _ + 2 := w1
  refine rs [] rfl rfl rfl rfl ?_
  refine rcs rfl rfl rfl rfl rfl (am_R.imp (n_Text n1 c1 (by decide)) ?_)
  rintro r h2 ⟨rfl, n2, w2, t1, t2, f2⟩
  show am_R M_Sp_init (6, [.ref 1, .null], [.ref 2, .ref 1]) _ _
  refine rpt (fs' := [.ref 2, .null, .null, .null, .null, .null, .null, .null, .null, .null, .null, .int 0]) rfl ((f2 _ (by decide)).trans ((f1 _ (by decide)).trans (hc))) rfl rfl rfl (fun h3 n3 w3 c3 f3 => ?_)
  have m3 := n3.trans n2
  refine rs [] rfl rfl rfl rfl ?_
  refine rnew (n1 := 4) rfl m3 rfl df5 (fun h4 n4 w4 c4 f4 => ?_)
  have w4 : h4.2.2 = _ + 6 := w4
  refine rs [] rfl rfl rfl rfl ?_
  refine rcs rfl rfl rfl rfl rfl (am_R.imp (n_Reader n4 c4) ?_)
  rintro r h5 ⟨rfl, n5, w5, r1, r2, f5⟩
  show am_R M_Sp_init (11, [.ref 1, .null], [.ref 4, .ref 1]) _ _
  refine rpt (fs' := [.ref 2, .ref 4, .null, .null, .null, .null, .null, .null, .null, .null, .null, .int 0]) rfl ((f5 _ (by decide)).trans ((f4 _ (by decide)).trans (c3))) rfl rfl rfl (fun h6 n6 w6 c6 f6 => ?_)
  have m6 := n6.trans n5
  refine rs [] rfl rfl rfl rfl ?_
  refine rnew (n1 := 11) rfl m6 rfl df4 (fun h7 n7 w7 c7 f7 => ?_)
  have w7 : h7.2.2 = _ + 5 := w7
  refine rs [] rfl rfl rfl rfl ?_
  refine rcs rfl rfl rfl rfl rfl (am_R.imp (n_Line n7 c7 (by decide)) ?_)
  rintro r h8 ⟨rfl, n8, w8, l1, l2, l3, f8⟩
  show am_R M_Sp_init (16, [.ref 1, .null], [.ref 11, .ref 1]) _ _
  refine rpt (fs' := [.ref 2, .ref 4, .ref 11, .null, .null, .null, .null, .null, .null, .null, .null, .int 0]) rfl ((f8 _ (by decide)).trans ((f7 _ (by decide)).trans (c6))) rfl rfl rfl (fun h9 n9 w9 c9 f9 => ?_)
  have m9 := n9.trans n8
  refine rs [] rfl rfl rfl rfl ?_
  refine rnew (n1 := 14) rfl m9 rfl df6 (fun h10 n10 w10 c10 f10 => ?_)
  have w10 : h10.2.2 = _ + 7 := w10
  refine rs [] rfl rfl rfl rfl ?_
  refine rcs rfl rfl rfl rfl rfl (am_R.imp (n_Scene n10 c10 (by decide)) ?_)
  rintro r h11 ⟨rfl, n11, w11, s1, s2, s3, f11⟩
  show am_R M_Sp_init (21, [.ref 1, .null], [.ref 14, .ref 1]) _ _
  refine rpt (fs' := [.ref 2, .ref 4, .ref 11, .ref 14, .null, .null, .null, .null, .null, .null, .null, .int 0]) rfl ((f11 _ (by decide)).trans ((f10 _ (by decide)).trans (c9))) rfl rfl rfl (fun h12 n12 w12 c12 f12 => ?_)
  have m12 := n12.trans n11
  refine rs [] rfl rfl rfl rfl ?_
  refine rnew (n1 := 17) rfl m12 rfl df6 (fun h13 n13 w13 c13 f13 => ?_)
  have w13 : h13.2.2 = _ + 7 := w13
  refine rs [] rfl rfl rfl rfl ?_
  refine rcs rfl rfl rfl rfl rfl (am_R.imp (n_Scene n13 c13 (by decide)) ?_)
  rintro r h14 ⟨rfl, n14, w14, u1, u2, u3, f14⟩
  show am_R M_Sp_init (26, [.ref 1, .null], [.ref 17, .ref 1]) _ _
  refine rpt (fs' := [.ref 2, .ref 4, .ref 11, .ref 14, .ref 17, .null, .null, .null, .null, .null, .null, .int 0]) rfl ((f14 _ (by decide)).trans ((f13 _ (by decide)).trans (c12))) rfl rfl rfl (fun h15 n15 w15 c15 f15 => ?_)
  have m15 := n15.trans n14
  refine rs [] rfl rfl rfl rfl ?_
  refine rk rfl rfl ?_
  refine rnar (m := 8) (n1 := 20) rfl rfl (by decide) (by decide) m15 rfl (fun h16 n16 w16 a1 f16 => ?_)
  refine rpt (fs' := [.ref 2, .ref 4, .ref 11, .ref 14, .ref 17, .ref 20, .null, .null, .null, .null, .null, .int 0]) rfl ((f16 _ (by decide)).trans (c15)) rfl rfl rfl (fun h17 n17 w17 c17 f17 => ?_)
  have m17 := n17.trans n16
  refine rs [] rfl rfl rfl rfl ?_
  refine rnew (n1 := 21) rfl m17 rfl df1 (fun h18 n18 w18 c18 f18 => ?_)
  have w18 : h18.2.2 = _ + 3 := w18
  refine rs [] rfl rfl rfl rfl ?_
  refine rcs rfl rfl rfl rfl rfl (am_R.imp (n_Deeds n18 c18) ?_)
  rintro r h19 ⟨rfl, n19, w19, d1, ⟨df, d2, d3⟩, d4, f19⟩
  show am_R M_Sp_init (35, [.ref 1, .null], [.ref 21, .ref 1]) _ _
  refine rpt (fs' := [.ref 2, .ref 4, .ref 11, .ref 14, .ref 17, .ref 20, .ref 21, .null, .null, .null, .null, .int 0]) rfl ((f19 _ (by decide)).trans ((f18 _ (by decide)).trans (c17))) rfl rfl rfl (fun h20 n20 w20 c20 f20 => ?_)
  have m20 := n20.trans n19
  refine rs [] rfl rfl rfl rfl ?_
  refine rnew (n1 := 113) rfl m20 rfl df8 (fun h21 n21 w21 c21 f21 => ?_)
  have w21 : h21.2.2 = _ + 5 := w21
  refine rs [] rfl rfl rfl rfl ?_
  refine rcs rfl rfl rfl rfl rfl (am_R.imp (n_Witness n21 c21 (by decide)) ?_)
  rintro r h22 ⟨rfl, n22, w22, w1_, w2_, w3_, w4_, f22⟩
  show am_R M_Sp_init (40, [.ref 1, .null], [.ref 113, .ref 1]) _ _
  refine rpt (fs' := [.ref 2, .ref 4, .ref 11, .ref 14, .ref 17, .ref 20, .ref 21, .ref 113, .null, .null, .null, .int 0]) rfl ((f22 _ (by decide)).trans ((f21 _ (by decide)).trans (c20))) rfl rfl rfl (fun h23 n23 w23 c23 f23 => ?_)
  have m23 := n23.trans n22
  refine rs [] rfl rfl rfl rfl ?_
  refine rnew (n1 := 117) rfl m23 rfl df0 (fun h24 n24 w24 c24 f24 => ?_)
  have w24 : h24.2.2 = _ + 3 := w24
  refine rs [] rfl rfl rfl rfl ?_
  refine rcs rfl rfl rfl rfl rfl (am_R.imp (n_Book n24 c24 (by decide)) ?_)
  rintro r h25 ⟨rfl, n25, w25, b1, b2, b3, f25⟩
  show am_R M_Sp_init (45, [.ref 1, .null], [.ref 117, .ref 1]) _ _
  refine rpt (fs' := [.ref 2, .ref 4, .ref 11, .ref 14, .ref 17, .ref 20, .ref 21, .ref 113, .ref 117, .null, .null, .int 0]) rfl ((f25 _ (by decide)).trans ((f24 _ (by decide)).trans (c23))) rfl rfl rfl (fun h26 n26 w26 c26 f26 => ?_)
  have m26 := n26.trans n25
  refine rs [] rfl rfl rfl rfl ?_
  refine rnew (n1 := 120) rfl m26 rfl df2 (fun h27 n27 w27 c27 f27 => ?_)
  have w27 : h27.2.2 = _ + 1 := w27
  refine rs [] rfl rfl rfl rfl ?_
  refine rcs rfl rfl rfl rfl rfl (am_R.imp (n_Draws n27 c27 (by decide)) ?_)
  rintro r h28 ⟨rfl, n28, w28, x1, f28⟩
  show am_R M_Sp_init (50, [.ref 1, .null], [.ref 120, .ref 1]) _ _
  refine rpt (fs' := [.ref 2, .ref 4, .ref 11, .ref 14, .ref 17, .ref 20, .ref 21, .ref 113, .ref 117, .ref 120, .null, .int 0]) rfl ((f28 _ (by decide)).trans ((f27 _ (by decide)).trans (c26))) rfl rfl rfl (fun h29 n29 w29 c29 f29 => ?_)
  have m29 := n29.trans n28
  refine rs [] rfl rfl rfl rfl ?_
  refine rk rfl rfl ?_
  refine rnaa (m := 2) (n1 := 121) (C := "SpiteLine$Image") rfl rfl (by decide) (by decide) m29 rfl (fun h30 n30 w30 i1_ f30 => ?_)
  refine rpt (fs' := [.ref 2, .ref 4, .ref 11, .ref 14, .ref 17, .ref 20, .ref 21, .ref 113, .ref 117, .ref 120, .ref 121, .int 0]) rfl ((f30 _ (by decide)).trans (c29)) rfl rfl rfl (fun h31 n31 w31 c31 f31 => ?_)
  have m31 := n31.trans n30
  refine rs [] rfl rfl rfl rfl ?_
  refine rk rfl rfl ?_
  refine rpt (fs' := [.ref 2, .ref 4, .ref 11, .ref 14, .ref 17, .ref 20, .ref 21, .ref 113, .ref 117, .ref 120, .ref 121, .int (-1)]) rfl (c31) rfl rfl rfl (fun h32 n32 w32 c32 f32 => ?_)
  have m32 := n32.trans m31
  repeat (first | refine rs [60] rfl rfl rfl rfl ?_ | refine rk rfl rfl ?_ | refine rgoh [60] rfl rfl ?_ | refine rgeta (hi := rfl) (kk := ?_) | refine rialda (hi := rfl) (kk := ?_))
  repeat (first | refine rs [] rfl rfl rfl rfl ?_ | refine rk rfl rfl ?_ | refine rgoh [] rfl rfl ?_ | refine rgeta (hi := rfl) (kk := ?_) | refine rialda (hi := rfl) (kk := ?_))
  (first | refine rift rfl rfl ?_ | refine riff rfl rfl ?_ | refine rict rfl rfl ?_ | refine ricf rfl rfl ?_)
  refine rs [] rfl rfl rfl rfl ?_
  refine rget (fs := [.ref 2, .ref 4, .ref 11, .ref 14, .ref 17, .ref 20, .ref 21, .ref 113, .ref 117, .ref 120, .ref 121, .int (-1)]) rfl (c32) rfl ?_
  refine rs [] rfl rfl rfl rfl ?_
  refine rnew (n1 := 122) rfl m32 rfl df3 (fun h33 n33 w33 c33 f33 => ?_)
  have w33 : h33.2.2 = _ + 3 := w33
  refine rs [] rfl rfl rfl rfl ?_
  refine rcs rfl rfl rfl rfl rfl (am_R.imp (n_Image n33 c33 (by decide)) ?_)
  rintro r h34 ⟨rfl, n34, w34, g00, g01, g02, g03, f34⟩
  show am_R M_Sp_init (69, [.ref 1, .int 0], [.ref 122, .int 0, .ref 121]) _ _
  refine rao (k := 0) (n := 2) rfl ((f34 _ (by decide)).trans ((f33 _ (by decide)).trans ((f32 _ (by decide)).trans ((f31 _ (by decide)).trans (i1_))))) (Or.inr ⟨rfl, rfl⟩) g00 (by decide) (by decide) (by decide) (fun h35 n35 w35 v0 f35 => ?_)
  have m35 := n35.trans n34
  repeat (first | refine rs [60] rfl rfl rfl rfl ?_ | refine rk rfl rfl ?_ | refine rgoh [60] rfl rfl ?_ | refine rgeta (hi := rfl) (kk := ?_) | refine rialda (hi := rfl) (kk := ?_))
  repeat (first | refine rs [] rfl rfl rfl rfl ?_ | refine rk rfl rfl ?_ | refine rgoh [] rfl rfl ?_ | refine rgeta (hi := rfl) (kk := ?_) | refine rialda (hi := rfl) (kk := ?_))
  (first | refine rift rfl rfl ?_ | refine riff rfl rfl ?_ | refine rict rfl rfl ?_ | refine ricf rfl rfl ?_)
  refine rs [] rfl rfl rfl rfl ?_
  refine rget (fs := [.ref 2, .ref 4, .ref 11, .ref 14, .ref 17, .ref 20, .ref 21, .ref 113, .ref 117, .ref 120, .ref 121, .int (-1)]) rfl ((f35 _ (by decide)).trans ((f34 _ (by decide)).trans ((f33 _ (by decide)).trans (c32)))) rfl ?_
  refine rs [] rfl rfl rfl rfl ?_
  refine rnew (n1 := 126) rfl m35 rfl df3 (fun h36 n36 w36 c36 f36 => ?_)
  have w36 : h36.2.2 = _ + 3 := w36
  refine rs [] rfl rfl rfl rfl ?_
  refine rcs rfl rfl rfl rfl rfl (am_R.imp (n_Image n36 c36 (by decide)) ?_)
  rintro r h37 ⟨rfl, n37, w37, g10, g11, g12, g13, f37⟩
  show am_R M_Sp_init (69, [.ref 1, .int (0 + 1)], [.ref 126, .int (0 + 1), .ref 121]) _ _
  refine rao (k := 1) (n := 2) rfl ((f37 _ (by decide)).trans ((f36 _ (by decide)).trans (v0))) (Or.inr ⟨rfl, rfl⟩) g10 (by decide) (by decide) (by decide) (fun h38 n38 w38 v1 f38 => ?_)
  have m38 := n38.trans n37
  repeat (first | refine rs [60] rfl rfl rfl rfl ?_ | refine rk rfl rfl ?_ | refine rgoh [60] rfl rfl ?_ | refine rgeta (hi := rfl) (kk := ?_) | refine rialda (hi := rfl) (kk := ?_))
  repeat (first | refine rs [] rfl rfl rfl rfl ?_ | refine rk rfl rfl ?_ | refine rgoh [] rfl rfl ?_ | refine rgeta (hi := rfl) (kk := ?_) | refine rialda (hi := rfl) (kk := ?_))
  (first | refine rift rfl rfl ?_ | refine riff rfl rfl ?_ | refine rict rfl rfl ?_ | refine ricf rfl rfl ?_)
  refine rret rfl rfl ⟨rfl, ?_⟩
  have eD : ∀ k, 21 ≤ k → k < 113 → h38.1 k = h19.1 k := fun k ha hb => (f38 k (ne_lt hb (by decide))).trans ((f37 k (Or.inl (Nat.lt_of_lt_of_le hb (by decide)))).trans ((f36 k (ne_lt hb (by decide))).trans ((f35 k (ne_lt hb (by decide))).trans ((f34 k (Or.inl (Nat.lt_of_lt_of_le hb (by decide)))).trans ((f33 k (ne_lt hb (by decide))).trans ((f32 k (ne_gt (Nat.lt_of_lt_of_le (by decide) ha))).trans ((f31 k (ne_gt (Nat.lt_of_lt_of_le (by decide) ha))).trans ((f30 k (ne_lt hb (by decide))).trans ((f29 k (ne_gt (Nat.lt_of_lt_of_le (by decide) ha))).trans ((f28 k (Or.inl (Nat.lt_of_lt_of_le hb (by decide)))).trans ((f27 k (ne_lt hb (by decide))).trans ((f26 k (ne_gt (Nat.lt_of_lt_of_le (by decide) ha))).trans ((f25 k (Or.inl (Nat.lt_of_lt_of_le hb (by decide)))).trans ((f24 k (ne_lt hb (by decide))).trans ((f23 k (ne_gt (Nat.lt_of_lt_of_le (by decide) ha))).trans ((f22 k (Or.inl (Nat.lt_of_lt_of_le hb (by decide)))).trans ((f21 k (ne_lt hb (by decide))).trans ((f20 k (ne_gt (Nat.lt_of_lt_of_le (by decide) ha))).trans (rfl)))))))))))))))))))
  have d4 : ∀ i, i < 30 → cRaw (23 + 3 * i) h38 := by
    intro i hi
    obtain ⟨z1, z2, z3, z4, z5, z6, z7, y1, y2, y3⟩ := d4 i hi
    exact ⟨z1, z2, z3, z4, z5, z6, z7, (eD _ (by omega) (by omega)).trans y1, (eD _ (by omega) (by omega)).trans y2, (eD _ (by omega) (by omega)).trans y3⟩
  have eR : ∀ k, 4 ≤ k → k < 11 → h38.1 k = h5.1 k := fun k ha hb => (f38 k (ne_lt hb (by decide))).trans ((f37 k (Or.inl (Nat.lt_of_lt_of_le hb (by decide)))).trans ((f36 k (ne_lt hb (by decide))).trans ((f35 k (ne_lt hb (by decide))).trans ((f34 k (Or.inl (Nat.lt_of_lt_of_le hb (by decide)))).trans ((f33 k (ne_lt hb (by decide))).trans ((f32 k (ne_gt (Nat.lt_of_lt_of_le (by decide) ha))).trans ((f31 k (ne_gt (Nat.lt_of_lt_of_le (by decide) ha))).trans ((f30 k (ne_lt hb (by decide))).trans ((f29 k (ne_gt (Nat.lt_of_lt_of_le (by decide) ha))).trans ((f28 k (Or.inl (Nat.lt_of_lt_of_le hb (by decide)))).trans ((f27 k (ne_lt hb (by decide))).trans ((f26 k (ne_gt (Nat.lt_of_lt_of_le (by decide) ha))).trans ((f25 k (Or.inl (Nat.lt_of_lt_of_le hb (by decide)))).trans ((f24 k (ne_lt hb (by decide))).trans ((f23 k (ne_gt (Nat.lt_of_lt_of_le (by decide) ha))).trans ((f22 k (Or.inl (Nat.lt_of_lt_of_le hb (by decide)))).trans ((f21 k (ne_lt hb (by decide))).trans ((f20 k (ne_gt (Nat.lt_of_lt_of_le (by decide) ha))).trans ((f19 k (Nat.lt_of_lt_of_le hb (by decide))).trans ((f18 k (ne_lt hb (by decide))).trans ((f17 k (ne_gt (Nat.lt_of_lt_of_le (by decide) ha))).trans ((f16 k (ne_lt hb (by decide))).trans ((f15 k (ne_gt (Nat.lt_of_lt_of_le (by decide) ha))).trans ((f14 k (Or.inl (Nat.lt_of_lt_of_le hb (by decide)))).trans ((f13 k (ne_lt hb (by decide))).trans ((f12 k (ne_gt (Nat.lt_of_lt_of_le (by decide) ha))).trans ((f11 k (Or.inl (Nat.lt_of_lt_of_le hb (by decide)))).trans ((f10 k (ne_lt hb (by decide))).trans ((f9 k (ne_gt (Nat.lt_of_lt_of_le (by decide) ha))).trans ((f8 k (Or.inl (Nat.lt_of_lt_of_le hb (by decide)))).trans ((f7 k (ne_lt hb (by decide))).trans ((f6 k (ne_gt (Nat.lt_of_lt_of_le (by decide) ha))).trans (rfl)))))))))))))))))))))))))))))))))
  obtain ⟨p1, p2, p3, p4, p5, p6, p7, p8, p9, p10, p11, p12, r3, r4, r5, r6, r7, r8⟩ := r2
  have pR : pRw h38 := ⟨p1, p2, p3, p4, p5, p6, p7, p8, p9, p10, p11, p12, (eR _ (by decide) (by decide)).trans r3, (eR _ (by decide) (by decide)).trans r4, (eR _ (by decide) (by decide)).trans r5, (eR _ (by decide) (by decide)).trans r6, (eR _ (by decide) (by decide)).trans r7, (eR _ (by decide) (by decide)).trans r8⟩
  have zR : cRep q0 h38 := ⟨(f38 _ (by decide)).trans ((f37 _ (by decide)).trans ((f36 _ (by decide)).trans ((f35 _ (by decide)).trans ((f34 _ (by decide)).trans ((f33 _ (by decide)).trans (c32)))))), ⟨by decide, (f38 _ (by decide)).trans ((f37 _ (by decide)).trans ((f36 _ (by decide)).trans ((f35 _ (by decide)).trans ((f34 _ (by decide)).trans ((f33 _ (by decide)).trans ((f32 _ (by decide)).trans ((f31 _ (by decide)).trans ((f30 _ (by decide)).trans ((f29 _ (by decide)).trans ((f28 _ (by decide)).trans ((f27 _ (by decide)).trans ((f26 _ (by decide)).trans ((f25 _ (by decide)).trans ((f24 _ (by decide)).trans ((f23 _ (by decide)).trans ((f22 _ (by decide)).trans ((f21 _ (by decide)).trans ((f20 _ (by decide)).trans ((f19 _ (by decide)).trans ((f18 _ (by decide)).trans ((f17 _ (by decide)).trans ((f16 _ (by decide)).trans ((f15 _ (by decide)).trans ((f14 _ (by decide)).trans ((f13 _ (by decide)).trans ((f12 _ (by decide)).trans ((f11 _ (by decide)).trans ((f10 _ (by decide)).trans ((f9 _ (by decide)).trans ((f8 _ (by decide)).trans ((f7 _ (by decide)).trans ((f6 _ (by decide)).trans ((f5 _ (by decide)).trans ((f4 _ (by decide)).trans ((f3 _ (by decide)).trans (t1)))))))))))))))))))))))))))))))))))), (f38 _ (by decide)).trans ((f37 _ (by decide)).trans ((f36 _ (by decide)).trans ((f35 _ (by decide)).trans ((f34 _ (by decide)).trans ((f33 _ (by decide)).trans ((f32 _ (by decide)).trans ((f31 _ (by decide)).trans ((f30 _ (by decide)).trans ((f29 _ (by decide)).trans ((f28 _ (by decide)).trans ((f27 _ (by decide)).trans ((f26 _ (by decide)).trans ((f25 _ (by decide)).trans ((f24 _ (by decide)).trans ((f23 _ (by decide)).trans ((f22 _ (by decide)).trans ((f21 _ (by decide)).trans ((f20 _ (by decide)).trans ((f19 _ (by decide)).trans ((f18 _ (by decide)).trans ((f17 _ (by decide)).trans ((f16 _ (by decide)).trans ((f15 _ (by decide)).trans ((f14 _ (by decide)).trans ((f13 _ (by decide)).trans ((f12 _ (by decide)).trans ((f11 _ (by decide)).trans ((f10 _ (by decide)).trans ((f9 _ (by decide)).trans ((f8 _ (by decide)).trans ((f7 _ (by decide)).trans ((f6 _ (by decide)).trans ((f5 _ (by decide)).trans ((f4 _ (by decide)).trans ((f3 _ (by decide)).trans (t2))))))))))))))))))))))))))))))))))))⟩, ⟨⟨0, -1, 0, 0, (f38 _ (by decide)).trans ((f37 _ (by decide)).trans ((f36 _ (by decide)).trans ((f35 _ (by decide)).trans ((f34 _ (by decide)).trans ((f33 _ (by decide)).trans ((f32 _ (by decide)).trans ((f31 _ (by decide)).trans ((f30 _ (by decide)).trans ((f29 _ (by decide)).trans ((f28 _ (by decide)).trans ((f27 _ (by decide)).trans ((f26 _ (by decide)).trans ((f25 _ (by decide)).trans ((f24 _ (by decide)).trans ((f23 _ (by decide)).trans ((f22 _ (by decide)).trans ((f21 _ (by decide)).trans ((f20 _ (by decide)).trans ((f19 _ (by decide)).trans ((f18 _ (by decide)).trans ((f17 _ (by decide)).trans ((f16 _ (by decide)).trans ((f15 _ (by decide)).trans ((f14 _ (by decide)).trans ((f13 _ (by decide)).trans ((f12 _ (by decide)).trans ((f11 _ (by decide)).trans ((f10 _ (by decide)).trans ((f9 _ (by decide)).trans ((f8 _ (by decide)).trans ((f7 _ (by decide)).trans ((f6 _ (by decide)).trans (r1)))))))))))))))))))))))))))))))))⟩, pR⟩, ⟨by decide, by decide, _, _, (f38 _ (by decide)).trans ((f37 _ (by decide)).trans ((f36 _ (by decide)).trans ((f35 _ (by decide)).trans ((f34 _ (by decide)).trans ((f33 _ (by decide)).trans ((f32 _ (by decide)).trans ((f31 _ (by decide)).trans ((f30 _ (by decide)).trans ((f29 _ (by decide)).trans ((f28 _ (by decide)).trans ((f27 _ (by decide)).trans ((f26 _ (by decide)).trans ((f25 _ (by decide)).trans ((f24 _ (by decide)).trans ((f23 _ (by decide)).trans ((f22 _ (by decide)).trans ((f21 _ (by decide)).trans ((f20 _ (by decide)).trans ((f19 _ (by decide)).trans ((f18 _ (by decide)).trans ((f17 _ (by decide)).trans ((f16 _ (by decide)).trans ((f15 _ (by decide)).trans ((f14 _ (by decide)).trans ((f13 _ (by decide)).trans ((f12 _ (by decide)).trans ((f11 _ (by decide)).trans ((f10 _ (by decide)).trans ((f9 _ (by decide)).trans (l1)))))))))))))))))))))))))))))), (f38 _ (by decide)).trans ((f37 _ (by decide)).trans ((f36 _ (by decide)).trans ((f35 _ (by decide)).trans ((f34 _ (by decide)).trans ((f33 _ (by decide)).trans ((f32 _ (by decide)).trans ((f31 _ (by decide)).trans ((f30 _ (by decide)).trans ((f29 _ (by decide)).trans ((f28 _ (by decide)).trans ((f27 _ (by decide)).trans ((f26 _ (by decide)).trans ((f25 _ (by decide)).trans ((f24 _ (by decide)).trans ((f23 _ (by decide)).trans ((f22 _ (by decide)).trans ((f21 _ (by decide)).trans ((f20 _ (by decide)).trans ((f19 _ (by decide)).trans ((f18 _ (by decide)).trans ((f17 _ (by decide)).trans ((f16 _ (by decide)).trans ((f15 _ (by decide)).trans ((f14 _ (by decide)).trans ((f13 _ (by decide)).trans ((f12 _ (by decide)).trans ((f11 _ (by decide)).trans ((f10 _ (by decide)).trans ((f9 _ (by decide)).trans (l2)))))))))))))))))))))))))))))), (f38 _ (by decide)).trans ((f37 _ (by decide)).trans ((f36 _ (by decide)).trans ((f35 _ (by decide)).trans ((f34 _ (by decide)).trans ((f33 _ (by decide)).trans ((f32 _ (by decide)).trans ((f31 _ (by decide)).trans ((f30 _ (by decide)).trans ((f29 _ (by decide)).trans ((f28 _ (by decide)).trans ((f27 _ (by decide)).trans ((f26 _ (by decide)).trans ((f25 _ (by decide)).trans ((f24 _ (by decide)).trans ((f23 _ (by decide)).trans ((f22 _ (by decide)).trans ((f21 _ (by decide)).trans ((f20 _ (by decide)).trans ((f19 _ (by decide)).trans ((f18 _ (by decide)).trans ((f17 _ (by decide)).trans ((f16 _ (by decide)).trans ((f15 _ (by decide)).trans ((f14 _ (by decide)).trans ((f13 _ (by decide)).trans ((f12 _ (by decide)).trans ((f11 _ (by decide)).trans ((f10 _ (by decide)).trans ((f9 _ (by decide)).trans (l3)))))))))))))))))))))))))))))), fun p hp => absurd hp (Nat.not_lt_zero p), fun p hp => absurd hp (Nat.not_lt_zero p)⟩, ⟨_, _, _, _, (f38 _ (by decide)).trans ((f37 _ (by decide)).trans ((f36 _ (by decide)).trans ((f35 _ (by decide)).trans ((f34 _ (by decide)).trans ((f33 _ (by decide)).trans ((f32 _ (by decide)).trans ((f31 _ (by decide)).trans ((f30 _ (by decide)).trans ((f29 _ (by decide)).trans ((f28 _ (by decide)).trans ((f27 _ (by decide)).trans ((f26 _ (by decide)).trans ((f25 _ (by decide)).trans ((f24 _ (by decide)).trans ((f23 _ (by decide)).trans ((f22 _ (by decide)).trans ((f21 _ (by decide)).trans ((f20 _ (by decide)).trans ((f19 _ (by decide)).trans ((f18 _ (by decide)).trans ((f17 _ (by decide)).trans ((f16 _ (by decide)).trans ((f15 _ (by decide)).trans ((f14 _ (by decide)).trans ((f13 _ (by decide)).trans ((f12 _ (by decide)).trans (s1))))))))))))))))))))))))))), (f38 _ (by decide)).trans ((f37 _ (by decide)).trans ((f36 _ (by decide)).trans ((f35 _ (by decide)).trans ((f34 _ (by decide)).trans ((f33 _ (by decide)).trans ((f32 _ (by decide)).trans ((f31 _ (by decide)).trans ((f30 _ (by decide)).trans ((f29 _ (by decide)).trans ((f28 _ (by decide)).trans ((f27 _ (by decide)).trans ((f26 _ (by decide)).trans ((f25 _ (by decide)).trans ((f24 _ (by decide)).trans ((f23 _ (by decide)).trans ((f22 _ (by decide)).trans ((f21 _ (by decide)).trans ((f20 _ (by decide)).trans ((f19 _ (by decide)).trans ((f18 _ (by decide)).trans ((f17 _ (by decide)).trans ((f16 _ (by decide)).trans ((f15 _ (by decide)).trans ((f14 _ (by decide)).trans ((f13 _ (by decide)).trans ((f12 _ (by decide)).trans (s2))))))))))))))))))))))))))), (f38 _ (by decide)).trans ((f37 _ (by decide)).trans ((f36 _ (by decide)).trans ((f35 _ (by decide)).trans ((f34 _ (by decide)).trans ((f33 _ (by decide)).trans ((f32 _ (by decide)).trans ((f31 _ (by decide)).trans ((f30 _ (by decide)).trans ((f29 _ (by decide)).trans ((f28 _ (by decide)).trans ((f27 _ (by decide)).trans ((f26 _ (by decide)).trans ((f25 _ (by decide)).trans ((f24 _ (by decide)).trans ((f23 _ (by decide)).trans ((f22 _ (by decide)).trans ((f21 _ (by decide)).trans ((f20 _ (by decide)).trans ((f19 _ (by decide)).trans ((f18 _ (by decide)).trans ((f17 _ (by decide)).trans ((f16 _ (by decide)).trans ((f15 _ (by decide)).trans ((f14 _ (by decide)).trans ((f13 _ (by decide)).trans ((f12 _ (by decide)).trans (s3))))))))))))))))))))))))))), fun p hp => absurd hp (Nat.not_lt_zero p)⟩, ⟨_, _, _, _, _, _, _, (f38 _ (by decide)).trans ((f37 _ (by decide)).trans ((f36 _ (by decide)).trans ((f35 _ (by decide)).trans ((f34 _ (by decide)).trans ((f33 _ (by decide)).trans ((f32 _ (by decide)).trans ((f31 _ (by decide)).trans ((f30 _ (by decide)).trans ((f29 _ (by decide)).trans ((f28 _ (by decide)).trans ((f27 _ (by decide)).trans ((f26 _ (by decide)).trans ((f25 _ (by decide)).trans ((f24 _ (by decide)).trans ((f23 _ (by decide)).trans ((f22 _ (by decide)).trans ((f21 _ (by decide)).trans ((f20 _ (by decide)).trans ((f19 _ (by decide)).trans ((f18 _ (by decide)).trans ((f17 _ (by decide)).trans ((f16 _ (by decide)).trans ((f15 _ (by decide)).trans (u1)))))))))))))))))))))))), (f38 _ (by decide)).trans ((f37 _ (by decide)).trans ((f36 _ (by decide)).trans ((f35 _ (by decide)).trans ((f34 _ (by decide)).trans ((f33 _ (by decide)).trans ((f32 _ (by decide)).trans ((f31 _ (by decide)).trans ((f30 _ (by decide)).trans ((f29 _ (by decide)).trans ((f28 _ (by decide)).trans ((f27 _ (by decide)).trans ((f26 _ (by decide)).trans ((f25 _ (by decide)).trans ((f24 _ (by decide)).trans ((f23 _ (by decide)).trans ((f22 _ (by decide)).trans ((f21 _ (by decide)).trans ((f20 _ (by decide)).trans ((f19 _ (by decide)).trans ((f18 _ (by decide)).trans ((f17 _ (by decide)).trans ((f16 _ (by decide)).trans ((f15 _ (by decide)).trans (u2)))))))))))))))))))))))), (f38 _ (by decide)).trans ((f37 _ (by decide)).trans ((f36 _ (by decide)).trans ((f35 _ (by decide)).trans ((f34 _ (by decide)).trans ((f33 _ (by decide)).trans ((f32 _ (by decide)).trans ((f31 _ (by decide)).trans ((f30 _ (by decide)).trans ((f29 _ (by decide)).trans ((f28 _ (by decide)).trans ((f27 _ (by decide)).trans ((f26 _ (by decide)).trans ((f25 _ (by decide)).trans ((f24 _ (by decide)).trans ((f23 _ (by decide)).trans ((f22 _ (by decide)).trans ((f21 _ (by decide)).trans ((f20 _ (by decide)).trans ((f19 _ (by decide)).trans ((f18 _ (by decide)).trans ((f17 _ (by decide)).trans ((f16 _ (by decide)).trans ((f15 _ (by decide)).trans (u3))))))))))))))))))))))))⟩, ⟨_, (f38 _ (by decide)).trans ((f37 _ (by decide)).trans ((f36 _ (by decide)).trans ((f35 _ (by decide)).trans ((f34 _ (by decide)).trans ((f33 _ (by decide)).trans ((f32 _ (by decide)).trans ((f31 _ (by decide)).trans ((f30 _ (by decide)).trans ((f29 _ (by decide)).trans ((f28 _ (by decide)).trans ((f27 _ (by decide)).trans ((f26 _ (by decide)).trans ((f25 _ (by decide)).trans ((f24 _ (by decide)).trans ((f23 _ (by decide)).trans ((f22 _ (by decide)).trans ((f21 _ (by decide)).trans ((f20 _ (by decide)).trans ((f19 _ (by decide)).trans ((f18 _ (by decide)).trans ((f17 _ (by decide)).trans (a1))))))))))))))))))))))⟩, ⟨0, df, by decide, by decide, (f38 _ (by decide)).trans ((f37 _ (by decide)).trans ((f36 _ (by decide)).trans ((f35 _ (by decide)).trans ((f34 _ (by decide)).trans ((f33 _ (by decide)).trans ((f32 _ (by decide)).trans ((f31 _ (by decide)).trans ((f30 _ (by decide)).trans ((f29 _ (by decide)).trans ((f28 _ (by decide)).trans ((f27 _ (by decide)).trans ((f26 _ (by decide)).trans ((f25 _ (by decide)).trans ((f24 _ (by decide)).trans ((f23 _ (by decide)).trans ((f22 _ (by decide)).trans ((f21 _ (by decide)).trans ((f20 _ (by decide)).trans (d1))))))))))))))))))), (f38 _ (by decide)).trans ((f37 _ (by decide)).trans ((f36 _ (by decide)).trans ((f35 _ (by decide)).trans ((f34 _ (by decide)).trans ((f33 _ (by decide)).trans ((f32 _ (by decide)).trans ((f31 _ (by decide)).trans ((f30 _ (by decide)).trans ((f29 _ (by decide)).trans ((f28 _ (by decide)).trans ((f27 _ (by decide)).trans ((f26 _ (by decide)).trans ((f25 _ (by decide)).trans ((f24 _ (by decide)).trans ((f23 _ (by decide)).trans ((f22 _ (by decide)).trans ((f21 _ (by decide)).trans ((f20 _ (by decide)).trans (d2))))))))))))))))))), d3, d4, fun j S hj => absurd hj (by simp)⟩, ⟨by decide, _, _, (f38 _ (by decide)).trans ((f37 _ (by decide)).trans ((f36 _ (by decide)).trans ((f35 _ (by decide)).trans ((f34 _ (by decide)).trans ((f33 _ (by decide)).trans ((f32 _ (by decide)).trans ((f31 _ (by decide)).trans ((f30 _ (by decide)).trans ((f29 _ (by decide)).trans ((f28 _ (by decide)).trans ((f27 _ (by decide)).trans ((f26 _ (by decide)).trans ((f25 _ (by decide)).trans ((f24 _ (by decide)).trans ((f23 _ (by decide)).trans (w1_)))))))))))))))), (f38 _ (by decide)).trans ((f37 _ (by decide)).trans ((f36 _ (by decide)).trans ((f35 _ (by decide)).trans ((f34 _ (by decide)).trans ((f33 _ (by decide)).trans ((f32 _ (by decide)).trans ((f31 _ (by decide)).trans ((f30 _ (by decide)).trans ((f29 _ (by decide)).trans ((f28 _ (by decide)).trans ((f27 _ (by decide)).trans ((f26 _ (by decide)).trans ((f25 _ (by decide)).trans ((f24 _ (by decide)).trans ((f23 _ (by decide)).trans (w2_)))))))))))))))), (f38 _ (by decide)).trans ((f37 _ (by decide)).trans ((f36 _ (by decide)).trans ((f35 _ (by decide)).trans ((f34 _ (by decide)).trans ((f33 _ (by decide)).trans ((f32 _ (by decide)).trans ((f31 _ (by decide)).trans ((f30 _ (by decide)).trans ((f29 _ (by decide)).trans ((f28 _ (by decide)).trans ((f27 _ (by decide)).trans ((f26 _ (by decide)).trans ((f25 _ (by decide)).trans ((f24 _ (by decide)).trans ((f23 _ (by decide)).trans (w3_)))))))))))))))), (f38 _ (by decide)).trans ((f37 _ (by decide)).trans ((f36 _ (by decide)).trans ((f35 _ (by decide)).trans ((f34 _ (by decide)).trans ((f33 _ (by decide)).trans ((f32 _ (by decide)).trans ((f31 _ (by decide)).trans ((f30 _ (by decide)).trans ((f29 _ (by decide)).trans ((f28 _ (by decide)).trans ((f27 _ (by decide)).trans ((f26 _ (by decide)).trans ((f25 _ (by decide)).trans ((f24 _ (by decide)).trans ((f23 _ (by decide)).trans (w4_))))))))))))))))⟩, ⟨by decide, (f38 _ (by decide)).trans ((f37 _ (by decide)).trans ((f36 _ (by decide)).trans ((f35 _ (by decide)).trans ((f34 _ (by decide)).trans ((f33 _ (by decide)).trans ((f32 _ (by decide)).trans ((f31 _ (by decide)).trans ((f30 _ (by decide)).trans ((f29 _ (by decide)).trans ((f28 _ (by decide)).trans ((f27 _ (by decide)).trans ((f26 _ (by decide)).trans (b1))))))))))))), (f38 _ (by decide)).trans ((f37 _ (by decide)).trans ((f36 _ (by decide)).trans ((f35 _ (by decide)).trans ((f34 _ (by decide)).trans ((f33 _ (by decide)).trans ((f32 _ (by decide)).trans ((f31 _ (by decide)).trans ((f30 _ (by decide)).trans ((f29 _ (by decide)).trans ((f28 _ (by decide)).trans ((f27 _ (by decide)).trans ((f26 _ (by decide)).trans (b2))))))))))))), (f38 _ (by decide)).trans ((f37 _ (by decide)).trans ((f36 _ (by decide)).trans ((f35 _ (by decide)).trans ((f34 _ (by decide)).trans ((f33 _ (by decide)).trans ((f32 _ (by decide)).trans ((f31 _ (by decide)).trans ((f30 _ (by decide)).trans ((f29 _ (by decide)).trans ((f28 _ (by decide)).trans ((f27 _ (by decide)).trans ((f26 _ (by decide)).trans (b3)))))))))))))⟩, (f38 _ (by decide)).trans ((f37 _ (by decide)).trans ((f36 _ (by decide)).trans ((f35 _ (by decide)).trans ((f34 _ (by decide)).trans ((f33 _ (by decide)).trans ((f32 _ (by decide)).trans ((f31 _ (by decide)).trans ((f30 _ (by decide)).trans ((f29 _ (by decide)).trans (x1)))))))))), ⟨_, v1, rfl, rfl, ⟨_, _, (f38 _ (by decide)).trans ((f37 _ (by decide)).trans ((f36 _ (by decide)).trans ((f35 _ (by decide)).trans (g00)))), ⟨_, _, _, _, _, _, _, (f38 _ (by decide)).trans ((f37 _ (by decide)).trans ((f36 _ (by decide)).trans ((f35 _ (by decide)).trans (g01)))), (f38 _ (by decide)).trans ((f37 _ (by decide)).trans ((f36 _ (by decide)).trans ((f35 _ (by decide)).trans (g02)))), (f38 _ (by decide)).trans ((f37 _ (by decide)).trans ((f36 _ (by decide)).trans ((f35 _ (by decide)).trans (g03))))⟩, rfl⟩, ⟨_, _, (f38 _ (by decide)).trans (g10), ⟨_, _, _, _, _, _, _, (f38 _ (by decide)).trans (g11), (f38 _ (by decide)).trans (g12), (f38 _ (by decide)).trans (g13)⟩, rfl⟩⟩⟩
  exact ⟨m38, by omega, zR, (f38 0 (by decide)).trans ((f37 0 (by decide)).trans ((f36 0 (by decide)).trans ((f35 0 (by decide)).trans ((f34 0 (by decide)).trans ((f33 0 (by decide)).trans ((f32 0 (by decide)).trans ((f31 0 (by decide)).trans ((f30 0 (by decide)).trans ((f29 0 (by decide)).trans ((f28 0 (by decide)).trans ((f27 0 (by decide)).trans ((f26 0 (by decide)).trans ((f25 0 (by decide)).trans ((f24 0 (by decide)).trans ((f23 0 (by decide)).trans ((f22 0 (by decide)).trans ((f21 0 (by decide)).trans ((f20 0 (by decide)).trans ((f19 0 (by decide)).trans ((f18 0 (by decide)).trans ((f17 0 (by decide)).trans ((f16 0 (by decide)).trans ((f15 0 (by decide)).trans ((f14 0 (by decide)).trans ((f13 0 (by decide)).trans ((f12 0 (by decide)).trans ((f11 0 (by decide)).trans ((f10 0 (by decide)).trans ((f9 0 (by decide)).trans ((f8 0 (by decide)).trans ((f7 0 (by decide)).trans ((f6 0 (by decide)).trans ((f5 0 (by decide)).trans ((f4 0 (by decide)).trans ((f3 0 (by decide)).trans ((f2 0 (by decide)).trans ((f1 0 (by decide)).trans (rfl))))))))))))))))))))))))))))))))))))))⟩
