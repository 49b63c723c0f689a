/-! the model's calls -/
section MCalls
variable {h h' : am_H} {len N P rc bc : Nat} {fa G sd : Int32} {tx wa me rx rh bw bs : Nat → Int32} {S S' : Sc} {dd dd' : List Sc} {i0 i1 : Im}
theorem w_feed {c : Int32} (R : mRep ⟨⟨len, tx⟩, fa, ⟨N, P, G, wa, me⟩, S, dd, ⟨rc, rx, rh⟩, ⟨bc, bw, bs⟩, sd, i0, i1⟩ h) : am_W M_Mo_feed [.ref 130, .int c] (o_feed c ⟨⟨len, tx⟩, fa, ⟨N, P, G, wa, me⟩, S, dd, ⟨rc, rx, rh⟩, ⟨bc, bw, bs⟩, sd, i0, i1⟩) h := by
  obtain ⟨ra, rf, rn, rm, sm, x1, ⟨x2, x3⟩, ⟨⟨g1, x4⟩, g2, x5⟩, ⟨x6, x7, waC, meC, x8, x9, x10⟩, ⟨wh, mi, fe, fl, x11, x12, x13, x14, x15⟩, ⟨x16, g3, x17, x18⟩, ⟨g4, x19⟩, ⟨x20, x21, x22⟩, ⟨g5, x23⟩, ⟨x24, g6, x25, x26⟩, g7, g8, g9, x27, x28, x29, x30⟩ := id R
  unfold am_W o_feed
  (try unfold am_E); unfold am_T
  dsimp only
  repeat (first | refine rs [] rfl rfl rfl rfl ?_ | refine rk rfl rfl ?_ | refine rgoh [] rfl rfl ?_ | refine rgeta (hi := rfl) (kk := ?_) | refine rialda (hi := rfl) (kk := ?_))
  refine rcss rfl rfl rfl rfl rfl (w_in) ?_
  by_cases d : c < 0 ∨ 255 < c
  · rw [if_pos d, if_pos d]
    (first | refine rift rfl rfl ?_ | refine riff rfl rfl ?_ | refine rict rfl rfl ?_ | refine ricf rfl rfl ?_)
    repeat (first | refine rs [] rfl rfl rfl rfl ?_ | refine rk rfl rfl ?_ | refine rgoh [] rfl rfl ?_ | refine rgeta (hi := rfl) (kk := ?_) | refine rialda (hi := rfl) (kk := ?_))
    refine rret rfl rfl ?_
    exact ⟨rfl, R, fr_rf⟩
  · rw [if_neg d, if_neg d]
    (first | refine rift rfl rfl ?_ | refine riff rfl rfl ?_ | refine rict rfl rfl ?_ | refine ricf rfl rfl ?_)
    repeat (first | refine rs [] rfl rfl rfl rfl ?_ | refine rk rfl rfl ?_ | refine rgoh [] rfl rfl ?_ | refine rgeta (hi := rfl) (kk := ?_) | refine rialda (hi := rfl) (kk := ?_))
    by_cases e : len = 200
    · rw [if_pos e]
      (first | refine rif rfl rfl (fun c1 => ?_) (fun c1 => ?_) | refine ric rfl rfl (fun c1 => ?_) (fun c1 => ?_))
      · repeat (first | refine rs [] rfl rfl rfl rfl ?_ | refine rk rfl rfl ?_ | refine rgoh [] rfl rfl ?_ | refine rgeta (hi := rfl) (kk := ?_) | refine rialda (hi := rfl) (kk := ?_))
        refine rret rfl rfl ?_
        exact ⟨rfl, R, fr_rf⟩
      · exact absurd (by rw [e]; decide) c1
    · rw [if_neg e]
      (first | refine rif rfl rfl (fun c1 => ?_) (fun c1 => ?_) | refine ric rfl rfl (fun c1 => ?_) (fun c1 => ?_))
      · exfalso
        have t := congrArg Int32.toNatClampNeg c1
        rw [i200, nI_clamp (by omega), nI_clamp (by omega)] at t
        exact e t
      · repeat (first | refine rs [] rfl rfl rfl rfl ?_ | refine rk rfl rfl ?_ | refine rgoh [] rfl rfl ?_ | refine rgeta (hi := rfl) (kk := ?_) | refine rialda (hi := rfl) (kk := ?_))
        refine riasta (hi := rfl) (kk := ?_)
        repeat (first | refine rs [] rfl rfl rfl rfl ?_ | refine rk rfl rfl ?_ | refine rgoh [] rfl rfl ?_ | refine rgeta (hi := rfl) (kk := ?_) | refine rialda (hi := rfl) (kk := ?_))
        refine rputa (hi := rfl) (kk := ?_)
        repeat (first | refine rs [] rfl rfl rfl rfl ?_ | refine rk rfl rfl ?_ | refine rgoh [] rfl rfl ?_ | refine rgeta (hi := rfl) (kk := ?_) | refine rialda (hi := rfl) (kk := ?_))
        refine rret rfl rfl ?_
        obtain ⟨H, eH⟩ : ∃ H, H = am_set (am_set h 131 (.inl (.int, 200, .inl (upd tx len c)))) 130 (mO (nI len + 1) fa ra rf rn rm (nI N) G S.2.2.2.2.1 (nI P) S.2.2.2.2.2.1 S.2.2.2.2.2.2 (nI dd.length) sd.toInt64 (nI rc) sm (nI bc)) := ⟨_, rfl⟩
        have ee : ∀ k, 132 ≤ k → k < 149 → H.1 k = h.1 k := fun k h1 h2 => by rw [eH, am_set_ne (by omega), am_set_ne (by omega)]
        have v0 : H.1 130 = mO (nI len + 1) fa ra rf rn rm (nI N) G S.2.2.2.2.1 (nI P) S.2.2.2.2.2.1 S.2.2.2.2.2.2 (nI dd.length) sd.toInt64 (nI rc) sm (nI bc) := by rw [eH]; exact am_set_eq
        have v1 : H.1 131 = .inl (.int, 200, .inl (upd tx len c)) := by rw [eH, am_set_ne (by omega)]; exact am_set_eq
        have fH : am_fr 130 149 h H := by rw [eH]; exact fr_set (fr_set fr_rf (by omega) (by omega)) (by omega) (by omega)
        have fin : mRep ⟨⟨len + 1, upd tx len c⟩, fa, ⟨N, P, G, wa, me⟩, S, dd, ⟨rc, rx, rh⟩, ⟨bc, bw, bs⟩, sd, i0, i1⟩ H := by
          rw [← nI_succ] at v0
          exact ⟨ra, rf, rn, rm, sm, v0, ⟨by omega, v1⟩, ⟨⟨g1, by rw [ee _ (by omega) (by omega)]; exact x4⟩, g2, by rw [ee _ (by omega) (by omega)]; exact x5⟩, ⟨x6, x7, waC, meC, by rw [ee _ (by omega) (by omega)]; exact x8, by rw [ee _ (by omega) (by omega)]; exact x9, x10⟩, ⟨wh, mi, fe, fl, by rw [ee _ (by omega) (by omega)]; exact x11, by rw [ee _ (by omega) (by omega)]; exact x12, by rw [ee _ (by omega) (by omega)]; exact x13, by rw [ee _ (by omega) (by omega)]; exact x14, x15⟩, ⟨x16, g3, by rw [ee _ (by omega) (by omega)]; exact x17, x18⟩, ⟨g4, by rw [ee _ (by omega) (by omega)]; exact x19⟩, ⟨x20, by rw [ee _ (by omega) (by omega)]; exact x21, by rw [ee _ (by omega) (by omega)]; exact x22⟩, ⟨g5, by rw [ee _ (by omega) (by omega)]; exact x23⟩, ⟨x24, g6, by rw [ee _ (by omega) (by omega)]; exact x25, x26⟩, g7, g8, g9, by rw [ee _ (by omega) (by omega)]; exact x27, by rw [ee _ (by omega) (by omega)]; exact x28, by rw [ee _ (by omega) (by omega)]; exact x29, x30⟩
        subst eH
        exact ⟨by rw [nI_succ], fin, fH⟩
end MCalls
