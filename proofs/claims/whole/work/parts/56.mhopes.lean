/-! the model's calls: hoped, sure, look -/
noncomputable def moF (ok : Int32 → Prop) (c n : Nat) (l : List Int32) : List Int32 := fo (fun s l => if pop s = c then hst ok l (nI s) else l) n l
def cnd (c n : Nat) : List Int32 := fo (fun s l => if pop s = c then l ++ [nI s] else l) n []
def clE (P : Nat) : List Int32 := fo (fun p l => fo (fun q l => l ++ [sh1 (nI p) ||| sh1 (nI q)]) p l) P (fo (fun p l => l ++ [sh1 (nI p)]) P [0])
theorem clE_eq : ∀ P, P ≤ 8 → clE P = cnd 0 (2 ^ P) ++ cnd 1 (2 ^ P) ++ cnd 2 (2 ^ P) := by decide +kernel
def cnn (c n : Nat) : Nat := fo (fun s k => if pop s = c then k + 1 else k) n 0
theorem cnn_37 : ∀ P, P ≤ 8 → cnn 0 (2 ^ P) + cnn 1 (2 ^ P) + cnn 2 (2 ^ P) ≤ 37 := by decide +kernel
theorem cnn_lt {c s : Nat} (e : pop s = c) : ∀ n, s < n → cnn c s + 1 ≤ cnn c n
  | 0, h => by omega
  | n + 1, h => by
    show _ ≤ (if pop n = c then cnn c n + 1 else cnn c n)
    rcases Nat.lt_or_ge s n with w | w
    · have := cnn_lt e n w
      split <;> omega
    · rw [show n = s by omega, if_pos e]
      exact Nat.le_refl _
theorem moF_len {ok : Int32 → Prop} {c : Nat} {l : List Int32} : ∀ n, (moF ok c n l).length ≤ l.length + cnn c n
  | 0 => Nat.le_refl _
  | n + 1 => by
    have ih := moF_len (ok := ok) (c := c) (l := l) n
    show (if pop n = c then hst ok (moF ok c n l) (nI n) else moF ok c n l).length ≤ l.length + (if pop n = c then cnn c n + 1 else cnn c n)
    split
    · have := hst_len (ok := ok) (hl := moF ok c n l) (c := nI n)
      omega
    · exact ih
theorem fold_fo {F : Nat → List Int32 → List Int32} {E : Nat → List Int32 → List Int32} {g : List Int32 → List Int32} (e : ∀ p l, g (E p l) = F p (g l)) (n : Nat) (l : List Int32) : g (fo E n l) = fo F n (g l) := by
  induction n with
  | zero => rfl
  | succ n ih => rw [fo_succ, fo_succ, e, ih]
theorem fold_1 {ok : Int32 → Prop} {l0 l : List Int32} {c : Int32} : (l ++ [c]).foldl (hst ok) l0 = hst ok (l.foldl (hst ok) l0) c := by
  rw [List.foldl_append]
  rfl
theorem hop2_fold {ok : Int32 → Prop} {P : Nat} : hop2 ok P = (clE P).foldl (hst ok) [] := by
  unfold hop2 hop1 clE
  rw [fold_fo (g := fun l => l.foldl (hst ok) []) (F := fun p l => fo (fun q l => hst ok l (sh1 (nI p) ||| sh1 (nI q))) p l) (fun p l => fold_fo (g := fun l => l.foldl (hst ok) []) (fun q l => fold_1) p l), fold_fo (g := fun l => l.foldl (hst ok) []) (F := fun p l => hst ok l (sh1 (nI p))) (fun p l => fold_1)]
  rfl
theorem moF_fold {ok : Int32 → Prop} {c n : Nat} {l : List Int32} : moF ok c n l = (cnd c n).foldl (hst ok) l := by
  unfold moF cnd
  rw [fold_fo (g := fun l' => l'.foldl (hst ok) l) (F := fun s l => if pop s = c then hst ok l (nI s) else l) (fun p l => ?_)]
  · rfl
  · split
    · exact fold_1
    · rfl
theorem moF_hop {ok : Int32 → Prop} {P : Nat} (hP : P ≤ 8) : moF ok 2 (2 ^ P) (moF ok 1 (2 ^ P) (moF ok 0 (2 ^ P) [])) = hop2 ok P := by
  rw [hop2_fold, clE_eq P hP, List.foldl_append, List.foldl_append, moF_fold, moF_fold, moF_fold]
theorem fold_mem {ok : Int32 → Prop} {x : Int32} : ∀ (L l : List Int32), x ∈ L.foldl (hst ok) l → x ∈ l ∨ x ∈ L
  | [], l, h => Or.inl h
  | c :: L, l, h => by
    have h : x ∈ L.foldl (hst ok) (hst ok l c) := h
    rcases fold_mem L _ h with a | a
    · by_cases k : ok c
      · rw [hst_pos k, List.mem_append, List.mem_singleton] at a
        rcases a with a | a
        · exact Or.inl a
        · exact Or.inr (by rw [a]; exact List.mem_cons_self)
      · rw [hst_neg k] at a
        exact Or.inl a
    · exact Or.inr (List.mem_cons_of_mem _ a)
theorem clE_in : ∀ P, P ≤ 8 → ∀ c, c ∈ clE P → c &&& (sh1 (nI P) - 1) = c := by decide +kernel
theorem hop2_in {ok : Int32 → Prop} {P : Nat} {c : Int32} (hP : P ≤ 8) (h : c ∈ hop2 ok P) : c &&& (sh1 (nI P) - 1) = c := by
  rw [hop2_fold] at h
  rcases fold_mem _ _ h with a | a
  · cases a
  · exact clE_in P hP c a
/-- the sets found -/
def mHp (l : List Int32) (h : am_H) : Prop := smo h = some (.int (nI l.length)) ∧ l.length ≤ 37 ∧ ∃ ss, h.1 144 = .inl (.int, 37, .inl ss) ∧ ∀ k v, l[k]? = some v → ss k = v
section MHopes
variable {h h' : am_H} {len N P rc bc : Nat} {fa G sd : Int32} {tx wa me rx rh bw bs : Nat → Int32} {S S' : Sc} {dd dd' : List Sc} {i0 i1 : Im}
theorem mHp.fl {L : List Nat} {l : List Int32} (f : am_fk L h h') (m : 144 ∉ L) (s : smo h' = smo h) (q : mHp l h) : mHp l h' := by
  obtain ⟨q1, q2, ss, q3, q4⟩ := q
  exact ⟨s.trans q1, q2, ss, by rw [f.2 _ m]; exact q3, q4⟩
theorem i3' : (3 : Int32) = nI 3 := by decide
set_option maxHeartbeats 1000000 in
theorem w_setIn {ok : Int32 → Prop} {c : Nat} {l : List Int32} {Φ : Option Value → am_H → Prop} (hok : ok = okA G N P S rc rx rh) (hc : c < 3) (hl : l.length + cnn c (2 ^ P) ≤ 37) (W : wfQ ⟨⟨len, tx⟩, fa, ⟨N, P, G, wa, me⟩, S, dd, ⟨rc, rx, rh⟩, ⟨bc, bw, bs⟩, sd, i0, i1⟩) (R : mRep ⟨⟨len, tx⟩, fa, ⟨N, P, G, wa, me⟩, S, dd, ⟨rc, rx, rh⟩, ⟨bc, bw, bs⟩, sd, i0, i1⟩ h) (H : mHp l h) (kk : ∀ x h', mRep ⟨⟨len, tx⟩, fa, ⟨N, P, G, wa, me⟩, S, dd, ⟨rc, rx, rh⟩, ⟨bc, bw, bs⟩, sd, i0, i1⟩ h' → mHp (moF ok c (2 ^ P) l) h' → am_fr 130 149 h h' → am_R M_Mo_setHopes (38, [.ref 130, .int (nI c), .int x], []) h' Φ) : am_R M_Mo_setHopes (10, [.ref 130, .int (nI c), .int 0], []) h Φ := by
  obtain ⟨w1, w2, w3, w4, w5, w6, w7, w8, w9, w10, w11⟩ := id W
  have hpw := pw8 w3
  refine lup (P := fun i => ∀ x h1, x = nI i → mRep ⟨⟨len, tx⟩, fa, ⟨N, P, G, wa, me⟩, S, dd, ⟨rc, rx, rh⟩, ⟨bc, bw, bs⟩, sd, i0, i1⟩ h1 → mHp (moF ok c i l) h1 → am_fr 130 149 h h1 → am_R M_Mo_setHopes (10, [.ref 130, .int (nI c), .int x], []) h1 Φ) (2 ^ P) ?_ ?_ 0 h nI_0.symm R H fr_rf
  · rintro x h1 rfl R1 H1 f1
    obtain ⟨ra, rf, rn, rm, sm, x1⟩ := R1.top
    repeat (first | refine rs [] rfl rfl rfl rfl ?_ | refine rk rfl rfl ?_ | refine rgoh [] rfl rfl ?_ | refine rgeta (hi := rfl) (kk := ?_) | refine rialda (hi := rfl) (kk := ?_))
    (first | refine rif rfl rfl (fun c1 => ?_) (fun c1 => ?_) | refine ric rfl rfl (fun c1 => ?_) (fun c1 => ?_))
    · repeat (first | refine rs [38] rfl rfl rfl rfl ?_ | refine rk rfl rfl ?_ | refine rgoh [38] rfl rfl ?_ | refine rgeta (hi := rfl) (kk := ?_) | refine rialda (hi := rfl) (kk := ?_))
      exact kk _ h1 R1 H1 f1
    · exact absurd (by rw [show (1 : Int32) <<< (nI P &&& 31) = nI (2 ^ P) from sh1_nI P w3]; exact Int32.le_refl _) c1
  · rintro i hi ih x h1 rfl R1 H1 f1
    have ih := fun h1 => ih _ h1 (nI_succ i).symm
    have es : moF ok c (i + 1) l = if pop i = c then hst ok (moF ok c i l) (nI i) else moF ok c i l := rfl
    have hq := pop_le i (by omega)
    obtain ⟨ra, rf, rn, rm, sm, x1⟩ := R1.top
    repeat (first | refine rs [] rfl rfl rfl rfl ?_ | refine rk rfl rfl ?_ | refine rgoh [] rfl rfl ?_ | refine rgeta (hi := rfl) (kk := ?_) | refine rialda (hi := rfl) (kk := ?_))
    (first | refine rif rfl rfl (fun c1 => ?_) (fun c1 => ?_) | refine ric rfl rfl (fun c1 => ?_) (fun c1 => ?_))
    · rw [show (1 : Int32) <<< (nI P &&& 31) = nI (2 ^ P) from sh1_nI P w3] at c1
      exact absurd hi ((nI_lt_iff (by omega) (by omega)).mp c1)
    · repeat (first | refine rs [] rfl rfl rfl rfl ?_ | refine rk rfl rfl ?_ | refine rgoh [] rfl rfl ?_ | refine rgeta (hi := rfl) (kk := ?_) | refine rialda (hi := rfl) (kk := ?_))
      refine rcss rfl rfl rfl rfl rfl (w_bits) ?_
      rw [pop_I i (by omega)]
      repeat (first | refine rs [] rfl rfl rfl rfl ?_ | refine rk rfl rfl ?_ | refine rgoh [] rfl rfl ?_ | refine rgeta (hi := rfl) (kk := ?_) | refine rialda (hi := rfl) (kk := ?_))
      (first | refine rif rfl rfl (fun c2 => ?_) (fun c2 => ?_) | refine ric rfl rfl (fun c2 => ?_) (fun c2 => ?_))
      · rw [nI_eq (by omega) (by omega)] at c2
        rw [if_pos c2] at es
        repeat (first | refine rs [] rfl rfl rfl rfl ?_ | refine rk rfl rfl ?_ | refine rgoh [] rfl rfl ?_ | refine rgeta (hi := rfl) (kk := ?_) | refine rialda (hi := rfl) (kk := ?_))
        refine rcvt rfl rfl rfl rfl rfl x1 rfl (w_goesSo W R1) ?_
        rintro r h2 ⟨R2, f2, s2, v, rfl, hv⟩
        show am_R M_Mo_setHopes (23, [.ref 130, .int (nI c), .int (nI i)], [.int v]) _ _
        rw [← hok] at hv
        have H2 := H1.fl f2 (by decide) s2
        have f3 : am_fr 130 149 h h2 := fr_tr f1 (fl_fr (lo := 130) (hi := 149) f2 (by decide)) (by omega) (by omega)
        (first | refine rif rfl rfl (fun c3 => ?_) (fun c3 => ?_) | refine ric rfl rfl (fun c3 => ?_) (fun c3 => ?_))
        · have no : ¬ ok (nI i) := by
            rcases hv with ⟨a, b⟩ | ⟨a, b⟩
            · rw [a] at c3
              exact absurd c3 (by decide)
            · exact b
          rw [hst_neg no] at es
          repeat (first | refine rs [10] rfl rfl rfl rfl ?_ | refine rk rfl rfl ?_ | refine rgoh [10] rfl rfl ?_ | refine rgeta (hi := rfl) (kk := ?_) | refine rialda (hi := rfl) (kk := ?_))
          exact ih h2 R2 (by rw [es]; exact H2) f3
        · have yes : ok (nI i) := by
            rcases hv with ⟨a, b⟩ | ⟨a, b⟩
            · exact b
            · exact absurd a c3
          rw [hst_pos yes] at es
          have ml := moF_len (ok := ok) (c := c) (l := l) i
          have cl := cnn_lt c2 (2 ^ P) hi
          obtain ⟨q1, q2, ss, q3, q4⟩ := H2
          generalize moF ok c i l = L at *
          obtain ⟨ra, rf, rn, rm, x1⟩ := R2.top2 q1
          repeat (first | refine rs [] rfl rfl rfl rfl ?_ | refine rk rfl rfl ?_ | refine rgoh [] rfl rfl ?_ | refine rgeta (hi := rfl) (kk := ?_) | refine rialda (hi := rfl) (kk := ?_))
          refine riasta (hi := rfl) (kk := ?_)
          repeat (first | refine rs [10] rfl rfl rfl rfl ?_ | refine rk rfl rfl ?_ | refine rgoh [10] rfl rfl ?_ | refine rgeta (hi := rfl) (kk := ?_) | refine rialda (hi := rfl) (kk := ?_))
          refine rputa (hi := rfl) (kk := ?_)
          repeat (first | refine rs [10] rfl rfl rfl rfl ?_ | refine rk rfl rfl ?_ | refine rgoh [10] rfl rfl ?_ | refine rgeta (hi := rfl) (kk := ?_) | refine rialda (hi := rfl) (kk := ?_))
          have g : am_fk [130, 144] h2 (am_set (am_set h2 144 (.inl (.int, 37, .inl (upd ss L.length (nI i))))) 130 (mO (nI len) fa ra rf rn rm (nI N) G S.2.2.2.2.1 (nI P) S.2.2.2.2.2.1 S.2.2.2.2.2.2 (nI dd.length) sd.toInt64 (nI rc) (nI L.length + 1) (nI bc))) := fl_set (fl_set fl_rf (by decide)) (by decide)
          have el : (L ++ [nI i]).length = L.length + 1 := by simp
          refine ih _ ?_ ⟨?_, by rw [es, el]; omega, upd ss L.length (nI i), ?_, fun k v hk => ?_⟩ (fr_tr f3 (fl_fr (lo := 130) (hi := 149) g (by decide)) (by omega) (by omega))
          · obtain ⟨-, -, -, -, -, -, x2, x3, x4, x5, x6, x7, x8, x9, x10, x11⟩ := R2
            exact ⟨ra, rf, rn, rm, _, am_set_eq, x2.fl g (by decide), x3.fl g (by decide), x4.fl g (by decide), x5.fl g (by decide), x6.fl g (by decide), x7.fl g (by decide), x8.fl g (by decide), ⟨_, by rw [am_set_ne (by omega)]; exact am_set_eq⟩, x10.fl g (by decide), x11.fl g (by decide)⟩
          · rw [es, el, nI_succ]
            exact smo_of am_set_eq
          · rw [am_set_ne (by omega)]; exact am_set_eq
          · rw [es] at hk
            rcases Nat.lt_or_ge k L.length with w | w
            · rw [List.getElem?_append_left w] at hk
              rw [pk_un (by omega)]
              exact q4 k v hk
            · rw [List.getElem?_append_right w] at hk
              have h0 : k - L.length < 1 := (List.getElem?_eq_some_iff.mp hk).1
              rw [show k - L.length = 0 by omega] at hk
              cases hk
              rw [show k = L.length by omega]
              exact pk_us
      · rw [nI_eq (by omega) (by omega)] at c2
        rw [if_neg c2] at es
        repeat (first | refine rs [10] rfl rfl rfl rfl ?_ | refine rk rfl rfl ?_ | refine rgoh [10] rfl rfl ?_ | refine rgeta (hi := rfl) (kk := ?_) | refine rialda (hi := rfl) (kk := ?_))
        exact ih h1 R1 (by rw [es]; exact H1) f1
theorem w_setHopes (W : wfQ ⟨⟨len, tx⟩, fa, ⟨N, P, G, wa, me⟩, S, dd, ⟨rc, rx, rh⟩, ⟨bc, bw, bs⟩, sd, i0, i1⟩) (R : mRep ⟨⟨len, tx⟩, fa, ⟨N, P, G, wa, me⟩, S, dd, ⟨rc, rx, rh⟩, ⟨bc, bw, bs⟩, sd, i0, i1⟩ h) : am_T M_Mo_setHopes [.ref 130] h (fun r h' => r = none ∧ mRep ⟨⟨len, tx⟩, fa, ⟨N, P, G, wa, me⟩, S, dd, ⟨rc, rx, rh⟩, ⟨bc, bw, bs⟩, sd, i0, i1⟩ h' ∧ mHp (hpA G N P S rc rx rh) h' ∧ am_fr 130 149 h h') := by
  obtain ⟨w1, w2, w3, w4, w5, w6, w7, w8, w9, w10, w11⟩ := id W
  obtain ⟨ra, rf, rn, rm, sm, x1, x2, x3, x4, x5, x6, x7, x8, x9, x10, x11⟩ := id R
  obtain ⟨y1, y2, waC, meC, y3, y4, y5, y6⟩ := id x4
  obtain ⟨wh, mi, fe, fl, z1, z2, z3, z4, z5⟩ := id x5
  obtain ⟨ss, d2⟩ := id x9
  have hpw := pw8 w3
  have hc := cnn_37 P w3
  obtain ⟨ok, hok⟩ : ∃ ok, ok = okA G N P S rc rx rh := ⟨_, rfl⟩
  unfold hpA
  rw [← hok, ← moF_hop w3]
  have l0 := moF_len (ok := ok) (c := 0) (l := []) (2 ^ P)
  have l1 := moF_len (ok := ok) (c := 1) (l := moF ok 0 (2 ^ P) []) (2 ^ P)
  rw [List.length_nil] at l0
  (try unfold am_E); unfold am_T
  repeat (first | refine rs [] rfl rfl rfl rfl ?_ | refine rk rfl rfl ?_ | refine rgoh [] rfl rfl ?_ | refine rgeta (hi := rfl) (kk := ?_) | refine rialda (hi := rfl) (kk := ?_))
  refine rputa (hi := rfl) (kk := ?_)
  repeat (first | refine rs [5] rfl rfl rfl rfl ?_ | refine rk rfl rfl ?_ | refine rgoh [5] rfl rfl ?_ | refine rgeta (hi := rfl) (kk := ?_) | refine rialda (hi := rfl) (kk := ?_))
  have g : am_fk [130] h (am_set h 130 (mO (nI len) fa ra rf rn rm (nI N) G S.2.2.2.2.1 (nI P) S.2.2.2.2.2.1 S.2.2.2.2.2.2 (nI dd.length) sd.toInt64 (nI rc) 0 (nI bc))) := fl_set fl_rf (by decide)
  have R0 : mRep ⟨⟨len, tx⟩, fa, ⟨N, P, G, wa, me⟩, S, dd, ⟨rc, rx, rh⟩, ⟨bc, bw, bs⟩, sd, i0, i1⟩ (am_set h 130 (mO (nI len) fa ra rf rn rm (nI N) G S.2.2.2.2.1 (nI P) S.2.2.2.2.2.1 S.2.2.2.2.2.2 (nI dd.length) sd.toInt64 (nI rc) 0 (nI bc))) := ⟨ra, rf, rn, rm, 0, am_set_eq, x2.fl g (by decide), x3.fl g (by decide), x4.fl g (by decide), x5.fl g (by decide), x6.fl g (by decide), x7.fl g (by decide), x8.fl g (by decide), x9.fl g (by decide), x10.fl g (by decide), x11.fl g (by decide)⟩
  have H0 : mHp [] (am_set h 130 (mO (nI len) fa ra rf rn rm (nI N) G S.2.2.2.2.1 (nI P) S.2.2.2.2.2.1 S.2.2.2.2.2.2 (nI dd.length) sd.toInt64 (nI rc) 0 (nI bc))) := ⟨smo_of am_set_eq, by simp, ss, by rw [am_set_ne (by omega)]; exact d2, fun k v hk => by simp at hk⟩
  have f0 : am_fr 130 149 h (am_set h 130 (mO (nI len) fa ra rf rn rm (nI N) G S.2.2.2.2.1 (nI P) S.2.2.2.2.2.1 S.2.2.2.2.2.2 (nI dd.length) sd.toInt64 (nI rc) 0 (nI bc))) := fl_fr g (by decide)
  show am_R M_Mo_setHopes (5, [.ref 130, .int 0, _], []) (am_set h 130 (mO (nI len) fa ra rf rn rm (nI N) G S.2.2.2.2.1 (nI P) S.2.2.2.2.2.1 S.2.2.2.2.2.2 (nI dd.length) sd.toInt64 (nI rc) 0 (nI bc))) _
  generalize am_set h 130 (mO (nI len) fa ra rf rn rm (nI N) G S.2.2.2.2.1 (nI P) S.2.2.2.2.2.1 S.2.2.2.2.2.2 (nI dd.length) sd.toInt64 (nI rc) 0 (nI bc)) = h0 at *
  repeat (first | refine rs [] rfl rfl rfl rfl ?_ | refine rk rfl rfl ?_ | refine rgoh [] rfl rfl ?_ | refine rgeta (hi := rfl) (kk := ?_) | refine rialda (hi := rfl) (kk := ?_))
  (first | refine rift rfl rfl ?_ | refine riff rfl rfl ?_ | refine rict rfl rfl ?_ | refine ricf rfl rfl ?_)
  repeat (first | refine rs [10] rfl rfl rfl rfl ?_ | refine rk rfl rfl ?_ | refine rgoh [10] rfl rfl ?_ | refine rgeta (hi := rfl) (kk := ?_) | refine rialda (hi := rfl) (kk := ?_))
  refine w_setIn (c := 0) hok (by omega) (by rw [List.length_nil]; omega) W R0 H0 (fun x h1 R1 H1 f1 => ?_)
  repeat (first | refine rs [5] rfl rfl rfl rfl ?_ | refine rk rfl rfl ?_ | refine rgoh [5] rfl rfl ?_ | refine rgeta (hi := rfl) (kk := ?_) | refine rialda (hi := rfl) (kk := ?_))
  repeat (first | refine rs [] rfl rfl rfl rfl ?_ | refine rk rfl rfl ?_ | refine rgoh [] rfl rfl ?_ | refine rgeta (hi := rfl) (kk := ?_) | refine rialda (hi := rfl) (kk := ?_))
  (first | refine rift rfl rfl ?_ | refine riff rfl rfl ?_ | refine rict rfl rfl ?_ | refine ricf rfl rfl ?_)
  repeat (first | refine rs [10] rfl rfl rfl rfl ?_ | refine rk rfl rfl ?_ | refine rgoh [10] rfl rfl ?_ | refine rgeta (hi := rfl) (kk := ?_) | refine rialda (hi := rfl) (kk := ?_))
  refine w_setIn (c := 1) hok (by omega) (by omega) W R1 H1 (fun x h2 R2 H2 f2 => ?_)
  repeat (first | refine rs [5] rfl rfl rfl rfl ?_ | refine rk rfl rfl ?_ | refine rgoh [5] rfl rfl ?_ | refine rgeta (hi := rfl) (kk := ?_) | refine rialda (hi := rfl) (kk := ?_))
  repeat (first | refine rs [] rfl rfl rfl rfl ?_ | refine rk rfl rfl ?_ | refine rgoh [] rfl rfl ?_ | refine rgeta (hi := rfl) (kk := ?_) | refine rialda (hi := rfl) (kk := ?_))
  (first | refine rift rfl rfl ?_ | refine riff rfl rfl ?_ | refine rict rfl rfl ?_ | refine ricf rfl rfl ?_)
  repeat (first | refine rs [10] rfl rfl rfl rfl ?_ | refine rk rfl rfl ?_ | refine rgoh [10] rfl rfl ?_ | refine rgeta (hi := rfl) (kk := ?_) | refine rialda (hi := rfl) (kk := ?_))
  refine w_setIn (c := 2) hok (by omega) (by omega) W R2 H2 (fun x h3 R3 H3 f3 => ?_)
  repeat (first | refine rs [5] rfl rfl rfl rfl ?_ | refine rk rfl rfl ?_ | refine rgoh [5] rfl rfl ?_ | refine rgeta (hi := rfl) (kk := ?_) | refine rialda (hi := rfl) (kk := ?_))
  repeat (first | refine rs [] rfl rfl rfl rfl ?_ | refine rk rfl rfl ?_ | refine rgoh [] rfl rfl ?_ | refine rgeta (hi := rfl) (kk := ?_) | refine rialda (hi := rfl) (kk := ?_))
  (first | refine rift rfl rfl ?_ | refine riff rfl rfl ?_ | refine rict rfl rfl ?_ | refine ricf rfl rfl ?_)
  refine rret rfl rfl ?_
  exact ⟨rfl, R3, H3, fr_tr f0 (fr_tr f1 (fr_tr f2 f3 (by omega) (by omega)) (by omega) (by omega)) (by omega) (by omega)⟩
theorem in_R2 {p : Int32} {n : Nat} (hn : n < 2 ^ 31) : (if p < 0 ∨ nI n - 1 < p then (0 : Int32) else 1) = if inR p n then 1 else 0 := by
  by_cases c : p < 0
  · rw [if_pos (Or.inl c), if_neg (fun a => a.1 c)]
  · have e := nI_le1 (p := p) (n := n) (by omega) c
    by_cases d : p < nI n
    · rw [if_neg (by rintro (a | a); exact c a; exact absurd (e.mpr d) (Int32.not_le.mpr a)), if_pos ⟨c, d⟩]
    · rw [if_pos (Or.inr (Int32.not_le.mp (fun a => d (e.mp a)))), if_neg (fun a => d a.2)]
theorem getD_some {l : List Int32} {k : Nat} (hk : k < l.length) : l[k]? = some (l.getD k 0) := by
  rw [List.getD_eq_getElem?_getD, List.getElem?_eq_getElem hk]
  rfl
theorem w_hoped {i : Int32} (W : wfQ ⟨⟨len, tx⟩, fa, ⟨N, P, G, wa, me⟩, S, dd, ⟨rc, rx, rh⟩, ⟨bc, bw, bs⟩, sd, i0, i1⟩) (R : mRep ⟨⟨len, tx⟩, fa, ⟨N, P, G, wa, me⟩, S, dd, ⟨rc, rx, rh⟩, ⟨bc, bw, bs⟩, sd, i0, i1⟩ h) : am_W M_Mo_hoped [.ref 130, .int i] (o_hoped i ⟨⟨len, tx⟩, fa, ⟨N, P, G, wa, me⟩, S, dd, ⟨rc, rx, rh⟩, ⟨bc, bw, bs⟩, sd, i0, i1⟩) h := by
  obtain ⟨ra, rf, rn, rm, sm, x1⟩ := R.top
  unfold am_W o_hoped
  (try unfold am_E); unfold am_T
  dsimp only
  repeat (first | refine rs [] rfl rfl rfl rfl ?_ | refine rk rfl rfl ?_ | refine rgoh [] rfl rfl ?_ | refine rgeta (hi := rfl) (kk := ?_) | refine rialda (hi := rfl) (kk := ?_))
  refine rcvt rfl rfl rfl rfl rfl x1 rfl (w_setHopes W R) ?_
  rintro r h1 ⟨rfl, R1, H1, f1⟩
  show am_R M_Mo_hoped (2, [.ref 130, .int i], []) _ _
  obtain ⟨q1, q2, ss, q3, q4⟩ := H1
  generalize hpA G N P S rc rx rh = L at *
  obtain ⟨ra, rf, rn, rm, x1⟩ := R1.top2 q1
  repeat (first | refine rs [] rfl rfl rfl rfl ?_ | refine rk rfl rfl ?_ | refine rgoh [] rfl rfl ?_ | refine rgeta (hi := rfl) (kk := ?_) | refine rialda (hi := rfl) (kk := ?_))
  (first | refine rif rfl rfl (fun c1 => ?_) (fun c1 => ?_) | refine ric rfl rfl (fun c1 => ?_) (fun c1 => ?_))
  · rw [if_pos c1]
    repeat (first | refine rs [] rfl rfl rfl rfl ?_ | refine rk rfl rfl ?_ | refine rgoh [] rfl rfl ?_ | refine rgeta (hi := rfl) (kk := ?_) | refine rialda (hi := rfl) (kk := ?_))
    refine rret rfl rfl ?_
    exact ⟨rfl, R1, f1⟩
  · rw [if_neg c1]
    repeat (first | refine rs [] rfl rfl rfl rfl ?_ | refine rk rfl rfl ?_ | refine rgoh [] rfl rfl ?_ | refine rgeta (hi := rfl) (kk := ?_) | refine rialda (hi := rfl) (kk := ?_))
    refine rcss rfl rfl rfl rfl rfl (w_in) ?_
    rw [in_R2 (by omega)]
    by_cases d : inR i L.length
    · rw [if_pos d, if_pos d]
      (first | refine rift rfl rfl ?_ | refine riff rfl rfl ?_ | refine rict rfl rfl ?_ | refine ricf rfl rfl ?_)
      obtain ⟨k, hk, rfl⟩ := inR_of d (by omega)
      rw [nI_clamp (by omega)]
      repeat (first | refine rs [] rfl rfl rfl rfl ?_ | refine rk rfl rfl ?_ | refine rgoh [] rfl rfl ?_ | refine rgeta (hi := rfl) (kk := ?_) | refine rialda (hi := rfl) (kk := ?_))
      refine rret rfl rfl ?_
      exact ⟨by rw [q4 k _ (getD_some hk)], R1, f1⟩
    · rw [if_neg d, if_neg d]
      (first | refine rift rfl rfl ?_ | refine riff rfl rfl ?_ | refine rict rfl rfl ?_ | refine ricf rfl rfl ?_)
      repeat (first | refine rs [] rfl rfl rfl rfl ?_ | refine rk rfl rfl ?_ | refine rgoh [] rfl rfl ?_ | refine rgeta (hi := rfl) (kk := ?_) | refine rialda (hi := rfl) (kk := ?_))
      refine rret rfl rfl ?_
      exact ⟨rfl, R1, f1⟩
theorem fo_and {e : Nat → Int32} {m : Int32} (n : Nat) : fo (fun i s => s &&& e i) n m = m &&& fo (fun i s => s &&& e i) n (-1) := by
  induction n with
  | zero =>
    show m = m &&& -1
    refine b_ext (fun i hi => ?_)
    rw [b_and, b_m1 i hi, Bool.and_true]
  | succ n ih =>
    rw [fo_succ, fo_succ, ih, Int32.and_assoc]
theorem fo_and_0 {e : Nat → Int32} {j : Nat} : ∀ n, bt (fo (fun i s => s &&& e i) (n + 1) (-1)) j = true → bt (e 0) j = true
  | 0, h => by
    have h : bt (-1 &&& e 0) j = true := h
    rw [b_and, Bool.and_eq_true] at h
    exact h.2
  | n + 1, h => by
    rw [fo_succ, b_and, Bool.and_eq_true] at h
    exact fo_and_0 n h.1
theorem w_sure (W : wfQ ⟨⟨len, tx⟩, fa, ⟨N, P, G, wa, me⟩, S, dd, ⟨rc, rx, rh⟩, ⟨bc, bw, bs⟩, sd, i0, i1⟩) (R : mRep ⟨⟨len, tx⟩, fa, ⟨N, P, G, wa, me⟩, S, dd, ⟨rc, rx, rh⟩, ⟨bc, bw, bs⟩, sd, i0, i1⟩ h) : am_W M_Mo_sure [.ref 130] (o_sure ⟨⟨len, tx⟩, fa, ⟨N, P, G, wa, me⟩, S, dd, ⟨rc, rx, rh⟩, ⟨bc, bw, bs⟩, sd, i0, i1⟩) h := by
  obtain ⟨w1, w2, w3, w4, w5, w6, w7, w8, w9, w10, w11⟩ := id W
  obtain ⟨ra, rf, rn, rm, sm, x1⟩ := R.top
  have hin := fun c => hop2_in (ok := okA G N P S rc rx rh) (c := c) w3
  unfold am_W o_sure
  (try unfold am_E); unfold am_T
  dsimp only
  repeat (first | refine rs [] rfl rfl rfl rfl ?_ | refine rk rfl rfl ?_ | refine rgoh [] rfl rfl ?_ | refine rgeta (hi := rfl) (kk := ?_) | refine rialda (hi := rfl) (kk := ?_))
  refine rcvt rfl rfl rfl rfl rfl x1 rfl (w_setHopes W R) ?_
  rintro r h1 ⟨rfl, R1, H1, f1⟩
  show am_R M_Mo_sure (2, [.ref 130, _, _], []) _ _
  obtain ⟨q1, q2, ss, q3, q4⟩ := H1
  unfold hpA at *
  generalize hop2 (okA G N P S rc rx rh) P = L at *
  obtain ⟨ra, rf, rn, rm, x1⟩ := R1.top2 q1
  have key : ∀ m0, (if L.length = 0 then 0 else fo (fun i s => s &&& L.getD i 0) L.length (sh1 (nI P) - 1)) = fo (fun i s => s &&& L.getD i 0) L.length m0 → am_R M_Mo_sure (11, [.ref 130, .int m0, .int 0], []) h1 (fun r h' => r = some (.int (if L.length = 0 then 0 else fo (fun i s => s &&& L.getD i 0) L.length (sh1 (nI P) - 1))) ∧ mRep ⟨⟨len, tx⟩, fa, ⟨N, P, G, wa, me⟩, S, dd, ⟨rc, rx, rh⟩, ⟨bc, bw, bs⟩, sd, i0, i1⟩ h' ∧ am_fr 130 149 h h') := by
    intro m0 e
    rw [e]
    refine lup (P := fun i => ∀ x v, x = nI i → v = fo (fun i s => s &&& L.getD i 0) i m0 → am_R M_Mo_sure (11, [.ref 130, .int v, .int x], []) h1 _) L.length ?_ ?_ 0 m0 nI_0.symm rfl
    · rintro x v rfl rfl
      repeat (first | refine rs [] rfl rfl rfl rfl ?_ | refine rk rfl rfl ?_ | refine rgoh [] rfl rfl ?_ | refine rgeta (hi := rfl) (kk := ?_) | refine rialda (hi := rfl) (kk := ?_))
      (first | refine rif rfl rfl (fun c1 => ?_) (fun c1 => ?_) | refine ric rfl rfl (fun c1 => ?_) (fun c1 => ?_))
      · repeat (first | refine rs [] rfl rfl rfl rfl ?_ | refine rk rfl rfl ?_ | refine rgoh [] rfl rfl ?_ | refine rgeta (hi := rfl) (kk := ?_) | refine rialda (hi := rfl) (kk := ?_))
        refine rret rfl rfl ?_
        exact ⟨rfl, R1, f1⟩
      · exact absurd (Int32.le_refl _) c1
    · rintro i hi ih x v rfl rfl
      repeat (first | refine rs [] rfl rfl rfl rfl ?_ | refine rk rfl rfl ?_ | refine rgoh [] rfl rfl ?_ | refine rgeta (hi := rfl) (kk := ?_) | refine rialda (hi := rfl) (kk := ?_))
      (first | refine rif rfl rfl (fun c1 => ?_) (fun c1 => ?_) | refine ric rfl rfl (fun c1 => ?_) (fun c1 => ?_))
      · exact absurd hi ((nI_lt_iff (by omega) (by omega)).mp c1)
      · repeat (first | refine rs [11] rfl rfl rfl rfl ?_ | refine rk rfl rfl ?_ | refine rgoh [11] rfl rfl ?_ | refine rgeta (hi := rfl) (kk := ?_) | refine rialda (hi := rfl) (kk := ?_))
        rw [q4 i _ (getD_some hi)]
        exact ih _ _ (nI_succ i).symm rfl
  repeat (first | refine rs [] rfl rfl rfl rfl ?_ | refine rk rfl rfl ?_ | refine rgoh [] rfl rfl ?_ | refine rgeta (hi := rfl) (kk := ?_) | refine rialda (hi := rfl) (kk := ?_))
  by_cases e : L.length = 0
  · (first | refine rif rfl rfl (fun c1 => ?_) (fun c1 => ?_) | refine ric rfl rfl (fun c1 => ?_) (fun c1 => ?_))
    · repeat (first | refine rs [11] rfl rfl rfl rfl ?_ | refine rk rfl rfl ?_ | refine rgoh [11] rfl rfl ?_ | refine rgeta (hi := rfl) (kk := ?_) | refine rialda (hi := rfl) (kk := ?_))
      refine key 0 ?_
      rw [if_pos e, e]
      rfl
    · exact absurd (by rw [e]; rfl) c1
  · (first | refine rif rfl rfl (fun c1 => ?_) (fun c1 => ?_) | refine ric rfl rfl (fun c1 => ?_) (fun c1 => ?_))
    · exact absurd c1 (nI_ne0 (by omega) (by omega))
    · repeat (first | refine rs [11] rfl rfl rfl rfl ?_ | refine rk rfl rfl ?_ | refine rgoh [11] rfl rfl ?_ | refine rgeta (hi := rfl) (kk := ?_) | refine rialda (hi := rfl) (kk := ?_))
      refine key 255 ?_
      rw [if_neg e, fo_and, fo_and (m := 255)]
      obtain ⟨n, en⟩ : ∃ n, L.length = n + 1 := ⟨L.length - 1, by omega⟩
      have h0 := hin (L.getD 0 0) (by
        have := getD_some (l := L) (k := 0) (by omega)
        exact List.mem_of_getElem? this)
      rw [en]
      refine b_ext (fun j hj => ?_)
      rw [b_and, b_and]
      cases g : bt (fo (fun i s => s &&& L.getD i 0) (n + 1) (-1)) j
      · simp
      · have a := fo_and_0 n g
        rw [← h0, b_and, Bool.and_eq_true, bt_all P w3 j hj, decide_eq_true_iff] at a
        rw [bt_all P w3 j hj, b_255, decide_eq_true a.2, decide_eq_true (show j < 8 by omega)]
set_option maxHeartbeats 1000000 in
theorem w_look (W : wfQ ⟨⟨len, tx⟩, fa, ⟨N, P, G, wa, me⟩, S, dd, ⟨rc, rx, rh⟩, ⟨bc, bw, bs⟩, sd, i0, i1⟩) (R : mRep ⟨⟨len, tx⟩, fa, ⟨N, P, G, wa, me⟩, S, dd, ⟨rc, rx, rh⟩, ⟨bc, bw, bs⟩, sd, i0, i1⟩ h) : am_W M_Mo_look [.ref 130] (o_look ⟨⟨len, tx⟩, fa, ⟨N, P, G, wa, me⟩, S, dd, ⟨rc, rx, rh⟩, ⟨bc, bw, bs⟩, sd, i0, i1⟩) h := by
  obtain ⟨w1, w2, w3, w4, w5, w6, w7, w8, w9, w10, w11⟩ := id W
  obtain ⟨ra, rf, rn, rm, sm, x1⟩ := R.top
  unfold am_W o_look
  (try unfold am_E); unfold am_T
  dsimp only
  repeat (first | refine rs [] rfl rfl rfl rfl ?_ | refine rk rfl rfl ?_ | refine rgoh [] rfl rfl ?_ | refine rgeta (hi := rfl) (kk := ?_) | refine rialda (hi := rfl) (kk := ?_))
  refine rcvt rfl rfl rfl rfl rfl x1 rfl (w_setHopes W R) ?_
  rintro r h1 ⟨rfl, R1, H1, f1⟩
  show am_R M_Mo_look (2, [.ref 130, _, _, _, _, _], []) _ _
  obtain ⟨q1, q2, ss, q3, q4⟩ := H1
  generalize hpA G N P S rc rx rh = L at *
  obtain ⟨ra, rf, rn, rm, x1⟩ := R1.top2 q1
  repeat (first | refine rs [9] rfl rfl rfl rfl ?_ | refine rk rfl rfl ?_ | refine rgoh [9] rfl rfl ?_ | refine rgeta (hi := rfl) (kk := ?_) | refine rialda (hi := rfl) (kk := ?_))
  refine lup (P := fun i => ∀ x b l v4 v5, x = nI i → lkA L i = (b, l) → am_R M_Mo_look (9, [.ref 130, .int b, .int l, .int x, v4, v5], []) h1 _) P ?_ ?_ 0 (-1) (nI L.length) _ _ nI_0.symm rfl
  · rintro x b l v4 v5 rfl hv
    repeat (first | refine rs [] rfl rfl rfl rfl ?_ | refine rk rfl rfl ?_ | refine rgoh [] rfl rfl ?_ | refine rgeta (hi := rfl) (kk := ?_) | refine rialda (hi := rfl) (kk := ?_))
    (first | refine rif rfl rfl (fun c1 => ?_) (fun c1 => ?_) | refine ric rfl rfl (fun c1 => ?_) (fun c1 => ?_))
    · repeat (first | refine rs [] rfl rfl rfl rfl ?_ | refine rk rfl rfl ?_ | refine rgoh [] rfl rfl ?_ | refine rgeta (hi := rfl) (kk := ?_) | refine rialda (hi := rfl) (kk := ?_))
      refine rret rfl rfl ?_
      exact ⟨by rw [hv], R1, f1⟩
    · exact absurd (Int32.le_refl _) c1
  · rintro i hi ih x b l v4 v5 rfl hv
    have ih := fun b l v4 v5 => ih _ b l v4 v5 (nI_succ i).symm
    have es : lkA L (i + 1) = if mxI (wth L (nI i)) (nI L.length - wth L (nI i)) < (lkA L i).2 then (nI i, mxI (wth L (nI i)) (nI L.length - wth L (nI i))) else lkA L i := rfl
    rw [hv] at es
    dsimp only at es
    generalize lkA L (i + 1) = ln at *
    repeat (first | refine rs [] rfl rfl rfl rfl ?_ | refine rk rfl rfl ?_ | refine rgoh [] rfl rfl ?_ | refine rgeta (hi := rfl) (kk := ?_) | refine rialda (hi := rfl) (kk := ?_))
    (first | refine rif rfl rfl (fun c1 => ?_) (fun c1 => ?_) | refine ric rfl rfl (fun c1 => ?_) (fun c1 => ?_))
    · exact absurd hi ((nI_lt_iff (by omega) (by omega)).mp c1)
    · repeat (first | refine rs [17] rfl rfl rfl rfl ?_ | refine rk rfl rfl ?_ | refine rgoh [17] rfl rfl ?_ | refine rgeta (hi := rfl) (kk := ?_) | refine rialda (hi := rfl) (kk := ?_))
      refine lup (P := fun n => ∀ y w, y = nI n → w = fo (fun i w => w + bitv (L.getD i 0) (nI i)) 0 w → w = fo (fun j w => w + bitv (L.getD j 0) (nI i)) n 0 → am_R M_Mo_look (17, [.ref 130, .int b, .int l, .int (nI i), .int w, .int y], []) h1 _) L.length ?_ ?_ 0 0 nI_0.symm rfl rfl
      · rintro y w rfl - hw
        have hw : w = wth L (nI i) := hw
        rw [← hw] at es
        clear hw
        have tl : ∀ g v5, g = mxI w (nI L.length - w) → am_R M_Mo_look (46, [.ref 130, .int b, .int l, .int (nI i), .int w, v5], [.int g]) h1 (fun r h' => r = some (.int (lkA L P).1) ∧ mRep ⟨⟨len, tx⟩, fa, ⟨N, P, G, wa, me⟩, S, dd, ⟨rc, rx, rh⟩, ⟨bc, bw, bs⟩, sd, i0, i1⟩ h' ∧ am_fr 130 149 h h') := by
          intro g v5 hg
          rw [← hg] at es
          repeat (first | refine rs [] rfl rfl rfl rfl ?_ | refine rk rfl rfl ?_ | refine rgoh [] rfl rfl ?_ | refine rgeta (hi := rfl) (kk := ?_) | refine rialda (hi := rfl) (kk := ?_))
          (first | refine rif rfl rfl (fun c2 => ?_) (fun c2 => ?_) | refine ric rfl rfl (fun c2 => ?_) (fun c2 => ?_))
          · rw [if_neg (Int32.not_lt.mpr c2)] at es
            repeat (first | refine rs [] rfl rfl rfl rfl ?_ | refine rk rfl rfl ?_ | refine rgoh [] rfl rfl ?_ | refine rgeta (hi := rfl) (kk := ?_) | refine rialda (hi := rfl) (kk := ?_))
            (first | refine rif rfl rfl (fun c3 => ?_) (fun c3 => ?_) | refine ric rfl rfl (fun c3 => ?_) (fun c3 => ?_))
            · repeat (first | refine rs [9] rfl rfl rfl rfl ?_ | refine rk rfl rfl ?_ | refine rgoh [9] rfl rfl ?_ | refine rgeta (hi := rfl) (kk := ?_) | refine rialda (hi := rfl) (kk := ?_))
              exact ih _ _ _ _ es
            · exact absurd c2 c3
          · rw [if_pos (Int32.not_le.mp c2)] at es
            repeat (first | refine rs [] rfl rfl rfl rfl ?_ | refine rk rfl rfl ?_ | refine rgoh [] rfl rfl ?_ | refine rgeta (hi := rfl) (kk := ?_) | refine rialda (hi := rfl) (kk := ?_))
            (first | refine rif rfl rfl (fun c3 => ?_) (fun c3 => ?_) | refine ric rfl rfl (fun c3 => ?_) (fun c3 => ?_))
            · exact absurd c3 c2
            · repeat (first | refine rs [9] rfl rfl rfl rfl ?_ | refine rk rfl rfl ?_ | refine rgoh [9] rfl rfl ?_ | refine rgeta (hi := rfl) (kk := ?_) | refine rialda (hi := rfl) (kk := ?_))
              exact ih _ _ _ _ es
        repeat (first | refine rs [] rfl rfl rfl rfl ?_ | refine rk rfl rfl ?_ | refine rgoh [] rfl rfl ?_ | refine rgeta (hi := rfl) (kk := ?_) | refine rialda (hi := rfl) (kk := ?_))
        (first | refine rif rfl rfl (fun c2 => ?_) (fun c2 => ?_) | refine ric rfl rfl (fun c2 => ?_) (fun c2 => ?_))
        · repeat (first | refine rs [] rfl rfl rfl rfl ?_ | refine rk rfl rfl ?_ | refine rgoh [] rfl rfl ?_ | refine rgeta (hi := rfl) (kk := ?_) | refine rialda (hi := rfl) (kk := ?_))
          (first | refine rif rfl rfl (fun c3 => ?_) (fun c3 => ?_) | refine ric rfl rfl (fun c3 => ?_) (fun c3 => ?_))
          · repeat (first | refine rs [46] rfl rfl rfl rfl ?_ | refine rk rfl rfl ?_ | refine rgoh [46] rfl rfl ?_ | refine rgeta (hi := rfl) (kk := ?_) | refine rialda (hi := rfl) (kk := ?_))
            refine tl _ _ ?_
            unfold mxI
            by_cases g : w < nI L.length - w
            · rw [if_pos g]
            · rw [if_neg g]
              exact Int32.le_antisymm (Int32.not_lt.mp g) c3
          · repeat (first | refine rs [46] rfl rfl rfl rfl ?_ | refine rk rfl rfl ?_ | refine rgoh [46] rfl rfl ?_ | refine rgeta (hi := rfl) (kk := ?_) | refine rialda (hi := rfl) (kk := ?_))
            refine tl _ _ ?_
            unfold mxI
            rw [if_neg (fun a => c3 (Int32.le_of_lt a))]
        · exact absurd (Int32.le_refl _) c2
      · rintro n hn ih2 y w rfl - hw
        repeat (first | refine rs [] rfl rfl rfl rfl ?_ | refine rk rfl rfl ?_ | refine rgoh [] rfl rfl ?_ | refine rgeta (hi := rfl) (kk := ?_) | refine rialda (hi := rfl) (kk := ?_))
        (first | refine rif rfl rfl (fun c2 => ?_) (fun c2 => ?_) | refine ric rfl rfl (fun c2 => ?_) (fun c2 => ?_))
        · exact absurd hn ((nI_lt_iff (by omega) (by omega)).mp c2)
        · repeat (first | refine rs [17] rfl rfl rfl rfl ?_ | refine rk rfl rfl ?_ | refine rgoh [17] rfl rfl ?_ | refine rgeta (hi := rfl) (kk := ?_) | refine rialda (hi := rfl) (kk := ?_))
          rw [q4 n _ (getD_some hn)]
          refine ih2 _ _ (nI_succ n).symm rfl ?_
          rw [fo_succ, ← hw]
          rfl
end MHopes
