/-! THE RUN IS SOUND: what the abstract machine comes to, the machine comes to -/
theorem am_kind0 {I : am_I} (h : am_kind I = 0) {j : Nat} {ls st : List Value} {hh : am_H} {q : am_F × am_H} (e : am_step I j ls st hh = some q) : I.1 ≠ .nop := by
  obtain ⟨ins, z⟩ := I
  rintro rfl
  cases e
theorem am_kind1 {I : am_I} (h : am_kind I = 1) : ∃ idx, (I.1 = .invokevirtual idx) ∨ (I.1 = .invokestatic idx ∧ ¬ 1000 < I.2.2.1) ∨ (I.1 = .invokespecial idx ∧ ¬ I.2.2.1 = 1000) := by
  unfold am_kind at h
  split at h
  · cases h
  · cases h
  · rename_i i hi
    exact ⟨i, Or.inl hi⟩
  · rename_i i hi
    split at h
    · cases h
    · rename_i q
      exact ⟨i, Or.inr (Or.inr ⟨hi, q⟩)⟩
  · rename_i i hi
    split at h
    · cases h
    · rename_i q
      exact ⟨i, Or.inr (Or.inl ⟨hi, q⟩)⟩
  · cases h
section AMX
variable {b base L : Nat} {xs : Nat → Int32} {aC : FieldType → ClassId} {D : va_G}
/-- what a run says of the machine -/
def am_says (b base : Nat) (aC : FieldType → ClassId) (D : va_G) (L : Nat) (xs : Nat → Int32) (l : Launch) (M : am_M) (F : am_F) (h h' : am_H) (r : Option Value) : Prop :=
  ∀ (p : Program) (e : Env) (R : Room) (s : State) (m : MethodId) (args : Array Value) (below : List Frame) (meth : Method) (c : Code) (H : Heap) (locs : List Loc) (cells slots : Nat) (Q : State → Prop) (LS : Array Slot),
    am_ctx b base aC D L xs p s m args meth c M → am_st b base aC D L xs M.2.2.1 s h H locs F.2.1 LS → s.heap.size + cells = base + h.2.1 → cells + (h'.2.1 - h.2.1) ≤ R.cells → slots + (h'.2.2 - h.2.2) ≤ R.slots → M.2.2.2.2.2.1.1 ≤ R.frames → M.2.2.2.2.2.1.2 ≤ R.locals →
    (∀ (H1 : Heap) (locs1 : List Loc) (LS1 : Array Slot) (j1 : Nat), am_rel b base aC D h' H1 → am_scr L xs h' → va_S (am_A base) s.heap H1 locs1 → am_retok M j1 r → W p l e R s m args below meth c H1 locs1 (cells + (h'.2.1 - h.2.1)) (slots + (h'.2.2 - h.2.2)) Q (F0 m (am_pc M j1) LS1 (r.toList.map (am_cv b base)))) →
    W p l e R s m args below meth c H locs cells slots Q (F0 m (am_pc M F.1) LS (F.2.2.map (am_cv b base)))
set_option maxHeartbeats 1000000 in
theorem am_met {l : Launch} {k : Nat} {As : List Value} {h h1 : am_H} {r1 : Option Value} (hk : k + 1 < am_nm) (hchk : am_chkM (am_tab k) = true) (hc : ∀ v ∈ As, am_isL v = false) (hn : As.length ≤ (am_tab k).2.2.1) (hmono : h.2.1 ≤ h1.2.1 ∧ h.2.2 ≤ h1.2.2)
    (hS : am_says b base aC D L xs l (am_tab k) (0, am_entry (am_tab k) As, []) h h1 r1) :
    Met l (am_tab k).1 (Jvm.Cond.code (am_tab k).1 (am_tab k).2.1 (am_tab k).2.2.1 (am_tab k).2.2.2.1 :: am_tw) ({ frames := (am_tab k).2.2.2.2.2.1.1, cells := h1.2.1 - h.2.1, slots := h1.2.2 - h.2.2, locals := (am_tab k).2.2.2.2.2.1.2 }) (am_Pc b base aC D L xs As h) (am_Qc b base aC D L xs r1 h1) (h1.2.1 - h.2.1) (h1.2.2 - h.2.2) (am_A base) := by
  have hkr : k ∈ List.range 150 := List.mem_range.mpr (by have : am_nm = 151 := rfl; omega)
  obtain ⟨hcls, hnl2, hpl, hmh1, hmh2⟩ := w_cls k hkr
  generalize am_tab k = K at *
  refine Met.ofW (cc := K.2.1) (maxL := K.2.2.1) (ret := K.2.2.2.1) hpl rfl ?_
  intro p e s m args below meth c s₁ B hml hv
  obtain ⟨rfl, hR, hS0, hsz, hK, hX, hbb, hnw, haS, haI⟩ := hv
  have hts0 := atoms_spec (ws := Jvm.Cond.code K.1 K.2.1 K.2.2.1 K.2.2.2.1 :: am_tw) B.pre
  have hlocks := B.notSynchronized
  have hx := B.exec
  have hb := B.bytes
  have hr := B.returns
  obtain ⟨LS, hent, hlv, hlen⟩ := am_entry_lv (b := b) (base := base) (M := K) hc hn
  rw [hent m]
  have hpc0 : am_pc K 0 = 0 := by
    unfold am_chkM at hchk
    rw [Bool.and_eq_true] at hchk
    exact of_decide_eq_true hchk.1
  have C0 : am_ctx b base aC D L xs p s m (As.map (am_cv b base)).toArray meth c K := ⟨hx, hb, hml, hr, by rw [← hcls]; exact findClass_of_methodNamed B.named, fun w hw => hts0 w (List.mem_cons_of_mem _ hw), hlocks, (name_of_methodNamed B.named B.method).1, hK, hX, hbb, by omega, hnw, haS, haI⟩
  have := hS p e ((headSpec (Jvm.Cond.code K.1 K.2.1 K.2.2.1 K.2.2.2.1 :: am_tw) ({ frames := K.2.2.2.2.2.1.1, cells := h1.2.1 - h.2.1, slots := h1.2.2 - h.2.2, locals := K.2.2.2.2.2.1.2 })).room) s m (As.map (am_cv b base)).toArray below meth c s.heap [] 0 0 (MQ below (am_Qc b base aC D L xs r1 h1) (As.map (am_cv b base)).toArray s (h1.2.1 - h.2.1) (h1.2.2 - h.2.2) (am_A base)) LS C0 ⟨hR, hS0, va_S.rf, hlv, hlen⟩ (by omega) (by show 0 + _ ≤ h1.2.1 - h.2.1; omega) (by show 0 + _ ≤ h1.2.2 - h.2.2; omega) (Nat.le_refl _) (Nat.le_refl _) ?_
  · dsimp only at this
    rw [hpc0] at this
    exact this
  · intro H1 locs1 LS1 j1 hR1 hS1 hSS hok
    rw [Nat.zero_add, Nat.zero_add]
    have hq : ∀ t : State, t.heap = H1 → am_Qc b base aC D L xs r1 h1 (As.map (am_cv b base)).toArray s (.returned (r1.map (am_cv b base))) t := fun t ht => ⟨rfl, by rw [ht]; exact hR1, hS1, by rw [ht]; exact hSS.1, fun q g1 g2 => by rw [ht]; exact hSS.2.1 q g1 g2⟩
    rcases hok with ⟨v, rfl, hd, ty, hty, hnr⟩ | ⟨rfl, hd, hty⟩
    · exact W.zret hx hb (hr.trans hty) hnr (fun t ht _ => hq t ht) hSS.2.2 hd
    · exact W.vret hx hb (hr.trans hty) (fun t ht _ => hq t ht) hSS.2.2 hd
set_option maxHeartbeats 1000000 in
theorem am_sound (hT : ∀ k, am_chkM (am_tab k) = true) (l : Launch) : ∀ (f : Nat) {M : am_M} {F : am_F} {h h' : am_H} {r : Option Value}, am_chkM M = true → am_run f M F h = some (r, h') → am_says b base aC D L xs l M F h h' r
  | 0, _, _, _, _, _, _, er => by cases er
  | f + 1, M, F, h, h', r, hM, er => by
    intro p e R s m args below meth c H locs cells slots Q LS C0 X hcnt hcl hsl hfr hlo kk
    unfold am_run at er
    split at er
    · rename_i hkd
      split at er
      · rename_i F1 h1 e1
        have g1 := am_step_mono e1
        have g2 := am_run_mono f er
        refine am_step_sound (am_chk_of hM (am_kind0 hkd e1)) C0 hkd e1 X hcnt (by omega) (by omega) hfr hlo (fun H1 locs1 LS1 X1 => ?_)
        refine am_sound hT l f hM er p e R s m args below meth c H1 locs1 _ _ Q LS1 C0 X1 (by omega) (by omega) (by omega) hfr hlo (fun H2 locs2 LS2 j2 q1 q2 q3 q4 => ?_)
        have := kk H2 locs2 LS2 j2 q1 q2 q3 q4
        rw [show cells + (h1.2.1 - h.2.1) + (h'.2.1 - h1.2.1) = cells + (h'.2.1 - h.2.1) by omega, show slots + (h1.2.2 - h.2.2) + (h'.2.2 - h1.2.2) = slots + (h'.2.2 - h.2.2) by omega]
        exact this
      · cases er
    · rename_i hkd
      split at er
      · rename_i hok
        split at er
        · rename_i r1 h1 e1
          have g1 := am_run_mono f e1
          have g2 := am_run_mono f er
          obtain ⟨idx, hidx⟩ := am_kind1 hkd
          have hno : (am_ins M F.1).1 ≠ .nop := by
            rcases hidx with q | ⟨q, -⟩ | ⟨q, -⟩ <;> rw [q] <;> exact fun z => by cases z
          have hchk := am_chk_of hM hno
          unfold am_chk at hchk
          rw [Bool.and_eq_true, decide_eq_true_eq] at hchk
          obtain ⟨hdec, hI⟩ := hchk
          obtain ⟨⟨ins, len, k, n, v, sw⟩, hins⟩ : ∃ I, am_ins M F.1 = I := ⟨_, rfl⟩
          rw [hins] at hok e1 er hdec hI hidx
          dsimp only at hdec hidx e1 er hok
          have key : ∃ kd, ((ins = .invokevirtual idx ∧ kd = 0) ∨ (ins = .invokestatic idx ∧ kd = 1) ∨ (ins = .invokespecial idx ∧ kd = 2)) ∧ am_nx M F.1 3 = true ∧ am_cal M idx k n kd = true := by
            rcases hidx with rfl | ⟨rfl, hq⟩ | ⟨rfl, hq⟩
            · simp only [am_chkI, Bool.and_eq_true] at hI
              exact ⟨0, Or.inl ⟨rfl, rfl⟩, hI.1, hI.2⟩
            · simp only [am_chkI, Bool.and_eq_true] at hI
              rw [if_neg (by omega), if_neg hq] at hI
              exact ⟨1, Or.inr (Or.inl ⟨rfl, rfl⟩), hI.1, hI.2⟩
            · simp only [am_chkI, Bool.and_eq_true] at hI
              rw [if_neg hq] at hI
              exact ⟨2, Or.inr (Or.inr ⟨rfl, rfl⟩), hI.1, hI.2⟩
          obtain ⟨kd, hkd2, hnx, hcal⟩ := key
          obtain ⟨rfl, hn⟩ := am_nx_spec hins hnx
          have hk : k + 1 < am_nm := by
            simp only [am_cal, Bool.and_eq_true, decide_eq_true_eq] at hcal
            exact hcal.1
          have hok2 := hok
          simp only [am_callok, Bool.and_eq_true, decide_eq_true_eq] at hok2
          obtain ⟨-, -, hcat, hmx, htl⟩ := hok2
          refine am_size (fun hz => ?_)
          have hbs : base ≤ s.heap.size := C0.2.2.2.2.2.2.2.2.2.2.2.1
          have hHs : H.size = base + h.2.1 := Nat.le_antisymm (by omega) (am_rel_lb X.1 (Nat.le_trans hbs X.2.2.1.1))
          have hMet := am_met (b := b) (base := base) (L := L) (xs := xs) (aC := aC) (D := D) (l := l) (As := (F.2.2.take n).reverse) hk (hT k) (fun v hv => by
              have := List.all_eq_true.mp hcat v (List.mem_reverse.mp hv)
              simpa using this) (by rw [List.length_reverse, htl]; exact hmx) g1 (am_sound hT l f (hT k) e1)
          have hrun := am_vrun (p := p) (e := e) (below := below) (cells := cells) (slots := slots) hkd2 hdec hcal hok C0 X hHs hfr hlo (by omega) (by omega) hMet
          refine am_after hrun X.2.2.1 (fun H1 locs1 q1 q2 q3 => ?_)
          have hmap : (r1.map (am_cv b base)).toList ++ (F.2.2.drop n).map (am_cv b base) = (r1.toList ++ F.2.2.drop n).map (am_cv b base) := by cases r1 <;> simp
          rw [hmap, ← hn]
          refine am_sound hT l f hM er p e R s m args below meth c H1 locs1 _ _ Q LS C0 ⟨q1, q2, q3, X.2.2.2.1, X.2.2.2.2⟩ (by omega) (by omega) (by omega) hfr hlo (fun H2 locs2 LS2 j2 z1 z2 z3 z4 => ?_)
          have := kk H2 locs2 LS2 j2 z1 z2 z3 z4
          rw [show cells + (h1.2.1 - h.2.1) + (h'.2.1 - h1.2.1) = cells + (h'.2.1 - h.2.1) by omega, show slots + (h1.2.2 - h.2.2) + (h'.2.2 - h1.2.2) = slots + (h'.2.2 - h.2.2) by omega]
          exact this
        · cases er
      · cases er
    · split at er
      · rename_i r' hret
        cases er
        have hno : (am_ins M F.1).1 ≠ .nop := by
          intro q
          unfold am_ret at hret
          rw [q] at hret
          cases hret
        obtain ⟨hok, hst⟩ := am_ret_spec (am_chk_of hM hno) hret
        have := kk H locs LS F.1 X.1 X.2.1 X.2.2.1 hok
        rw [Nat.sub_self, Nat.sub_self] at this
        rw [hst]
        exact this
      · cases er
end AMX
