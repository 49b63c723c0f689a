/-! runs: a call is sound by the callee's run, so every run is -/
def am_isno (I : am_I) : Bool := decide (I.1 = .nop)
def am_chkM (M : am_M) : Bool := decide (am_pc M 0 = 0) && (List.range (16 * M.2.2.2.2.2.2.1.length)).all (fun j => am_isno (am_ins M j) || am_chk M j)
theorem am_nth_out {α : Type} {d : α} : ∀ (l : List α) (n : Nat), l.length ≤ n → am_nth d l n = d
  | [], _, _ => rfl
  | _ :: _, 0, h => by simp at h
  | _ :: l, n + 1, h => am_nth_out l n (by simpa using h)
theorem am_chk_of {M : am_M} {j : Nat} (h : am_chkM M = true) (hn : (am_ins M j).1 ≠ .nop) : am_chk M j = true := by
  unfold am_chkM at h
  rw [Bool.and_eq_true] at h
  rcases Nat.lt_or_ge j (16 * M.2.2.2.2.2.2.1.length) with q | q
  · have := List.all_eq_true.mp h.2 j (List.mem_range.mpr q)
    rw [Bool.or_eq_true] at this
    rcases this with z | z
    · exact absurd (of_decide_eq_true z) hn
    · exact z
  · exfalso
    apply hn
    unfold am_ins am_at2
    rw [am_nth_out M.2.2.2.2.2.2.1 (j / 16) (by omega)]
    rfl
theorem am_step_mono {I : am_I} {j : Nat} {ls st : List Value} {h h' : am_H} {F' : am_F} (es : am_step I j ls st h = some (F', h')) : h.2.1 ≤ h'.2.1 ∧ h.2.2 ≤ h'.2.2 := by
  obtain ⟨ins, len, a, bb, v, sw⟩ := I
  cases ins <;> (try simp only [am_step, am_store, am_i1, am_i2, am_l1, am_l2, am_r1, am_obj, am_ari, am_arz, am_arl, am_arq, am_oc] at es) <;> (repeat' split at es) <;> (try cases es) <;> first | exact ⟨Nat.le_refl _, Nat.le_refl _⟩ | exact ⟨Nat.le_succ _, Nat.le_add_right _ _⟩
theorem am_run_mono : ∀ (f : Nat) {M : am_M} {F : am_F} {h h' : am_H} {r : Option Value}, am_run f M F h = some (r, h') → h.2.1 ≤ h'.2.1 ∧ h.2.2 ≤ h'.2.2
  | 0, _, _, _, _, _, e => by cases e
  | f + 1, M, F, h, h', r, e => by
    unfold am_run at e
    split at e
    · split at e
      · rename_i F1 h1 e1
        have g1 := am_step_mono e1
        have g2 := am_run_mono f e
        omega
      · cases e
    · split at e
      · split at e
        · rename_i r1 h1 e1
          have g1 := am_run_mono f e1
          have g2 := am_run_mono f e
          omega
        · cases e
      · cases e
    · split at e
      · cases e
        exact ⟨Nat.le_refl _, Nat.le_refl _⟩
      · cases e
def am_retok (M : am_M) (j : Nat) (r : Option Value) : Prop :=
  (∃ v : Int32, r = some (.int v) ∧ decode M.2.1 (am_pc M j) = .ok (.ireturn, 1) ∧ ∃ ty, M.2.2.2.1 = some ty ∧ narrow ty (.int v) = .int v) ∨ (r = none ∧ decode M.2.1 (am_pc M j) = .ok (.return_, 1) ∧ M.2.2.2.1 = none)
theorem am_ret_spec {M : am_M} {j : Nat} {st : List Value} {r : Option Value} (hchk : am_chk M j = true) (e : am_ret (am_ins M j) M st = some r) : am_retok M j r ∧ st = r.toList := by
  unfold am_chk at hchk
  rw [Bool.and_eq_true, decide_eq_true_eq] at hchk
  obtain ⟨hdec, hI⟩ := hchk
  obtain ⟨⟨ins, len, a, bb, v, sw⟩, hins⟩ : ∃ I, am_ins M j = I := ⟨_, rfl⟩
  rw [hins] at e hdec hI
  dsimp only at hdec
  unfold am_ret at e
  split at e
  · rename_i h1
    dsimp only at h1
    subst h1
    obtain rfl : len = 1 := of_decide_eq_true (show decide (len = 1) = true from hI)
    split at e
    · rename_i x
      split at e
      · rename_i hret
        split at e
        · rename_i hv
          cases e
          refine ⟨Or.inl ⟨x, rfl, hdec, .boolean, hret, ?_⟩, rfl⟩
          rcases hv with rfl | rfl <;> rfl
        · cases e
      · rename_i hret
        cases e
        exact ⟨Or.inl ⟨x, rfl, hdec, .int, hret, rfl⟩, rfl⟩
      · cases e
    · cases e
  · rename_i h1
    dsimp only at h1
    subst h1
    obtain rfl : len = 1 := of_decide_eq_true (show decide (len = 1) = true from hI)
    split at e
    · split at e
      · rename_i hret
        cases e
        exact ⟨Or.inr ⟨rfl, hdec, hret⟩, rfl⟩
      · cases e
    · cases e
  · cases e
/-! the entry of a method -/
theorem am_sl_len : ∀ (vs : List Value), (∀ v ∈ vs, v.category = 1) → (lg_sl vs).length = vs.length
  | [], _ => rfl
  | v :: vs, h => by
    have h1 := h v List.mem_cons_self
    have h2 := am_sl_len vs (fun w hw => h w (List.mem_cons_of_mem _ hw))
    unfold lg_sl at h2 ⊢
    simp [List.flatMap_cons, h1, h2]
theorem am_args_mem : ∀ (vs : List Value) (i k : Nat) (v : Value), (∀ v ∈ vs, v.category = 1) → vs[k]? = some v → (i + k, v) ∈ lv_args i vs
  | [], _, _, _, _, h => by simp at h
  | w :: vs, i, 0, v, hc, h => by
    simp at h
    subst h
    exact List.mem_cons_self
  | w :: vs, i, k + 1, v, hc, h => by
    have h1 := hc w List.mem_cons_self
    have h2 := am_args_mem vs (i + 1) k v (fun w hw => hc w (List.mem_cons_of_mem _ hw)) (by simpa using h)
    unfold lv_args
    rw [if_neg (by omega)]
    rw [show i + (k + 1) = i + 1 + k by omega]
    exact List.mem_cons_of_mem _ h2
theorem am_entry_lv {b base : Nat} {M : am_M} {As : List Value} (hc : ∀ v ∈ As, am_isL v = false) (hn : As.length ≤ M.2.2.1) : ∃ LS : Array Slot, (∀ m : MethodId, entryFrame m (As.map (am_cv b base)).toArray M.2.2.1 = F0 m 0 LS []) ∧ lv_has LS (am_entry M As).length (am_lp b base (am_entry M As)) ∧ (am_entry M As).length = M.2.2.1 := by
  have hcat : ∀ v ∈ As.map (am_cv b base), v.category = 1 := by
    intro v hv
    obtain ⟨w, hw, rfl⟩ := List.mem_map.mp hv
    rw [am_cv_cat]
    exact am_isL_cat (hc w hw)
  have hle : (lg_sl (As.map (am_cv b base))).length ≤ M.2.2.1 := by
    rw [am_sl_len _ hcat, List.length_map]
    exact hn
  have hlen : (am_entry M As).length = M.2.2.1 := by
    unfold am_entry
    rw [List.length_append, List.length_replicate]
    omega
  have hl := lv_entry (As.map (am_cv b base)) hle
  refine ⟨_, fun m => lg_entry_eq m _ _, ?_, hlen⟩
  rw [hlen]
  refine ⟨hl.1, hl.2.1, fun q hq => ?_⟩
  obtain ⟨h1, h2, h3⟩ := am_lp_mem.mp hq
  apply hl.2.2
  have hlt : q.1 < As.length := by
    rcases Nat.lt_or_ge q.1 As.length with g | g
    · exact g
    · exfalso
      apply h2
      unfold am_entry
      rw [List.getD_eq_getElem?_getD, List.getElem?_append_right g, List.getElem?_replicate]
      split <;> rfl
  have hg : (am_entry M As).getD q.1 .null = As[q.1] := by
    unfold am_entry
    rw [List.getD_eq_getElem?_getD, List.getElem?_append_left hlt, List.getElem?_eq_getElem hlt]
    rfl
  have := am_args_mem (As.map (am_cv b base)) 0 q.1 (am_cv b base As[q.1]) hcat (by rw [List.getElem?_map, List.getElem?_eq_getElem hlt]; rfl)
  rw [Nat.zero_add] at this
  rw [hg] at h3
  rw [← h3] at this
  exact this
theorem am_rel_lb {b base : Nat} {aC : FieldType → ClassId} {D : va_G} {h : am_H} {H : Heap} (hR : am_rel b base aC D h H) (hb : base ≤ H.size) : base + h.2.1 ≤ H.size := by
  rcases Nat.eq_zero_or_pos h.2.1 with q | q
  · omega
  · have hk : h.2.1 - 1 < h.2.1 := by omega
    have := (hR.1 _ _ (am_ws_at hk)).lt
    dsimp only at this
    omega
def am_Pc (b base : Nat) (aC : FieldType → ClassId) (D : va_G) (L : Nat) (xs : Nat → Int32) (As : List Value) (h : am_H) : Array Value → State → Prop := fun a U =>
  a = (As.map (am_cv b base)).toArray ∧ am_rel b base aC D h U.heap ∧ am_scr L xs h ∧ U.heap.size = base + h.2.1 ∧ va_K D am_cl (am_tys aC) U ∧ va_X b L xs U U.heap ∧ b < base ∧ (∀ q ∈ am_mn, va_Nw (am_nww q) U) ∧ va_AO "SpiteLine$Scene" U ∧ va_AO "SpiteLine$Image" U
def am_Qc (b base : Nat) (aC : FieldType → ClassId) (D : va_G) (L : Nat) (xs : Nat → Int32) (r : Option Value) (h' : am_H) : Array Value → State → Outcome → State → Prop := fun _ st o t =>
  o = .returned (r.map (am_cv b base)) ∧ am_rel b base aC D h' t.heap ∧ am_scr L xs h' ∧ st.heap.size ≤ t.heap.size ∧ ∀ q : Nat, q < st.heap.size → ¬ am_A base q → t.heap[q]? = st.heap[q]?
section AMR
variable {b base L : Nat} {xs : Nat → Int32} {aC : FieldType → ClassId} {D : va_G}
theorem am_Pc_blind {As : List Value} {h : am_H} : FrameBlind (am_Pc b base aC D L xs As h) := by
  intro a U g mk q
  obtain ⟨q1, q2, q3, q4, q5, q6, q7, q8, q9, q10⟩ := q
  exact ⟨q1, q2, q3, q4, va_K.moved (u := U) (U := U.calling g mk a) (Vm.Alike.refl U.vm) q5, va_X.moved (u := U) (U := U.calling g mk a) (Vm.Alike.refl U.vm) q6, q7, fun e he => va_Nw.same rfl rfl (q8 e he), va_AO.moved (u := U) (U := U.calling g mk a) (Vm.Alike.refl U.vm) q9, va_AO.moved (u := U) (U := U.calling g mk a) (Vm.Alike.refl U.vm) q10⟩
variable {p : Program} {l : Launch} {e : Env} {R : Room} {s : State} {m : MethodId} {args : Array Value} {below : List Frame} {meth : Method} {c : Code} {H : Heap} {locs : List Loc} {cells slots : Nat} {Q : State → Prop}
theorem am_Pc_at {M : am_M} {h : am_H} {As : List Value} (C0 : am_ctx b base aC D L xs p s m args meth c M) (hR : am_rel b base aC D h H) (hS0 : am_scr L xs h) (hS : va_S (am_A base) s.heap H locs) (hz : H.size = base + h.2.1) (U : State) (hU : U.heap = H) (hW : s.WarmedH U.vm) : am_Pc b base aC D L xs As h (As.map (am_cv b base)).toArray U := by
  obtain ⟨hx, hb, hml, hr, hown, hts, hlocks, hname, hK, hX, hbb, hbs, hnw, haS, haI⟩ := C0
  refine ⟨rfl, by rw [hU]; exact hR, hS0, by rw [hU]; exact hz, va_K.moved hW.alike hK, ?_, hbb, fun q hq => va_Nw.warmM hW (hnw q hq), va_AO.moved hW.alike haS, va_AO.moved hW.alike haI⟩
  rw [hU]
  exact (va_X.moved hW.alike hX).kept (hS.2.1 b (Nat.lt_of_lt_of_le hbb hbs) (Nat.not_le.mpr hbb))
theorem am_after {r : Option Value} {h1 : am_H} {mc ms pc : Nat} {LS : Array Slot} {st0 rest : List Value} {a : Array Value} (hr : va_Run p l e R s m args below meth c H locs cells slots mc ms (F0 m pc LS st0) rest (am_Qc b base aC D L xs r h1 a) (am_A base)) (hS : va_S (am_A base) s.heap H locs)
    (kk : ∀ (H1 : Heap) (locs1 : List Loc), am_rel b base aC D h1 H1 → am_scr L xs h1 → va_S (am_A base) s.heap H1 locs1 → W p l e R s m args below meth c H1 locs1 (cells + mc) (slots + ms) Q (F0 m (pc + 3) LS ((r.map (am_cv b base)).toList ++ rest))) : W p l e R s m args below meth c H locs cells slots Q (F0 m pc LS st0) := by
  intro T hT X
  obtain ⟨v, st₀, t, T', L', h0, X', hL, e1, e2, ⟨hv, hrel, hscr, hz, hk⟩, stp⟩ := hr T hT X
  cases hv
  obtain ⟨t2, a1, b1⟩ := kk T'.heap (locs ++ L') (by rw [e1]; exact hrel) hscr ⟨by rw [e1]; rw [h0] at hz; exact Nat.le_trans hS.1 hz, fun q g1 g2 => by
      rw [e1, hk q (by rw [h0]; exact Nat.lt_of_lt_of_le g1 hS.1) g2, h0]
      exact hS.2.1 q g1 g2, fun q hq => by
      rcases List.mem_append.mp hq with g | g
      · exact hS.2.2 q g
      · exact hL q g⟩ T' rfl X'
  exact ⟨t2, stp t2 a1, b1⟩
/-- the callee's words hold wherever the tables' do -/
theorem am_pay {K : am_M} (hts : ∀ w ∈ am_tw, w.before args s = true) (hcw : Jvm.Cond.code K.1 K.2.1 K.2.2.1 K.2.2.2.1 ∈ am_tw) : ∀ w ∈ (Jvm.Cond.code K.1 K.2.1 K.2.2.1 K.2.2.2.1 :: am_tw), ∀ (a' : Array Value) (U : State), s.WarmedH U.vm → w.before a' U = true := by
  intro w hw a' U hW
  have hm : w ∈ am_tw := by
    rcases List.mem_cons.mp hw with g | g
    · rw [g]; exact hcw
    · exact g
  exact word_at hW (good_of_word (List.mem_filter.mp hm).2) (hts w hm)
/-! a call, by the callee's contract -/
set_option maxHeartbeats 1000000 in
theorem am_vrunV {M K : am_M} {j n idx b0 mc ms : Nat} {tl rest st ls : List Value} {h h1 : am_H} {r1 : Option Value} {LS : Array Slot} (hdec : decode M.2.1 (am_pc M j) = .ok (.invokevirtual idx, 3)) (hlink : (Jvm.Cond.methodLink (am_own M.2.2.2.2.1) idx K.1).before args s = true ∨ (Jvm.Cond.methodLinkNest (am_own M.2.2.2.2.1) idx K.1 "SpiteLine").before args s = true)
    (hnd : K.2.2.2.2.2.1.1 + 1 ≤ M.2.2.2.2.2.1.1) (hnl : 19 + K.2.2.1 + K.2.2.2.2.2.1.2 ≤ M.2.2.2.2.2.1.2) (hcw : Jvm.Cond.code K.1 K.2.1 K.2.2.1 K.2.2.2.1 ∈ am_tw) (hini : (Jvm.Cond.initialized K.1.cls).before args s = true) (hmh : K.1.cls ≠ "java/lang/invoke/MethodHandle" ∧ K.1.cls ≠ "java/lang/invoke/VarHandle")
    (hpar : ∀ sig, parseMethodDescriptor K.1.desc = some sig → n = sig.parameters.length) (hsum : ((rest.map (am_cv b base)).map fun v => v.category).sum ≤ 8) (C0 : am_ctx b base aC D L xs p s m args meth c M) (X : am_st b base aC D L xs M.2.2.1 s h H locs ls LS) (hz : H.size = base + h.2.1) (hfr : M.2.2.2.2.2.1.1 ≤ R.frames) (hlo : M.2.2.2.2.2.1.2 ≤ R.locals) (hc1 : cells + mc ≤ R.cells) (hc2 : slots + ms ≤ R.slots) (hn2 : tl.length = n) (hst : st = tl.reverse ++ .ref b0 :: rest) (hrc : ∃ cell : Cell, H[am_ad b base b0]? = some cell ∧ cell.vm.isStatics = false ∧ s.vm.findClass K.1.cls = some cell.cls) (hin : (Jvm.Cond.instanceMethod K.1).before args s = true) (hse : (Jvm.Cond.selects K.1.cls K.1 K.1).before args s = true)
    (hM : Met l K.1 (Jvm.Cond.code K.1 K.2.1 K.2.2.1 K.2.2.2.1 :: am_tw) ({ frames := K.2.2.2.2.2.1.1, cells := mc, slots := ms, locals := K.2.2.2.2.2.1.2 }) (am_Pc b base aC D L xs (.ref b0 :: tl) h) (am_Qc b base aC D L xs r1 h1) mc ms (am_A base)) :
    va_Run p l e R s m args below meth c H locs cells slots mc ms (F0 m (am_pc M j) LS (st.map (am_cv b base))) (rest.map (am_cv b base)) (am_Qc b base aC D L xs r1 h1 ((.ref b0 :: tl).map (am_cv b base)).toArray) (am_A base) := by
  obtain ⟨hx, hb, hml, hr, hown, hts, hlocks, hname, hK, hX, hbb, hbs, hnw, haS, haI⟩ := id C0
  obtain ⟨hR, hS0, hS, hlv, hlen⟩ := X
  have hsize : LS.size = M.2.2.1 := by rw [hlv.1, hlen]
  have hpre : ∀ U : State, U.heap = H → s.WarmedH U.vm → am_Pc b base aC D L xs (.ref b0 :: tl) h ((.ref b0 :: tl).map (am_cv b base)).toArray U := fun U hU hW => am_Pc_at C0 hR hS0 hS hz U hU hW
  have S : CallFix p m c M.2.1 M.2.2.1 s args am_tw (am_own M.2.2.2.2.1) := ⟨hx, hb, hml, hown, hts⟩
  have hpay := am_pay (K := K) hts hcw
  have hcb := hts _ hcw
  have r1' : K.2.2.2.2.2.1.1 + 1 ≤ R.frames := by omega
  have r2' : 8 + (K.2.2.1 + 11) + K.2.2.2.2.2.1.2 ≤ R.locals := by omega
  have hstk : (F0 m (am_pc M j) LS (st.map (am_cv b base))).stack = (tl.map (am_cv b base)).reverse ++ .ref (am_ad b base b0) :: rest.map (am_cv b base) := by
    show st.map (am_cv b base) = _
    rw [hst]
    simp [am_cv]
  have hn3 : (tl.map (am_cv b base)).length = n := by rw [List.length_map]; exact hn2
  rcases hlink with hl | hl
  · exact va_runV (C := K.1.cls) (n := n) (bytes := K.2.1) (maxL := K.2.2.1) (ret := K.2.2.2.1) S hM ⟨⟨rfl, rfl, r1', r2', hpay, List.mem_cons_self, hcb, hini, hmh, hpar, hl⟩, hin, hse⟩ ⟨am_Pc_blind, hrc, hpre⟩ rfl hn3 hsize hstk (lv_room hsum) hdec ⟨hc1, hc2⟩
  · exact va_runVN (C := K.1.cls) (host := "SpiteLine") (n := n) (bytes := K.2.1) (maxL := K.2.2.1) (ret := K.2.2.2.1) S hM ⟨⟨⟨rfl, rfl, r1', r2', hpay, List.mem_cons_self⟩, hcb, hini, hmh, hpar, hl⟩, hin, hse⟩ ⟨am_Pc_blind, hrc, hpre⟩ rfl hn3 hsize hstk (lv_room hsum) hdec ⟨hc1, hc2⟩
set_option maxHeartbeats 1000000 in
theorem am_vrunS {M K : am_M} {j n idx b0 mc ms : Nat} {tl rest st ls : List Value} {h h1 : am_H} {r1 : Option Value} {LS : Array Slot} (hdec : decode M.2.1 (am_pc M j) = .ok (.invokestatic idx, 3)) (hlink : (Jvm.Cond.methodLink (am_own M.2.2.2.2.1) idx K.1).before args s = true ∨ (Jvm.Cond.methodLinkNest (am_own M.2.2.2.2.1) idx K.1 "SpiteLine").before args s = true)
    (hnd : K.2.2.2.2.2.1.1 + 1 ≤ M.2.2.2.2.2.1.1) (hnl : 19 + K.2.2.1 + K.2.2.2.2.2.1.2 ≤ M.2.2.2.2.2.1.2) (hcw : Jvm.Cond.code K.1 K.2.1 K.2.2.1 K.2.2.2.1 ∈ am_tw) (hini : (Jvm.Cond.initialized K.1.cls).before args s = true) (hmh : K.1.cls ≠ "java/lang/invoke/MethodHandle" ∧ K.1.cls ≠ "java/lang/invoke/VarHandle")
    (hpar : ∀ sig, parseMethodDescriptor K.1.desc = some sig → n = sig.parameters.length) (hsum : ((rest.map (am_cv b base)).map fun v => v.category).sum ≤ 8) (C0 : am_ctx b base aC D L xs p s m args meth c M) (X : am_st b base aC D L xs M.2.2.1 s h H locs ls LS) (hz : H.size = base + h.2.1) (hfr : M.2.2.2.2.2.1.1 ≤ R.frames) (hlo : M.2.2.2.2.2.1.2 ≤ R.locals) (hc1 : cells + mc ≤ R.cells) (hc2 : slots + ms ≤ R.slots) (hn2 : tl.length = n) (hst : st = tl.reverse ++ rest) (hsm : (Jvm.Cond.static K.1).before args s = true)
    (hM : Met l K.1 (Jvm.Cond.code K.1 K.2.1 K.2.2.1 K.2.2.2.1 :: am_tw) ({ frames := K.2.2.2.2.2.1.1, cells := mc, slots := ms, locals := K.2.2.2.2.2.1.2 }) (am_Pc b base aC D L xs tl h) (am_Qc b base aC D L xs r1 h1) mc ms (am_A base)) :
    va_Run p l e R s m args below meth c H locs cells slots mc ms (F0 m (am_pc M j) LS (st.map (am_cv b base))) (rest.map (am_cv b base)) (am_Qc b base aC D L xs r1 h1 (tl.map (am_cv b base)).toArray) (am_A base) := by
  obtain ⟨hx, hb, hml, hr, hown, hts, hlocks, hname, hK, hX, hbb, hbs, hnw, haS, haI⟩ := id C0
  obtain ⟨hR, hS0, hS, hlv, hlen⟩ := X
  have hsize : LS.size = M.2.2.1 := by rw [hlv.1, hlen]
  have hpre : ∀ U : State, U.heap = H → s.WarmedH U.vm → am_Pc b base aC D L xs tl h (tl.map (am_cv b base)).toArray U := fun U hU hW => am_Pc_at C0 hR hS0 hS hz U hU hW
  have S : CallFix p m c M.2.1 M.2.2.1 s args am_tw (am_own M.2.2.2.2.1) := ⟨hx, hb, hml, hown, hts⟩
  have hpay := am_pay (K := K) hts hcw
  have hcb := hts _ hcw
  have r1' : K.2.2.2.2.2.1.1 + 1 ≤ R.frames := by omega
  have r2' : 8 + (K.2.2.1 + 11) + K.2.2.2.2.2.1.2 ≤ R.locals := by omega
  have hstk : (F0 m (am_pc M j) LS (st.map (am_cv b base))).stack = (tl.map (am_cv b base)).reverse ++ rest.map (am_cv b base) := by
    show st.map (am_cv b base) = _
    rw [hst]
    simp
  have hn3 : (tl.map (am_cv b base)).length = n := by rw [List.length_map]; exact hn2
  rcases hlink with hl | hl
  · exact va_runS (n := n) (bytes := K.2.1) (maxL := K.2.2.1) (ret := K.2.2.2.1) S hM ⟨⟨rfl, rfl, r1', r2', hpay, List.mem_cons_self, hcb, hini, hmh, hpar, hl⟩, hsm⟩ ⟨am_Pc_blind, hpre⟩ rfl hn3 hsize hstk (lv_room hsum) hdec ⟨hc1, hc2⟩
  · exact va_runSN (host := "SpiteLine") (n := n) (bytes := K.2.1) (maxL := K.2.2.1) (ret := K.2.2.2.1) S hM ⟨⟨⟨rfl, rfl, r1', r2', hpay, List.mem_cons_self⟩, hcb, hini, hmh, hpar, hl⟩, hsm, trivial⟩ ⟨am_Pc_blind, hpre⟩ rfl hn3 hsize hstk (lv_room hsum) hdec ⟨hc1, hc2⟩
set_option maxHeartbeats 1000000 in
theorem am_vrunI {M K : am_M} {j n idx b0 mc ms : Nat} {tl rest st ls : List Value} {h h1 : am_H} {r1 : Option Value} {LS : Array Slot} (hdec : decode M.2.1 (am_pc M j) = .ok (.invokespecial idx, 3)) (hlink : (Jvm.Cond.methodLink (am_own M.2.2.2.2.1) idx K.1).before args s = true ∨ (Jvm.Cond.methodLinkNest (am_own M.2.2.2.2.1) idx K.1 "SpiteLine").before args s = true)
    (hnd : K.2.2.2.2.2.1.1 + 1 ≤ M.2.2.2.2.2.1.1) (hnl : 19 + K.2.2.1 + K.2.2.2.2.2.1.2 ≤ M.2.2.2.2.2.1.2) (hcw : Jvm.Cond.code K.1 K.2.1 K.2.2.1 K.2.2.2.1 ∈ am_tw) (hini : (Jvm.Cond.initialized K.1.cls).before args s = true) (hmh : K.1.cls ≠ "java/lang/invoke/MethodHandle" ∧ K.1.cls ≠ "java/lang/invoke/VarHandle")
    (hpar : ∀ sig, parseMethodDescriptor K.1.desc = some sig → n = sig.parameters.length) (hsum : ((rest.map (am_cv b base)).map fun v => v.category).sum ≤ 8) (C0 : am_ctx b base aC D L xs p s m args meth c M) (X : am_st b base aC D L xs M.2.2.1 s h H locs ls LS) (hz : H.size = base + h.2.1) (hfr : M.2.2.2.2.2.1.1 ≤ R.frames) (hlo : M.2.2.2.2.2.1.2 ≤ R.locals) (hc1 : cells + mc ≤ R.cells) (hc2 : slots + ms ≤ R.slots) (hn2 : tl.length = n) (hst : st = tl.reverse ++ .ref b0 :: rest) (hnm : K.1.name = "<init>") (hrt : K.2.2.2.1 = none) (hin : (Jvm.Cond.instanceMethod K.1).before args s = true)
    (hM : Met l K.1 (Jvm.Cond.code K.1 K.2.1 K.2.2.1 K.2.2.2.1 :: am_tw) ({ frames := K.2.2.2.2.2.1.1, cells := mc, slots := ms, locals := K.2.2.2.2.2.1.2 }) (am_Pc b base aC D L xs (.ref b0 :: tl) h) (am_Qc b base aC D L xs r1 h1) mc ms (am_A base)) :
    va_Run p l e R s m args below meth c H locs cells slots mc ms (F0 m (am_pc M j) LS (st.map (am_cv b base))) (rest.map (am_cv b base)) (am_Qc b base aC D L xs r1 h1 ((.ref b0 :: tl).map (am_cv b base)).toArray) (am_A base) := by
  obtain ⟨hx, hb, hml, hr, hown, hts, hlocks, hname, hK, hX, hbb, hbs, hnw, haS, haI⟩ := id C0
  obtain ⟨hR, hS0, hS, hlv, hlen⟩ := X
  have hsize : LS.size = M.2.2.1 := by rw [hlv.1, hlen]
  have hpre : ∀ U : State, U.heap = H → s.WarmedH U.vm → am_Pc b base aC D L xs (.ref b0 :: tl) h ((.ref b0 :: tl).map (am_cv b base)).toArray U := fun U hU hW => am_Pc_at C0 hR hS0 hS hz U hU hW
  have S : CallFix p m c M.2.1 M.2.2.1 s args am_tw (am_own M.2.2.2.2.1) := ⟨hx, hb, hml, hown, hts⟩
  have hpay := am_pay (K := K) hts hcw
  have hcb := hts _ hcw
  have r1' : K.2.2.2.2.2.1.1 + 1 ≤ R.frames := by omega
  have r2' : 8 + (K.2.2.1 + 11) + K.2.2.2.2.2.1.2 ≤ R.locals := by omega
  have hstk : (F0 m (am_pc M j) LS (st.map (am_cv b base))).stack = (tl.map (am_cv b base)).reverse ++ .ref (am_ad b base b0) :: rest.map (am_cv b base) := by
    show st.map (am_cv b base) = _
    rw [hst]
    simp [am_cv]
  have hn3 : (tl.map (am_cv b base)).length = n := by rw [List.length_map]; exact hn2
  rw [hrt] at hM hpay hcb
  rcases hlink with hl | hl
  · exact va_runI (n := n) (bytes := K.2.1) (maxL := K.2.2.1) S hM ⟨⟨rfl, rfl, r1', r2', hpay, List.mem_cons_self, hcb, hini, hmh, hpar, hl⟩, hnm, hin⟩ ⟨am_Pc_blind, hpre⟩ rfl hn3 hsize hstk (lv_room hsum) hdec ⟨hc1, hc2⟩
  · exact va_runIN (host := "SpiteLine") (n := n) (bytes := K.2.1) (maxL := K.2.2.1) S hM ⟨⟨⟨rfl, rfl, r1', r2', hpay, List.mem_cons_self⟩, hcb, hini, hmh, hpar, hl⟩, hnm, hin⟩ ⟨am_Pc_blind, hpre⟩ rfl hn3 hsize hstk (lv_room hsum) hdec ⟨hc1, hc2⟩
set_option maxHeartbeats 1000000 in
theorem am_vrun {M : am_M} {j k n idx kd : Nat} {ins : Instr} {len : Nat} {vv : Value} {sw : List (Int32 × Nat)} {st ls : List Value} {h h1 : am_H} {r1 : Option Value} {LS : Array Slot} {mc ms : Nat}
    (hkd : (ins = .invokevirtual idx ∧ kd = 0) ∨ (ins = .invokestatic idx ∧ kd = 1) ∨ (ins = .invokespecial idx ∧ kd = 2)) (hdec : decode M.2.1 (am_pc M j) = .ok (ins, 3)) (hcal : am_cal M idx k n kd = true) (hok : am_callok (ins, len, k, n, vv, sw) (am_tab k) st h = true)
    (C0 : am_ctx b base aC D L xs p s m args meth c M) (X : am_st b base aC D L xs M.2.2.1 s h H locs ls LS) (hz : H.size = base + h.2.1) (hfr : M.2.2.2.2.2.1.1 ≤ R.frames) (hlo : M.2.2.2.2.2.1.2 ≤ R.locals) (hc1 : cells + mc ≤ R.cells) (hc2 : slots + ms ≤ R.slots)
    (hM : Met l (am_tab k).1 (Jvm.Cond.code (am_tab k).1 (am_tab k).2.1 (am_tab k).2.2.1 (am_tab k).2.2.2.1 :: am_tw) ({ frames := (am_tab k).2.2.2.2.2.1.1, cells := mc, slots := ms, locals := (am_tab k).2.2.2.2.2.1.2 }) (am_Pc b base aC D L xs (st.take n).reverse h) (am_Qc b base aC D L xs r1 h1) mc ms (am_A base)) :
    va_Run p l e R s m args below meth c H locs cells slots mc ms (F0 m (am_pc M j) LS (st.map (am_cv b base))) ((st.drop n).map (am_cv b base)) (am_Qc b base aC D L xs r1 h1 ((st.take n).reverse.map (am_cv b base)).toArray) (am_A base) := by
  obtain ⟨hx, hb, hml, hr, hown, hts, hlocks, hname, hK, hX, hbb, hbs, hnw, haS, haI⟩ := id C0
  obtain ⟨hR, hS0, hS, hlv, hlen⟩ := id X
  simp only [am_cal, Bool.and_eq_true, Bool.or_eq_true, decide_eq_true_eq] at hcal
  obtain ⟨hk, hlink, ⟨hnd, hnl⟩, ⟨hpar, hpos⟩, hkk⟩ := hcal
  simp only [am_callok, Bool.and_eq_true, decide_eq_true_eq] at hok
  obtain ⟨hrcv, hsum, hcat, hmx, htl⟩ := hok
  have hkr : k ∈ List.range 150 := List.mem_range.mpr (by have : am_nm = 151 := rfl; omega)
  obtain ⟨hcls, hnl2, hpl, hmh1, hmh2⟩ := w_cls k hkr
  have hcw : Jvm.Cond.code (am_tab k).1 (am_tab k).2.1 (am_tab k).2.2.1 (am_tab k).2.2.2.1 ∈ am_tw := by
    rcases w_code k with q | q
    · exfalso
      apply hnl2
      rw [q]
      rfl
    · exact q
  have hini := hts _ (w_ini k hkr)
  have hlw : (Jvm.Cond.methodLink (am_own M.2.2.2.2.1) idx (am_tab k).1).before args s = true ∨ (Jvm.Cond.methodLinkNest (am_own M.2.2.2.2.1) idx (am_tab k).1 "SpiteLine").before args s = true := by
    rcases hlink with hl | hl
    · exact Or.inl (hts _ (w_ml (M.2.2.2.2.1, idx, k) hl))
    · exact Or.inr (va_Nw.use (w := Jvm.Cond.methodLinkNest (am_own M.2.2.2.2.1) idx (am_tab k).1 "SpiteLine") rfl (hnw (M.2.2.2.2.1, idx, k) hl))
  have hW8 : (((st.drop n).map (am_cv b base)).map fun v => v.category).sum ≤ 8 := by
    rw [am_cv_sum]
    exact hsum
  have hst : st = ((st.take n).reverse).reverse ++ st.drop n := by
    rw [List.reverse_reverse, List.take_append_drop]
  have hAl : (st.take n).reverse.length = n := by rw [List.length_reverse]; exact htl
  have hsg : ∀ (q : Nat), (parseMethodDescriptor (am_tab k).1.desc).map (fun d => d.parameters.length) = some q → ∀ sig, parseMethodDescriptor (am_tab k).1.desc = some sig → q = sig.parameters.length := by
    intro q hq sig h2
    rw [h2] at hq
    exact (Option.some.inj hq).symm
  rcases hkd with ⟨rfl, rfl⟩ | ⟨rfl, rfl⟩ | ⟨rfl, rfl⟩
  · simp only [Nat.zero_ne_one, if_false, show ¬ (0 : Nat) = 2 from by omega, decide_eq_true_eq] at hkk hpar
    obtain ⟨hkin, hk11⟩ := w_lse k hkk
    have hin := hts _ (w_im k hkin)
    have hse := hts _ (w_sel k hkk)
    unfold am_rcv at hrcv
    dsimp only at hrcv
    generalize (st.take n).reverse = As at *
    split at hrcv
    · rename_i b0 tl
      split at hrcv
      · rename_i ci fs hcell
        have hci : ci = (am_tab k).2.2.2.2.1 := by simpa using hrcv
        have hrc : ∃ cell : Cell, H[am_ad b base b0]? = some cell ∧ cell.vm.isStatics = false ∧ s.vm.findClass (am_tab k).1.cls = some cell.cls := by
          obtain ⟨k0, rfl, hk0⟩ := am_place_obj hR hS0 hcell (by omega)
          have hat : (am_ws b base aC h)[k0]? = some (am_ad b base (k0 + 1), .inr (ci, fs.map (am_cv b base))) := by
            rw [am_ws_at hk0, hcell]
            rfl
          have hrc := va_recv hK hR.1 (am_cls (ci := ci) (by omega)) hat
          rw [hcls, ← hci]
          exact hrc
        generalize am_tab k = K at *
        exact am_vrunV hdec hlw hnd hnl hcw hini ⟨hmh1, hmh2⟩ (hsg _ hpar) hW8 C0 X hz hfr hlo hc1 hc2 (by simp only [List.length_cons] at hAl; omega) (by rw [List.reverse_cons, List.append_assoc] at hst; exact hst) hrc hin hse hM
      · cases hrcv
    · cases hrcv
  · simp only [if_true, show ¬ (1 : Nat) = 2 from by omega, if_false, decide_eq_true_eq] at hkk hpar
    have hsm := hts _ (w_sm k hkk)
    generalize (st.take n).reverse = As at *
    generalize am_tab k = K at *
    exact am_vrunS (b0 := 0) hdec hlw hnd hnl hcw hini ⟨hmh1, hmh2⟩ (hsg _ hpar) hW8 C0 X hz hfr hlo hc1 hc2 hAl hst hsm hM
  · simp only [if_true, show ¬ (2 : Nat) = 1 from by omega, if_false, decide_eq_true_eq] at hkk hpar
    obtain ⟨hnm, hrt, hkin⟩ := hkk
    have hin := hts _ (w_im k hkin)
    unfold am_rcv at hrcv
    dsimp only at hrcv
    generalize (st.take n).reverse = As at *
    split at hrcv
    · rename_i b0 tl
      generalize am_tab k = K at *
      exact am_vrunI hdec hlw hnd hnl hcw hini ⟨hmh1, hmh2⟩ (hsg _ hpar) hW8 C0 X hz hfr hlo hc1 hc2 (by simp only [List.length_cons] at hAl; omega) (by rw [List.reverse_cons, List.append_assoc] at hst; exact hst) hnm hrt hin hM
    · cases hrcv
end AMR
